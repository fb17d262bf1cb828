-- uses: 501.auto 502.abs
/-! lines of a poem, by the class and by the reference -/
theorem rng (p : Int32) (n : Nat) (hn : n < 2147483648) : (∃ r : Nat, r < n ∧ p = nI r) ∨ ¬ (0 ≤ p.toInt ∧ p.toInt < n) := by
  by_cases h : 0 ≤ p.toInt ∧ p.toInt < n
  · obtain ⟨r, h1, h2, h3⟩ := zn_nat h.1
    exact Or.inl ⟨r, by omega, h2⟩
  · exact Or.inr h
theorem c_hw_t {w n : Nat} (h : w < n) (hn : n < 2147483648) : mX2_hasWord (nI n) (nI w) = some 1 := by
  unfold mX2_hasWord mX2_hasWord_b0
  simp (disch := omega) only [↓reduceIte, Nat.reduceAdd, Nat.reduceMul, Nat.reduceSub, Nat.zero_add, zn_0, zn_1, zn_2, zn_3, zn_4, zn_5, zn_6, zn_7, zn_8, zn_9, zn_10, zn_16, zn_20, zn_23, zn_24, zn_25, zn_26, zn_40, zn_207, zn_4761, zn_99, zn_130, zn_lt_t, zn_lt_f, zn_le_t, zn_le_f, zn_eq_t, zn_eq_f, zn_ix, zn_cl, zq_le_f, zq_le_t, zq_lt_f, zq_lt_t, zn_add, zn_mul, zn_sub, or_false, false_or, or_self, true_or, or_true, and_true, true_and, and_false, false_and, not_true_eq_false, not_false_eq_true, if_true, if_false, os1, os2, os3, os4, os5, os6, os7, os8, os9, os10, os11, os12, os13, os14, os15, os16, os17, os18, os19, os20, os21, os22, os23, os24]
theorem c_hw_f {p : Int32} {n : Nat} (h : ¬ (0 ≤ p.toInt ∧ p.toInt < n)) (hn : n < 2147483648) : mX2_hasWord (nI n) p = some 0 := by
  unfold mX2_hasWord mX2_hasWord_b0
  rcases zn_cases p with ⟨r, h1, rfl⟩ | ⟨h1, h2⟩
  · rw [nI_toInt (by omega)] at h
    simp (disch := omega) only [↓reduceIte, Nat.reduceAdd, Nat.reduceMul, Nat.reduceSub, Nat.zero_add, zn_0, zn_1, zn_2, zn_3, zn_4, zn_5, zn_6, zn_7, zn_8, zn_9, zn_10, zn_16, zn_20, zn_23, zn_24, zn_25, zn_26, zn_40, zn_207, zn_4761, zn_99, zn_130, zn_lt_t, zn_lt_f, zn_le_t, zn_le_f, zn_eq_t, zn_eq_f, zn_ix, zn_cl, zq_le_f, zq_le_t, zq_lt_f, zq_lt_t, zn_add, zn_mul, zn_sub, or_false, false_or, or_self, true_or, or_true, and_true, true_and, and_false, false_and, not_true_eq_false, not_false_eq_true, if_true, if_false, os1, os2, os3, os4, os5, os6, os7, os8, os9, os10, os11, os12, os13, os14, os15, os16, os17, os18, os19, os20, os21, os22, os23, os24]
  · rw [if_pos h1]
theorem c_hl_t {w n : Nat} (h : w < n) (hn : n < 2147483648) : mX2_hasLine (nI n) (nI w) = some 1 := c_hw_t h hn
theorem c_hl_f {p : Int32} {n : Nat} (h : ¬ (0 ≤ p.toInt ∧ p.toInt < n)) (hn : n < 2147483648) : mX2_hasLine (nI n) p = some 0 := c_hw_f h hn
theorem nI_pred_toInt {n : Nat} (hn : n < 2147483648) : (nI n - 1).toInt = (n : Int) - 1 := by
  rw [Int32.toInt_sub, nI_toInt hn]
  rw [show (1 : Int32).toInt = 1 from rfl, Int.bmod_def]
  omega
theorem in_less (p : Int32) {n : Nat} (hn : n < 2147483648) : mX7_in p.toInt64 (0 : Int64) ((nI n - 1).toInt64) = some (if 0 ≤ p.toInt ∧ p.toInt < n then 1 else 0) := by
  rw [in_i, Int32.toInt_toInt64, nI_pred_toInt hn, show (0 : Int64).toInt = 0 from rfl]
  by_cases h : 0 ≤ p.toInt ∧ p.toInt < n
  · rw [if_pos h, if_pos (by omega)]
  · rw [if_neg h, if_neg (by omega)]
theorem sum4 : ∀ (l : List Nat), l.length ≤ 4 → l.sum = l.getD 0 0 + l.getD 1 0 + l.getD 2 0 + l.getD 3 0
  | [], _ => rfl
  | [a], _ => by simp
  | [a, b], _ => by simp
  | [a, b, c], _ => by simp; omega
  | [a, b, c, d], _ => by simp; omega
  | a :: b :: c :: d :: e :: l, h => by simp at h
theorem aSz_out {A : AP} {l : Nat} (h : aL A ≤ l) : aSz A l = 0 := by
  unfold aSz
  unfold aL at h
  rw [List.getD_eq_getElem?_getD, List.getElem?_eq_none h]
  rfl
theorem aok_sz {L : List Nat} {ln : Nat → Int32} {lt : Nat → Nat → Int32} {A : AP} (h : AOK L ln lt A) : (∀ l, aSz A l ≤ 5) ∧ aW A = aSz A 0 + aSz A 1 + aSz A 2 + aSz A 3 ∧ aW A ≤ 20 ∧ aL A ≤ 4 := by
  obtain ⟨-, -, -, h4, h5, h6, -⟩ := h
  have a : ∀ l, aSz A l ≤ 5 := by
    intro l
    by_cases hl : l < aL A
    · exact (h5 l hl).2
    · rw [aSz_out (by omega)]; omega
  have b : aW A = aSz A 0 + aSz A 1 + aSz A 2 + aSz A 3 := by
    rw [h6]; exact sum4 _ h4
  have a0 := a 0
  have a1 := a 1
  have a2 := a 2
  have a3 := a 3
  exact ⟨a, b, by omega, h4⟩
/-- the first word of a line -/
def aFst (A : AP) : Nat → Nat
  | 0 => 0
  | l + 1 => aFst A l + aSz A l
def aLn (A : AP) (w : Nat) : Nat := if w < aSz A 0 then 0 else if w < aSz A 0 + aSz A 1 then 1 else if w < aSz A 0 + aSz A 1 + aSz A 2 then 2 else 3
theorem pr_sz {ln : Nat → Int32} {lt : Nat → Nat → Int32} {A : AP} {row : Nat → Int32} (h : PR ln lt A row) : row 3 = nI (aSz A 0) ∧ row 4 = nI (aSz A 1) ∧ row 5 = nI (aSz A 2) ∧ row 6 = nI (aSz A 3) :=
  ⟨h.2.2.2.1 0 (by omega), h.2.2.2.1 1 (by omega), h.2.2.2.1 2 (by omega), h.2.2.2.1 3 (by omega)⟩
theorem r_wordsOf {L : List Nat} {ln : Nat → Int32} {lt : Nat → Nat → Int32} {A : AP} {row : Nat → Int32} (h : PR ln lt A row) (ha : AOK L ln lt A) : mX7_wordsOf row = some (nI (aW A)) := by
  obtain ⟨h3, h4, h5, h6⟩ := pr_sz h
  obtain ⟨-, b, -⟩ := aok_sz ha
  unfold mX7_wordsOf mX7_wordsOf_b0
  simp (disch := omega) only [↓reduceIte, Nat.reduceAdd, Nat.reduceMul, Nat.reduceSub, Nat.zero_add, zn_0, zn_1, zn_2, zn_3, zn_4, zn_5, zn_6, zn_7, zn_8, zn_9, zn_10, zn_16, zn_20, zn_23, zn_24, zn_25, zn_26, zn_40, zn_207, zn_4761, zn_99, zn_130, zn_lt_t, zn_lt_f, zn_le_t, zn_le_f, zn_eq_t, zn_eq_f, zn_ix, zn_cl, zq_le_f, zq_le_t, zq_lt_f, zq_lt_t, zn_add, zn_mul, zn_sub, or_false, false_or, or_self, true_or, or_true, and_true, true_and, and_false, false_and, not_true_eq_false, not_false_eq_true, if_true, if_false, os1, os2, os3, os4, os5, os6, os7, os8, os9, os10, os11, os12, os13, os14, os15, os16, os17, os18, os19, os20, os21, os22, os23, os24, h3, h4, h5, h6, b]
theorem r_iw_t {L : List Nat} {ln : Nat → Int32} {lt : Nat → Nat → Int32} {A : AP} {row : Nat → Int32} (h : PR ln lt A row) (ha : AOK L ln lt A) {w : Nat} (hw : w < aW A) : mX7_isWord row (nI w) = some 1 := by
  obtain ⟨-, -, b, -⟩ := aok_sz ha
  unfold mX7_isWord mX7_isWord_b0
  rw [r_wordsOf h ha, os1, in_less _ (by omega), nI_toInt (by omega), if_pos (by omega)]
  rfl
theorem r_iw_f {L : List Nat} {ln : Nat → Int32} {lt : Nat → Nat → Int32} {A : AP} {row : Nat → Int32} (h : PR ln lt A row) (ha : AOK L ln lt A) {p : Int32} (hp : ¬ (0 ≤ p.toInt ∧ p.toInt < aW A)) : mX7_isWord row p = some 0 := by
  obtain ⟨-, -, b, -⟩ := aok_sz ha
  unfold mX7_isWord mX7_isWord_b0
  rw [r_wordsOf h ha, os1, in_less _ (by omega), if_neg hp]
  rfl
theorem r_il_t {L : List Nat} {ln : Nat → Int32} {lt : Nat → Nat → Int32} {A : AP} {row : Nat → Int32} (h : PR ln lt A row) (ha : AOK L ln lt A) {w : Nat} (hw : w < aL A) : mX7_isLine row (nI w) = some 1 := by
  obtain ⟨-, -, -, b⟩ := aok_sz ha
  unfold mX7_isLine mX7_isLine_b0
  rw [show row (0 : Int32).toNatClampNeg = nI (aL A) from h.1, in_less _ (by omega), nI_toInt (by omega), if_pos (by omega)]
  rfl
theorem r_il_f {L : List Nat} {ln : Nat → Int32} {lt : Nat → Nat → Int32} {A : AP} {row : Nat → Int32} (h : PR ln lt A row) (ha : AOK L ln lt A) {p : Int32} (hp : ¬ (0 ≤ p.toInt ∧ p.toInt < aL A)) : mX7_isLine row p = some 0 := by
  obtain ⟨-, -, -, b⟩ := aok_sz ha
  unfold mX7_isLine mX7_isLine_b0
  rw [show row (0 : Int32).toNatClampNeg = nI (aL A) from h.1, in_less _ (by omega), if_neg hp]
  rfl
theorem r_there {L : List Nat} {ln : Nat → Int32} {lt : Nat → Nat → Int32} {A : AP} {row : Nat → Int32} (h : PR ln lt A row) (ha : AOK L ln lt A) : mX7_isThere row = some (if aL A = 0 then 0 else 1) := by
  obtain ⟨-, -, -, b⟩ := aok_sz ha
  unfold mX7_isThere mX7_isThere_b0
  rw [show row (0 : Int32).toNatClampNeg = nI (aL A) from h.1]
  by_cases h0 : aL A = 0
  · simp (disch := omega) only [↓reduceIte, Nat.reduceAdd, Nat.reduceMul, Nat.reduceSub, Nat.zero_add, zn_0, zn_1, zn_2, zn_3, zn_4, zn_5, zn_6, zn_7, zn_8, zn_9, zn_10, zn_16, zn_20, zn_23, zn_24, zn_25, zn_26, zn_40, zn_207, zn_4761, zn_99, zn_130, zn_lt_t, zn_lt_f, zn_le_t, zn_le_f, zn_eq_t, zn_eq_f, zn_ix, zn_cl, zq_le_f, zq_le_t, zq_lt_f, zq_lt_t, zn_add, zn_mul, zn_sub, or_false, false_or, or_self, true_or, or_true, and_true, true_and, and_false, false_and, not_true_eq_false, not_false_eq_true, if_true, if_false, os1, os2, os3, os4, os5, os6, os7, os8, os9, os10, os11, os12, os13, os14, os15, os16, os17, os18, os19, os20, os21, os22, os23, os24, h0]
  · rw [if_neg h0]
    simp (disch := omega) only [↓reduceIte, Nat.reduceAdd, Nat.reduceMul, Nat.reduceSub, Nat.zero_add, zn_0, zn_1, zn_2, zn_3, zn_4, zn_5, zn_6, zn_7, zn_8, zn_9, zn_10, zn_16, zn_20, zn_23, zn_24, zn_25, zn_26, zn_40, zn_207, zn_4761, zn_99, zn_130, zn_lt_t, zn_lt_f, zn_le_t, zn_le_f, zn_eq_t, zn_eq_f, zn_ix, zn_cl, zq_le_f, zq_le_t, zq_lt_f, zq_lt_t, zn_add, zn_mul, zn_sub, or_false, false_or, or_self, true_or, or_true, and_true, true_and, and_false, false_and, not_true_eq_false, not_false_eq_true, if_true, if_false, os1, os2, os3, os4, os5, os6, os7, os8, os9, os10, os11, os12, os13, os14, os15, os16, os17, os18, os19, os20, os21, os22, os23, os24]
theorem lt5 {l : Nat} (h : l ≤ 4) : l = 0 ∨ l = 1 ∨ l = 2 ∨ l = 3 ∨ l = 4 := by omega
theorem r_firstOf {L : List Nat} {ln : Nat → Int32} {lt : Nat → Nat → Int32} {A : AP} {row : Nat → Int32} (h : PR ln lt A row) (ha : AOK L ln lt A) {l : Nat} (hl : l ≤ 4) : mX7_firstOf row (nI l) = some (nI (aFst A l)) := by
  obtain ⟨h3, h4, h5, h6⟩ := pr_sz h
  unfold mX7_firstOf mX7_firstOf_b0
  obtain ⟨N, hN⟩ := FU_e
  rw [hN]
  rcases lt5 hl with rfl | rfl | rfl | rfl | rfl <;> simp (disch := omega) only [↓reduceIte, Nat.reduceAdd, Nat.reduceMul, Nat.reduceSub, Nat.zero_add, zn_0, zn_1, zn_2, zn_3, zn_4, zn_5, zn_6, zn_7, zn_8, zn_9, zn_10, zn_16, zn_20, zn_23, zn_24, zn_25, zn_26, zn_40, zn_207, zn_4761, zn_99, zn_130, zn_lt_t, zn_lt_f, zn_le_t, zn_le_f, zn_eq_t, zn_eq_f, zn_ix, zn_cl, zq_le_f, zq_le_t, zq_lt_f, zq_lt_t, zn_add, zn_mul, zn_sub, or_false, false_or, or_self, true_or, or_true, and_true, true_and, and_false, false_and, not_true_eq_false, not_false_eq_true, if_true, if_false, os1, os2, os3, os4, os5, os6, os7, os8, os9, os10, os11, os12, os13, os14, os15, os16, os17, os18, os19, os20, os21, os22, os23, os24, mX7_firstOf_b4, h3, h4, h5, h6, aFst]
theorem r_lineOf {L : List Nat} {ln : Nat → Int32} {lt : Nat → Nat → Int32} {A : AP} {row : Nat → Int32} (h : PR ln lt A row) (ha : AOK L ln lt A) {w : Nat} (hw : w < aW A) : mX7_lineOf row (nI w) = some (nI (aLn A w)) := by
  obtain ⟨h3, h4, h5, h6⟩ := pr_sz h
  obtain ⟨a, b, c, -⟩ := aok_sz ha
  unfold mX7_lineOf mX7_lineOf_b0 aLn
  obtain ⟨N, hN⟩ := FU_e
  rw [hN]
  by_cases c1 : w < aSz A 0
  · rw [if_pos c1]
    simp (disch := omega) only [↓reduceIte, Nat.reduceAdd, Nat.reduceMul, Nat.reduceSub, Nat.zero_add, zn_0, zn_1, zn_2, zn_3, zn_4, zn_5, zn_6, zn_7, zn_8, zn_9, zn_10, zn_16, zn_20, zn_23, zn_24, zn_25, zn_26, zn_40, zn_207, zn_4761, zn_99, zn_130, zn_lt_t, zn_lt_f, zn_le_t, zn_le_f, zn_eq_t, zn_eq_f, zn_ix, zn_cl, zq_le_f, zq_le_t, zq_lt_f, zq_lt_t, zn_add, zn_mul, zn_sub, or_false, false_or, or_self, true_or, or_true, and_true, true_and, and_false, false_and, not_true_eq_false, not_false_eq_true, if_true, if_false, os1, os2, os3, os4, os5, os6, os7, os8, os9, os10, os11, os12, os13, os14, os15, os16, os17, os18, os19, os20, os21, os22, os23, os24, mX7_lineOf_b4, h3, h4, h5, h6]
  · by_cases c2 : w < aSz A 0 + aSz A 1
    · rw [if_neg c1, if_pos c2]
      simp (disch := omega) only [↓reduceIte, Nat.reduceAdd, Nat.reduceMul, Nat.reduceSub, Nat.zero_add, zn_0, zn_1, zn_2, zn_3, zn_4, zn_5, zn_6, zn_7, zn_8, zn_9, zn_10, zn_16, zn_20, zn_23, zn_24, zn_25, zn_26, zn_40, zn_207, zn_4761, zn_99, zn_130, zn_lt_t, zn_lt_f, zn_le_t, zn_le_f, zn_eq_t, zn_eq_f, zn_ix, zn_cl, zq_le_f, zq_le_t, zq_lt_f, zq_lt_t, zn_add, zn_mul, zn_sub, or_false, false_or, or_self, true_or, or_true, and_true, true_and, and_false, false_and, not_true_eq_false, not_false_eq_true, if_true, if_false, os1, os2, os3, os4, os5, os6, os7, os8, os9, os10, os11, os12, os13, os14, os15, os16, os17, os18, os19, os20, os21, os22, os23, os24, mX7_lineOf_b4, h3, h4, h5, h6]
    · by_cases c3 : w < aSz A 0 + aSz A 1 + aSz A 2
      · rw [if_neg c1, if_neg c2, if_pos c3]
        simp (disch := omega) only [↓reduceIte, Nat.reduceAdd, Nat.reduceMul, Nat.reduceSub, Nat.zero_add, zn_0, zn_1, zn_2, zn_3, zn_4, zn_5, zn_6, zn_7, zn_8, zn_9, zn_10, zn_16, zn_20, zn_23, zn_24, zn_25, zn_26, zn_40, zn_207, zn_4761, zn_99, zn_130, zn_lt_t, zn_lt_f, zn_le_t, zn_le_f, zn_eq_t, zn_eq_f, zn_ix, zn_cl, zq_le_f, zq_le_t, zq_lt_f, zq_lt_t, zn_add, zn_mul, zn_sub, or_false, false_or, or_self, true_or, or_true, and_true, true_and, and_false, false_and, not_true_eq_false, not_false_eq_true, if_true, if_false, os1, os2, os3, os4, os5, os6, os7, os8, os9, os10, os11, os12, os13, os14, os15, os16, os17, os18, os19, os20, os21, os22, os23, os24, mX7_lineOf_b4, h3, h4, h5, h6]
      · rw [if_neg c1, if_neg c2, if_neg c3]
        simp (disch := omega) only [↓reduceIte, Nat.reduceAdd, Nat.reduceMul, Nat.reduceSub, Nat.zero_add, zn_0, zn_1, zn_2, zn_3, zn_4, zn_5, zn_6, zn_7, zn_8, zn_9, zn_10, zn_16, zn_20, zn_23, zn_24, zn_25, zn_26, zn_40, zn_207, zn_4761, zn_99, zn_130, zn_lt_t, zn_lt_f, zn_le_t, zn_le_f, zn_eq_t, zn_eq_f, zn_ix, zn_cl, zq_le_f, zq_le_t, zq_lt_f, zq_lt_t, zn_add, zn_mul, zn_sub, or_false, false_or, or_self, true_or, or_true, and_true, true_and, and_false, false_and, not_true_eq_false, not_false_eq_true, if_true, if_false, os1, os2, os3, os4, os5, os6, os7, os8, os9, os10, os11, os12, os13, os14, os15, os16, os17, os18, os19, os20, os21, os22, os23, os24, mX7_lineOf_b4, h3, h4, h5, h6]
theorem pc_sz {L : List Nat} {A : AP} {foot feet lines words : Int32} {sizes kinds : Nat → Int32} {spelled : Nat → Nat} (h : PC L A foot feet lines words sizes kinds spelled) {l : Nat} (hl : l < aL A) : sizes l = nI (aSz A l) := h.2.2.2.2.1 l hl
theorem c_firstOf {A : AP} {sizes : Nat → Int32} (h : ∀ l, l < aL A → sizes l = nI (aSz A l)) {l : Nat} (hl : l ≤ aL A) (h4 : aL A ≤ 4) : mX2_firstOf sizes (nI l) = some (nI (aFst A l)) := by
  unfold mX2_firstOf mX2_firstOf_b0
  obtain ⟨N, hN⟩ := FU_e
  rw [hN]
  rcases lt5 (by omega : l ≤ 4) with rfl | rfl | rfl | rfl | rfl <;> simp (disch := omega) only [↓reduceIte, Nat.reduceAdd, Nat.reduceMul, Nat.reduceSub, Nat.zero_add, zn_0, zn_1, zn_2, zn_3, zn_4, zn_5, zn_6, zn_7, zn_8, zn_9, zn_10, zn_16, zn_20, zn_23, zn_24, zn_25, zn_26, zn_40, zn_207, zn_4761, zn_99, zn_130, zn_lt_t, zn_lt_f, zn_le_t, zn_le_f, zn_eq_t, zn_eq_f, zn_ix, zn_cl, zq_le_f, zq_le_t, zq_lt_f, zq_lt_t, zn_add, zn_mul, zn_sub, or_false, false_or, or_self, true_or, or_true, and_true, true_and, and_false, false_and, not_true_eq_false, not_false_eq_true, if_true, if_false, os1, os2, os3, os4, os5, os6, os7, os8, os9, os10, os11, os12, os13, os14, os15, os16, os17, os18, os19, os20, os21, os22, os23, os24, mX2_firstOf_b4, h, aFst]
theorem c_lastOf {A : AP} {sizes : Nat → Int32} (h : ∀ l, l < aL A → sizes l = nI (aSz A l)) {l : Nat} (hl : l < aL A) (h4 : aL A ≤ 4) (hs : 1 ≤ aSz A l) : mX2_lastOf sizes (nI l) = some (nI (aFst A (l + 1) - 1)) := by
  unfold mX2_lastOf mX2_lastOf_b0
  rw [c_firstOf h (by omega) h4]
  simp (disch := omega) only [↓reduceIte, Nat.reduceAdd, Nat.reduceMul, Nat.reduceSub, Nat.zero_add, zn_0, zn_1, zn_2, zn_3, zn_4, zn_5, zn_6, zn_7, zn_8, zn_9, zn_10, zn_16, zn_20, zn_23, zn_24, zn_25, zn_26, zn_40, zn_207, zn_4761, zn_99, zn_130, zn_lt_t, zn_lt_f, zn_le_t, zn_le_f, zn_eq_t, zn_eq_f, zn_ix, zn_cl, zq_le_f, zq_le_t, zq_lt_f, zq_lt_t, zn_add, zn_mul, zn_sub, or_false, false_or, or_self, true_or, or_true, and_true, true_and, and_false, false_and, not_true_eq_false, not_false_eq_true, if_true, if_false, os1, os2, os3, os4, os5, os6, os7, os8, os9, os10, os11, os12, os13, os14, os15, os16, os17, os18, os19, os20, os21, os22, os23, os24, h, aFst]
theorem c_lineOf {L : List Nat} {ln : Nat → Int32} {lt : Nat → Nat → Int32} {A : AP} (ha : AOK L ln lt A) {sizes : Nat → Int32} (h : ∀ l, l < aL A → sizes l = nI (aSz A l)) {w : Nat} (hw : w < aW A) : mX2_lineOf (nI (aL A)) sizes (nI w) = some (nI (aLn A w)) := by
  obtain ⟨a, b, c, d⟩ := aok_sz ha
  have a0 := a 0
  have a1 := a 1
  have a2 := a 2
  have a3 := a 3
  have o0 := fun q : aL A ≤ 0 => aSz_out q
  have o1 := fun q : aL A ≤ 1 => aSz_out q
  have o2 := fun q : aL A ≤ 2 => aSz_out q
  have o3 := fun q : aL A ≤ 3 => aSz_out q
  unfold mX2_lineOf mX2_lineOf_b0 aLn
  obtain ⟨N, hN⟩ := FU_e
  rw [hN]
  by_cases c1 : w < aSz A 0
  · rw [if_pos c1]
    have k0 : 0 < aL A := by apply Nat.lt_of_not_le; intro q; have := o0 q; omega
    simp (disch := omega) only [↓reduceIte, Nat.reduceAdd, Nat.reduceMul, Nat.reduceSub, Nat.zero_add, zn_0, zn_1, zn_2, zn_3, zn_4, zn_5, zn_6, zn_7, zn_8, zn_9, zn_10, zn_16, zn_20, zn_23, zn_24, zn_25, zn_26, zn_40, zn_207, zn_4761, zn_99, zn_130, zn_lt_t, zn_lt_f, zn_le_t, zn_le_f, zn_eq_t, zn_eq_f, zn_ix, zn_cl, zq_le_f, zq_le_t, zq_lt_f, zq_lt_t, zn_add, zn_mul, zn_sub, or_false, false_or, or_self, true_or, or_true, and_true, true_and, and_false, false_and, not_true_eq_false, not_false_eq_true, if_true, if_false, os1, os2, os3, os4, os5, os6, os7, os8, os9, os10, os11, os12, os13, os14, os15, os16, os17, os18, os19, os20, os21, os22, os23, os24, mX2_lineOf_b4, h]
  · by_cases c2 : w < aSz A 0 + aSz A 1
    · rw [if_neg c1, if_pos c2]
      have k0 : 1 < aL A := by apply Nat.lt_of_not_le; intro q; have := o1 q; omega
      simp (disch := omega) only [↓reduceIte, Nat.reduceAdd, Nat.reduceMul, Nat.reduceSub, Nat.zero_add, zn_0, zn_1, zn_2, zn_3, zn_4, zn_5, zn_6, zn_7, zn_8, zn_9, zn_10, zn_16, zn_20, zn_23, zn_24, zn_25, zn_26, zn_40, zn_207, zn_4761, zn_99, zn_130, zn_lt_t, zn_lt_f, zn_le_t, zn_le_f, zn_eq_t, zn_eq_f, zn_ix, zn_cl, zq_le_f, zq_le_t, zq_lt_f, zq_lt_t, zn_add, zn_mul, zn_sub, or_false, false_or, or_self, true_or, or_true, and_true, true_and, and_false, false_and, not_true_eq_false, not_false_eq_true, if_true, if_false, os1, os2, os3, os4, os5, os6, os7, os8, os9, os10, os11, os12, os13, os14, os15, os16, os17, os18, os19, os20, os21, os22, os23, os24, mX2_lineOf_b4, h]
    · by_cases c3 : w < aSz A 0 + aSz A 1 + aSz A 2
      · rw [if_neg c1, if_neg c2, if_pos c3]
        have k0 : 2 < aL A := by apply Nat.lt_of_not_le; intro q; have := o2 q; omega
        simp (disch := omega) only [↓reduceIte, Nat.reduceAdd, Nat.reduceMul, Nat.reduceSub, Nat.zero_add, zn_0, zn_1, zn_2, zn_3, zn_4, zn_5, zn_6, zn_7, zn_8, zn_9, zn_10, zn_16, zn_20, zn_23, zn_24, zn_25, zn_26, zn_40, zn_207, zn_4761, zn_99, zn_130, zn_lt_t, zn_lt_f, zn_le_t, zn_le_f, zn_eq_t, zn_eq_f, zn_ix, zn_cl, zq_le_f, zq_le_t, zq_lt_f, zq_lt_t, zn_add, zn_mul, zn_sub, or_false, false_or, or_self, true_or, or_true, and_true, true_and, and_false, false_and, not_true_eq_false, not_false_eq_true, if_true, if_false, os1, os2, os3, os4, os5, os6, os7, os8, os9, os10, os11, os12, os13, os14, os15, os16, os17, os18, os19, os20, os21, os22, os23, os24, mX2_lineOf_b4, h]
      · rw [if_neg c1, if_neg c2, if_neg c3]
        have k0 : 3 < aL A := by apply Nat.lt_of_not_le; intro q; have := o3 q; omega
        simp (disch := omega) only [↓reduceIte, Nat.reduceAdd, Nat.reduceMul, Nat.reduceSub, Nat.zero_add, zn_0, zn_1, zn_2, zn_3, zn_4, zn_5, zn_6, zn_7, zn_8, zn_9, zn_10, zn_16, zn_20, zn_23, zn_24, zn_25, zn_26, zn_40, zn_207, zn_4761, zn_99, zn_130, zn_lt_t, zn_lt_f, zn_le_t, zn_le_f, zn_eq_t, zn_eq_f, zn_ix, zn_cl, zq_le_f, zq_le_t, zq_lt_f, zq_lt_t, zn_add, zn_mul, zn_sub, or_false, false_or, or_self, true_or, or_true, and_true, true_and, and_false, false_and, not_true_eq_false, not_false_eq_true, if_true, if_false, os1, os2, os3, os4, os5, os6, os7, os8, os9, os10, os11, os12, os13, os14, os15, os16, os17, os18, os19, os20, os21, os22, os23, os24, mX2_lineOf_b4, h]
/-- where a word lies -/
theorem aLn_in {L : List Nat} {ln : Nat → Int32} {lt : Nat → Nat → Int32} {A : AP} (ha : AOK L ln lt A) {w : Nat} (hw : w < aW A) : aLn A w < aL A ∧ aFst A (aLn A w) ≤ w ∧ w < aFst A (aLn A w) + aSz A (aLn A w) := by
  obtain ⟨a, b, c, d⟩ := aok_sz ha
  have o0 := fun q : aL A ≤ 0 => aSz_out q
  have o1 := fun q : aL A ≤ 1 => aSz_out q
  have o2 := fun q : aL A ≤ 2 => aSz_out q
  have o3 := fun q : aL A ≤ 3 => aSz_out q
  unfold aLn
  by_cases c1 : w < aSz A 0
  · rw [if_pos c1]
    have k0 : 0 < aL A := by apply Nat.lt_of_not_le; intro q; have := o0 q; omega
    simp only [aFst]; omega
  · by_cases c2 : w < aSz A 0 + aSz A 1
    · rw [if_neg c1, if_pos c2]
      have k0 : 1 < aL A := by apply Nat.lt_of_not_le; intro q; have := o1 q; omega
      simp only [aFst]; omega
    · by_cases c3 : w < aSz A 0 + aSz A 1 + aSz A 2
      · rw [if_neg c1, if_neg c2, if_pos c3]
        have k0 : 2 < aL A := by apply Nat.lt_of_not_le; intro q; have := o2 q; omega
        simp only [aFst]; omega
      · rw [if_neg c1, if_neg c2, if_neg c3]
        have k0 : 3 < aL A := by apply Nat.lt_of_not_le; intro q; have := o3 q; omega
        simp only [aFst]; omega
theorem aFst_le {L : List Nat} {ln : Nat → Int32} {lt : Nat → Nat → Int32} {A : AP} (ha : AOK L ln lt A) {l : Nat} (hl : l ≤ 4) : aFst A l ≤ aW A := by
  obtain ⟨a, b, c, d⟩ := aok_sz ha
  rcases lt5 hl with rfl | rfl | rfl | rfl | rfl <;> simp only [aFst] <;> omega
theorem aLn_of {L : List Nat} {ln : Nat → Int32} {lt : Nat → Nat → Int32} {A : AP} (ha : AOK L ln lt A) {l i : Nat} (hl : l < aL A) (hi : i < aSz A l) : aLn A (aFst A l + i) = l := by
  obtain ⟨a, b, c, d⟩ := aok_sz ha
  have e0 : aFst A 0 = 0 := rfl
  have e1 : aFst A 1 = aSz A 0 := by show 0 + aSz A 0 = _; omega
  have e2 : aFst A 2 = aSz A 0 + aSz A 1 := by show aFst A 1 + aSz A 1 = _; omega
  have e3 : aFst A 3 = aSz A 0 + aSz A 1 + aSz A 2 := by show aFst A 2 + aSz A 2 = _; omega
  unfold aLn
  rcases lt5 (by omega : l ≤ 4) with rfl | rfl | rfl | rfl | rfl
  · rw [e0, if_pos (by omega)]
  · rw [e1, if_neg (by omega), if_pos (by omega)]
  · rw [e2, if_neg (by omega), if_neg (by omega), if_pos (by omega)]
  · rw [e3, if_neg (by omega), if_neg (by omega), if_neg (by omega)]
  · omega
