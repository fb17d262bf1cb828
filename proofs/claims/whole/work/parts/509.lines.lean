-- uses: 501.auto 502.abs 503.line 504.word 505.bits 507.tail 508.alike
/-! lines, by both: their ends, what runs together, syllables -/
section
variable {L : List Nat} {ln sy sn : Nat → Int32} {lt st : Nat → Nat → Int32} {A : AP} {row : Nat → Int32} {kinds sizes : Nat → Int32} {spelled : Nat → Nat}
/-- the class's lines -/
def CZ (A : AP) (sizes : Nat → Int32) : Prop := ∀ l, l < aL A → sizes l = nI (aSz A l)
theorem aok_l (ha : AOK L ln lt A) {l : Nat} (hl : l < aL A) : 1 ≤ aSz A l ∧ aSz A l ≤ 5 ∧ aFst A l + aSz A l ≤ aW A ∧ aW A ≤ 20 ∧ aL A ≤ 4 ∧ l < 4 := by
  obtain ⟨a, b, c, d⟩ := aok_sz ha
  have h1 := (ha.2.2.2.2.1 l hl).1
  have h2 := aFst_le ha (l := l + 1) (by omega)
  exact ⟨h1, a l, h2, c, d, by omega⟩
theorem r_endOf (h : PR ln lt A row) (ha : AOK L ln lt A) {l : Nat} (hl : l < aL A) : mX7_endOf row (nI l) = some (nI (aFst A (l + 1) - 1)) := by
  obtain ⟨g1, g2, g3, g4, g5, g6⟩ := aok_l ha hl
  unfold mX7_endOf mX7_endOf_b0
  have e : aFst A (l + 1) = aFst A l + aSz A l := rfl
  rw [nI_1, r_firstOf h ha (by omega), os1, zn_1, zn_sub (by omega)]
theorem aEnd_lt (ha : AOK L ln lt A) {l : Nat} (hl : l < aL A) : aFst A (l + 1) - 1 < aW A := by
  obtain ⟨g1, g2, g3, g4, g5, g6⟩ := aok_l ha hl
  have e : aFst A (l + 1) = aFst A l + aSz A l := rfl
  omega
theorem c_last (ha : AOK L ln lt A) (hz : CZ A sizes) {l : Nat} (hl : l < aL A) : mX2_lastOf sizes (nI l) = some (nI (aFst A (l + 1) - 1)) := by
  obtain ⟨g1, g2, g3, g4, g5, g6⟩ := aok_l ha hl
  exact c_lastOf hz hl g5 g1
theorem c_first (ha : AOK L ln lt A) (hz : CZ A sizes) {l : Nat} (hl : l < aL A) : mX2_firstOf sizes (nI l) = some (nI (aFst A l)) := by
  obtain ⟨g1, g2, g3, g4, g5, g6⟩ := aok_l ha hl
  exact c_firstOf hz (by omega) g5
/-- the last letter is a vowel that sounds -/
def EV (f : Nat → Int32) (n : Nat) : Bool := VW (f (n - 1)) && !ME f n
/-- a word of a line may run together with the next one -/
def JN (ln : Nat → Int32) (lt : Nat → Nat → Int32) (A : AP) (l i : Nat) : Bool := decide (i + 1 < aSz A l) && EV (lt (aQ A (aFst A l + i))) (aN ln A (aFst A l + i)) && VW (lt (aQ A (aFst A l + i + 1)) 0)
theorem r_mayRun (h : PR ln lt A row) (ha : AOK L ln lt A) {l i : Nat} (hl : l < aL A) (hi : i < aSz A l) : mX7_mayRun row (nI (aFst A l + i)) = some (b2i (JN ln lt A l i)) := by
  obtain ⟨g1, g2, g3, g4, g5, g6⟩ := aok_l ha hl
  have hw : aFst A l + i < aW A := by omega
  obtain ⟨hN, l1, -, hkd, hq, h20⟩ := aok_w ha hw
  unfold mX7_mayRun mX7_mayRun_b0 JN EV
  rw [r_lineOf h ha hw, aLn_of ha hl hi, os1, r_firstOf h ha (by omega), os1]
  have hrow : row (3 + l) = nI (aSz A l) := h.2.2.2.1 l (by omega)
  by_cases hl2 : i + 1 < aSz A l
  · have hw2 : aFst A l + i + 1 < aW A := by omega
    obtain ⟨hN2, l2, -, -, hq2, h202⟩ := aok_w ha hw2
    simp (disch := omega) only [↓reduceIte, Nat.reduceAdd, Nat.reduceMul, Nat.reduceSub, Nat.zero_add, zn_0, zn_1, zn_2, zn_3, zn_4, zn_5, zn_6, zn_7, zn_8, zn_9, zn_10, zn_16, zn_20, zn_23, zn_24, zn_25, zn_26, zn_40, zn_207, zn_4761, zn_99, zn_130, zn_lt_t, zn_lt_f, zn_le_t, zn_le_f, zn_eq_t, zn_eq_f, zn_ix, zn_cl, zq_le_f, zq_le_t, zq_lt_f, zq_lt_t, zn_add, zn_mul, zn_sub, or_false, false_or, or_self, true_or, or_true, and_true, true_and, and_false, false_and, not_true_eq_false, not_false_eq_true, if_true, if_false, os1, os2, os3, os4, os5, os6, os7, os8, os9, os10, os11, os12, os13, os14, os15, os16, os17, os18, os19, os20, os21, os22, os23, os24, hrow, r_size h ha hw, r_letter h ha hw, r_letter h ha hw2, r_vowel, r_mute h ha hw]
    cases VW (lt (aQ A (aFst A l + i)) (aN ln A (aFst A l + i) - 1))
    · simp [hl2, b2i, nI]
    · cases ME (lt (aQ A (aFst A l + i))) (aN ln A (aFst A l + i))
      · cases VW (lt (aQ A (aFst A l + i + 1)) 0)
        · simp [hl2, b2i, nI]
        · simp [hl2, b2i, nI]
      · simp [hl2, b2i, nI]
  · simp (disch := omega) only [↓reduceIte, Nat.reduceAdd, Nat.reduceMul, Nat.reduceSub, Nat.zero_add, zn_0, zn_1, zn_2, zn_3, zn_4, zn_5, zn_6, zn_7, zn_8, zn_9, zn_10, zn_16, zn_20, zn_23, zn_24, zn_25, zn_26, zn_40, zn_207, zn_4761, zn_99, zn_130, zn_lt_t, zn_lt_f, zn_le_t, zn_le_f, zn_eq_t, zn_eq_f, zn_ix, zn_cl, zq_le_f, zq_le_t, zq_lt_f, zq_lt_t, zn_add, zn_mul, zn_sub, or_false, false_or, or_self, true_or, or_true, and_true, true_and, and_false, false_and, not_true_eq_false, not_false_eq_true, if_true, if_false, os1, os2, os3, os4, os5, os6, os7, os8, os9, os10, os11, os12, os13, os14, os15, os16, os17, os18, os19, os20, os21, os22, os23, os24, hrow]
    simp [hl2, b2i, nI]
theorem c_ends (hp : POOL L ln sy sn lt st) (ha : AOK L ln lt A) {w : Nat} (hw : w < aW A) : mX5_endsOnVowel L ln sn lt (aQ A w) = some (b2i (EV (lt (aQ A w)) (aN ln A w))) := by
  obtain ⟨hN, l1, -, hkd, hq, h20⟩ := aok_w ha hw
  have sa : sn (aQ A w) = nI (aD ln lt A w) := (pool_w hp ha hw).2.2.2.1
  unfold mX5_endsOnVowel mX5_endsOnVowel_b0 EV
  have e : aD ln lt A w = if ME (lt (aQ A w)) (aN ln A w) = true then aN ln A w - 1 else aN ln A w := rfl
  rw [l1, sa]
  cases hb : ME (lt (aQ A w)) (aN ln A w)
  · rw [hb, if_neg (by decide)] at e
    rw [e]
    simp (disch := omega) only [↓reduceIte, Nat.reduceAdd, Nat.reduceMul, Nat.reduceSub, Nat.zero_add, zn_0, zn_1, zn_2, zn_3, zn_4, zn_5, zn_6, zn_7, zn_8, zn_9, zn_10, zn_16, zn_20, zn_23, zn_24, zn_25, zn_26, zn_40, zn_207, zn_4761, zn_99, zn_130, zn_lt_t, zn_lt_f, zn_le_t, zn_le_f, zn_eq_t, zn_eq_f, zn_ix, zn_cl, zq_le_f, zq_le_t, zq_lt_f, zq_lt_t, zn_add, zn_mul, zn_sub, or_false, false_or, or_self, true_or, or_true, and_true, true_and, and_false, false_and, not_true_eq_false, not_false_eq_true, if_true, if_false, os1, os2, os3, os4, os5, os6, os7, os8, os9, os10, os11, os12, os13, os14, os15, os16, os17, os18, os19, os20, os21, os22, os23, os24, hq, c_vowel]
    cases VW (lt (aQ A w) (aN ln A w - 1))
    · simp [b2i, nI]
    · simp [b2i, nI]
  · rw [hb, if_pos rfl] at e
    rw [e]
    simp (disch := omega) only [↓reduceIte, Nat.reduceAdd, Nat.reduceMul, Nat.reduceSub, Nat.zero_add, zn_0, zn_1, zn_2, zn_3, zn_4, zn_5, zn_6, zn_7, zn_8, zn_9, zn_10, zn_16, zn_20, zn_23, zn_24, zn_25, zn_26, zn_40, zn_207, zn_4761, zn_99, zn_130, zn_lt_t, zn_lt_f, zn_le_t, zn_le_f, zn_eq_t, zn_eq_f, zn_ix, zn_cl, zq_le_f, zq_le_t, zq_lt_f, zq_lt_t, zn_add, zn_mul, zn_sub, or_false, false_or, or_self, true_or, or_true, and_true, true_and, and_false, false_and, not_true_eq_false, not_false_eq_true, if_true, if_false, os1, os2, os3, os4, os5, os6, os7, os8, os9, os10, os11, os12, os13, os14, os15, os16, os17, os18, os19, os20, os21, os22, os23, os24, hq]
    simp [b2i, nI]
theorem c_begins (ha : AOK L ln lt A) {w : Nat} (hw : w < aW A) : mX5_beginsWithVowel L ln lt (aQ A w) = some (b2i (VW (lt (aQ A w) 0))) := by
  obtain ⟨hN, l1, -, hkd, hq, h20⟩ := aok_w ha hw
  unfold mX5_beginsWithVowel mX5_beginsWithVowel_b0
  rw [l1]
  simp (disch := omega) only [↓reduceIte, Nat.reduceAdd, Nat.reduceMul, Nat.reduceSub, Nat.zero_add, zn_0, zn_1, zn_2, zn_3, zn_4, zn_5, zn_6, zn_7, zn_8, zn_9, zn_10, zn_16, zn_20, zn_23, zn_24, zn_25, zn_26, zn_40, zn_207, zn_4761, zn_99, zn_130, zn_lt_t, zn_lt_f, zn_le_t, zn_le_f, zn_eq_t, zn_eq_f, zn_ix, zn_cl, zq_le_f, zq_le_t, zq_lt_f, zq_lt_t, zn_add, zn_mul, zn_sub, or_false, false_or, or_self, true_or, or_true, and_true, true_and, and_false, false_and, not_true_eq_false, not_false_eq_true, if_true, if_false, os1, os2, os3, os4, os5, os6, os7, os8, os9, os10, os11, os12, os13, os14, os15, os16, os17, os18, os19, os20, os21, os22, os23, os24, hq, c_vowel]
  cases VW (lt (aQ A w) 0)
  · simp [b2i, nI]
  · simp [b2i, nI]
theorem JN_last (l : Nat) {i : Nat} (h : aSz A l ≤ i + 1) : JN ln lt A l i = false := by
  unfold JN
  have : ¬ i + 1 < aSz A l := by omega
  simp [this]
theorem c_joins_loop (hp : POOL L ln sy sn lt st) (ha : AOK L ln lt A) (hc : CW A kinds spelled) (hz : CZ A sizes) {l : Nat} (hl : l < aL A) : ∀ (d k : Nat), k + 1 + d = aSz A l → ∀ n, d < n → mX2_joinsOf_b11 L ln sn lt sizes spelled (nI l) n (nI (aFst A l)) (nI (msk (JN ln lt A l) k)) (nI k) = some (nI (msk (JN ln lt A l) (aSz A l - 1)))
  | _, _, _, 0, hn => absurd hn (by omega)
  | 0, k, hk, n + 1, _ => by
    obtain ⟨g1, g2, g3, g4, g5, g6⟩ := aok_l ha hl
    have hs := hz l hl
    rw [mX2_joinsOf_b11]
    simp (disch := omega) only [↓reduceIte, Nat.reduceAdd, Nat.reduceMul, Nat.reduceSub, Nat.zero_add, zn_0, zn_1, zn_2, zn_3, zn_4, zn_5, zn_6, zn_7, zn_8, zn_9, zn_10, zn_16, zn_20, zn_23, zn_24, zn_25, zn_26, zn_40, zn_207, zn_4761, zn_99, zn_130, zn_lt_t, zn_lt_f, zn_le_t, zn_le_f, zn_eq_t, zn_eq_f, zn_ix, zn_cl, zq_le_f, zq_le_t, zq_lt_f, zq_lt_t, zn_add, zn_mul, zn_sub, or_false, false_or, or_self, true_or, or_true, and_true, true_and, and_false, false_and, not_true_eq_false, not_false_eq_true, if_true, if_false, os1, os2, os3, os4, os5, os6, os7, os8, os9, os10, os11, os12, os13, os14, os15, os16, os17, os18, os19, os20, os21, os22, os23, os24, hs]
    rw [show k = aSz A l - 1 by omega]
  | d + 1, k, hk, n + 1, hn => by
    obtain ⟨g1, g2, g3, g4, g5, g6⟩ := aok_l ha hl
    have hs := hz l hl
    have ih := c_joins_loop hp ha hc hz hl d (k + 1) (by omega) n (by omega)
    have hw : aFst A l + k < aW A := by omega
    have hw2 : aFst A l + k + 1 < aW A := by omega
    obtain ⟨hN, l1, -, hkd, hq, h20⟩ := aok_w ha hw
    obtain ⟨hN2, l2, -, -, hq2, h202⟩ := aok_w ha hw2
    have es := (hc _ hw).2
    have es2 := (hc _ hw2).2
    have hor := or_one (JN ln lt A l) (s := k) (by omega) _ rfl
    rw [mX2_joinsOf_b11]
    have z31 : (31 : Int32) = nI 31 := rfl
    rw [z31, zn_1] at hor
    have hlt : k + 1 < aSz A l := by omega
    have hj : JN ln lt A l k = (EV (lt (aQ A (aFst A l + k))) (aN ln A (aFst A l + k)) && VW (lt (aQ A (aFst A l + k + 1)) 0)) := by
      unfold JN; simp [hlt]
    rw [← hor, hj] at ih
    simp (disch := omega) only [↓reduceIte, Nat.reduceAdd, Nat.reduceMul, Nat.reduceSub, Nat.zero_add, zn_0, zn_1, zn_2, zn_3, zn_4, zn_5, zn_6, zn_7, zn_8, zn_9, zn_10, zn_16, zn_20, zn_23, zn_24, zn_25, zn_26, zn_40, zn_207, zn_4761, zn_99, zn_130, zn_lt_t, zn_lt_f, zn_le_t, zn_le_f, zn_eq_t, zn_eq_f, zn_ix, zn_cl, zq_le_f, zq_le_t, zq_lt_f, zq_lt_t, zn_add, zn_mul, zn_sub, or_false, false_or, or_self, true_or, or_true, and_true, true_and, and_false, false_and, not_true_eq_false, not_false_eq_true, if_true, if_false, os1, os2, os3, os4, os5, os6, os7, os8, os9, os10, os11, os12, os13, os14, os15, os16, os17, os18, os19, os20, os21, os22, os23, os24, hs, es, es2, hq, hq2, c_ends hp ha hw, c_begins ha hw2, z31]
    cases h1 : EV (lt (aQ A (aFst A l + k))) (aN ln A (aFst A l + k))
    · rw [h1] at ih
      simp (disch := omega) only [↓reduceIte, Nat.reduceAdd, Nat.reduceMul, Nat.reduceSub, Nat.zero_add, zn_0, zn_1, zn_2, zn_3, zn_4, zn_5, zn_6, zn_7, zn_8, zn_9, zn_10, zn_16, zn_20, zn_23, zn_24, zn_25, zn_26, zn_40, zn_207, zn_4761, zn_99, zn_130, zn_lt_t, zn_lt_f, zn_le_t, zn_le_f, zn_eq_t, zn_eq_f, zn_ix, zn_cl, zq_le_f, zq_le_t, zq_lt_f, zq_lt_t, zn_add, zn_mul, zn_sub, or_false, false_or, or_self, true_or, or_true, and_true, true_and, and_false, false_and, not_true_eq_false, not_false_eq_true, if_true, if_false, os1, os2, os3, os4, os5, os6, os7, os8, os9, os10, os11, os12, os13, os14, os15, os16, os17, os18, os19, os20, os21, os22, os23, os24, b2i_f]
      simpa using ih
    · rw [h1] at ih
      simp (disch := omega) only [↓reduceIte, Nat.reduceAdd, Nat.reduceMul, Nat.reduceSub, Nat.zero_add, zn_0, zn_1, zn_2, zn_3, zn_4, zn_5, zn_6, zn_7, zn_8, zn_9, zn_10, zn_16, zn_20, zn_23, zn_24, zn_25, zn_26, zn_40, zn_207, zn_4761, zn_99, zn_130, zn_lt_t, zn_lt_f, zn_le_t, zn_le_f, zn_eq_t, zn_eq_f, zn_ix, zn_cl, zq_le_f, zq_le_t, zq_lt_f, zq_lt_t, zn_add, zn_mul, zn_sub, or_false, false_or, or_self, true_or, or_true, and_true, true_and, and_false, false_and, not_true_eq_false, not_false_eq_true, if_true, if_false, os1, os2, os3, os4, os5, os6, os7, os8, os9, os10, os11, os12, os13, os14, os15, os16, os17, os18, os19, os20, os21, os22, os23, os24, b2i_t]
      cases h2 : VW (lt (aQ A (aFst A l + k + 1)) 0)
      · rw [h2] at ih
        simp (disch := omega) only [↓reduceIte, Nat.reduceAdd, Nat.reduceMul, Nat.reduceSub, Nat.zero_add, zn_0, zn_1, zn_2, zn_3, zn_4, zn_5, zn_6, zn_7, zn_8, zn_9, zn_10, zn_16, zn_20, zn_23, zn_24, zn_25, zn_26, zn_40, zn_207, zn_4761, zn_99, zn_130, zn_lt_t, zn_lt_f, zn_le_t, zn_le_f, zn_eq_t, zn_eq_f, zn_ix, zn_cl, zq_le_f, zq_le_t, zq_lt_f, zq_lt_t, zn_add, zn_mul, zn_sub, or_false, false_or, or_self, true_or, or_true, and_true, true_and, and_false, false_and, not_true_eq_false, not_false_eq_true, if_true, if_false, os1, os2, os3, os4, os5, os6, os7, os8, os9, os10, os11, os12, os13, os14, os15, os16, os17, os18, os19, os20, os21, os22, os23, os24, b2i_f]
        simpa using ih
      · rw [h2] at ih
        simp (disch := omega) only [↓reduceIte, Nat.reduceAdd, Nat.reduceMul, Nat.reduceSub, Nat.zero_add, zn_0, zn_1, zn_2, zn_3, zn_4, zn_5, zn_6, zn_7, zn_8, zn_9, zn_10, zn_16, zn_20, zn_23, zn_24, zn_25, zn_26, zn_40, zn_207, zn_4761, zn_99, zn_130, zn_lt_t, zn_lt_f, zn_le_t, zn_le_f, zn_eq_t, zn_eq_f, zn_ix, zn_cl, zq_le_f, zq_le_t, zq_lt_f, zq_lt_t, zn_add, zn_mul, zn_sub, or_false, false_or, or_self, true_or, or_true, and_true, true_and, and_false, false_and, not_true_eq_false, not_false_eq_true, if_true, if_false, os1, os2, os3, os4, os5, os6, os7, os8, os9, os10, os11, os12, os13, os14, os15, os16, os17, os18, os19, os20, os21, os22, os23, os24, b2i_t]
        simpa using ih
theorem c_joins (hp : POOL L ln sy sn lt st) (ha : AOK L ln lt A) (hc : CW A kinds spelled) (hz : CZ A sizes) {l : Nat} (hl : l < aL A) : mX2_joinsOf L ln sn lt sizes spelled (nI l) = some (nI (msk (JN ln lt A l) (aSz A l))) := by
  obtain ⟨g1, g2, g3, g4, g5, g6⟩ := aok_l ha hl
  have h := c_joins_loop hp ha hc hz hl (aSz A l - 1) 0 (by omega) FU (zn_fu (by omega))
  unfold mX2_joinsOf mX2_joinsOf_b0
  rw [c_first ha hz hl, os1]
  have e : msk (JN ln lt A l) (aSz A l) = msk (JN ln lt A l) (aSz A l - 1) := by
    obtain ⟨m, hm⟩ : ∃ m, aSz A l = m + 1 := ⟨aSz A l - 1, by omega⟩
    rw [hm, show m + 1 - 1 = m by omega, msk, JN_last l (by omega)]; simp
  rw [e]; exact h
theorem r_running_loop (h : PR ln lt A row) (ha : AOK L ln lt A) {l : Nat} (hl : l < aL A) : ∀ (d k : Nat), k + d = aSz A l → ∀ n, d < n → mX7_runningOnes_b4 row (nI l) n (nI (msk (JN ln lt A l) k)) (nI k) = some (nI (msk (JN ln lt A l) (aSz A l)))
  | _, _, _, 0, hn => absurd hn (by omega)
  | 0, k, hk, n + 1, _ => by
    obtain ⟨g1, g2, g3, g4, g5, g6⟩ := aok_l ha hl
    have hrow : row (3 + l) = nI (aSz A l) := h.2.2.2.1 l (by omega)
    rw [mX7_runningOnes_b4, show k = aSz A l by omega]
    simp (disch := omega) only [↓reduceIte, Nat.reduceAdd, Nat.reduceMul, Nat.reduceSub, Nat.zero_add, zn_0, zn_1, zn_2, zn_3, zn_4, zn_5, zn_6, zn_7, zn_8, zn_9, zn_10, zn_16, zn_20, zn_23, zn_24, zn_25, zn_26, zn_40, zn_207, zn_4761, zn_99, zn_130, zn_lt_t, zn_lt_f, zn_le_t, zn_le_f, zn_eq_t, zn_eq_f, zn_ix, zn_cl, zq_le_f, zq_le_t, zq_lt_f, zq_lt_t, zn_add, zn_mul, zn_sub, or_false, false_or, or_self, true_or, or_true, and_true, true_and, and_false, false_and, not_true_eq_false, not_false_eq_true, if_true, if_false, os1, os2, os3, os4, os5, os6, os7, os8, os9, os10, os11, os12, os13, os14, os15, os16, os17, os18, os19, os20, os21, os22, os23, os24, hrow]
  | d + 1, k, hk, n + 1, hn => by
    obtain ⟨g1, g2, g3, g4, g5, g6⟩ := aok_l ha hl
    have hrow : row (3 + l) = nI (aSz A l) := h.2.2.2.1 l (by omega)
    have ih := r_running_loop h ha hl d (k + 1) (by omega) n (by omega)
    have hor := or_one (JN ln lt A l) (s := k) (by omega) _ rfl
    rw [← hor] at ih
    rw [mX7_runningOnes_b4, zn_3, zn_add, zn_cl (by omega), hrow, if_neg (by simp (disch := omega) only [↓reduceIte, Nat.reduceAdd, Nat.reduceMul, Nat.reduceSub, Nat.zero_add, zn_0, zn_1, zn_2, zn_3, zn_4, zn_5, zn_6, zn_7, zn_8, zn_9, zn_10, zn_16, zn_20, zn_23, zn_24, zn_25, zn_26, zn_40, zn_207, zn_4761, zn_99, zn_130, zn_lt_t, zn_lt_f, zn_le_t, zn_le_f, zn_eq_t, zn_eq_f, zn_ix, zn_cl, zq_le_f, zq_le_t, zq_lt_f, zq_lt_t, zn_add, zn_mul, zn_sub, or_false, false_or, or_self, true_or, or_true, and_true, true_and, and_false, false_and, not_true_eq_false, not_false_eq_true, if_true, if_false, os1, os2, os3, os4, os5, os6, os7, os8, os9, os10, os11, os12, os13, os14, os15, os16, os17, os18, os19, os20, os21, os22, os23, os24]), if_neg (nI_ge (by omega) (by omega)), r_firstOf h ha (by omega), os1, zn_add, r_mayRun h ha hl (by omega), os1, nI_1]
    cases hj : JN ln lt A l k
    · rw [hj] at ih
      rw [b2i_f, if_pos (by rfl), Int32.or_zero]
      simpa using ih
    · rw [hj] at ih
      rw [b2i_t, if_neg (by decide)]
      simpa using ih
theorem r_running (h : PR ln lt A row) (ha : AOK L ln lt A) {l : Nat} (hl : l < aL A) : mX7_runningOnes row (nI l) = some (nI (msk (JN ln lt A l) (aSz A l))) := by
  obtain ⟨g1, g2, g3, g4, g5, g6⟩ := aok_l ha hl
  exact r_running_loop h ha hl (aSz A l) 0 (by omega) FU (zn_fu (by omega))
/-- syllables of the first k words of a line -/
def aPs (ln : Nat → Int32) (lt : Nat → Nat → Int32) (A : AP) (l : Nat) : Nat → Nat
  | 0 => 0
  | k + 1 => aPs ln lt A l k + aSy ln lt A (aFst A l + k)
theorem aPs_le (ha : AOK L ln lt A) {l : Nat} (hl : l < aL A) : ∀ k, k ≤ aSz A l → k ≤ aPs ln lt A l k ∧ aPs ln lt A l k ≤ 4 * k
  | 0, _ => ⟨Nat.le_refl _, Nat.le_refl _⟩
  | k + 1, hk => by
    obtain ⟨g1, g2, g3, g4, g5, g6⟩ := aok_l ha hl
    have ih := aPs_le ha hl k (by omega)
    have hs := aok_s ha (w := aFst A l + k) (by omega)
    show k + 1 ≤ aPs ln lt A l k + aSy ln lt A (aFst A l + k) ∧ aPs ln lt A l k + aSy ln lt A (aFst A l + k) ≤ _
    omega
theorem r_syl_loop (h : PR ln lt A row) (ha : AOK L ln lt A) {l : Nat} (hl : l < aL A) : ∀ (d k : Nat), k + d = aSz A l → ∀ n, d < n → mX7_syllablesOf_b4 row (nI l) n (nI (aPs ln lt A l k)) (nI k) = some (nI (aPs ln lt A l (aSz A l)))
  | _, _, _, 0, hn => absurd hn (by omega)
  | 0, k, hk, n + 1, _ => by
    obtain ⟨g1, g2, g3, g4, g5, g6⟩ := aok_l ha hl
    have hrow : row (3 + l) = nI (aSz A l) := h.2.2.2.1 l (by omega)
    rw [mX7_syllablesOf_b4, show k = aSz A l by omega]
    simp (disch := omega) only [↓reduceIte, Nat.reduceAdd, Nat.reduceMul, Nat.reduceSub, Nat.zero_add, zn_0, zn_1, zn_2, zn_3, zn_4, zn_5, zn_6, zn_7, zn_8, zn_9, zn_10, zn_16, zn_20, zn_23, zn_24, zn_25, zn_26, zn_40, zn_207, zn_4761, zn_99, zn_130, zn_lt_t, zn_lt_f, zn_le_t, zn_le_f, zn_eq_t, zn_eq_f, zn_ix, zn_cl, zq_le_f, zq_le_t, zq_lt_f, zq_lt_t, zn_add, zn_mul, zn_sub, or_false, false_or, or_self, true_or, or_true, and_true, true_and, and_false, false_and, not_true_eq_false, not_false_eq_true, if_true, if_false, os1, os2, os3, os4, os5, os6, os7, os8, os9, os10, os11, os12, os13, os14, os15, os16, os17, os18, os19, os20, os21, os22, os23, os24, hrow]
  | d + 1, k, hk, n + 1, hn => by
    obtain ⟨g1, g2, g3, g4, g5, g6⟩ := aok_l ha hl
    have hrow : row (3 + l) = nI (aSz A l) := h.2.2.2.1 l (by omega)
    have ih := r_syl_loop h ha hl d (k + 1) (by omega) n (by omega)
    rw [mX7_syllablesOf_b4, zn_3, zn_add, zn_cl (by omega), hrow, if_neg (by simp (disch := omega) only [↓reduceIte, Nat.reduceAdd, Nat.reduceMul, Nat.reduceSub, Nat.zero_add, zn_0, zn_1, zn_2, zn_3, zn_4, zn_5, zn_6, zn_7, zn_8, zn_9, zn_10, zn_16, zn_20, zn_23, zn_24, zn_25, zn_26, zn_40, zn_207, zn_4761, zn_99, zn_130, zn_lt_t, zn_lt_f, zn_le_t, zn_le_f, zn_eq_t, zn_eq_f, zn_ix, zn_cl, zq_le_f, zq_le_t, zq_lt_f, zq_lt_t, zn_add, zn_mul, zn_sub, or_false, false_or, or_self, true_or, or_true, and_true, true_and, and_false, false_and, not_true_eq_false, not_false_eq_true, if_true, if_false, os1, os2, os3, os4, os5, os6, os7, os8, os9, os10, os11, os12, os13, os14, os15, os16, os17, os18, os19, os20, os21, os22, os23, os24]), if_neg (nI_ge (by omega) (by omega)), r_firstOf h ha (by omega), os1, zn_add, r_syll h ha (by omega), os1, nI_1, zn_add]
    exact ih
theorem r_syllablesOf (h : PR ln lt A row) (ha : AOK L ln lt A) {l : Nat} (hl : l < aL A) : mX7_syllablesOf row (nI l) = some (nI (aPs ln lt A l (aSz A l))) := by
  obtain ⟨g1, g2, g3, g4, g5, g6⟩ := aok_l ha hl
  exact r_syl_loop h ha hl (aSz A l) 0 (by omega) FU (zn_fu (by omega))
theorem c_syl_loop (hp : POOL L ln sy sn lt st) (ha : AOK L ln lt A) (hc : CW A kinds spelled) (hz : CZ A sizes) {l : Nat} (hl : l < aL A) : ∀ (d k : Nat), k + d = aSz A l → ∀ n, d < n → mX2_syllablesOf_b11 L sy sizes spelled (nI l) n (nI (aFst A l)) (nI (aPs ln lt A l k)) (nI (aFst A l + k)) = some (nI (aPs ln lt A l (aSz A l)))
  | _, _, _, 0, hn => absurd hn (by omega)
  | 0, k, hk, n + 1, _ => by
    obtain ⟨g1, g2, g3, g4, g5, g6⟩ := aok_l ha hl
    have hs := hz l hl
    rw [mX2_syllablesOf_b11, show k = aSz A l by omega]
    simp (disch := omega) only [↓reduceIte, Nat.reduceAdd, Nat.reduceMul, Nat.reduceSub, Nat.zero_add, zn_0, zn_1, zn_2, zn_3, zn_4, zn_5, zn_6, zn_7, zn_8, zn_9, zn_10, zn_16, zn_20, zn_23, zn_24, zn_25, zn_26, zn_40, zn_207, zn_4761, zn_99, zn_130, zn_lt_t, zn_lt_f, zn_le_t, zn_le_f, zn_eq_t, zn_eq_f, zn_ix, zn_cl, zq_le_f, zq_le_t, zq_lt_f, zq_lt_t, zn_add, zn_mul, zn_sub, or_false, false_or, or_self, true_or, or_true, and_true, true_and, and_false, false_and, not_true_eq_false, not_false_eq_true, if_true, if_false, os1, os2, os3, os4, os5, os6, os7, os8, os9, os10, os11, os12, os13, os14, os15, os16, os17, os18, os19, os20, os21, os22, os23, os24, hs]
  | d + 1, k, hk, n + 1, hn => by
    obtain ⟨g1, g2, g3, g4, g5, g6⟩ := aok_l ha hl
    have hs := hz l hl
    have ih := c_syl_loop hp ha hc hz hl d (k + 1) (by omega) n (by omega)
    have hw : aFst A l + k < aW A := by omega
    obtain ⟨hN, l1, -, hkd, hq, h20⟩ := aok_w ha hw
    have es := (hc _ hw).2
    have hsy : sy (aQ A (aFst A l + k)) = nI (aSy ln lt A (aFst A l + k)) := (pool_w hp ha hw).2.2.1
    rw [mX2_syllablesOf_b11]
    simp (disch := omega) only [↓reduceIte, Nat.reduceAdd, Nat.reduceMul, Nat.reduceSub, Nat.zero_add, zn_0, zn_1, zn_2, zn_3, zn_4, zn_5, zn_6, zn_7, zn_8, zn_9, zn_10, zn_16, zn_20, zn_23, zn_24, zn_25, zn_26, zn_40, zn_207, zn_4761, zn_99, zn_130, zn_lt_t, zn_lt_f, zn_le_t, zn_le_f, zn_eq_t, zn_eq_f, zn_ix, zn_cl, zq_le_f, zq_le_t, zq_lt_f, zq_lt_t, zn_add, zn_mul, zn_sub, or_false, false_or, or_self, true_or, or_true, and_true, true_and, and_false, false_and, not_true_eq_false, not_false_eq_true, if_true, if_false, os1, os2, os3, os4, os5, os6, os7, os8, os9, os10, os11, os12, os13, os14, os15, os16, os17, os18, os19, os20, os21, os22, os23, os24, hs, es, hq, hsy]
    exact ih
theorem c_syllablesOf (hp : POOL L ln sy sn lt st) (ha : AOK L ln lt A) (hc : CW A kinds spelled) (hz : CZ A sizes) {l : Nat} (hl : l < aL A) : mX2_syllablesOf L sy sizes spelled (nI l) = some (nI (aPs ln lt A l (aSz A l))) := by
  obtain ⟨g1, g2, g3, g4, g5, g6⟩ := aok_l ha hl
  unfold mX2_syllablesOf mX2_syllablesOf_b0
  rw [c_first ha hz hl, os1]
  exact c_syl_loop hp ha hc hz hl (aSz A l) 0 (by omega) FU (zn_fu (by omega))
theorem r_str_loop (h : PR ln lt A row) (ha : AOK L ln lt A) {w : Nat} (hw : w < aW A) {v : Nat} (hv : v < 3) : ∀ (d k : Nat), k + d = aSy ln lt A w → ∀ n, d < n → mX7_strengthsOf_b5 row (nI w) (nI v) n (nI (msk (fun i => decide (STR (aKd A w) (aSy ln lt A w) i = v)) k)) (nI k) = some (nI (msk (fun i => decide (STR (aKd A w) (aSy ln lt A w) i = v)) (aSy ln lt A w)))
  | _, _, _, 0, hn => absurd hn (by omega)
  | 0, k, hk, n + 1, _ => by
    obtain ⟨hs1, hs4⟩ := aok_s ha hw
    rw [mX7_strengthsOf_b5, r_syll h ha hw, os1, show k = aSy ln lt A w by omega, if_pos (nI_le (Nat.le_refl _) (by omega))]
  | d + 1, k, hk, n + 1, hn => by
    obtain ⟨hs1, hs4⟩ := aok_s ha hw
    have ih := r_str_loop h ha hw hv d (k + 1) (by omega) n (by omega)
    have hor := or_one (fun i => decide (STR (aKd A w) (aSy ln lt A w) i = v)) (s := k) (by omega) _ rfl
    rw [← hor] at ih
    have hle := STR_le (aKd A w) (aSy ln lt A w) k
    rw [mX7_strengthsOf_b5, r_syll h ha hw, os1, if_neg (nI_ge (by omega) (by omega)), r_strength h ha hw (by omega), os1, nI_1]
    by_cases hb : STR (aKd A w) (aSy ln lt A w) k = v
    · rw [if_pos (by rw [hb])]
      simpa [hb] using ih
    · rw [if_neg (fun e => hb (zn_inj (by omega) (by omega) e)), Int32.or_zero]
      simpa [hb] using ih
theorem r_strengthsOf (h : PR ln lt A row) (ha : AOK L ln lt A) {w : Nat} (hw : w < aW A) {v : Nat} (hv : v < 3) : mX7_strengthsOf row (nI w) (nI v) = some (nI (msk (fun i => decide (STR (aKd A w) (aSy ln lt A w) i = v)) (aSy ln lt A w))) := by
  obtain ⟨hs1, hs4⟩ := aok_s ha hw
  exact r_str_loop h ha hw hv (aSy ln lt A w) 0 (by omega) FU (zn_fu (by omega))
end
