-- uses: 578.word
/-! a line read on both sides -/
def WOK (L : List Nat) (ln : Nat → Int32) (lt : Nat → Nat → Int32) (A : AP) : Prop :=
  A.1 ≤ 3 ∧ (1 ≤ A.2.1 ∧ A.2.1 ≤ 5) ∧ aL A ≤ 4 ∧ (∀ l, l < aL A → aSz A l ≤ 5 ∧ (l + 1 < aL A → 1 ≤ aSz A l)) ∧ aW A = A.2.2.1.sum ∧
  ∀ w, w < aW A → (1 ≤ aKd A w ∧ aKd A w ≤ 5) ∧ aQ A w ∈ L ∧ ∃ n, 1 ≤ n ∧ n ≤ 8 ∧ ln (aQ A w) = nI n ∧ 1 ≤ RT (lt (aQ A w)) n
def PW (ln : Nat → Int32) (lt : Nat → Nat → Int32) (A : AP) (row : Nat → Int32) : Prop :=
  row 1 = nI A.1 ∧ row 2 = nI A.2.1 ∧ (∀ l, l < 4 → row (3 + l) = nI (aSz A l)) ∧
  ∀ w, w < aW A → row (7 + 10 * w) = nI (aKd A w) ∧ row (8 + 10 * w) = ln (aQ A w) ∧ ∀ i, i < 8 → nI i < ln (aQ A w) → row (9 + 10 * w + i) = lt (aQ A w) i
section
variable {L L' : List Nat} {ln ln' : Nat → Int32} {lt lt' : Nat → Nat → Int32} {A : AP} {row : Nat → Int32}
theorem wok_sz (h : WOK L ln lt A) : (∀ l, aSz A l ≤ 5) ∧ aW A = aSz A 0 + aSz A 1 + aSz A 2 + aSz A 3 ∧ aW A ≤ 20 := by
  obtain ⟨-, -, h4, h5, h6, -⟩ := h
  have a : ∀ l, aSz A l ≤ 5 := by
    intro l
    by_cases hl : l < aL A
    · exact (h5 l hl).1
    · rw [aSz_out (by omega)]; omega
  have b : aW A = aSz A 0 + aSz A 1 + aSz A 2 + aSz A 3 := by
    rw [h6]; exact sum4 _ h4
  have a0 := a 0
  have a1 := a 1
  have a2 := a 2
  have a3 := a 3
  exact ⟨a, b, by omega⟩
theorem wok_room (h : WOK L ln lt A) {l : Nat} (hl : l < 4) (hs : aSz A l < 5) : aW A < 20 := by
  obtain ⟨a, b, -⟩ := wok_sz h
  have a0 := a 0
  have a1 := a 1
  have a2 := a 2
  have a3 := a 3
  have : l = 0 ∨ l = 1 ∨ l = 2 ∨ l = 3 := by omega
  rcases this with rfl | rfl | rfl | rfl <;> omega
theorem wok_aok (h : WOK L ln lt A) (hl : 1 ≤ aL A → 1 ≤ aSz A (aL A - 1)) : AOK L ln lt A := by
  obtain ⟨h1, h2, h4, h5, h6, h7⟩ := h
  refine ⟨h1, h2.2, fun _ => h2.1, h4, fun l q => ⟨?_, (h5 l q).1⟩, h6, h7⟩
  by_cases g : l + 1 < aL A
  · exact (h5 l q).2 g
  · rw [show l = aL A - 1 by omega]; exact hl (by omega)
theorem WOK_ext (hx : EXT L ln lt L' ln' lt') (h : WOK L ln lt A) : WOK L' ln' lt' A := by
  obtain ⟨h1, h2, h4, h5, h6, h7⟩ := h
  refine ⟨h1, h2, h4, h5, h6, fun w hw => ?_⟩
  obtain ⟨k1, k2, n, k3, k4, k5, k6⟩ := h7 w hw
  obtain ⟨x1, x2, x3⟩ := hx _ k2
  exact ⟨k1, x1, n, k3, k4, by rw [x2]; exact k5, by rw [x3]; exact k6⟩
theorem PW_ext (hx : EXT L ln lt L' ln' lt') (ha : WOK L ln lt A) (h : PW ln lt A row) : PW ln' lt' A row := by
  obtain ⟨k2, k3, k4, k5⟩ := h
  refine ⟨k2, k3, k4, fun w hw => ?_⟩
  obtain ⟨x1, x2, x3⟩ := hx _ (ha.2.2.2.2.2 w hw).2.1
  rw [x2, x3]
  exact k5 w hw
theorem w_wordsOf (h : PW ln lt A row) (ha : WOK L ln lt A) : mX7_wordsOf row = some (nI (aW A)) := by
  obtain ⟨-, b, -⟩ := wok_sz ha
  have h3 : row 3 = nI (aSz A 0) := h.2.2.1 0 (by omega)
  have h4 : row 4 = nI (aSz A 1) := h.2.2.1 1 (by omega)
  have h5 : row 5 = nI (aSz A 2) := h.2.2.1 2 (by omega)
  have h6 : row 6 = nI (aSz A 3) := h.2.2.1 3 (by omega)
  unfold mX7_wordsOf mX7_wordsOf_b0
  simp (disch := omega) only [↓reduceIte, Nat.reduceAdd, Nat.reduceMul, Nat.reduceSub, Nat.zero_add, zn_0, zn_1, zn_2, zn_3, zn_4, zn_5, zn_6, zn_7, zn_8, zn_9, zn_10, zn_16, zn_20, zn_23, zn_24, zn_25, zn_26, zn_40, zn_207, zn_4761, zn_99, zn_130, zn_lt_t, zn_lt_f, zn_le_t, zn_le_f, zn_eq_t, zn_eq_f, zn_ix, zn_cl, zq_le_f, zq_le_t, zq_lt_f, zq_lt_t, zn_add, zn_mul, zn_sub, or_false, false_or, or_self, true_or, or_true, and_true, true_and, and_false, false_and, not_true_eq_false, not_false_eq_true, if_true, if_false, os1, os2, os3, os4, os5, os6, os7, os8, os9, os10, os11, os12, os13, os14, os15, os16, os17, os18, os19, os20, os21, os22, os23, os24, h3, h4, h5, h6, b]
theorem WOK_ins (ha : WOK L ln lt A) {l k q n : Nat} (hl : l + 1 = aL A) (hs : aSz A l < 5) (hk : 1 ≤ k ∧ k ≤ 5) (hq : q ∈ L) (hn : 1 ≤ n ∧ n ≤ 8) (hln : ln q = nI n) (hrt : 1 ≤ RT (lt q) n) : WOK L ln lt (insA A l (aW A) k q) := by
  obtain ⟨k1, k2, k4, k5, k6, k7⟩ := ha
  refine ⟨k1, k2, by rw [insA_L]; exact k4, fun v hv => ?_, ?_, fun v hv => ?_⟩
  · rw [insA_L] at hv
    rw [insA_sz (by omega), insA_L]
    have := k5 v hv
    by_cases g : v = l
    · rw [if_pos g]; exact ⟨by omega, fun _ => by omega⟩
    · rw [if_neg g]; exact this
  · rw [insA_W (Nat.le_refl _)]
    have := sum_set A.2.2.1 l (aSz A l + 1) (by show l < aL A; omega)
    show aW A + 1 = (A.2.2.1.set l (aSz A l + 1)).sum
    have e : A.2.2.1.getD l 0 = aSz A l := rfl
    omega
  · rw [insA_W (Nat.le_refl _)] at hv
    rw [insA_kd (Nat.le_refl _), insA_q (Nat.le_refl _)]
    by_cases g : v < aW A
    · simp only [if_pos g]; exact k7 v g
    · have g2 : v = aW A := by omega
      simp only [if_neg g, if_pos g2]
      exact ⟨hk, hq, n, hn.1, hn.2, hln, hrt⟩
theorem PW_ins (h : PW ln lt A row) (ha : WOK L ln lt A) {l k q m : Nat} (hW : aW A < 20) (hl : l + 1 = aL A) (hln : ln q = nI m) (hm : m ≤ 8) {F : Nat → Int32} (hlt : lt q = cutF m F) {row' : Nat → Int32} (hr : ∀ x, row' x = if x = 3 + l then row (3 + l) + 1 else if x = 8 + 10 * aW A then nI m else if 9 + 10 * aW A ≤ x ∧ x < 9 + 10 * aW A + m then F (x - (9 + 10 * aW A)) else if x = 7 + 10 * aW A then nI k else row x) : PW ln lt (insA A l (aW A) k q) row' := by
  have l4 := ha.2.2.1
  obtain ⟨k2, k3, k4, k5⟩ := h
  have low : ∀ x, x < 7 + 10 * aW A → ¬ x = 3 + l → row' x = row x := by
    intro x h1 h2
    rw [hr, if_neg h2, if_neg (by omega), if_neg (by omega), if_neg (by omega)]
  refine ⟨?_, ?_, fun v hv => ?_, fun v hv => ?_⟩
  · rw [low _ (by omega) (by omega)]; exact k2
  · rw [low _ (by omega) (by omega)]; exact k3
  · rw [insA_sz (by omega)]
    by_cases g : v = l
    · rw [hr, if_pos (by omega), if_pos g, k4 l (by omega), nI_1]
    · rw [low _ (by omega) (by omega), if_neg g]; exact k4 v hv
  · rw [insA_W (Nat.le_refl _)] at hv
    rw [insA_kd (Nat.le_refl _), insA_q (Nat.le_refl _)]
    by_cases g : v < aW A
    · simp only [if_pos g]
      obtain ⟨m1, m2, m3⟩ := k5 v g
      refine ⟨by rw [low _ (by omega) (by omega)]; exact m1, by rw [low _ (by omega) (by omega)]; exact m2, fun i hi q => by rw [low _ (by omega) (by omega)]; exact m3 i hi q⟩
    · have g2 : v = aW A := by omega
      simp only [if_neg g, if_pos g2]
      subst g2
      refine ⟨?_, ?_, fun i hi q => ?_⟩
      · rw [hr, if_neg (by omega), if_neg (by omega), if_neg (by omega), if_pos rfl]
      · rw [hr, if_neg (by omega), if_pos rfl, hln]
      · rw [hln] at q
        have hin : i < m := by
          apply Nat.lt_of_not_le
          intro z
          exact nI_nlt z (by omega) q
        rw [hr, if_neg (by omega), if_neg (by omega), if_pos (by omega), hlt, show 9 + 10 * aW A + i - (9 + 10 * aW A) = i by omega]
        unfold cutF
        rw [if_pos hin]
def addL (A : AP) : AP := (A.1, A.2.1, A.2.2.1 ++ [0], A.2.2.2)
theorem addL_L : aL (addL A) = aL A + 1 := by
  show (A.2.2.1 ++ [0]).length = A.2.2.1.length + 1
  rw [List.length_append]; rfl
theorem addL_W : aW (addL A) = aW A := rfl
theorem addL_sz (l : Nat) : aSz (addL A) l = aSz A l := by
  show (A.2.2.1 ++ [0]).getD l 0 = A.2.2.1.getD l 0
  rw [List.getD_eq_getElem?_getD, List.getD_eq_getElem?_getD, List.getElem?_append]
  by_cases h : l < A.2.2.1.length
  · rw [if_pos h]
  · rw [if_neg h, List.getElem?_eq_none (Nat.le_of_not_lt h)]
    by_cases g : l - A.2.2.1.length = 0
    · rw [g]; rfl
    · rw [List.getElem?_eq_none (by show 1 ≤ _; omega)]
theorem WOK_addL (ha : AOK L ln lt A) (h1 : 1 ≤ A.2.1) (h4 : aL A < 4) : WOK L ln lt (addL A) := by
  obtain ⟨k1, k2, -, k4, k5, k6, k7⟩ := ha
  refine ⟨k1, ⟨h1, k2⟩, by rw [addL_L]; omega, fun l hl => ?_, ?_, k7⟩
  · rw [addL_L] at hl
    rw [addL_sz, addL_L]
    by_cases g : l < aL A
    · have := k5 l g
      exact ⟨this.2, fun _ => this.1⟩
    · rw [aSz_out (by omega)]; exact ⟨by omega, fun _ => by omega⟩
  · show aW A = (A.2.2.1 ++ [0]).sum
    rw [List.sum_append, k6]; rfl
theorem c_begin {f e : Int32} {sz kd : Nat → Int32} {sp : Nat → Nat} (hpc : PC L A f e (nI (aL A)) (nI (aW A)) sz kd sp) (h4 : aL A < 4) : mX2_beginLine (nI (aL A)) sz = some (nI (aL A + 1), upd sz (aL A) 0) ∧ PC L (addL A) f e (nI (aL A + 1)) (nI (aW A)) (upd sz (aL A) 0) kd sp := by
  obtain ⟨p1, p2, p3, p4, p5, p6, p7⟩ := hpc
  refine ⟨?_, p1, p2, by rw [addL_L], by rw [addL_W], fun l hl => ?_, p6, p7⟩
  · unfold mX2_beginLine mX2_beginLine_b0
    rw [if_neg (show ¬ (4 : Int32) ≤ nI (aL A) from nI_ge (b := 4) h4 (by omega)), if_neg (nI_ix (by omega) (by omega)), zn_cl (by omega), nI_1]
  · rw [addL_L] at hl
    rw [zn_up, addL_sz]
    by_cases g : l = aL A
    · rw [if_pos g, aSz_out (by omega)]; rfl
    · rw [if_neg g]; exact p5 l (by omega)
theorem PW_addL (h : PR ln lt A row) : PW ln lt (addL A) row := by
  obtain ⟨-, k2, k3, k4, k5⟩ := h
  exact ⟨k2, k3, fun l hl => by rw [addL_sz]; exact k4 l hl, k5⟩
end
abbrev LR : Type := Int32 × Int32 × Int32 × Int32 × Int32 × Int32 × (Nat → Int32)
theorem r110_bad (taped : Int32) (tape : Nat → Int32) (p1 cur st tok val fa : Int32) (row : Nat → Int32) {f : Int32} (hf : ¬ f = 0) : ∃ row', mX7_readLine_b110 taped tape p1 cur st tok val f fa row = some (cur, st, tok, val, f, fa, row') := by
  unfold mX7_readLine_b110
  rw [r_mustSign_bad _ _ _ _ _ _ _ _ hf, os6]
  exact ⟨_, rfl⟩
theorem r60_bad (taped : Int32) (tape : Nat → Int32) (p1 cur st tok val fa x2 : Int32) (row : Nat → Int32) {f : Int32} (hf : ¬ f = 0) (N : Nat) : ∃ row', mX7_readLine_b60 taped tape p1 (N + 1) cur st tok val f fa row x2 = some (cur, st, tok, val, f, fa, row') := by
  rw [mX7_readLine_b60, if_neg hf]
  exact r110_bad _ _ _ _ _ _ _ _ _ hf
theorem r_readWord_bad (taped : Int32) (tape : Nat → Int32) (p1 cur st tok val fa : Int32) (row : Nat → Int32) {f : Int32} (hf : ¬ f ≤ 0) : mX7_readWord taped tape cur st tok val f fa row p1 = some (cur, st, tok, val, f, fa, row) := by
  unfold mX7_readWord mX7_readWord_b0
  rw [if_neg hf]
theorem r44_bad (taped : Int32) (tape : Nat → Int32) (p1 cur st tok val fa : Int32) (row : Nat → Int32) {f : Int32} (hf : ¬ f ≤ 0) : ∃ row', mX7_readLine_b44 taped tape p1 cur st tok val f fa row = some (cur, st, tok, val, f, fa, row') := by
  have hf0 : ¬ f = 0 := fun q => hf (by rw [q]; decide)
  unfold mX7_readLine_b44 mX7_readLine_b54
  rw [r_readWord_bad _ _ _ _ _ _ _ _ _ hf, r_readWord_bad _ _ _ _ _ _ _ _ _ hf, os7, os7]
  split
  · exact r60_bad _ _ _ _ _ _ _ _ _ _ hf0 999999
  · exact r60_bad _ _ _ _ _ _ _ _ _ _ hf0 999999
theorem r_line_bad (taped : Int32) (tape : Nat → Int32) (p1 cur st tok val fa : Int32) (row : Nat → Int32) {f : Int32} (hf : ¬ f ≤ 0) : ∃ row', mX7_readLine taped tape cur st tok val f fa row p1 = some (cur, st, tok, val, f, fa, row') := by
  have hf0 : ¬ f = 0 := fun q => hf (by rw [q]; decide)
  unfold mX7_readLine mX7_readLine_b0
  rw [if_neg hf0]
  split
  · exact r44_bad _ _ _ _ _ _ _ _ _ hf
  · exact r44_bad _ _ _ _ _ _ _ _ _ hf
theorem r60_110 (taped : Int32) (tape : Nat → Int32) (p1 cur st tok val fa : Int32) (row : Nat → Int32) {l : Nat} (hl : l < 4) (h : ¬ (tok = 4 ∧ val = 44) ∨ row (3 + l) = nI 5) (N : Nat) : mX7_readLine_b60 taped tape p1 (N + 1) cur st tok val 0 fa row (nI l) = mX7_readLine_b110 taped tape p1 cur st tok val 0 fa row := by
  have e3 : (3 : Int32) + nI l = nI (3 + l) := by rw [zn_3, zn_add]
  have c2 : ¬ (nI (3 + l) < 0 ∨ 207 ≤ 3 + l) := by simp (disch := omega) only [↓reduceIte, Nat.reduceAdd, Nat.reduceMul, Nat.reduceSub, Nat.zero_add, zn_0, zn_1, zn_2, zn_3, zn_4, zn_5, zn_6, zn_7, zn_8, zn_9, zn_10, zn_16, zn_20, zn_23, zn_24, zn_25, zn_26, zn_40, zn_207, zn_4761, zn_99, zn_130, zn_lt_t, zn_lt_f, zn_le_t, zn_le_f, zn_eq_t, zn_eq_f, zn_ix, zn_cl, zq_le_f, zq_le_t, zq_lt_f, zq_lt_t, zn_add, zn_mul, zn_sub, or_false, false_or, or_self, true_or, or_true, and_true, true_and, and_false, false_and, not_true_eq_false, not_false_eq_true, if_true, if_false, os1, os2, os3, os4, os5, os6, os7, os8, os9, os10, os11, os12, os13, os14, os15, os16, os17, os18, os19, os20, os21, os22, os23, os24]
  rw [mX7_readLine_b60, if_pos rfl]
  by_cases g : tok = 4
  · rw [if_pos g]
    by_cases g2 : val = 44
    · rcases h with h | h
      · exact absurd ⟨g, g2⟩ h
      · rw [if_pos g2, e3, zn_cl (by omega), if_neg c2, h, if_pos (by decide)]
    · rw [if_neg g2]
  · rw [if_neg g]
theorem r60_word (taped : Int32) (tape : Nat → Int32) (p1 cur st tok val fa : Int32) (row : Nat → Int32) {l s : Nat} (hl : l < 4) (h1 : tok = 4) (h2 : val = 44) (hr : row (3 + l) = nI s) (hs : s < 5) {cur2 st2 tok2 val2 : Int32} (hm : mX7_mustSign taped tape cur st tok val 0 fa 44 = some (cur2, st2, tok2, val2, 0, fa)) (N : Nat) : mX7_readLine_b60 taped tape p1 (N + 1) cur st tok val 0 fa row (nI l) = ob7 (mX7_readWord taped tape cur2 st2 tok2 val2 0 fa row (nI l)) (fun u0 u1 u2 u3 u4 u5 u6 => mX7_readLine_b60 taped tape p1 N u0 u1 u2 u3 u4 u5 u6 (nI l)) := by
  have e3 : (3 : Int32) + nI l = nI (3 + l) := by rw [zn_3, zn_add]
  have c2 : ¬ (nI (3 + l) < 0 ∨ 207 ≤ 3 + l) := by simp (disch := omega) only [↓reduceIte, Nat.reduceAdd, Nat.reduceMul, Nat.reduceSub, Nat.zero_add, zn_0, zn_1, zn_2, zn_3, zn_4, zn_5, zn_6, zn_7, zn_8, zn_9, zn_10, zn_16, zn_20, zn_23, zn_24, zn_25, zn_26, zn_40, zn_207, zn_4761, zn_99, zn_130, zn_lt_t, zn_lt_f, zn_le_t, zn_le_f, zn_eq_t, zn_eq_f, zn_ix, zn_cl, zq_le_f, zq_le_t, zq_lt_f, zq_lt_t, zn_add, zn_mul, zn_sub, or_false, false_or, or_self, true_or, or_true, and_true, true_and, and_false, false_and, not_true_eq_false, not_false_eq_true, if_true, if_false, os1, os2, os3, os4, os5, os6, os7, os8, os9, os10, os11, os12, os13, os14, os15, os16, os17, os18, os19, os20, os21, os22, os23, os24]
  rw [mX7_readLine_b60, if_pos rfl, if_pos h1, if_pos h2, e3, zn_cl (by omega), if_neg c2, hr, if_neg (show ¬ (5 : Int32) ≤ nI s from nI_ge (b := 5) hs (by omega)), hm, os6]
