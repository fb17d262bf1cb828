-- uses: 501.auto 502.abs 503.line 504.word 505.bits 507.tail 508.alike 509.lines
/-! count -/
def sumN (f : Nat → Nat) : Nat → Nat
  | 0 => 0
  | n + 1 => sumN f n + f n
section
variable {L : List Nat} {ln sy sn : Nat → Int32} {lt st : Nat → Nat → Int32} {A : AP} {row : Nat → Int32} {kinds sizes : Nat → Int32} {spelled : Nat → Nat}
theorem c_letters_loop (ha : AOK L ln lt A) (hc : CW A kinds spelled) : ∀ (d k : Nat), k + d = aW A → ∀ n, d < n → mX2_allLetters_b4 L ln (nI (aW A)) spelled n (nI (sumN (aN ln A) k)) (nI k) = some (nI (sumN (aN ln A) (aW A)))
  | _, _, _, 0, hn => absurd hn (by omega)
  | 0, k, hk, n + 1, _ => by
    obtain ⟨-, -, w20, l4⟩ := aok_sz ha
    rw [mX2_allLetters_b4, show k = aW A by omega, if_pos (nI_le (Nat.le_refl _) (by omega))]
  | d + 1, k, hk, n + 1, hn => by
    obtain ⟨-, -, w20, l4⟩ := aok_sz ha
    have hw : k < aW A := by omega
    obtain ⟨hN, l1, -, hkd, hq, h20⟩ := aok_w ha hw
    have es := (hc k hw).2
    have ih := c_letters_loop ha hc d (k + 1) (by omega) n (by omega)
    rw [mX2_allLetters_b4]
    simp (disch := omega) only [↓reduceIte, Nat.reduceAdd, Nat.reduceMul, Nat.reduceSub, Nat.zero_add, zn_0, zn_1, zn_2, zn_3, zn_4, zn_5, zn_6, zn_7, zn_8, zn_9, zn_10, zn_16, zn_20, zn_23, zn_24, zn_25, zn_26, zn_40, zn_207, zn_4761, zn_99, zn_130, zn_lt_t, zn_lt_f, zn_le_t, zn_le_f, zn_eq_t, zn_eq_f, zn_ix, zn_cl, zq_le_f, zq_le_t, zq_lt_f, zq_lt_t, zn_add, zn_mul, zn_sub, or_false, false_or, or_self, true_or, or_true, and_true, true_and, and_false, false_and, not_true_eq_false, not_false_eq_true, if_true, if_false, os1, os2, os3, os4, os5, os6, os7, os8, os9, os10, os11, os12, os13, os14, os15, os16, os17, os18, os19, os20, os21, os22, os23, os24, es, hq, l1]
    exact ih
theorem c_syls_loop (hp : POOL L ln sy sn lt st) (ha : AOK L ln lt A) (hc : CW A kinds spelled) : ∀ (d k : Nat), k + d = aW A → ∀ n, d < n → mX2_allSyllables_b4 L sy (nI (aW A)) spelled n (nI (sumN (aSy ln lt A) k)) (nI k) = some (nI (sumN (aSy ln lt A) (aW A)))
  | _, _, _, 0, hn => absurd hn (by omega)
  | 0, k, hk, n + 1, _ => by
    obtain ⟨-, -, w20, l4⟩ := aok_sz ha
    rw [mX2_allSyllables_b4, show k = aW A by omega, if_pos (nI_le (Nat.le_refl _) (by omega))]
  | d + 1, k, hk, n + 1, hn => by
    obtain ⟨-, -, w20, l4⟩ := aok_sz ha
    have hw : k < aW A := by omega
    obtain ⟨hN, l1, -, hkd, hq, h20⟩ := aok_w ha hw
    have es := (hc k hw).2
    have hsy : sy (aQ A k) = nI (aSy ln lt A k) := (pool_w hp ha hw).2.2.1
    have ih := c_syls_loop hp ha hc d (k + 1) (by omega) n (by omega)
    rw [mX2_allSyllables_b4]
    simp (disch := omega) only [↓reduceIte, Nat.reduceAdd, Nat.reduceMul, Nat.reduceSub, Nat.zero_add, zn_0, zn_1, zn_2, zn_3, zn_4, zn_5, zn_6, zn_7, zn_8, zn_9, zn_10, zn_16, zn_20, zn_23, zn_24, zn_25, zn_26, zn_40, zn_207, zn_4761, zn_99, zn_130, zn_lt_t, zn_lt_f, zn_le_t, zn_le_f, zn_eq_t, zn_eq_f, zn_ix, zn_cl, zq_le_f, zq_le_t, zq_lt_f, zq_lt_t, zn_add, zn_mul, zn_sub, or_false, false_or, or_self, true_or, or_true, and_true, true_and, and_false, false_and, not_true_eq_false, not_false_eq_true, if_true, if_false, os1, os2, os3, os4, os5, os6, os7, os8, os9, os10, os11, os12, os13, os14, os15, os16, os17, os18, os19, os20, os21, os22, os23, os24, es, hq, hsy]
    exact ih
theorem r_letters_loop (h : PR ln lt A row) (ha : AOK L ln lt A) (ac tp : Int32) (la : Nat → Int32) (p1 : Int32) : ∀ (d k : Nat), k + d = aW A → ∀ n, d < n → mX7_count_b102 ac tp la row p1 n 0 (nI (sumN (aN ln A) k)) (nI k) = some (nI (sumN (aN ln A) (aW A)), 0)
  | _, _, _, 0, hn => absurd hn (by omega)
  | 0, k, hk, n + 1, _ => by
    obtain ⟨-, -, w20, l4⟩ := aok_sz ha
    rw [mX7_count_b102, r_wordsOf h ha, os1, show k = aW A by omega, if_pos (nI_le (Nat.le_refl _) (by omega))]
  | d + 1, k, hk, n + 1, hn => by
    obtain ⟨-, -, w20, l4⟩ := aok_sz ha
    have ih := r_letters_loop h ha ac tp la p1 d (k + 1) (by omega) n (by omega)
    rw [mX7_count_b102, r_wordsOf h ha, os1, if_neg (nI_ge (by omega) (by omega)), r_size h ha (by omega), os1, nI_1, zn_add]
    exact ih
theorem r_syls_loop (h : PR ln lt A row) (ha : AOK L ln lt A) (ac tp : Int32) (la : Nat → Int32) (p1 : Int32) : ∀ (d k : Nat), k + d = aW A → ∀ n, d < n → mX7_count_b134 ac tp la row p1 n 0 (nI (sumN (aSy ln lt A) k)) (nI k) = some (nI (sumN (aSy ln lt A) (aW A)), 0)
  | _, _, _, 0, hn => absurd hn (by omega)
  | 0, k, hk, n + 1, _ => by
    obtain ⟨-, -, w20, l4⟩ := aok_sz ha
    rw [mX7_count_b134, r_wordsOf h ha, os1, show k = aW A by omega, if_pos (nI_le (Nat.le_refl _) (by omega))]
  | d + 1, k, hk, n + 1, hn => by
    obtain ⟨-, -, w20, l4⟩ := aok_sz ha
    have ih := r_syls_loop h ha ac tp la p1 d (k + 1) (by omega) n (by omega)
    rw [mX7_count_b134, r_wordsOf h ha, os1, if_neg (nI_ge (by omega) (by omega)), r_syll h ha (by omega), os1, nI_1, zn_add]
    exact ih
theorem c_rows_loop (la : Nat → Int32) : ∀ (d k : Nat), k + d = 8 → ∀ n, d < n → mX6_rowsThere_b4 la n (nI (cnt (fun r => !decide (la r = -1)) k)) (nI k) = some (nI (cnt (fun r => !decide (la r = -1)) 8))
  | _, _, _, 0, hn => absurd hn (by omega)
  | 0, k, hk, n + 1, _ => by
    rw [mX6_rowsThere_b4, show k = 8 by omega, if_pos (by decide)]
  | d + 1, k, hk, n + 1, hn => by
    have ih := c_rows_loop la d (k + 1) (by omega) n (by omega)
    rw [cnt] at ih
    have c1 : ¬ (nI k < 0 ∨ 8 ≤ k) := by simp (disch := omega) only [↓reduceIte, Nat.reduceAdd, Nat.reduceMul, Nat.reduceSub, Nat.zero_add, zn_0, zn_1, zn_2, zn_3, zn_4, zn_5, zn_6, zn_7, zn_8, zn_9, zn_10, zn_16, zn_20, zn_23, zn_24, zn_25, zn_26, zn_40, zn_207, zn_4761, zn_99, zn_130, zn_lt_t, zn_lt_f, zn_le_t, zn_le_f, zn_eq_t, zn_eq_f, zn_ix, zn_cl, zq_le_f, zq_le_t, zq_lt_f, zq_lt_t, zn_add, zn_mul, zn_sub, or_false, false_or, or_self, true_or, or_true, and_true, true_and, and_false, false_and, not_true_eq_false, not_false_eq_true, if_true, if_false, os1, os2, os3, os4, os5, os6, os7, os8, os9, os10, os11, os12, os13, os14, os15, os16, os17, os18, os19, os20, os21, os22, os23, os24]
    have c2 : ¬ (8 : Int32) ≤ nI k := by simp (disch := omega) only [↓reduceIte, Nat.reduceAdd, Nat.reduceMul, Nat.reduceSub, Nat.zero_add, zn_0, zn_1, zn_2, zn_3, zn_4, zn_5, zn_6, zn_7, zn_8, zn_9, zn_10, zn_16, zn_20, zn_23, zn_24, zn_25, zn_26, zn_40, zn_207, zn_4761, zn_99, zn_130, zn_lt_t, zn_lt_f, zn_le_t, zn_le_f, zn_eq_t, zn_eq_f, zn_ix, zn_cl, zq_le_f, zq_le_t, zq_lt_f, zq_lt_t, zn_add, zn_mul, zn_sub, or_false, false_or, or_self, true_or, or_true, and_true, true_and, and_false, false_and, not_true_eq_false, not_false_eq_true, if_true, if_false, os1, os2, os3, os4, os5, os6, os7, os8, os9, os10, os11, os12, os13, os14, os15, os16, os17, os18, os19, os20, os21, os22, os23, os24]
    rw [mX6_rowsThere_b4, zn_cl (by omega), if_neg c2, if_neg c1, if_neg (by omega), miss4, os1, nI_1, nI_1]
    by_cases h : la k = -1
    · rw [if_pos h, if_neg (by decide)]
      simp only [h, decide_true, Bool.not_true, Bool.toNat_false, Nat.add_zero] at ih
      exact ih
    · rw [if_neg h, if_pos rfl]
      simp only [h, decide_false, Bool.not_false, Bool.toNat_true] at ih
      exact ih
theorem r_rows_loop (la ml : Nat → Int32) (hm : ∀ r, r < 8 → ml r = la r ∧ -1 ≤ (la r).toInt) (ac tp : Int32) (p1 : Int32) : ∀ (d k : Nat), k + d = 8 → ∀ n, d < n → mX7_count_b54 ac tp ml row p1 n 0 (nI (cnt (fun r => !decide (la r = -1)) k)) (nI k) = some (nI (cnt (fun r => !decide (la r = -1)) 8), 0)
  | _, _, _, 0, hn => absurd hn (by omega)
  | 0, k, hk, n + 1, _ => by
    rw [mX7_count_b54, show k = 8 by omega, if_pos (by decide)]
  | d + 1, k, hk, n + 1, hn => by
    have ih := r_rows_loop la ml hm ac tp p1 d (k + 1) (by omega) n (by omega)
    rw [cnt] at ih
    obtain ⟨m1, m2⟩ := hm k (by omega)
    have c1 : ¬ (nI k < 0 ∨ 8 ≤ k) := by simp (disch := omega) only [↓reduceIte, Nat.reduceAdd, Nat.reduceMul, Nat.reduceSub, Nat.zero_add, zn_0, zn_1, zn_2, zn_3, zn_4, zn_5, zn_6, zn_7, zn_8, zn_9, zn_10, zn_16, zn_20, zn_23, zn_24, zn_25, zn_26, zn_40, zn_207, zn_4761, zn_99, zn_130, zn_lt_t, zn_lt_f, zn_le_t, zn_le_f, zn_eq_t, zn_eq_f, zn_ix, zn_cl, zq_le_f, zq_le_t, zq_lt_f, zq_lt_t, zn_add, zn_mul, zn_sub, or_false, false_or, or_self, true_or, or_true, and_true, true_and, and_false, false_and, not_true_eq_false, not_false_eq_true, if_true, if_false, os1, os2, os3, os4, os5, os6, os7, os8, os9, os10, os11, os12, os13, os14, os15, os16, os17, os18, os19, os20, os21, os22, os23, os24]
    have c2 : ¬ (8 : Int32) ≤ nI k := by simp (disch := omega) only [↓reduceIte, Nat.reduceAdd, Nat.reduceMul, Nat.reduceSub, Nat.zero_add, zn_0, zn_1, zn_2, zn_3, zn_4, zn_5, zn_6, zn_7, zn_8, zn_9, zn_10, zn_16, zn_20, zn_23, zn_24, zn_25, zn_26, zn_40, zn_207, zn_4761, zn_99, zn_130, zn_lt_t, zn_lt_f, zn_le_t, zn_le_f, zn_eq_t, zn_eq_f, zn_ix, zn_cl, zq_le_f, zq_le_t, zq_lt_f, zq_lt_t, zn_add, zn_mul, zn_sub, or_false, false_or, or_self, true_or, or_true, and_true, true_and, and_false, false_and, not_true_eq_false, not_false_eq_true, if_true, if_false, os1, os2, os3, os4, os5, os6, os7, os8, os9, os10, os11, os12, os13, os14, os15, os16, os17, os18, os19, os20, os21, os22, os23, os24]
    rw [mX7_count_b54, zn_cl (by omega), if_neg c2, if_neg c1, m1, nI_1, nI_1, Int32.add_zero]
    have e9 : (-1 : Int32).toInt = -1 := rfl
    have e0 : (0 : Int32).toInt = 0 := rfl
    by_cases h : la k = -1
    · rw [if_pos (by rw [h]; decide)]
      simp only [h, decide_true, Bool.not_true, Bool.toNat_false, Nat.add_zero] at ih
      exact ih
    · rw [if_neg (by rw [i32_lt]; rw [i32_eq] at h; omega)]
      simp only [h, decide_false, Bool.not_false, Bool.toNat_true] at ih
      exact ih
end
theorem st30 : Step30 RelW := by
  intro x_begun x_latestFault x_latestFinding rd_length rd_tape v_foot v_feet v_lines v_words v_sizes v_kinds v_spelled d_spelled i0_foot i0_feet i0_lines i0_words i0_sizes i0_kinds i0_spelled i1_foot i1_feet i1_lines i1_words i1_sizes i1_kinds i1_spelled ac_next ac_kept ac_sorts ac_firsts ac_seconds ac_takenKinds ac_takenSpellings x_bodies m_thrown m_status m_acts m_taped m_latest m_traced m_lane m_many m_item m_poem m_was m_tape m_isKept m_kept m_trace x_lane x_rsz x_item L la sa ln sy sn lt st a1 hR
  obtain ⟨hF, hG, hT, hW, hC, hZ⟩ := hR
  have hZ0 := hZ
  obtain ⟨hP, hD, hI0, hI1, A, ha, hpc, hpr, hA⟩ := hZ
  have hpc0 := hpc
  obtain ⟨p1, p2, p3, p4, hz, hc, hsp⟩ := hpc
  subst p1 p2 p3 p4
  replace hz : CZ A v_sizes := hz
  replace hc : CW A v_kinds v_spelled := hc
  obtain ⟨-, -, w20, l4⟩ := aok_sz ha
  obtain ⟨htx, htm, htt⟩ := hT
  have hT0 : RTape rd_length m_taped rd_tape m_tape := ⟨htx, htm, htt⟩
  obtain ⟨hts, ap, hs, ap1, ap2, ap3, ap4, ap5, ap6, ap7⟩ := hA
  by_cases e0 : a1 = 0
  · subst e0
    refine ⟨nI (cnt (fun r => !decide (x_lane r = -1)) 8), 0, ?_, ?_, hF, hG, hT0, hW, hC, hZ0⟩
    · unfold mX6_count mX6_count_b0 mX6_rowsThere mX6_rowsThere_b0
      have := c_rows_loop x_lane 8 0 (by omega) FU (zn_fu (by omega))
      rw [if_pos rfl]
      show ob1 (mX6_rowsThere_b4 x_lane FU (nI (cnt (fun r => !decide (x_lane r = -1)) 0)) (nI 0)) _ = _
      rw [this, os1]
    · unfold mX7_count mX7_count_b0
      rw [if_pos rfl]
      exact r_rows_loop x_lane m_lane (fun r hr => ⟨(hW r hr).1, (hW r hr).2.2.1.1⟩) _ _ _ 8 0 (by omega) FU (zn_fu (by omega))
  by_cases e1 : a1 = 1
  · subst e1
    refine ⟨nI (aW A), 0, rfl, ?_, hF, hG, hT0, hW, hC, hZ0⟩
    unfold mX7_count mX7_count_b0
    rw [if_neg e0, if_pos rfl, r_wordsOf hpr ha, os1]
  by_cases e2 : a1 = 2
  · subst e2
    refine ⟨nI (aL A), 0, rfl, ?_, hF, hG, hT0, hW, hC, hZ0⟩
    unfold mX7_count mX7_count_b0
    rw [if_neg e0, if_neg e1, if_pos rfl, show m_poem (0 : Int32).toNatClampNeg = nI (aL A) from hpr.1]
  by_cases e3 : a1 = 3
  · subst e3
    refine ⟨nI (sumN (aN ln A) (aW A)), 0, ?_, ?_, hF, hG, hT0, hW, hC, hZ0⟩
    · unfold mX6_count mX6_count_b0 mX2_allLetters mX2_allLetters_b0
      have := c_letters_loop ha hc (aW A) 0 (by omega) FU (zn_fu (by omega))
      rw [if_neg e0, if_neg e1, if_neg e2, if_pos rfl]
      show ob1 (mX2_allLetters_b4 L ln (nI (aW A)) v_spelled FU (nI (sumN (aN ln A) 0)) (nI 0)) _ = _
      rw [this, os1]
    · unfold mX7_count mX7_count_b0
      rw [if_neg e0, if_neg e1, if_neg e2, if_pos rfl]
      exact r_letters_loop hpr ha _ _ _ _ (aW A) 0 (by omega) FU (zn_fu (by omega))
  by_cases e4 : a1 = 4
  · subst e4
    refine ⟨nI (sumN (aSy ln lt A) (aW A)), 0, ?_, ?_, hF, hG, hT0, hW, hC, hZ0⟩
    · unfold mX6_count mX6_count_b0 mX2_allSyllables mX2_allSyllables_b0
      have := c_syls_loop hP ha hc (aW A) 0 (by omega) FU (zn_fu (by omega))
      rw [if_neg e0, if_neg e1, if_neg e2, if_neg e3, if_pos rfl]
      show ob1 (mX2_allSyllables_b4 L sy (nI (aW A)) v_spelled FU (nI (sumN (aSy ln lt A) 0)) (nI 0)) _ = _
      rw [this, os1]
    · unfold mX7_count mX7_count_b0
      rw [if_neg e0, if_neg e1, if_neg e2, if_neg e3, if_pos rfl]
      exact r_syls_loop hpr ha _ _ _ _ (aW A) 0 (by omega) FU (zn_fu (by omega))
  by_cases e5 : a1 = 5
  · subst e5
    refine ⟨ac_kept, 0, rfl, ?_, hF, hG, hT0, hW, hC, hZ0⟩
    unfold mX7_count mX7_count_b0
    rw [if_neg e0, if_neg e1, if_neg e2, if_neg e3, if_neg e4, if_pos rfl, ap4, ap5]
  by_cases e6 : a1 = 6
  · subst e6
    refine ⟨rd_length, 0, rfl, ?_, hF, hG, hT0, hW, hC, hZ0⟩
    unfold mX7_count mX7_count_b0
    rw [if_neg e0, if_neg e1, if_neg e2, if_neg e3, if_neg e4, if_neg e5, if_pos rfl, htm]
  refine ⟨-1000001, 0, ?_, ?_, hF, hG, hT0, hW, hC, hZ0⟩
  · unfold mX6_count mX6_count_b0
    rw [if_neg e0, if_neg e1, if_neg e2, if_neg e3, if_neg e4, if_neg e5, if_neg e6]
  · unfold mX7_count mX7_count_b0
    rw [if_neg e0, if_neg e1, if_neg e2, if_neg e3, if_neg e4, if_neg e5, if_neg e6]
