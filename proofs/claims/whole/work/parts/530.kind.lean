-- uses: 501.auto 502.abs 503.line 504.word 507.tail 509.lines
/-! kind, as -/
theorem st26 : Step26 RelW := by
  intro x_begun x_latestFault x_latestFinding rd_length rd_tape v_foot v_feet v_lines v_words v_sizes v_kinds v_spelled d_spelled i0_foot i0_feet i0_lines i0_words i0_sizes i0_kinds i0_spelled i1_foot i1_feet i1_lines i1_words i1_sizes i1_kinds i1_spelled ac_next ac_kept ac_sorts ac_firsts ac_seconds ac_takenKinds ac_takenSpellings x_bodies m_thrown m_status m_acts m_taped m_latest m_traced m_lane m_many m_item m_poem m_was m_tape m_isKept m_kept m_trace x_lane x_rsz x_item L la sa ln sy sn lt st a1 hR
  obtain ⟨hF, hG, hT, hW, hC, hZ⟩ := hR
  have hZ0 := hZ
  obtain ⟨hP, hD, hI0, hI1, A, ha, hpc, hpr, hA⟩ := hZ
  have hpc0 := hpc
  obtain ⟨p1, p2, p3, p4, hz, hc, hsp⟩ := hpc
  subst p1 p2 p3 p4
  replace hz : CZ A v_sizes := hz
  replace hc : CW A v_kinds v_spelled := hc
  obtain ⟨-, -, w20, l4⟩ := aok_sz ha
  rcases rng a1 (aW A) (by omega) with ⟨w, hw, rfl⟩ | hn
  · refine ⟨nI (aKd A w), 0, ?_, ?_, hF, hG, hT, hW, hC, hZ0⟩
    · unfold mX6_kind mX6_kind_b0
      rw [c_hw_t hw (by omega), os1, if_neg (by decide), zn_cl (by omega), if_neg (by simp (disch := omega) only [↓reduceIte, Nat.reduceAdd, Nat.reduceMul, Nat.reduceSub, Nat.zero_add, zn_0, zn_1, zn_2, zn_3, zn_4, zn_5, zn_6, zn_7, zn_8, zn_9, zn_10, zn_16, zn_20, zn_23, zn_24, zn_25, zn_26, zn_40, zn_207, zn_4761, zn_99, zn_130, zn_lt_t, zn_lt_f, zn_le_t, zn_le_f, zn_eq_t, zn_eq_f, zn_ix, zn_cl, zq_le_f, zq_le_t, zq_lt_f, zq_lt_t, zn_add, zn_mul, zn_sub, or_false, false_or, or_self, true_or, or_true, and_true, true_and, and_false, false_and, not_true_eq_false, not_false_eq_true, if_true, if_false, os1, os2, os3, os4, os5, os6, os7, os8, os9, os10, os11, os12, os13, os14, os15, os16, os17, os18, os19, os20, os21, os22, os23, os24]), (hc w hw).1]
    · unfold mX7_kind mX7_kind_b0
      rw [r_iw_t hpr ha hw, os1, if_neg (by decide), r_kindOf hpr ha hw]
      rfl
  · refine ⟨-1000001, 0, ?_, ?_, hF, hG, hT, hW, hC, hZ0⟩
    · unfold mX6_kind mX6_kind_b0
      rw [c_hw_f hn (by omega)]; rfl
    · unfold mX7_kind mX7_kind_b0
      rw [r_iw_f hpr ha hn]; rfl
theorem also_of {k v : Nat} (hk : 1 ≤ k ∧ k ≤ 5) (hv : v < 6) : ∃ b : Bool, mX6_isAlso (nI k) (nI v) = some (b2i b) ∧ mX7_isOf (nI k) (nI v) = some (b2i b) := by
  obtain ⟨N, hN⟩ := FU_e
  have t : ∀ j, j < 6 → sT4 j = if j = 0 then -1 else if j = 1 then nI 0 else if j = 2 then nI 1 else if j = 3 then nI 1 else if j = 4 then nI 0 else nI 4 := by decide
  have key : ∀ k, k < 6 → ∀ v, v < 6 → 1 ≤ k → mX6_isAlso_b4 (nI k) (nI v) 64 (nI k) 0 = mX7_isOf (nI k) (nI v) ∧ (mX7_isOf (nI k) (nI v) = some 0 ∨ mX7_isOf (nI k) (nI v) = some 1) := by decide
  have mono : ∀ (m : Nat) (p1 p2 x2 x3 : Int32) (r : Int32), mX6_isAlso_b4 p1 p2 m x2 x3 = some r → ∀ n, mX6_isAlso_b4 p1 p2 (n + m) x2 x3 = some r := by
    intro m
    induction m with
    | zero => intro p1 p2 x2 x3 r h; simp [mX6_isAlso_b4] at h
    | succ m ih =>
      intro p1 p2 x2 x3 r h n
      rw [← Nat.add_assoc]
      rw [mX6_isAlso_b4] at h ⊢
      split at h
      · rename_i q; rw [if_pos q]; exact h
      · rename_i q; rw [if_neg q]
        split at h
        · rename_i q; rw [if_pos q]; exact h
        · rename_i q; rw [if_neg q]
          split at h
          · rename_i q; rw [if_pos q]; exact h
          · rename_i q; rw [if_neg q]
            split at h
            · rename_i q; rw [if_pos q]; exact h
            · rename_i q; rw [if_neg q]
              split at h
              · rename_i q; rw [if_pos q]; exact h
              · rename_i q; rw [if_neg q]; exact ih _ _ _ _ _ h n
  obtain ⟨k1, k2⟩ := key k (by omega) v hv hk.1
  unfold mX6_isAlso mX6_isAlso_b0
  rw [hN]
  rcases k2 with e | e
  · exact ⟨false, mono _ _ _ _ _ _ (k1.trans e) N, e⟩
  · exact ⟨true, mono _ _ _ _ _ _ (k1.trans e) N, e⟩
theorem st27 : Step27 RelW := by
  intro x_begun x_latestFault x_latestFinding rd_length rd_tape v_foot v_feet v_lines v_words v_sizes v_kinds v_spelled d_spelled i0_foot i0_feet i0_lines i0_words i0_sizes i0_kinds i0_spelled i1_foot i1_feet i1_lines i1_words i1_sizes i1_kinds i1_spelled ac_next ac_kept ac_sorts ac_firsts ac_seconds ac_takenKinds ac_takenSpellings x_bodies m_thrown m_status m_acts m_taped m_latest m_traced m_lane m_many m_item m_poem m_was m_tape m_isKept m_kept m_trace x_lane x_rsz x_item L la sa ln sy sn lt st a1 a2 hR
  obtain ⟨hF, hG, hT, hW, hC, hZ⟩ := hR
  have hZ0 := hZ
  obtain ⟨hP, hD, hI0, hI1, A, ha, hpc, hpr, hA⟩ := hZ
  have hpc0 := hpc
  obtain ⟨p1, p2, p3, p4, hz, hc, hsp⟩ := hpc
  subst p1 p2 p3 p4
  replace hz : CZ A v_sizes := hz
  replace hc : CW A v_kinds v_spelled := hc
  obtain ⟨-, -, w20, l4⟩ := aok_sz ha
  rcases rng a1 (aW A) (by omega) with ⟨w, hw, rfl⟩ | hn
  · obtain ⟨-, -, -, hk, -, -⟩ := aok_w ha hw
    have hin := in_i a2 0 5
    rw [show (0 : Int64).toInt = 0 from rfl, show (5 : Int64).toInt = 5 from rfl] at hin
    rcases rng a2 6 (by omega) with ⟨v, hv, rfl⟩ | hv
    · rw [nI_toInt (by omega), if_pos (by omega)] at hin
      obtain ⟨b, hb6, hb7⟩ := also_of hk hv
      have c1 : ¬ nI v < 0 := by simp (disch := omega) only [↓reduceIte, Nat.reduceAdd, Nat.reduceMul, Nat.reduceSub, Nat.zero_add, zn_0, zn_1, zn_2, zn_3, zn_4, zn_5, zn_6, zn_7, zn_8, zn_9, zn_10, zn_16, zn_20, zn_23, zn_24, zn_25, zn_26, zn_40, zn_207, zn_4761, zn_99, zn_130, zn_lt_t, zn_lt_f, zn_le_t, zn_le_f, zn_eq_t, zn_eq_f, zn_ix, zn_cl, zq_le_f, zq_le_t, zq_lt_f, zq_lt_t, zn_add, zn_mul, zn_sub, or_false, false_or, or_self, true_or, or_true, and_true, true_and, and_false, false_and, not_true_eq_false, not_false_eq_true, if_true, if_false, os1, os2, os3, os4, os5, os6, os7, os8, os9, os10, os11, os12, os13, os14, os15, os16, os17, os18, os19, os20, os21, os22, os23, os24]
      have c2 : nI v ≤ 5 := by simp (disch := omega) only [↓reduceIte, Nat.reduceAdd, Nat.reduceMul, Nat.reduceSub, Nat.zero_add, zn_0, zn_1, zn_2, zn_3, zn_4, zn_5, zn_6, zn_7, zn_8, zn_9, zn_10, zn_16, zn_20, zn_23, zn_24, zn_25, zn_26, zn_40, zn_207, zn_4761, zn_99, zn_130, zn_lt_t, zn_lt_f, zn_le_t, zn_le_f, zn_eq_t, zn_eq_f, zn_ix, zn_cl, zq_le_f, zq_le_t, zq_lt_f, zq_lt_t, zn_add, zn_mul, zn_sub, or_false, false_or, or_self, true_or, or_true, and_true, true_and, and_false, false_and, not_true_eq_false, not_false_eq_true, if_true, if_false, os1, os2, os3, os4, os5, os6, os7, os8, os9, os10, os11, os12, os13, os14, os15, os16, os17, os18, os19, os20, os21, os22, os23, os24]
      cases b
      · refine ⟨-1000010 - 3, 3, 0, 3, ?_, ?_, rfl, hG, hT, hW, hC, hZ0⟩
        · unfold mX6_as mX6_as_b0
          rw [c_hw_t hw (by omega), os1, if_neg (by decide), if_neg c1, if_pos c2, zn_cl (by omega), if_neg (by simp (disch := omega) only [↓reduceIte, Nat.reduceAdd, Nat.reduceMul, Nat.reduceSub, Nat.zero_add, zn_0, zn_1, zn_2, zn_3, zn_4, zn_5, zn_6, zn_7, zn_8, zn_9, zn_10, zn_16, zn_20, zn_23, zn_24, zn_25, zn_26, zn_40, zn_207, zn_4761, zn_99, zn_130, zn_lt_t, zn_lt_f, zn_le_t, zn_le_f, zn_eq_t, zn_eq_f, zn_ix, zn_cl, zq_le_f, zq_le_t, zq_lt_f, zq_lt_t, zn_add, zn_mul, zn_sub, or_false, false_or, or_self, true_or, or_true, and_true, true_and, and_false, false_and, not_true_eq_false, not_false_eq_true, if_true, if_false, os1, os2, os3, os4, os5, os6, os7, os8, os9, os10, os11, os12, os13, os14, os15, os16, os17, os18, os19, os20, os21, os22, os23, os24]), (hc w hw).1, hb6]
          rfl
        · unfold mX7_as mX7_as_b0
          rw [r_iw_t hpr ha hw, os1, if_neg (by decide), hin, os1, if_neg (by decide), r_kindOf hpr ha hw, os1, hb7]
          rfl
      · refine ⟨nI w, 0, 0, 0, ?_, ?_, rfl, hG, hT, hW, hC, hZ0⟩
        · unfold mX6_as mX6_as_b0
          rw [c_hw_t hw (by omega), os1, if_neg (by decide), if_neg c1, if_pos c2, zn_cl (by omega), if_neg (by simp (disch := omega) only [↓reduceIte, Nat.reduceAdd, Nat.reduceMul, Nat.reduceSub, Nat.zero_add, zn_0, zn_1, zn_2, zn_3, zn_4, zn_5, zn_6, zn_7, zn_8, zn_9, zn_10, zn_16, zn_20, zn_23, zn_24, zn_25, zn_26, zn_40, zn_207, zn_4761, zn_99, zn_130, zn_lt_t, zn_lt_f, zn_le_t, zn_le_f, zn_eq_t, zn_eq_f, zn_ix, zn_cl, zq_le_f, zq_le_t, zq_lt_f, zq_lt_t, zn_add, zn_mul, zn_sub, or_false, false_or, or_self, true_or, or_true, and_true, true_and, and_false, false_and, not_true_eq_false, not_false_eq_true, if_true, if_false, os1, os2, os3, os4, os5, os6, os7, os8, os9, os10, os11, os12, os13, os14, os15, os16, os17, os18, os19, os20, os21, os22, os23, os24]), (hc w hw).1, hb6]
          rfl
        · unfold mX7_as mX7_as_b0
          rw [r_iw_t hpr ha hw, os1, if_neg (by decide), hin, os1, if_neg (by decide), r_kindOf hpr ha hw, os1, hb7]
          rfl
    · rw [if_neg (by omega)] at hin
      refine ⟨-1000001, x_latestFinding, 0, m_status, ?_, ?_, hF, hG, hT, hW, hC, hZ0⟩
      · unfold mX6_as mX6_as_b0
        rw [c_hw_t hw (by omega), os1, if_neg (by decide)]
        by_cases c1 : a2 < 0
        · rw [if_pos c1]
        · rw [if_neg c1, if_neg]
          rw [i32_lt] at c1; rw [i32_le]
          have e0 : (0 : Int32).toInt = 0 := rfl
          have e5 : (5 : Int32).toInt = 5 := rfl
          omega
      · unfold mX7_as mX7_as_b0
        rw [r_iw_t hpr ha hw, os1, if_neg (by decide), hin]
        rfl
  · refine ⟨-1000001, x_latestFinding, 0, m_status, ?_, ?_, hF, hG, hT, hW, hC, hZ0⟩
    · unfold mX6_as mX6_as_b0
      rw [c_hw_f hn (by omega)]; rfl
    · unfold mX7_as mX7_as_b0
      rw [r_iw_f hpr ha hn]; rfl
