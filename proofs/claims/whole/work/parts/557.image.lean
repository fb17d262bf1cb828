-- uses: 553.draft
/-! image, restore -/
section
variable {L : List Nat} {ln sy sn : Nat → Int32} {lt st : Nat → Nat → Int32} {A : AP} {row : Nat → Int32} {kinds sizes : Nat → Int32} {spelled : Nat → Nat}
theorem RImg_congr {f e li w is : Int32} {row' : Nat → Int32} (h : RImg L ln lt f e li w sizes kinds spelled is row) (he : ∀ j, j < 207 → row' j = row j) : RImg L ln lt f e li w sizes kinds spelled is row' := by
  obtain ⟨h1, h2 | ⟨h2, A, h3, h4, h5, h6⟩⟩ := h
  · exact ⟨h1, Or.inl h2⟩
  · exact ⟨h1, Or.inr ⟨h2, A, h3, h4, h5, PR_congr h6 h3 he⟩⟩
theorem r_img_loop {k : Nat} (hk : k < 2) (is : Nat → Int32) (kp0 : Nat → Int32) : ∀ (d j : Nat) (kp : Nat → Int32), j + d = 207 → (∀ i, i < j → kp (207 * k + i) = row i) → (∀ x, (x < 207 * k ∨ 207 * k + 207 ≤ x) → kp x = kp0 x) → ∀ n, d < n → ∃ kp', mX7_image_b31 row (nI k) n 0 is kp (nI j) = some (1, 0, upd is k 1, kp') ∧ (∀ i, i < 207 → kp' (207 * k + i) = row i) ∧ ∀ x, (x < 207 * k ∨ 207 * k + 207 ≤ x) → kp' x = kp0 x
  | _, _, _, _, _, _, 0, hn => absurd hn (by omega)
  | 0, j, kp, hj, h1, h2, n + 1, _ => by
    have q : j = 207 := by omega
    subst q
    have c1 : ¬ (nI k < 0 ∨ 2 ≤ k) := by simp (disch := omega) only [↓reduceIte, Nat.reduceAdd, Nat.reduceMul, Nat.reduceSub, Nat.zero_add, zn_0, zn_1, zn_2, zn_3, zn_4, zn_5, zn_6, zn_7, zn_8, zn_9, zn_10, zn_16, zn_20, zn_23, zn_24, zn_25, zn_26, zn_40, zn_207, zn_4761, zn_99, zn_130, zn_lt_t, zn_lt_f, zn_le_t, zn_le_f, zn_eq_t, zn_eq_f, zn_ix, zn_cl, zq_le_f, zq_le_t, zq_lt_f, zq_lt_t, zn_add, zn_mul, zn_sub, or_false, false_or, or_self, true_or, or_true, and_true, true_and, and_false, false_and, not_true_eq_false, not_false_eq_true, if_true, if_false, os1, os2, os3, os4, os5, os6, os7, os8, os9, os10, os11, os12, os13, os14, os15, os16, os17, os18, os19, os20, os21, os22, os23, os24]
    refine ⟨kp, ?_, h1, h2⟩
    rw [mX7_image_b31, if_pos (by decide), zn_cl (by omega), if_neg c1]
    rfl
  | d + 1, j, kp, hj, h1, h2, n + 1, hn => by
    have c1 : ¬ (207 : Int32) ≤ nI j := nI_ge (b := 207) (by omega) (by omega)
    have c2 : ¬ (nI j < 0 ∨ 207 ≤ j) := by simp (disch := omega) only [↓reduceIte, Nat.reduceAdd, Nat.reduceMul, Nat.reduceSub, Nat.zero_add, zn_0, zn_1, zn_2, zn_3, zn_4, zn_5, zn_6, zn_7, zn_8, zn_9, zn_10, zn_16, zn_20, zn_23, zn_24, zn_25, zn_26, zn_40, zn_207, zn_4761, zn_99, zn_130, zn_lt_t, zn_lt_f, zn_le_t, zn_le_f, zn_eq_t, zn_eq_f, zn_ix, zn_cl, zq_le_f, zq_le_t, zq_lt_f, zq_lt_t, zn_add, zn_mul, zn_sub, or_false, false_or, or_self, true_or, or_true, and_true, true_and, and_false, false_and, not_true_eq_false, not_false_eq_true, if_true, if_false, os1, os2, os3, os4, os5, os6, os7, os8, os9, os10, os11, os12, os13, os14, os15, os16, os17, os18, os19, os20, os21, os22, os23, os24]
    have e7 : (207 : Int32) * nI k + nI j = nI (207 * k + j) := by rw [zn_207, zn_mul, zn_add]
    have c3 : ¬ (nI (207 * k + j) < 0 ∨ 414 ≤ 207 * k + j) := by simp (disch := omega) only [↓reduceIte, Nat.reduceAdd, Nat.reduceMul, Nat.reduceSub, Nat.zero_add, zn_0, zn_1, zn_2, zn_3, zn_4, zn_5, zn_6, zn_7, zn_8, zn_9, zn_10, zn_16, zn_20, zn_23, zn_24, zn_25, zn_26, zn_40, zn_207, zn_4761, zn_99, zn_130, zn_lt_t, zn_lt_f, zn_le_t, zn_le_f, zn_eq_t, zn_eq_f, zn_ix, zn_cl, zq_le_f, zq_le_t, zq_lt_f, zq_lt_t, zn_add, zn_mul, zn_sub, or_false, false_or, or_self, true_or, or_true, and_true, true_and, and_false, false_and, not_true_eq_false, not_false_eq_true, if_true, if_false, os1, os2, os3, os4, os5, os6, os7, os8, os9, os10, os11, os12, os13, os14, os15, os16, os17, os18, os19, os20, os21, os22, os23, os24]
    rw [mX7_image_b31, if_neg c1, e7, zn_cl (by omega), if_neg c2, zn_cl (by omega), if_neg c3, nI_1]
    apply r_img_loop hk is kp0 d (j + 1) _ (by omega) ?_ ?_ n (by omega)
    · intro i hi
      rw [zn_up]
      by_cases q : i = j
      · rw [if_pos (by omega), q]
      · rw [if_neg (by omega)]; exact h1 i (by omega)
    · intro x hx
      rw [zn_up, if_neg (by omega)]; exact h2 x hx
theorem r_res_loop {k : Nat} (hk : k < 2) (is kp : Nat → Int32) (ac : Int32) : ∀ (d j : Nat) (po : Nat → Int32), j + d = 207 → (∀ i, i < j → po i = kp (207 * k + i)) → ∀ n, d < n → ∃ po', mX7_restore_b33 is kp (nI k) n 0 ac po (nI j) = some (1, 0, 0, po') ∧ ∀ i, i < 207 → po' i = kp (207 * k + i)
  | _, _, _, _, _, 0, hn => absurd hn (by omega)
  | 0, j, po, hj, h1, n + 1, _ => by
    have q : j = 207 := by omega
    subst q
    exact ⟨po, by rw [mX7_restore_b33, if_pos (by decide)], h1⟩
  | d + 1, j, po, hj, h1, n + 1, hn => by
    have c1 : ¬ (207 : Int32) ≤ nI j := nI_ge (b := 207) (by omega) (by omega)
    have c2 : ¬ (nI j < 0 ∨ 207 ≤ j) := by simp (disch := omega) only [↓reduceIte, Nat.reduceAdd, Nat.reduceMul, Nat.reduceSub, Nat.zero_add, zn_0, zn_1, zn_2, zn_3, zn_4, zn_5, zn_6, zn_7, zn_8, zn_9, zn_10, zn_16, zn_20, zn_23, zn_24, zn_25, zn_26, zn_40, zn_207, zn_4761, zn_99, zn_130, zn_lt_t, zn_lt_f, zn_le_t, zn_le_f, zn_eq_t, zn_eq_f, zn_ix, zn_cl, zq_le_f, zq_le_t, zq_lt_f, zq_lt_t, zn_add, zn_mul, zn_sub, or_false, false_or, or_self, true_or, or_true, and_true, true_and, and_false, false_and, not_true_eq_false, not_false_eq_true, if_true, if_false, os1, os2, os3, os4, os5, os6, os7, os8, os9, os10, os11, os12, os13, os14, os15, os16, os17, os18, os19, os20, os21, os22, os23, os24]
    have e7 : (207 : Int32) * nI k + nI j = nI (207 * k + j) := by rw [zn_207, zn_mul, zn_add]
    have c3 : ¬ (nI (207 * k + j) < 0 ∨ 414 ≤ 207 * k + j) := by simp (disch := omega) only [↓reduceIte, Nat.reduceAdd, Nat.reduceMul, Nat.reduceSub, Nat.zero_add, zn_0, zn_1, zn_2, zn_3, zn_4, zn_5, zn_6, zn_7, zn_8, zn_9, zn_10, zn_16, zn_20, zn_23, zn_24, zn_25, zn_26, zn_40, zn_207, zn_4761, zn_99, zn_130, zn_lt_t, zn_lt_f, zn_le_t, zn_le_f, zn_eq_t, zn_eq_f, zn_ix, zn_cl, zq_le_f, zq_le_t, zq_lt_f, zq_lt_t, zn_add, zn_mul, zn_sub, or_false, false_or, or_self, true_or, or_true, and_true, true_and, and_false, false_and, not_true_eq_false, not_false_eq_true, if_true, if_false, os1, os2, os3, os4, os5, os6, os7, os8, os9, os10, os11, os12, os13, os14, os15, os16, os17, os18, os19, os20, os21, os22, os23, os24]
    rw [mX7_restore_b33, if_neg c1, e7, zn_cl (by omega), if_neg c3, zn_cl (by omega), if_neg c2, nI_1]
    apply r_res_loop hk is kp ac d (j + 1) _ (by omega) ?_ n (by omega)
    intro i hi
    rw [zn_up]
    by_cases q : i = j
    · rw [if_pos q, q]
    · rw [if_neg q]; exact h1 i (by omega)
end
theorem st24 : Step24 RelW := by
  intro x_begun x_latestFault x_latestFinding rd_length rd_tape v_foot v_feet v_lines v_words v_sizes v_kinds v_spelled d_spelled i0_foot i0_feet i0_lines i0_words i0_sizes i0_kinds i0_spelled i1_foot i1_feet i1_lines i1_words i1_sizes i1_kinds i1_spelled ac_next ac_kept ac_sorts ac_firsts ac_seconds ac_takenKinds ac_takenSpellings x_bodies m_thrown m_status m_acts m_taped m_latest m_traced m_lane m_many m_item m_poem m_was m_tape m_isKept m_kept m_trace x_lane x_rsz x_item L la sa ln sy sn lt st a1 hR
  obtain ⟨hF, hG, hT, hW, hC, hZ⟩ := hR
  have hZ0 := hZ
  obtain ⟨hP, hD, hI0, hI1, A, ha, hpc, hpr, hA⟩ := hZ
  have hpc0 := hpc
  obtain ⟨p1, p2, p3, p4, hz, hc, hsp⟩ := hpc
  subst p1 p2 p3 p4
  replace hz : CZ A v_sizes := hz
  replace hc : CW A v_kinds v_spelled := hc
  obtain ⟨-, -, w20, l4⟩ := aok_sz ha
  have hin := in_i a1 0 1
  rw [show (0 : Int64).toInt = 0 from rfl, show (1 : Int64).toInt = 1 from rfl] at hin
  have e0 : (0 : Int32).toInt = 0 := rfl
  have e2 : (2 : Int32).toInt = 2 := rfl
  have hth := r_there hpr ha
  rcases rng a1 2 (by omega) with ⟨k, hk, rfl⟩ | hn
  · rw [nI_toInt (by omega), if_pos (by omega)] at hin
    have k1 : ¬ nI k < 0 := nI_pos (by omega)
    have k2 : nI k < (2 : Int32) := nI_lt (b := 2) hk (by omega)
    by_cases h0 : aL A = 0
    · rw [if_pos h0] at hth
      refine ⟨-1000002, i0_foot, i0_feet, i0_lines, i0_words, i0_sizes, i0_kinds, i0_spelled, i1_foot, i1_feet, i1_lines, i1_words, i1_sizes, i1_kinds, i1_spelled, 0, m_isKept, m_kept, ?_, ?_, hF, hG, hT, hW, hC, hZ0⟩
      · unfold mX6_image mX6_image_b0
        rw [if_neg k1, if_pos k2, h0, if_pos (by rfl)]
      · unfold mX7_image mX7_image_b0
        rw [hin, os1, if_neg (by decide), hth]
        rfl
    · rw [if_neg h0] at hth
      have k0 : ¬ nI (aL A) = 0 := nI_ne0 (by omega) (by omega)
      obtain ⟨kp', q1, q2, q3⟩ := r_img_loop (row := m_poem) hk m_isKept m_kept 207 0 m_kept (Nat.zero_add 207) (fun i hi => absurd hi (Nat.not_lt_zero i)) (fun x _ => rfl) FU (zn_fu (by omega))
      have hm : mX7_image m_poem m_thrown m_isKept m_kept (nI k) = some (1, 0, upd m_isKept k 1, kp') := by
        unfold mX7_image mX7_image_b0
        rw [hin, os1, if_neg (by decide), hth, os1, if_neg (by decide)]
        exact q1
      have hkc : k = 0 ∨ k = 1 := by omega
      rcases hkc with rfl | rfl
      · obtain ⟨z', kd', sp', b1, b2, b3⟩ := c_becomeAs (sizes := v_sizes) (kinds := v_kinds) hsp (nI A.1) (nI A.2.1) (nI (aL A)) (nI (aW A)) i0_foot i0_feet i0_lines i0_words i0_sizes i0_kinds i0_spelled
        have hpc' := PC_congr hpc0 ha b2 b3
        refine ⟨1, nI A.1, nI A.2.1, nI (aL A), nI (aW A), z', kd', sp', i1_foot, i1_feet, i1_lines, i1_words, i1_sizes, i1_kinds, i1_spelled, 0, upd m_isKept 0 1, kp', ?_, hm, hF, hG, hT, hW, hC, hP, hD, ?_, ?_, A, ha, hpc0, hpr, hA⟩
        · unfold mX6_image mX6_image_b0
          rw [if_neg k1, if_pos k2, if_neg k0, if_pos (by rfl), b1, os7]
        · refine ⟨hpc'.2.2.2.2.2.2, Or.inr ⟨rfl, A, ha, by omega, hpc', PR_congr hpr ha (fun j hj => ?_)⟩⟩
          have := q2 j hj
          rw [show 207 * 0 + j = j by omega] at this
          exact this
        · refine RImg_congr (row := fun i => m_kept (207 + i)) ?_ (fun j hj => q3 _ (by omega))
          exact hI1
      · obtain ⟨z', kd', sp', b1, b2, b3⟩ := c_becomeAs (sizes := v_sizes) (kinds := v_kinds) hsp (nI A.1) (nI A.2.1) (nI (aL A)) (nI (aW A)) i1_foot i1_feet i1_lines i1_words i1_sizes i1_kinds i1_spelled
        have hpc' := PC_congr hpc0 ha b2 b3
        refine ⟨1, i0_foot, i0_feet, i0_lines, i0_words, i0_sizes, i0_kinds, i0_spelled, nI A.1, nI A.2.1, nI (aL A), nI (aW A), z', kd', sp', 0, upd m_isKept 1 1, kp', ?_, hm, hF, hG, hT, hW, hC, hP, hD, ?_, ?_, A, ha, hpc0, hpr, hA⟩
        · unfold mX6_image mX6_image_b0
          rw [if_neg k1, if_pos k2, if_neg k0, if_neg (by decide), if_pos (by rfl), b1, os7]
        · refine RImg_congr (row := fun i => m_kept i) ?_ (fun j hj => q3 _ (by omega))
          exact hI0
        · refine ⟨hpc'.2.2.2.2.2.2, Or.inr ⟨rfl, A, ha, by omega, hpc', PR_congr hpr ha (fun j hj => ?_)⟩⟩
          have := q2 j hj
          rw [show 207 * 1 + j = 207 + j by omega] at this
          exact this
  · rw [if_neg (by omega)] at hin
    refine ⟨-1000001, i0_foot, i0_feet, i0_lines, i0_words, i0_sizes, i0_kinds, i0_spelled, i1_foot, i1_feet, i1_lines, i1_words, i1_sizes, i1_kinds, i1_spelled, 0, m_isKept, m_kept, ?_, ?_, hF, hG, hT, hW, hC, hZ0⟩
    · unfold mX6_image mX6_image_b0
      by_cases k1 : a1 < 0
      · rw [if_pos k1]
      · rw [if_neg k1, if_neg (by rw [i32_lt] at k1 ⊢; omega)]
    · unfold mX7_image mX7_image_b0
      rw [hin]
      rfl
theorem st25 : Step25 RelW := by
  intro x_begun x_latestFault x_latestFinding rd_length rd_tape v_foot v_feet v_lines v_words v_sizes v_kinds v_spelled d_spelled i0_foot i0_feet i0_lines i0_words i0_sizes i0_kinds i0_spelled i1_foot i1_feet i1_lines i1_words i1_sizes i1_kinds i1_spelled ac_next ac_kept ac_sorts ac_firsts ac_seconds ac_takenKinds ac_takenSpellings x_bodies m_thrown m_status m_acts m_taped m_latest m_traced m_lane m_many m_item m_poem m_was m_tape m_isKept m_kept m_trace x_lane x_rsz x_item L la sa ln sy sn lt st a1 hR
  obtain ⟨hF, hG, hT, hW, hC, hZ⟩ := hR
  have hZ0 := hZ
  obtain ⟨hP, hD, hI0, hI1, A, ha, hpc, hpr, hA⟩ := hZ
  have hin := in_i a1 0 1
  rw [show (0 : Int64).toInt = 0 from rfl, show (1 : Int64).toInt = 1 from rfl] at hin
  have e0 : (0 : Int32).toInt = 0 := rfl
  have e2 : (2 : Int32).toInt = 2 := rfl
  have hA0 := hA
  obtain ⟨hts, ap, hs, ap1, ap2, ap3, ap4, ap5, ap6, ap7⟩ := hA
  rcases rng a1 2 (by omega) with ⟨k, hk, rfl⟩ | hn
  · rw [nI_toInt (by omega), if_pos (by omega)] at hin
    have k1 : ¬ nI k < 0 := nI_pos (by omega)
    have k2 : nI k < (2 : Int32) := nI_lt (b := 2) hk (by omega)
    have c1 : ¬ (nI k < 0 ∨ 2 ≤ k) := by simp (disch := omega) only [↓reduceIte, Nat.reduceAdd, Nat.reduceMul, Nat.reduceSub, Nat.zero_add, zn_0, zn_1, zn_2, zn_3, zn_4, zn_5, zn_6, zn_7, zn_8, zn_9, zn_10, zn_16, zn_20, zn_23, zn_24, zn_25, zn_26, zn_40, zn_207, zn_4761, zn_99, zn_130, zn_lt_t, zn_lt_f, zn_le_t, zn_le_f, zn_eq_t, zn_eq_f, zn_ix, zn_cl, zq_le_f, zq_le_t, zq_lt_f, zq_lt_t, zn_add, zn_mul, zn_sub, or_false, false_or, or_self, true_or, or_true, and_true, true_and, and_false, false_and, not_true_eq_false, not_false_eq_true, if_true, if_false, os1, os2, os3, os4, os5, os6, os7, os8, os9, os10, os11, os12, os13, os14, os15, os16, os17, os18, os19, os20, os21, os22, os23, os24]
    obtain ⟨po', q1, q2⟩ := r_res_loop hk m_isKept m_kept m_acts 207 0 m_poem (Nat.zero_add 207) (fun i hi => absurd hi (Nat.not_lt_zero i)) FU (zn_fu (by omega))
    have hkc : k = 0 ∨ k = 1 := by omega
    rcases hkc with rfl | rfl
    · obtain ⟨i1, ⟨i2, i3⟩ | ⟨i2, B, i3, i4, i5, i6⟩⟩ := hI0
      · refine ⟨-1000002, v_foot, v_feet, v_lines, v_words, v_sizes, v_kinds, v_spelled, ac_kept, 0, m_acts, m_poem, ?_, ?_, hF, hG, hT, hW, hC, hZ0⟩
        · unfold mX6_restore mX6_restore_b0
          rw [if_neg k1, if_pos k2, if_pos (by rfl), i3, if_pos rfl]
        · unfold mX7_restore mX7_restore_b0
          rw [hin, os1, if_neg (by decide), zn_cl (by omega), if_neg c1, i2, if_pos rfl]
      · obtain ⟨-, -, w20, l4⟩ := aok_sz i3
        obtain ⟨z', kd', sp', b1, b2, b3⟩ := c_becomeAs (sizes := i0_sizes) (kinds := i0_kinds) i1 i0_foot i0_feet i0_lines i0_words v_foot v_feet v_lines v_words v_sizes v_kinds v_spelled
        have hl : i0_lines = nI (aL B) := i5.2.2.1
        refine ⟨1, i0_foot, i0_feet, i0_lines, i0_words, z', kd', sp', 0, 0, 0, po', ?_, ?_, hF, hG, hT, hW, hC, hP, hD, ⟨i1, Or.inr ⟨i2, B, i3, i4, i5, i6⟩⟩, hI1, B, i3, PC_congr i5 i3 b2 b3, PR_congr i6 i3 (fun j hj => ?_), hts, ap, [], ap1, by simp, ap3, rfl, rfl, trivial, fun j hj => absurd hj (by simp)⟩
        · unfold mX6_restore mX6_restore_b0
          rw [if_neg k1, if_pos k2, if_pos (by rfl), if_neg (by rw [hl]; exact nI_ne0 i4 (by omega)), if_pos (by rfl), b1, os7]
        · unfold mX7_restore mX7_restore_b0
          rw [hin, os1, if_neg (by decide), zn_cl (by omega), if_neg c1, i2, if_neg (by decide)]
          exact q1
        · have := q2 j hj
          rw [show 207 * 0 + j = j by omega] at this
          exact this
    · obtain ⟨i1, ⟨i2, i3⟩ | ⟨i2, B, i3, i4, i5, i6⟩⟩ := hI1
      · refine ⟨-1000002, v_foot, v_feet, v_lines, v_words, v_sizes, v_kinds, v_spelled, ac_kept, 0, m_acts, m_poem, ?_, ?_, hF, hG, hT, hW, hC, hZ0⟩
        · unfold mX6_restore mX6_restore_b0
          rw [if_neg k1, if_pos k2, if_neg (by decide), if_pos (by rfl), i3, if_pos rfl]
        · unfold mX7_restore mX7_restore_b0
          rw [hin, os1, if_neg (by decide), zn_cl (by omega), if_neg c1, i2, if_pos rfl]
      · obtain ⟨-, -, w20, l4⟩ := aok_sz i3
        obtain ⟨z', kd', sp', b1, b2, b3⟩ := c_becomeAs (sizes := i1_sizes) (kinds := i1_kinds) i1 i1_foot i1_feet i1_lines i1_words v_foot v_feet v_lines v_words v_sizes v_kinds v_spelled
        have hl : i1_lines = nI (aL B) := i5.2.2.1
        refine ⟨1, i1_foot, i1_feet, i1_lines, i1_words, z', kd', sp', 0, 0, 0, po', ?_, ?_, hF, hG, hT, hW, hC, hP, hD, hI0, ⟨i1, Or.inr ⟨i2, B, i3, i4, i5, i6⟩⟩, B, i3, PC_congr i5 i3 b2 b3, PR_congr i6 i3 (fun j hj => ?_), hts, ap, [], ap1, by simp, ap3, rfl, rfl, trivial, fun j hj => absurd hj (by simp)⟩
        · unfold mX6_restore mX6_restore_b0
          rw [if_neg k1, if_pos k2, if_neg (by decide), if_pos (by rfl), if_neg (by rw [hl]; exact nI_ne0 i4 (by omega)), if_neg (by decide), if_pos (by rfl), b1, os7]
        · unfold mX7_restore mX7_restore_b0
          rw [hin, os1, if_neg (by decide), zn_cl (by omega), if_neg c1, i2, if_neg (by decide)]
          exact q1
        · have := q2 j hj
          rw [show 207 * 1 + j = 207 + j by omega] at this
          exact this
  · rw [if_neg (by omega)] at hin
    refine ⟨-1000001, v_foot, v_feet, v_lines, v_words, v_sizes, v_kinds, v_spelled, ac_kept, 0, m_acts, m_poem, ?_, ?_, hF, hG, hT, hW, hC, hZ0⟩
    · unfold mX6_restore mX6_restore_b0
      by_cases k1 : a1 < 0
      · rw [if_pos k1]
      · rw [if_neg k1, if_neg (by rw [i32_lt] at k1 ⊢; omega)]
    · unfold mX7_restore mX7_restore_b0
      rw [hin]
      rfl
