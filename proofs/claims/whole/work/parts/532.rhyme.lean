-- uses: 501.auto 502.abs 503.line 504.word 505.bits 507.tail 508.alike 509.lines
/-! rhymes, ends -/
theorem st18 : Step18 RelW := by
  intro x_begun x_latestFault x_latestFinding rd_length rd_tape v_foot v_feet v_lines v_words v_sizes v_kinds v_spelled d_spelled i0_foot i0_feet i0_lines i0_words i0_sizes i0_kinds i0_spelled i1_foot i1_feet i1_lines i1_words i1_sizes i1_kinds i1_spelled ac_next ac_kept ac_sorts ac_firsts ac_seconds ac_takenKinds ac_takenSpellings x_bodies m_thrown m_status m_acts m_taped m_latest m_traced m_lane m_many m_item m_poem m_was m_tape m_isKept m_kept m_trace x_lane x_rsz x_item L la sa ln sy sn lt st a1 a2 hR
  obtain ⟨hF, hG, hT, hW, hC, hZ⟩ := hR
  have hZ0 := hZ
  obtain ⟨hP, hD, hI0, hI1, A, ha, hpc, hpr, hA⟩ := hZ
  have hpc0 := hpc
  obtain ⟨p1, p2, p3, p4, hz, hc, hsp⟩ := hpc
  subst p1 p2 p3 p4
  replace hz : CZ A v_sizes := hz
  replace hc : CW A v_kinds v_spelled := hc
  obtain ⟨-, -, w20, l4⟩ := aok_sz ha
  rcases rng a1 (aL A) (by omega) with ⟨l, hl, rfl⟩ | hn
  · have hl6 : mX2_hasLine (nI (aL A)) (nI l) = some (nI 1) := c_hl_t hl (by omega)
    have hl7 : mX7_isLine m_poem (nI l) = some (nI 1) := r_il_t hpr ha hl
    rcases rng a2 (aL A) (by omega) with ⟨k, hk, rfl⟩ | hn
    · have hk6 : mX2_hasLine (nI (aL A)) (nI k) = some (nI 1) := c_hl_t hk (by omega)
      have hk7 : mX7_isLine m_poem (nI k) = some (nI 1) := r_il_t hpr ha hk
      refine ⟨b2i (ALK ln lt A (aFst A (l + 1) - 1) (aFst A (k + 1) - 1)), 0, ?_, ?_, hF, hG, hT, hW, hC, hZ0⟩
      · unfold mX6_rhymes mX6_rhymes_b0
        simp (disch := omega) only [↓reduceIte, Nat.reduceAdd, Nat.reduceMul, Nat.reduceSub, Nat.zero_add, zn_0, zn_1, zn_2, zn_3, zn_4, zn_5, zn_6, zn_7, zn_8, zn_9, zn_10, zn_16, zn_20, zn_23, zn_24, zn_25, zn_26, zn_40, zn_207, zn_4761, zn_99, zn_130, zn_lt_t, zn_lt_f, zn_le_t, zn_le_f, zn_eq_t, zn_eq_f, zn_ix, zn_cl, zq_le_f, zq_le_t, zq_lt_f, zq_lt_t, zn_add, zn_mul, zn_sub, or_false, false_or, or_self, true_or, or_true, and_true, true_and, and_false, false_and, not_true_eq_false, not_false_eq_true, if_true, if_false, os1, os2, os3, os4, os5, os6, os7, os8, os9, os10, os11, os12, os13, os14, os15, os16, os17, os18, os19, os20, os21, os22, os23, os24, hl6, hk6, c_last ha hz hl, c_last ha hz hk, c_alike hP ha hc (aEnd_lt ha hl) (aEnd_lt ha hk)]
        cases ALK ln lt A (aFst A (l + 1) - 1) (aFst A (k + 1) - 1) <;> rfl
      · unfold mX7_rhymes mX7_rhymes_b0
        simp (disch := omega) only [↓reduceIte, Nat.reduceAdd, Nat.reduceMul, Nat.reduceSub, Nat.zero_add, zn_0, zn_1, zn_2, zn_3, zn_4, zn_5, zn_6, zn_7, zn_8, zn_9, zn_10, zn_16, zn_20, zn_23, zn_24, zn_25, zn_26, zn_40, zn_207, zn_4761, zn_99, zn_130, zn_lt_t, zn_lt_f, zn_le_t, zn_le_f, zn_eq_t, zn_eq_f, zn_ix, zn_cl, zq_le_f, zq_le_t, zq_lt_f, zq_lt_t, zn_add, zn_mul, zn_sub, or_false, false_or, or_self, true_or, or_true, and_true, true_and, and_false, false_and, not_true_eq_false, not_false_eq_true, if_true, if_false, os1, os2, os3, os4, os5, os6, os7, os8, os9, os10, os11, os12, os13, os14, os15, os16, os17, os18, os19, os20, os21, os22, os23, os24, hl7, hk7, r_endOf hpr ha hl, r_endOf hpr ha hk, r_alike hpr ha (aEnd_lt ha hl) (aEnd_lt ha hk)]
        cases ALK ln lt A (aFst A (l + 1) - 1) (aFst A (k + 1) - 1) <;> rfl
    · refine ⟨-1000001, 0, ?_, ?_, hF, hG, hT, hW, hC, hZ0⟩
      · unfold mX6_rhymes mX6_rhymes_b0
        rw [hl6, os1, if_neg (by decide), c_hl_f hn (by omega)]; rfl
      · unfold mX7_rhymes mX7_rhymes_b0
        rw [hl7, os1, if_neg (by decide), r_il_f hpr ha hn]; rfl
  · refine ⟨-1000001, 0, ?_, ?_, hF, hG, hT, hW, hC, hZ0⟩
    · unfold mX6_rhymes mX6_rhymes_b0
      rw [c_hl_f hn (by omega)]; rfl
    · unfold mX7_rhymes mX7_rhymes_b0
      rw [r_il_f hpr ha hn]; rfl
theorem c_ends_loop {L : List Nat} {ln sy sn : Nat → Int32} {lt st : Nat → Nat → Int32} {A : AP} {kinds sizes : Nat → Int32} {spelled : Nat → Nat} (hp : POOL L ln sy sn lt st) (ha : AOK L ln lt A) (hc : CW A kinds spelled) {e : Nat} (he : e < aW A) (v1 p1 p2 : Int32) : ∀ (d k : Nat), k + d = aW A → ∀ n, d < n → mX6_ends_b45 L ln sy sn lt st v1 (nI (aW A)) sizes kinds spelled p1 p2 n (nI e) (nI (msk (fun w => ALK ln lt A w e) k)) (nI k) = some (nI (msk (fun w => ALK ln lt A w e) (aW A)))
  | _, _, _, 0, hn => absurd hn (by omega)
  | 0, k, hk, n + 1, _ => by
    obtain ⟨-, -, w20, l4⟩ := aok_sz ha
    rw [mX6_ends_b45, show k = aW A by omega, if_pos (nI_le (Nat.le_refl _) (by omega))]
  | d + 1, k, hk, n + 1, hn => by
    obtain ⟨-, -, w20, l4⟩ := aok_sz ha
    have ih := c_ends_loop hp ha hc he v1 p1 p2 (sizes := sizes) d (k + 1) (by omega) n (by omega)
    have hor := or_one (fun w => ALK ln lt A w e) (s := k) (by omega) _ rfl
    rw [← hor] at ih
    rw [mX6_ends_b45, if_neg (nI_ge (by omega) (by omega)), c_alike hp ha hc (by omega) he, os1, nI_1]
    cases hb : ALK ln lt A k e
    · rw [hb] at ih
      rw [b2i_f, if_pos (by rfl)]
      exact ih
    · rw [hb] at ih
      rw [b2i_t, if_neg (by decide)]
      exact ih
theorem r_ends_loop {L : List Nat} {ln : Nat → Int32} {lt : Nat → Nat → Int32} {A : AP} {row : Nat → Int32} (h : PR ln lt A row) (ha : AOK L ln lt A) {l : Nat} (hl : l < aL A) (p1 : Int32) : ∀ (d k : Nat), k + d = aW A → ∀ n, d < n → mX7_ends_b34 row p1 (nI l) n 0 (nI (msk (fun w => ALK ln lt A w (aFst A (l + 1) - 1)) k)) (nI k) = some (nI (msk (fun w => ALK ln lt A w (aFst A (l + 1) - 1)) (aW A)), 0)
  | _, _, _, 0, hn => absurd hn (by omega)
  | 0, k, hk, n + 1, _ => by
    obtain ⟨-, -, w20, l4⟩ := aok_sz ha
    rw [mX7_ends_b34, r_wordsOf h ha, os1, show k = aW A by omega, if_pos (nI_le (Nat.le_refl _) (by omega))]
  | d + 1, k, hk, n + 1, hn => by
    obtain ⟨-, -, w20, l4⟩ := aok_sz ha
    have ih := r_ends_loop h ha hl p1 d (k + 1) (by omega) n (by omega)
    have hor := or_one (fun w => ALK ln lt A w (aFst A (l + 1) - 1)) (s := k) (by omega) _ rfl
    rw [← hor] at ih
    rw [mX7_ends_b34, r_wordsOf h ha, os1, if_neg (nI_ge (by omega) (by omega)), r_endOf h ha hl, os1, r_alike h ha (by omega) (aEnd_lt ha hl), os1, nI_1]
    cases hb : ALK ln lt A k (aFst A (l + 1) - 1)
    · rw [hb] at ih
      rw [b2i_f, if_pos (by rfl), Int32.or_zero]
      exact ih
    · rw [hb] at ih
      rw [b2i_t, if_neg (by decide)]
      exact ih
theorem st19 : Step19 RelW := by
  intro x_begun x_latestFault x_latestFinding rd_length rd_tape v_foot v_feet v_lines v_words v_sizes v_kinds v_spelled d_spelled i0_foot i0_feet i0_lines i0_words i0_sizes i0_kinds i0_spelled i1_foot i1_feet i1_lines i1_words i1_sizes i1_kinds i1_spelled ac_next ac_kept ac_sorts ac_firsts ac_seconds ac_takenKinds ac_takenSpellings x_bodies m_thrown m_status m_acts m_taped m_latest m_traced m_lane m_many m_item m_poem m_was m_tape m_isKept m_kept m_trace x_lane x_rsz x_item L la sa ln sy sn lt st a1 a2 hR
  obtain ⟨hF, hG, hT, hW, hC, hZ⟩ := hR
  have hZ0 := hZ
  obtain ⟨hP, hD, hI0, hI1, A, ha, hpc, hpr, hA⟩ := hZ
  have hpc0 := hpc
  obtain ⟨p1, p2, p3, p4, hz, hc, hsp⟩ := hpc
  subst p1 p2 p3 p4
  replace hz : CZ A v_sizes := hz
  replace hc : CW A v_kinds v_spelled := hc
  obtain ⟨-, -, w20, l4⟩ := aok_sz ha
  rcases rng a1 (aL A) (by omega) with ⟨l, hl, rfl⟩ | hn
  · have hl6 : mX2_hasLine (nI (aL A)) (nI l) = some (nI 1) := c_hl_t hl (by omega)
    have hl7 : mX7_isLine m_poem (nI l) = some (nI 1) := r_il_t hpr ha hl
    rcases rng a2 (aL A) (by omega) with ⟨k, hk, rfl⟩ | hn
    · have hk6 : mX2_hasLine (nI (aL A)) (nI k) = some (nI 1) := c_hl_t hk (by omega)
      have hk7 : mX7_isLine m_poem (nI k) = some (nI 1) := r_il_t hpr ha hk
      by_cases hkl : l = k
      · refine ⟨-1000001, 0, ?_, ?_, hF, hG, hT, hW, hC, hZ0⟩
        · unfold mX6_ends mX6_ends_b0
          rw [hl6, os1, if_neg (by decide), hk6, os1, if_neg (by decide), if_pos (by rw [hkl])]
        · unfold mX7_ends mX7_ends_b0
          rw [hl7, os1, if_neg (by decide), hk7, os1, if_neg (by decide), if_pos (by rw [hkl])]
      · have hne : ¬ nI l = nI k := fun e => hkl (zn_inj (by omega) (by omega) e)
        refine ⟨nI (msk (fun w => ALK ln lt A w (aFst A (k + 1) - 1)) (aW A)), 0, ?_, ?_, hF, hG, hT, hW, hC, hZ0⟩
        · unfold mX6_ends mX6_ends_b0
          rw [hl6, os1, if_neg (by decide), hk6, os1, if_neg (by decide), if_neg hne, c_last ha hz hk, os1]
          exact c_ends_loop hP ha hc (aEnd_lt ha hk) _ _ _ (aW A) 0 (by omega) FU (zn_fu (by omega))
        · unfold mX7_ends mX7_ends_b0
          rw [hl7, os1, if_neg (by decide), hk7, os1, if_neg (by decide), if_neg hne]
          exact r_ends_loop hpr ha hk _ (aW A) 0 (by omega) FU (zn_fu (by omega))
    · refine ⟨-1000001, 0, ?_, ?_, hF, hG, hT, hW, hC, hZ0⟩
      · unfold mX6_ends mX6_ends_b0
        rw [hl6, os1, if_neg (by decide), c_hl_f hn (by omega)]; rfl
      · unfold mX7_ends mX7_ends_b0
        rw [hl7, os1, if_neg (by decide), r_il_f hpr ha hn]; rfl
  · refine ⟨-1000001, 0, ?_, ?_, hF, hG, hT, hW, hC, hZ0⟩
    · unfold mX6_ends mX6_ends_b0
      rw [c_hl_f hn (by omega)]; rfl
    · unfold mX7_ends mX7_ends_b0
      rw [r_il_f hpr ha hn]; rfl
