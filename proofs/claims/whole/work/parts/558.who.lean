-- uses: 556.who
/-! who: the step -/
theorem st21 : Step21 RelW := by
  intro x_begun x_latestFault x_latestFinding rd_length rd_tape v_foot v_feet v_lines v_words v_sizes v_kinds v_spelled d_foot d_feet d_lines d_words d_sizes d_kinds d_spelled i0_foot i0_feet i0_lines i0_words i0_sizes i0_kinds i0_spelled i1_foot i1_feet i1_lines i1_words i1_sizes i1_kinds i1_spelled ac_next ac_kept ac_sorts ac_firsts ac_seconds ac_takenKinds ac_takenSpellings er_words er_syllables er_strong er_either er_joins er_singles er_options er_least er_ways er_lastAt er_fees er_heavy er_light er_over x_bodies m_thrown m_status m_acts m_taped m_latest m_stands m_least m_ways m_traced m_lane m_many m_item m_poem m_then m_was m_tape m_strengths m_sounds m_stand m_isKept m_kept m_trace x_lane x_rsz x_item L la sa ln sy sn lt st a1 a2 a3 a4 hR
  obtain ⟨hF, hG, hT, hW, hC, hZ⟩ := hR
  have hZ0 := hZ
  obtain ⟨hP, hD, hI0, hI1, A, ha, hpc, hpr, hA⟩ := hZ
  have hpc0 := hpc
  obtain ⟨p1, p2, p3, p4, hz, hc, hsp⟩ := hpc
  subst p1 p2 p3 p4
  replace hz : CZ A v_sizes := hz
  replace hc : CW A v_kinds v_spelled := hc
  obtain ⟨-, -, w20, l4⟩ := aok_sz ha
  have hin := in_i a2 0 2
  rw [show (0 : Int64).toInt = 0 from rfl, show (2 : Int64).toInt = 2 from rfl] at hin
  have e0 : (0 : Int32).toInt = 0 := rfl
  have e2 : (2 : Int32).toInt = 2 := rfl
  have h6r := isRow6 a3
  have h7r := isRow7 a3
  rcases rng a1 (aW A) (by omega) with ⟨w, hw, rfl⟩ | hn
  · obtain ⟨hln, -, -⟩ := aLn_in ha hw
    have h0 : 0 < aL A := by omega
    have hw6 : mX2_hasWord (nI (aW A)) (nI w) = some (nI 1) := c_hw_t hw (by omega)
    have hw7 : mX7_isWord m_poem (nI w) = some (nI 1) := r_iw_t hpr ha hw
    by_cases hv : 0 ≤ a2.toInt ∧ a2.toInt ≤ 2
    · rw [if_pos hv] at hin
      have k1 : ¬ a2 < 0 := by rw [i32_lt]; omega
      have k2 : ¬ (2 : Int32) < a2 := by rw [i32_lt]; omega
      by_cases hr : 0 ≤ a3.toInt ∧ a3.toInt ≤ 7
      · rw [if_pos hr] at h6r h7r
        obtain ⟨r, hr8, rfl⟩ := i32_nat (p := a3) (n := 8) hr.1 (by omega) (by omega)
        have c1 : ¬ (nI r < 0 ∨ 8 ≤ r) := by simp (disch := omega) only [↓reduceIte, Nat.reduceAdd, Nat.reduceMul, Nat.reduceSub, Nat.zero_add, zn_0, zn_1, zn_2, zn_3, zn_4, zn_5, zn_6, zn_7, zn_8, zn_9, zn_10, zn_16, zn_20, zn_23, zn_24, zn_25, zn_26, zn_40, zn_207, zn_4761, zn_99, zn_130, zn_lt_t, zn_lt_f, zn_le_t, zn_le_f, zn_eq_t, zn_eq_f, zn_ix, zn_cl, zq_le_f, zq_le_t, zq_lt_f, zq_lt_t, zn_add, zn_mul, zn_sub, or_false, false_or, or_self, true_or, or_true, and_true, true_and, and_false, false_and, not_true_eq_false, not_false_eq_true, if_true, if_false, os1, os2, os3, os4, os5, os6, os7, os8, os9, os10, os11, os12, os13, os14, os15, os16, os17, os18, os19, os20, os21, os22, os23, os24]
        have c2 : ¬ 8 ≤ r := by omega
        have cl : (nI r).toNatClampNeg = r := nI_clamp (by omega)
        obtain ⟨r1, r2, r3, r4, r5⟩ := hW _ hr8
        have mi := miss4 (x_lane r)
        have el0 : m_poem (0 : Int32).toNatClampNeg = nI (aL A) := hpr.1
        by_cases hma : x_lane r = -1
        · rw [if_pos hma] at mi
          refine ⟨-1000010 - 1, 1, d_foot, d_feet, d_lines, d_words, d_sizes, d_kinds, d_spelled, er_words, er_syllables, er_strong, er_either, er_joins, er_singles, er_options, er_least, er_ways, er_lastAt, er_fees, er_heavy, er_light, er_over, 0, 1, m_stands, m_least, m_ways, m_then, m_strengths, m_sounds, m_stand, ?_, ?_, rfl, hG, hT, hW, hC, hZ0⟩
          · unfold mX6_who mX6_who_b0
            rw [hw6, os1, if_neg (by decide), if_neg k1, if_neg k2, h6r, os1, if_neg (by decide), cl, if_neg c1, if_neg c2, mi, os1, if_neg (by decide)]
            rfl
          · unfold mX7_who mX7_who_b0 mX7_rowFound mX7_rowFound_b0
            rw [hw7, os1, if_neg (by decide), hin, os1, if_neg (by decide), h7r, os1, if_neg (by decide), cl, if_neg c1, if_neg (show ¬ 0 ≤ m_lane r by rw [r1, hma]; decide)]
            rfl
        · rw [if_neg hma] at mi
          have kl : 0 ≤ m_lane r := by
            rw [r1, i32_le]; rw [i32_eq] at hma
            have e9 : (-1 : Int32).toInt = -1 := rfl
            omega
          have hh := holds4 (x_rsz r) a4 (nI (aL A)) r4
          rw [nI_toInt (by omega)] at hh
          have gB := lg_le0 (a4.toInt64 + (nI (aL A)).toInt64) ((m_many r).toInt64)
          rw [add64, Int32.toInt_toInt64, nI_toInt (by omega)] at gB
          have r2' : (m_many r).toInt = (x_rsz r).toInt := by rw [r2]
          by_cases fit : 0 ≤ a4.toInt ∧ (0 : Int) ≤ (aL A : Int) ∧ a4.toInt + (aL A : Int) ≤ (x_rsz r).toInt
          · rw [if_pos fit] at hh
            obtain ⟨i, hi, rfl⟩ := i32_nat (p := a4) (n := 41) (by omega) (by omega) (by omega)
            rw [nI_toInt (by omega)] at fit gB
            have hi40 : i + aL A ≤ 40 := by omega
            have hisz : ((i + aL A : Nat) : Int) ≤ (x_rsz r).toInt := by omega
            have krow : mX7_rowFound m_lane m_many m_status (nI r) (nI i) (m_poem (0 : Int32).toNatClampNeg) = some (0, m_status) := by
              unfold mX7_rowFound mX7_rowFound_b0
              rw [cl, el0, if_neg c1, if_pos kl, if_neg (nI_pos (by omega)), if_neg c1, if_pos (by rw [gB]; omega)]
            have hwc : a2 = 0 ∨ a2 = 1 ∨ a2 = 2 := by
              rw [i32_eq, i32_eq, i32_eq]
              have e1 : (1 : Int32).toInt = 1 := rfl
              omega
            rcases hwc with rfl | rfl | rfl
            · -- feet
              obtain ⟨x1, x2, x3, x4, x5, x6, x7, x8, x9, y1, y2, y3, y4, y5, hx⟩ := c_feet_loop hP ha hc hz r4 (x_item r) hisz (fun k => decide (1 ≤ k) && asT (lst ln lt A A.1 k) (x_item r) i (aL A)) (fun k hk => by simp [hk]) 5 1 er_words er_syllables er_strong er_either er_joins er_singles er_options er_least er_ways er_lastAt er_fees er_heavy er_light er_over (by omega) (by omega) FU (zn_fu (by omega))
              obtain ⟨th', u1, u2, u3, v1, v2, v3, hm⟩ := r_who_loop (L := L) (ln := ln) (lt := lt) (row := m_poem) m_lane m_many m_item (x_item r) (w := w) (i := i) (p2 := 0) (idx := 2) (hi := 5) (Or.inl ⟨rfl, rfl, rfl⟩) hr8 hi40 r5 (fun k => setM A A.1 k) 1 (fun k h1 h5 => ⟨AOK_met ha ha.1 ⟨h1, h5⟩, rfl, fun th hth => PR_feet (PR_congr hpr ha hth) k⟩) (fun k => decide (1 ≤ k) && asT (lst ln lt A A.1 k) (x_item r) i (aL A)) (fun k hk => by
                have : asT (lst ln lt A A.1 k) (x_item r) i (aL A) = asT (lst ln lt (setM A A.1 k) A.1 k) (x_item r) i (aL A) := asT_congr _ _ _ (fun l _ => (lst_met A.1 k A.1 k l).symm)
                simp only [hk, decide_true, Bool.true_and]
                exact this) 5 1 m_then m_stands m_least m_ways m_strengths m_sounds m_stand (by omega) (by omega) FU (zn_fu (by omega))
              have hp1 : msk (fun k => decide (1 ≤ k) && asT (lst ln lt A A.1 k) (x_item r) i (aL A)) 1 = 0 := by simp [msk]
              rw [hp1] at hx hm
              refine ⟨nI (msk (fun k => decide (1 ≤ k) && asT (lst ln lt A A.1 k) (x_item r) i (aL A)) 6), 0, d_foot, d_feet, d_lines, d_words, d_sizes, d_kinds, d_spelled, x1, x2, x3, x4, x5, x6, x7, x8, x9, y1, y2, y3, y4, y5, 0, 0, u1, u2, u3, th', v1, v2, v3, ?_, ?_, rfl, hG, hT, hW, hC, hZ0⟩
              · have hx' : mX6_feetAsTold L ln sy sn lt (nI A.1) (nI (aL A)) v_sizes v_kinds v_spelled (x_rsz r) (x_item r) er_words er_syllables er_strong er_either er_joins er_singles er_options er_least er_ways er_lastAt er_fees er_heavy er_light er_over (nI i) = _ := hx
                unfold mX6_who mX6_who_b0
                rw [hw6, os1, if_neg (by decide), if_neg k1, if_neg k2, h6r, os1, if_neg (by decide), cl, if_neg c1, if_neg c2, mi, os1, if_pos rfl, if_neg c2, hh, os1, if_neg (by decide), if_pos rfl, if_neg c2, hx', os15]
              · unfold mX7_who mX7_who_b0
                rw [hw7, os1, if_neg (by decide), hin, os1, if_neg (by decide), h7r, os1, if_neg (by decide), krow, os2, if_pos rfl, if_neg (by decide)]
                exact hm
            · -- foot
              obtain ⟨x1, x2, x3, x4, x5, x6, x7, x8, x9, y1, y2, y3, y4, y5, hx⟩ := c_foot_loop hP ha h0 hc hz r4 (x_item r) hisz (fun k => asT (lst ln lt A k A.2.1) (x_item r) i (aL A)) (fun k => rfl) 4 0 er_words er_syllables er_strong er_either er_joins er_singles er_options er_least er_ways er_lastAt er_fees er_heavy er_light er_over (by omega) FU (zn_fu (by omega))
              obtain ⟨th', u1, u2, u3, v1, v2, v3, hm⟩ := r_who_loop (L := L) (ln := ln) (lt := lt) (row := m_poem) m_lane m_many m_item (x_item r) (w := w) (i := i) (p2 := 1) (idx := 1) (hi := 3) (Or.inr (Or.inl ⟨rfl, rfl, rfl⟩)) hr8 hi40 r5 (fun k => setM A k A.2.1) 0 (fun k h1 h5 => ⟨AOK_met ha h5 ⟨ha.2.2.1 h0, ha.2.1⟩, rfl, fun th hth => PR_foot (PR_congr hpr ha hth) k⟩) (fun k => asT (lst ln lt A k A.2.1) (x_item r) i (aL A)) (fun k hk => asT_congr _ _ _ (fun l _ => (lst_met k A.2.1 k A.2.1 l).symm)) 4 0 m_then m_stands m_least m_ways m_strengths m_sounds m_stand (by omega) (by omega) FU (zn_fu (by omega))
              refine ⟨nI (msk (fun k => asT (lst ln lt A k A.2.1) (x_item r) i (aL A)) 4), 0, d_foot, d_feet, d_lines, d_words, d_sizes, d_kinds, d_spelled, x1, x2, x3, x4, x5, x6, x7, x8, x9, y1, y2, y3, y4, y5, 0, 0, u1, u2, u3, th', v1, v2, v3, ?_, ?_, rfl, hG, hT, hW, hC, hZ0⟩
              · have hx' : mX6_footAsTold L ln sy sn lt (nI A.2.1) (nI (aL A)) v_sizes v_kinds v_spelled (x_rsz r) (x_item r) er_words er_syllables er_strong er_either er_joins er_singles er_options er_least er_ways er_lastAt er_fees er_heavy er_light er_over (nI i) = _ := hx
                unfold mX6_who mX6_who_b0
                rw [hw6, os1, if_neg (by decide), if_neg k1, if_neg k2, h6r, os1, if_neg (by decide), cl, if_neg c1, if_neg c2, mi, os1, if_pos rfl, if_neg c2, hh, os1, if_neg (by decide), if_neg (by decide), if_pos rfl, if_neg c2, hx', os15]
              · unfold mX7_who mX7_who_b0
                rw [hw7, os1, if_neg (by decide), hin, os1, if_neg (by decide), h7r, os1, if_neg (by decide), krow, os2, if_pos rfl, if_pos rfl]
                exact hm
            · -- kinds
              obtain ⟨z', kd', sp', b1, b2, b3⟩ := c_becomeAs (sizes := v_sizes) (kinds := v_kinds) hsp (nI A.1) (nI A.2.1) (nI (aL A)) (nI (aW A)) d_foot d_feet d_lines d_words d_sizes d_kinds d_spelled
              have hz' : CZ A z' := fun l hl => by rw [b2 l (by omega)]; exact hz l hl
              have hd' : ∀ u, u < aW A → (¬ u = w → kd' u = nI (aKd A u)) ∧ sp' u = aQ A u := by
                intro u hu
                rw [(b3 u (by omega)).1, (b3 u (by omega)).2]
                exact ⟨fun _ => (hc u hu).1, (hc u hu).2⟩
              obtain ⟨dk', x1, x2, x3, x4, x5, x6, x7, x8, x9, y1, y2, y3, y4, y5, hx⟩ := c_kindT_loop hP ha h0 hw hz' r4 (x_item r) hisz (fun k => decide (1 ≤ k) && asT (lst ln lt (setK A w k) A.1 A.2.1) (x_item r) i (aL A)) (fun k hk => by simp [hk]) (nI A.1) (nI A.2.1) (nI (aL A)) (nI (aW A)) v_sizes v_kinds v_spelled (nI (aW A)) 5 1 kd' er_words er_syllables er_strong er_either er_joins er_singles er_options er_least er_ways er_lastAt er_fees er_heavy er_light er_over (by omega) (by omega) hd' FU (zn_fu (by omega))
              obtain ⟨th', u1, u2, u3, v1, v2, v3, hm⟩ := r_who_loop (L := L) (ln := ln) (lt := lt) (row := m_poem) m_lane m_many m_item (x_item r) (w := w) (i := i) (p2 := 2) (idx := 7 + 10 * w) (hi := 5) (Or.inr (Or.inr ⟨rfl, rfl, rfl, by omega⟩)) hr8 hi40 r5 (fun k => setK A w k) 1 (fun k h1 h5 => ⟨AOK_setK ha hw ⟨h1, h5⟩, rfl, fun th hth => PR_setK (PR_congr hpr ha hth) hw⟩) (fun k => decide (1 ≤ k) && asT (lst ln lt (setK A w k) A.1 A.2.1) (x_item r) i (aL A)) (fun k hk => by
                simp only [hk, decide_true, Bool.true_and]
                rfl) 5 1 m_then m_stands m_least m_ways m_strengths m_sounds m_stand (by omega) (by omega) FU (zn_fu (by omega))
              have hp1 : msk (fun k => decide (1 ≤ k) && asT (lst ln lt (setK A w k) A.1 A.2.1) (x_item r) i (aL A)) 1 = 0 := by simp [msk]
              rw [hp1] at hx hm
              refine ⟨nI (msk (fun k => decide (1 ≤ k) && asT (lst ln lt (setK A w k) A.1 A.2.1) (x_item r) i (aL A)) 6), 0, nI A.1, nI A.2.1, nI (aL A), nI (aW A), z', dk', sp', x1, x2, x3, x4, x5, x6, x7, x8, x9, y1, y2, y3, y4, y5, 0, 0, u1, u2, u3, th', v1, v2, v3, ?_, ?_, rfl, hG, hT, hW, hC, hP, ?_, hI0, hI1, A, ha, hpc0, hpr, hA⟩
              · have hx' : mX6_kindsAsTold L ln sy sn lt (nI A.1) (nI A.2.1) (nI (aL A)) (nI (aW A)) v_sizes v_kinds v_spelled (x_rsz r) (x_item r) d_foot d_feet d_lines d_words d_sizes d_kinds d_spelled er_words er_syllables er_strong er_either er_joins er_singles er_options er_least er_ways er_lastAt er_fees er_heavy er_light er_over (nI w) (nI i) = some (nI (msk (fun k => decide (1 ≤ k) && asT (lst ln lt (setK A w k) A.1 A.2.1) (x_item r) i (aL A)) 6), nI A.1, nI A.2.1, nI (aL A), nI (aW A), z', dk', sp', x1, x2, x3, x4, x5, x6, x7, x8, x9, y1, y2, y3, y4, y5) := by
                  unfold mX6_kindsAsTold mX6_kindsAsTold_b0
                  rw [b1, os7]
                  exact hx
                unfold mX6_who mX6_who_b0
                rw [hw6, os1, if_neg (by decide), if_neg k1, if_neg k2, h6r, os1, if_neg (by decide), cl, if_neg c1, if_neg c2, mi, os1, if_pos rfl, if_neg c2, hh, os1, if_neg (by decide), if_neg (by decide), if_neg (by decide), if_neg c2, hx', os22]
              · unfold mX7_who mX7_who_b0
                rw [hw7, os1, if_neg (by decide), hin, os1, if_neg (by decide), h7r, os1, if_neg (by decide), krow, os2, if_pos rfl, if_neg (by decide)]
                exact hm
              · intro j hj
                rw [(b3 j hj).2]; exact hsp j hj
          · rw [if_neg fit] at hh
            refine ⟨-1000010 - 2, 2, d_foot, d_feet, d_lines, d_words, d_sizes, d_kinds, d_spelled, er_words, er_syllables, er_strong, er_either, er_joins, er_singles, er_options, er_least, er_ways, er_lastAt, er_fees, er_heavy, er_light, er_over, 0, 2, m_stands, m_least, m_ways, m_then, m_strengths, m_sounds, m_stand, ?_, ?_, rfl, hG, hT, hW, hC, hZ0⟩
            · unfold mX6_who mX6_who_b0
              rw [hw6, os1, if_neg (by decide), if_neg k1, if_neg k2, h6r, os1, if_neg (by decide), cl, if_neg c1, if_neg c2, mi, os1, if_pos rfl, if_neg c2, hh, os1, if_pos rfl]
              rfl
            · unfold mX7_who mX7_who_b0 mX7_rowFound mX7_rowFound_b0
              rw [hw7, os1, if_neg (by decide), hin, os1, if_neg (by decide), h7r, os1, if_neg (by decide), cl, el0, if_neg c1, if_pos kl]
              by_cases p4 : a4 < 0
              · rw [if_pos p4]
                rfl
              · rw [if_neg p4, if_neg c1]
                rw [i32_lt] at p4
                rw [if_neg (by rw [gB]; omega)]
                rfl
      · rw [if_neg hr] at h6r h7r
        refine ⟨-1000001, x_latestFinding, d_foot, d_feet, d_lines, d_words, d_sizes, d_kinds, d_spelled, er_words, er_syllables, er_strong, er_either, er_joins, er_singles, er_options, er_least, er_ways, er_lastAt, er_fees, er_heavy, er_light, er_over, 0, m_status, m_stands, m_least, m_ways, m_then, m_strengths, m_sounds, m_stand, ?_, ?_, hF, hG, hT, hW, hC, hZ0⟩
        · unfold mX6_who mX6_who_b0
          rw [hw6, os1, if_neg (by decide), if_neg k1, if_neg k2, h6r]
          rfl
        · unfold mX7_who mX7_who_b0
          rw [hw7, os1, if_neg (by decide), hin, os1, if_neg (by decide), h7r]
          rfl
    · rw [if_neg hv] at hin
      refine ⟨-1000001, x_latestFinding, d_foot, d_feet, d_lines, d_words, d_sizes, d_kinds, d_spelled, er_words, er_syllables, er_strong, er_either, er_joins, er_singles, er_options, er_least, er_ways, er_lastAt, er_fees, er_heavy, er_light, er_over, 0, m_status, m_stands, m_least, m_ways, m_then, m_strengths, m_sounds, m_stand, ?_, ?_, hF, hG, hT, hW, hC, hZ0⟩
      · unfold mX6_who mX6_who_b0
        rw [hw6, os1, if_neg (by decide)]
        by_cases k1 : a2 < 0
        · rw [if_pos k1]
        · rw [if_neg k1, if_pos (by rw [i32_lt] at k1 ⊢; omega)]
      · unfold mX7_who mX7_who_b0
        rw [hw7, os1, if_neg (by decide), hin]
        rfl
  · refine ⟨-1000001, x_latestFinding, d_foot, d_feet, d_lines, d_words, d_sizes, d_kinds, d_spelled, er_words, er_syllables, er_strong, er_either, er_joins, er_singles, er_options, er_least, er_ways, er_lastAt, er_fees, er_heavy, er_light, er_over, 0, m_status, m_stands, m_least, m_ways, m_then, m_strengths, m_sounds, m_stand, ?_, ?_, hF, hG, hT, hW, hC, hZ0⟩
    · unfold mX6_who mX6_who_b0
      rw [c_hw_f hn (by omega)]; rfl
    · unfold mX7_who mX7_who_b0
      rw [r_iw_f hpr ha hn]; rfl
