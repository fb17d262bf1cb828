-- uses: 551.near
/-! whole -/
theorem st17 : Step17 RelW := by
  intro x_begun x_latestFault x_latestFinding rd_length rd_tape v_foot v_feet v_lines v_words v_sizes v_kinds v_spelled v_scheme d_spelled i0_foot i0_feet i0_lines i0_words i0_sizes i0_kinds i0_spelled i1_foot i1_feet i1_lines i1_words i1_sizes i1_kinds i1_spelled ac_next ac_kept ac_sorts ac_firsts ac_seconds ac_takenKinds ac_takenSpellings er_words er_syllables er_strong er_either er_joins er_singles er_options er_least er_ways er_lastAt er_fees er_heavy er_light er_over x_bodies m_thrown m_status m_acts m_taped m_latest m_stands m_least m_ways m_nearFoot m_nearFeet m_nearCost m_traced m_lane m_many m_item m_poem m_was m_tape m_strengths m_sounds m_stand m_scheme m_isKept m_kept m_trace x_lane x_rsz x_item L la sa ln sy sn lt st a1 hR
  obtain ⟨hF, hG, hT, hW, hC, hZ⟩ := hR
  have hZ0 := hZ
  obtain ⟨hP, hD, hI0, hI1, A, ha, hpc, hpr, hA⟩ := hZ
  have hpc0 := hpc
  obtain ⟨p1, p2, p3, p4, hz, hc, hsp⟩ := hpc
  subst p1 p2 p3 p4
  replace hz : CZ A v_sizes := hz
  replace hc : CW A v_kinds v_spelled := hc
  obtain ⟨-, -, w20, l4⟩ := aok_sz ha
  have hth := r_there hpr ha
  by_cases h0 : aL A = 0
  · rw [if_pos h0] at hth
    refine ⟨-1000002, v_scheme, er_words, er_syllables, er_strong, er_either, er_joins, er_singles, er_options, er_least, er_ways, er_lastAt, er_fees, er_heavy, er_light, er_over, 0, m_stands, m_least, m_ways, m_nearFoot, m_nearFeet, m_nearCost, m_strengths, m_sounds, m_stand, m_scheme, ?_, ?_, hF, hG, hT, hW, hC, hZ0⟩
    · unfold mX6_whole mX6_whole_b0
      rw [h0, if_pos (by rfl)]
    · unfold mX7_whole mX7_whole_b0
      rw [hth]
      rfl
  rw [if_neg h0] at hth
  have k0 : ¬ nI (aL A) = 0 := nI_ne0 (by omega) (by omega)
  have hf3 := ha.1
  have hf5 := ha.2.1
  have hf1 := ha.2.2.1 (by omega)
  have r1 : m_poem (1 : Int32).toNatClampNeg = nI A.1 := hpr.2.1
  have r2 : m_poem (2 : Int32).toNatClampNeg = nI A.2.1 := hpr.2.2.1
  by_cases e0 : a1 = 0
  · subst e0
    refine ⟨nI A.1, v_scheme, er_words, er_syllables, er_strong, er_either, er_joins, er_singles, er_options, er_least, er_ways, er_lastAt, er_fees, er_heavy, er_light, er_over, 0, m_stands, m_least, m_ways, m_nearFoot, m_nearFeet, m_nearCost, m_strengths, m_sounds, m_stand, m_scheme, ?_, ?_, hF, hG, hT, hW, hC, hZ0⟩
    · unfold mX6_whole mX6_whole_b0
      rw [if_neg k0, if_pos rfl]
    · unfold mX7_whole mX7_whole_b0
      rw [hth, os1, if_neg (by decide), if_pos rfl, if_neg (by decide)]
      show some (m_poem (1 : Int32).toNatClampNeg, _) = _
      rw [r1]
  by_cases e1 : a1 = 1
  · subst e1
    refine ⟨nI A.2.1, v_scheme, er_words, er_syllables, er_strong, er_either, er_joins, er_singles, er_options, er_least, er_ways, er_lastAt, er_fees, er_heavy, er_light, er_over, 0, m_stands, m_least, m_ways, m_nearFoot, m_nearFeet, m_nearCost, m_strengths, m_sounds, m_stand, m_scheme, ?_, ?_, hF, hG, hT, hW, hC, hZ0⟩
    · unfold mX6_whole mX6_whole_b0
      rw [if_neg k0, if_neg e0, if_pos rfl]
    · unfold mX7_whole mX7_whole_b0
      rw [hth, os1, if_neg (by decide), if_neg e0, if_pos rfl, if_neg (by decide)]
      show some (m_poem (2 : Int32).toNatClampNeg, _) = _
      rw [r2]
  by_cases e2 : a1 = 2
  · subst e2
    obtain ⟨x1, x2, x3, x4, x5, x6, x7, x8, x9, y1, y2, y3, y4, y5, hx⟩ := c_together hP ha hc hz (by omega : A.1 < 4) hf1 hf5 (Nat.zero_le (aL A)) (Nat.le_refl _) er_words er_syllables er_strong er_either er_joins er_singles er_options er_least er_ways er_lastAt er_fees er_heavy er_light er_over
    obtain ⟨u1, u2, u3, v1, v2, v3, hm⟩ := r_allBy hpr ha (by omega : A.1 < 4) hf1 hf5 m_stands m_least m_ways m_strengths m_sounds m_stand
    rw [Nat.sub_zero] at hx
    have hx' : mX6_together L ln sy sn lt v_sizes v_kinds v_spelled er_words er_syllables er_strong er_either er_joins er_singles er_options er_least er_ways er_lastAt er_fees er_heavy er_light er_over 0 (nI (aL A)) (nI A.1) (nI A.2.1) = _ := hx
    refine ⟨eC (tgS (lst ln lt A A.1 A.2.1) (aL A) 0 0), v_scheme, x1, x2, x3, x4, x5, x6, x7, x8, x9, y1, y2, y3, y4, y5, 0, u1, u2, u3, m_nearFoot, m_nearFeet, m_nearCost, v1, v2, v3, m_scheme, ?_, ?_, hF, hG, hT, hW, hC, hZ0⟩
    · unfold mX6_whole mX6_whole_b0
      rw [if_neg k0, if_neg e0, if_neg e1, if_pos rfl, hx', os15]
    · unfold mX7_whole mX7_whole_b0
      rw [hth, os1, if_neg (by decide), if_neg e0, if_neg e1, if_pos rfl, r1, r2, hm, os7]
  have hcs : ∀ f e v, csG (fun f e => tgS (lst ln lt A f e) (aL A) 0 0) f e = some v → v < 10000 := csG_lt (fun f e hf he v q => by
    have := tgS_lt' (aL A) 0 0 v (fun k _ hk w hw => lst_lt ha (by omega) hf he hw) q
    omega)
  obtain ⟨x1, x2, x3, x4, x5, x6, x7, x8, x9, y1, y2, y3, y4, y5, hx⟩ := c_nearestOf (L := L) (ln := ln) (sy := sy) (sn := sn) (lt := lt) (sizes := v_sizes) (kinds := v_kinds) (spelled := v_spelled) (p1 := 0) (p2 := nI (aL A)) (p3 := a1 - 3) (cs := csG (fun f e => tgS (lst ln lt A f e) (aL A) 0 0)) (fun foot feet hf h1 h5 w1 w2 w3 w4 w5 w6 w7 w8 w9 a1 a2 a3 a4 a5 => by
    have := c_together hP ha hc hz hf h1 h5 (Nat.zero_le (aL A)) (Nat.le_refl _) w1 w2 w3 w4 w5 w6 w7 w8 w9 a1 a2 a3 a4 a5
    rw [Nat.sub_zero] at this
    rw [csG_in hf h5]
    exact this) hcs er_words er_syllables er_strong er_either er_joins er_singles er_options er_least er_ways er_lastAt er_fees er_heavy er_light er_over
  obtain ⟨nf', ne', nc', u1, u2, u3, v1, v2, v3, hm⟩ := r_nearA_out (row := m_poem) (p1 := a1 - 3) (cs := csG (fun f e => tgS (lst ln lt A f e) (aL A) 0 0)) (fun foot feet hf h1 h5 z1 z2 z3 b1 b2 b3 => by
    rw [csG_in hf h5]
    exact r_allBy hpr ha hf h1 h5 z1 z2 z3 b1 b2 b3) hcs 4 0 none m_nearFoot m_nearFeet (-1000000) m_stands m_least m_ways m_strengths m_sounds m_stand (by omega) (fun c f e q => absurd q (by simp)) ⟨rfl, fun c f e q => absurd q (by simp)⟩ FU (zn_fu (by omega))
  have hm' : mX7_nearestOfAll m_poem m_stands m_least m_ways m_nearFoot m_nearFeet m_nearCost m_strengths m_sounds m_stand (a1 - 3) = _ := hm
  by_cases e3 : a1 = 3
  · refine ⟨bA (nbO (csG (fun f e => tgS (lst ln lt A f e) (aL A) 0 0)) 4 0 none) (a1 - 3), v_scheme, x1, x2, x3, x4, x5, x6, x7, x8, x9, y1, y2, y3, y4, y5, 0, u1, u2, u3, nf', ne', nc', v1, v2, v3, m_scheme, ?_, ?_, hF, hG, hT, hW, hC, hZ0⟩
    · unfold mX6_whole mX6_whole_b0
      rw [if_neg k0, if_neg e0, if_neg e1, if_neg e2, if_pos e3, hx, os15]
    · unfold mX7_whole mX7_whole_b0
      rw [hth, os1, if_neg (by decide), if_neg e0, if_neg e1, if_neg e2, if_pos e3, hm', os10]
  by_cases e4 : a1 = 4
  · refine ⟨bA (nbO (csG (fun f e => tgS (lst ln lt A f e) (aL A) 0 0)) 4 0 none) (a1 - 3), v_scheme, x1, x2, x3, x4, x5, x6, x7, x8, x9, y1, y2, y3, y4, y5, 0, u1, u2, u3, nf', ne', nc', v1, v2, v3, m_scheme, ?_, ?_, hF, hG, hT, hW, hC, hZ0⟩
    · unfold mX6_whole mX6_whole_b0
      rw [if_neg k0, if_neg e0, if_neg e1, if_neg e2, if_neg e3, if_pos e4, hx, os15]
    · unfold mX7_whole mX7_whole_b0
      rw [hth, os1, if_neg (by decide), if_neg e0, if_neg e1, if_neg e2, if_neg e3, if_pos e4, hm', os10]
  by_cases e5 : a1 = 5
  · refine ⟨bA (nbO (csG (fun f e => tgS (lst ln lt A f e) (aL A) 0 0)) 4 0 none) (a1 - 3), v_scheme, x1, x2, x3, x4, x5, x6, x7, x8, x9, y1, y2, y3, y4, y5, 0, u1, u2, u3, nf', ne', nc', v1, v2, v3, m_scheme, ?_, ?_, hF, hG, hT, hW, hC, hZ0⟩
    · unfold mX6_whole mX6_whole_b0
      rw [if_neg k0, if_neg e0, if_neg e1, if_neg e2, if_neg e3, if_neg e4, if_pos e5, hx, os15]
    · unfold mX7_whole mX7_whole_b0
      rw [hth, os1, if_neg (by decide), if_neg e0, if_neg e1, if_neg e2, if_neg e3, if_neg e4, if_pos e5, hm', os10]
  by_cases e6 : a1 = 6
  · obtain ⟨s6, q6⟩ := c_name hP ha hc hz v_scheme
    obtain ⟨s7, q7⟩ := r_name hpr ha (by omega) m_scheme
    refine ⟨nI (aNm ln lt A), s6, er_words, er_syllables, er_strong, er_either, er_joins, er_singles, er_options, er_least, er_ways, er_lastAt, er_fees, er_heavy, er_light, er_over, 0, m_stands, m_least, m_ways, m_nearFoot, m_nearFeet, m_nearCost, m_strengths, m_sounds, m_stand, s7, ?_, ?_, hF, hG, hT, hW, hC, hZ0⟩
    · unfold mX6_whole mX6_whole_b0
      rw [if_neg k0, if_neg e0, if_neg e1, if_neg e2, if_neg e3, if_neg e4, if_neg e5, if_pos e6, q6, os2]
    · unfold mX7_whole mX7_whole_b0
      rw [hth, os1, if_neg (by decide), if_neg e0, if_neg e1, if_neg e2, if_neg e3, if_neg e4, if_neg e5, if_pos e6, q7, os2]
  by_cases e7 : a1 = 7
  · obtain ⟨s6, q6, -⟩ := c_scheme hP ha hc hz v_scheme
    obtain ⟨s7, q7, -⟩ := r_scheme hpr ha m_scheme
    refine ⟨nI (SS (RH ln lt A) (aL A)).2, s6, er_words, er_syllables, er_strong, er_either, er_joins, er_singles, er_options, er_least, er_ways, er_lastAt, er_fees, er_heavy, er_light, er_over, 0, m_stands, m_least, m_ways, m_nearFoot, m_nearFeet, m_nearCost, m_strengths, m_sounds, m_stand, s7, ?_, ?_, hF, hG, hT, hW, hC, hZ0⟩
    · unfold mX6_whole mX6_whole_b0
      rw [if_neg k0, if_neg e0, if_neg e1, if_neg e2, if_neg e3, if_neg e4, if_neg e5, if_neg e6, if_pos e7, q6, os2]
    · unfold mX7_whole mX7_whole_b0
      rw [hth, os1, if_neg (by decide), if_neg e0, if_neg e1, if_neg e2, if_neg e3, if_neg e4, if_neg e5, if_neg e6, if_pos e7, q7, os2]
  refine ⟨-1000001, v_scheme, er_words, er_syllables, er_strong, er_either, er_joins, er_singles, er_options, er_least, er_ways, er_lastAt, er_fees, er_heavy, er_light, er_over, 0, m_stands, m_least, m_ways, m_nearFoot, m_nearFeet, m_nearCost, m_strengths, m_sounds, m_stand, m_scheme, ?_, ?_, hF, hG, hT, hW, hC, hZ0⟩
  · unfold mX6_whole mX6_whole_b0
    rw [if_neg k0, if_neg e0, if_neg e1, if_neg e2, if_neg e3, if_neg e4, if_neg e5, if_neg e6, if_neg e7]
  · unfold mX7_whole mX7_whole_b0
    rw [hth, os1, if_neg (by decide), if_neg e0, if_neg e1, if_neg e2, if_neg e3, if_neg e4, if_neg e5, if_neg e6, if_neg e7]
