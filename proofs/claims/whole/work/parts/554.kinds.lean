-- uses: 553.draft
/-! kinds -/
section
variable {L : List Nat} {ln sy sn : Nat → Int32} {lt st : Nat → Nat → Int32} {A : AP} {row : Nat → Int32} {kinds sizes : Nat → Int32} {spelled : Nat → Nat}
def pK (ln : Nat → Int32) (lt : Nat → Nat → Int32) (A : AP) (w : Nat) (v : Int32) (k : Nat) : Bool := decide (1 ≤ k) && decide (eC (lst ln lt (setK A w k) A.1 A.2.1 (aLn A w)) = v)
theorem c_kinds_loop (hp : POOL L ln sy sn lt st) (ha : AOK L ln lt A) {w : Nat} (hw : w < aW A) (v : Int32) (hz : CZ A sizes) (o1 o2 o3 o4 : Int32) (o5 o6 : Nat → Int32) (o7 : Nat → Nat) (dl dw : Int32) : ∀ (d k : Nat) (dk : Nat → Int32) (w1 w2 w3 w4 w5 w6 w7 w8 w9 : Int32) (a1 a2 a3 a4 a5 : Nat → Int32), k + d = 6 → 1 ≤ k → (∀ u, u < aW A → (¬ u = w → dk u = nI (aKd A u)) ∧ spelled u = aQ A u) → ∀ n, d < n → ∃ dk' x1 x2 x3 x4 x5 x6 x7 x8 x9 y1 y2 y3 y4 y5, mX6_kinds_b50 L ln sy sn lt o1 o2 o3 o4 o5 o6 o7 (nI w) v n (nI A.1) (nI A.2.1) dl dw sizes dk spelled w1 w2 w3 w4 w5 w6 w7 w8 w9 a1 a2 a3 a4 a5 (nI (aLn A w)) (nI (msk (pK ln lt A w v) k)) (nI k) = some (nI (msk (pK ln lt A w v) 6), nI A.1, nI A.2.1, dl, dw, sizes, dk', spelled, x1, x2, x3, x4, x5, x6, x7, x8, x9, y1, y2, y3, y4, y5)
  | _, _, _, _, _, _, _, _, _, _, _, _, _, _, _, _, _, _, _, _, 0, hn => absurd hn (by omega)
  | 0, k, dk, w1, w2, w3, w4, w5, w6, w7, w8, w9, a1, a2, a3, a4, a5, hk, h1, hd, n + 1, _ => by
    have q : k = 6 := by omega
    subst q
    refine ⟨dk, w1, w2, w3, w4, w5, w6, w7, w8, w9, a1, a2, a3, a4, a5, ?_⟩
    rw [mX6_kinds_b50, if_pos (by decide)]
  | d + 1, k, dk, w1, w2, w3, w4, w5, w6, w7, w8, w9, a1, a2, a3, a4, a5, hk, h1, hd, n + 1, hn => by
    obtain ⟨-, -, w20, l4⟩ := aok_sz ha
    obtain ⟨hln, -, -⟩ := aLn_in ha hw
    have hf3 := ha.1
    have hf1 := ha.2.2.1 (by omega)
    have ha' := AOK_setK ha hw (k := k) (by omega)
    have hc' := CW_setK (k := k) hw hd
    obtain ⟨la', c1, c2⟩ := c_hear (A := setK A w k) (sizes := sizes) hp ha' hc' hz (l := aLn A w) hln w1 w2 w3 w4 w5 w6 a1
    obtain ⟨K', g1, g2, g3, g4, c3⟩ := c_leastBy (A := setK A w k) ha' (l := aLn A w) hln (by omega : A.1 < 4) hf1 ha.2.1 c2 w7 w8 w9 a2 a3 a4 a5
    have hel : eL (aSC ln lt (setK A w k) (aLn A w) A.1 A.2.1 (aG ln lt (setK A w k) (aLn A w))) = eC (lst ln lt (setK A w k) A.1 A.2.1 (aLn A w)) := eL_eC _
    have k1 : ¬ (5 : Int32) < nI k := nI_nlt (a := 5) (by omega) (by omega)
    have k2 : ¬ (nI w < 0 ∨ 20 ≤ w) := by simp (disch := omega) only [↓reduceIte, Nat.reduceAdd, Nat.reduceMul, Nat.reduceSub, Nat.zero_add, zn_0, zn_1, zn_2, zn_3, zn_4, zn_5, zn_6, zn_7, zn_8, zn_9, zn_10, zn_16, zn_20, zn_23, zn_24, zn_25, zn_26, zn_40, zn_207, zn_4761, zn_99, zn_130, zn_lt_t, zn_lt_f, zn_le_t, zn_le_f, zn_eq_t, zn_eq_f, zn_ix, zn_cl, zq_le_f, zq_le_t, zq_lt_f, zq_lt_t, zn_add, zn_mul, zn_sub, or_false, false_or, or_self, true_or, or_true, and_true, true_and, and_false, false_and, not_true_eq_false, not_false_eq_true, if_true, if_false, os1, os2, os3, os4, os5, os6, os7, os8, os9, os10, os11, os12, os13, os14, os15, os16, os17, os18, os19, os20, os21, os22, os23, os24]
    have hor := or_one (pK ln lt A w v) (s := k) (by omega) _ rfl
    have hd' : ∀ u, u < aW A → (¬ u = w → (upd dk w (nI k)) u = nI (aKd A u)) ∧ spelled u = aQ A u := by
      intro u hu
      refine ⟨fun q => ?_, (hd u hu).2⟩
      rw [zn_up, if_neg q]; exact (hd u hu).1 q
    have ih := c_kinds_loop hp ha hw v hz o1 o2 o3 o4 o5 o6 o7 dl dw d (k + 1) (upd dk w (nI k)) (nI (aSz (setK A w k) (aLn A w))) (nI (aPs ln lt (setK A w k) (aLn A w) (aSz (setK A w k) (aLn A w)))) (nI (msk (gSt (aG ln lt (setK A w k) (aLn A w))) (aPs ln lt (setK A w k) (aLn A w) (aSz (setK A w k) (aLn A w))))) (nI (msk (gEi (aG ln lt (setK A w k) (aLn A w))) (aPs ln lt (setK A w k) (aLn A w) (aSz (setK A w k) (aLn A w))))) (nI (msk (JN ln lt (setK A w k) (aLn A w)) (aSz (setK A w k) (aLn A w)))) (nI (msk (sG ln lt (setK A w k) (aLn A w)) (aSz (setK A w k) (aLn A w)))) K' (eL (aSC ln lt (setK A w k) (aLn A w) A.1 A.2.1 (aG ln lt (setK A w k) (aLn A w)))) (eW (aSC ln lt (setK A w k) (aLn A w) A.1 A.2.1 (aG ln lt (setK A w k) (aLn A w)))) la' g1 g2 g3 g4 (by omega) (by omega) hd' n (by omega)
    rw [← hor] at ih
    rw [mX6_kinds_b50, if_neg k1, zn_cl (by omega), if_neg k2, c1, os7, c3, os8, nI_1]
    by_cases h : eC (lst ln lt (setK A w k) A.1 A.2.1 (aLn A w)) = v
    · have hb : pK ln lt A w v k = true := by unfold pK; simp [h1, h]
      rw [hb, if_pos rfl] at ih
      rw [if_pos (by rw [hel]; exact h)]
      exact ih
    · have hb : pK ln lt A w v k = false := by unfold pK; simp [h]
      rw [hb, if_neg (by decide)] at ih
      rw [if_neg (by rw [hel]; exact h)]
      exact ih
theorem r_kinds_loop (h : PR ln lt A row) (ha : AOK L ln lt A) {w : Nat} (hw : w < aW A) (v : Int32) : ∀ (d k : Nat) (th : Nat → Int32) (z1 z2 z3 : Int32) (b1 b2 b3 : Nat → Int32), k + d = 6 → 1 ≤ k → ∀ n, d < n → ∃ th' u1 u2 u3 v1 v2 v3, mX7_kinds_b33 row (nI w) v n 0 z1 z2 z3 th b1 b2 b3 (nI (msk (pK ln lt A w v) k)) (nI k) = some (nI (msk (pK ln lt A w v) 6), 0, u1, u2, u3, th', v1, v2, v3)
  | _, _, _, _, _, _, _, _, _, _, _, 0, hn => absurd hn (by omega)
  | 0, k, th, z1, z2, z3, b1, b2, b3, hk, h1, n + 1, _ => by
    have q : k = 6 := by omega
    subst q
    exact ⟨th, z1, z2, z3, b1, b2, b3, by rw [mX7_kinds_b33, if_pos (by decide)]⟩
  | d + 1, k, th, z1, z2, z3, b1, b2, b3, hk, h1, n + 1, hn => by
    obtain ⟨-, -, w20, l4⟩ := aok_sz ha
    obtain ⟨hln, -, -⟩ := aLn_in ha hw
    have ha' := AOK_setK ha hw (k := k) (by omega)
    obtain ⟨th', t1, t2⟩ := r_layThen (row := row) th
    have hr' := PR_setK (k := k) (PR_congr h ha t2) hw
    obtain ⟨u1, u2, u3, v1, v2, v3, hb⟩ := r_byMetre hr' ha' (l := aLn A w) hln z1 z2 z3 b1 b2 b3
    have hlo : mX7_lineOf (upd th' (7 + 10 * w) (nI k)) (nI w) = some (nI (aLn A w)) := r_lineOf hr' ha' (by rw [setK_W]; exact hw)
    have k1 : ¬ (5 : Int32) < nI k := nI_nlt (a := 5) (by omega) (by omega)
    have e7 : (7 : Int32) + (10 : Int32) * nI w = nI (7 + 10 * w) := by rw [zn_7, zn_10, zn_mul, zn_add]
    have k2 : ¬ (nI (7 + 10 * w) < 0 ∨ 207 ≤ 7 + 10 * w) := by simp (disch := omega) only [↓reduceIte, Nat.reduceAdd, Nat.reduceMul, Nat.reduceSub, Nat.zero_add, zn_0, zn_1, zn_2, zn_3, zn_4, zn_5, zn_6, zn_7, zn_8, zn_9, zn_10, zn_16, zn_20, zn_23, zn_24, zn_25, zn_26, zn_40, zn_207, zn_4761, zn_99, zn_130, zn_lt_t, zn_lt_f, zn_le_t, zn_le_f, zn_eq_t, zn_eq_f, zn_ix, zn_cl, zq_le_f, zq_le_t, zq_lt_f, zq_lt_t, zn_add, zn_mul, zn_sub, or_false, false_or, or_self, true_or, or_true, and_true, true_and, and_false, false_and, not_true_eq_false, not_false_eq_true, if_true, if_false, os1, os2, os3, os4, os5, os6, os7, os8, os9, os10, os11, os12, os13, os14, os15, os16, os17, os18, os19, os20, os21, os22, os23, os24]
    have hor := or_one (pK ln lt A w v) (s := k) (by omega) _ rfl
    have hb' : mX7_byMetre (upd th' (7 + 10 * w) (nI k)) z1 z2 z3 b1 b2 b3 (nI (aLn A w)) = some (eC (lst ln lt (setK A w k) A.1 A.2.1 (aLn A w)), u1, u2, u3, v1, v2, v3) := hb
    have ih := r_kinds_loop h ha hw v d (k + 1) (upd th' (7 + 10 * w) (nI k)) u1 u2 u3 v1 v2 v3 (by omega) (by omega) n (by omega)
    rw [← hor] at ih
    rw [mX7_kinds_b33, if_neg k1, t1, os1, e7, zn_cl (by omega), if_neg k2, hlo, os1, hb', os7, nI_1]
    by_cases h : eC (lst ln lt (setK A w k) A.1 A.2.1 (aLn A w)) = v
    · have hb : pK ln lt A w v k = true := by unfold pK; simp [h1, h]
      rw [hb, if_pos rfl] at ih
      rw [if_pos h]
      exact ih
    · have hb : pK ln lt A w v k = false := by unfold pK; simp [h]
      rw [hb, if_neg (by decide)] at ih
      rw [if_neg h, Int32.or_zero]
      exact ih
end
theorem st20 : Step20 RelW := by
  intro x_begun x_latestFault x_latestFinding rd_length rd_tape v_foot v_feet v_lines v_words v_sizes v_kinds v_spelled d_foot d_feet d_lines d_words d_sizes d_kinds d_spelled i0_foot i0_feet i0_lines i0_words i0_sizes i0_kinds i0_spelled i1_foot i1_feet i1_lines i1_words i1_sizes i1_kinds i1_spelled ac_next ac_kept ac_sorts ac_firsts ac_seconds ac_takenKinds ac_takenSpellings er_words er_syllables er_strong er_either er_joins er_singles er_options er_least er_ways er_lastAt er_fees er_heavy er_light er_over x_bodies m_thrown m_status m_acts m_taped m_latest m_stands m_least m_ways m_traced m_lane m_many m_item m_poem m_then m_was m_tape m_strengths m_sounds m_stand m_isKept m_kept m_trace x_lane x_rsz x_item L la sa ln sy sn lt st a1 a2 hR
  obtain ⟨hF, hG, hT, hW, hC, hZ⟩ := hR
  have hZ0 := hZ
  obtain ⟨hP, hD, hI0, hI1, A, ha, hpc, hpr, hA⟩ := hZ
  have hpc0 := hpc
  obtain ⟨p1, p2, p3, p4, hz, hc, hsp⟩ := hpc
  subst p1 p2 p3 p4
  replace hz : CZ A v_sizes := hz
  replace hc : CW A v_kinds v_spelled := hc
  obtain ⟨-, -, w20, l4⟩ := aok_sz ha
  have hin := in_i a2 0 99
  rw [show (0 : Int64).toInt = 0 from rfl, show (99 : Int64).toInt = 99 from rfl] at hin
  have e0 : (0 : Int32).toInt = 0 := rfl
  have e99 : (99 : Int32).toInt = 99 := rfl
  rcases rng a1 (aW A) (by omega) with ⟨w, hw, rfl⟩ | hn
  · have hw6 : mX2_hasWord (nI (aW A)) (nI w) = some (nI 1) := c_hw_t hw (by omega)
    have hw7 : mX7_isWord m_poem (nI w) = some (nI 1) := r_iw_t hpr ha hw
    by_cases hv : 0 ≤ a2.toInt ∧ a2.toInt ≤ 99
    · rw [if_pos hv] at hin
      have k1 : ¬ a2 < 0 := by rw [i32_lt]; omega
      have k2 : a2 ≤ 99 := by rw [i32_le]; omega
      obtain ⟨z', kd', sp', b1, b2, b3⟩ := c_becomeAs (sizes := v_sizes) (kinds := v_kinds) hsp (nI A.1) (nI A.2.1) (nI (aL A)) (nI (aW A)) d_foot d_feet d_lines d_words d_sizes d_kinds d_spelled
      have hz' : CZ A z' := fun l hl => by rw [b2 l (by omega)]; exact hz l hl
      have hd' : ∀ u, u < aW A → (¬ u = w → kd' u = nI (aKd A u)) ∧ sp' u = aQ A u := by
        intro u hu
        rw [(b3 u (by omega)).1, (b3 u (by omega)).2]
        exact ⟨fun _ => (hc u hu).1, (hc u hu).2⟩
      obtain ⟨dk', x1, x2, x3, x4, x5, x6, x7, x8, x9, y1, y2, y3, y4, y5, hx⟩ := c_kinds_loop hP ha hw a2 hz' (nI A.1) (nI A.2.1) (nI (aL A)) (nI (aW A)) v_sizes v_kinds v_spelled (nI (aL A)) (nI (aW A)) 5 1 kd' er_words er_syllables er_strong er_either er_joins er_singles er_options er_least er_ways er_lastAt er_fees er_heavy er_light er_over (by omega) (by omega) hd' FU (zn_fu (by omega))
      obtain ⟨th', u1, u2, u3, v1, v2, v3, hm⟩ := r_kinds_loop hpr ha hw a2 5 1 m_then m_stands m_least m_ways m_strengths m_sounds m_stand (by omega) (by omega) FU (zn_fu (by omega))
      have hp1 : msk (pK ln lt A w a2) 1 = 0 := by simp [msk, pK]
      rw [hp1] at hx hm
      refine ⟨nI (msk (pK ln lt A w a2) 6), nI A.1, nI A.2.1, nI (aL A), nI (aW A), z', dk', sp', x1, x2, x3, x4, x5, x6, x7, x8, x9, y1, y2, y3, y4, y5, 0, u1, u2, u3, th', v1, v2, v3, ?_, ?_, hF, hG, hT, hW, hC, hP, ?_, hI0, hI1, A, ha, hpc0, hpr, hA⟩
      · unfold mX6_kinds mX6_kinds_b0
        rw [hw6, os1, if_neg (by decide), if_neg k1, if_pos k2, b1, os7, c_lineOf ha hz' hw, os1]
        exact hx
      · unfold mX7_kinds mX7_kinds_b0
        rw [hw7, os1, if_neg (by decide), hin, os1, if_neg (by decide)]
        exact hm
      · intro j hj
        rw [(b3 j hj).2]; exact hsp j hj
    · rw [if_neg hv] at hin
      refine ⟨-1000001, d_foot, d_feet, d_lines, d_words, d_sizes, d_kinds, d_spelled, er_words, er_syllables, er_strong, er_either, er_joins, er_singles, er_options, er_least, er_ways, er_lastAt, er_fees, er_heavy, er_light, er_over, 0, m_stands, m_least, m_ways, m_then, m_strengths, m_sounds, m_stand, ?_, ?_, hF, hG, hT, hW, hC, hZ0⟩
      · unfold mX6_kinds mX6_kinds_b0
        rw [hw6, os1, if_neg (by decide)]
        by_cases k1 : a2 < 0
        · rw [if_pos k1]
        · rw [if_neg k1, if_neg (by rw [i32_lt] at k1; rw [i32_le]; omega)]
      · unfold mX7_kinds mX7_kinds_b0
        rw [hw7, os1, if_neg (by decide), hin]
        rfl
  · refine ⟨-1000001, d_foot, d_feet, d_lines, d_words, d_sizes, d_kinds, d_spelled, er_words, er_syllables, er_strong, er_either, er_joins, er_singles, er_options, er_least, er_ways, er_lastAt, er_fees, er_heavy, er_light, er_over, 0, m_stands, m_least, m_ways, m_then, m_strengths, m_sounds, m_stand, ?_, ?_, hF, hG, hT, hW, hC, hZ0⟩
    · unfold mX6_kinds mX6_kinds_b0
      rw [c_hw_f hn (by omega)]; rfl
    · unfold mX7_kinds mX7_kinds_b0
      rw [r_iw_f hpr ha hn]; rfl
