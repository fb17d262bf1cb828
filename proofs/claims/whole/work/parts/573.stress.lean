-- uses: 572.stress
/-! stressed: the step -/
section
variable {L : List Nat} {ln sy sn : Nat → Int32} {lt st : Nat → Nat → Int32} {A : AP} {row : Nat → Int32} {kinds sizes : Nat → Int32} {spelled : Nat → Nat}
theorem c_stress_loop {E p : Nat} (hE : E ≤ 8) (hp : p ≤ 10) {hits : Nat → Int32} {H : Nat → Nat} (hH : ∀ k, k < 9 → hits k = nI (H k)) (hH2 : ∀ k, H k < 1000) {ab : Nat} (hab : sumN (fun k => H k * (p ^ k * (10 - p) ^ (E - k))) (E + 1) = ab) (hle : ab ≤ 10 ^ E) (o1 o2 o3 : Int32) (o4 o5 : Nat → Int32) (o6 : Nat → Nat) (p1 p2 p4 : Int32) (w1 w2 w3 w4 w5 w6 w7 w8 w9 : Int32) (a1 a2 a3 a4 a5 : Nat → Int32) : ∀ (d k : Nat), k + d = E + 1 → ∀ n, d < n → mX6_stressed_b98 L ln sy sn lt o1 o2 o3 o4 o5 o6 p1 p2 (nI p) p4 n w1 w2 w3 w4 w5 w6 w7 w8 w9 a1 a2 a3 a4 a5 hits (nI E) (lN (sumN (fun k => H k * (p ^ k * (10 - p) ^ (E - k))) k)) (nI k) = some (lN ((if p4 = 0 then ab else 10 ^ E) / Nat.gcd (10 ^ E) ab), w1, w2, w3, w4, w5, w6, w7, w8, w9, a1, a2, a3, a4, a5, hits)
  | _, _, _, 0, hn => absurd hn (by omega)
  | 0, k, hk, n + 1, _ => by
    have e : k = E + 1 := by omega
    subst e
    have h10 : 10 ^ E ≤ 10 ^ 8 := Nat.pow_le_pow_right (by omega) hE
    have h1 : 0 < 10 ^ E := Nat.pow_pos (by omega)
    have hpr : 10 ^ E * ab ≤ 10 ^ 8 * 10 ^ 8 := Nat.mul_le_mul h10 (by omega)
    have hg : mX6_commonDivisor (lN (10 ^ E)) (lN ab) = some (lN (Nat.gcd (10 ^ E) ab)) := c_gcd (lN (10 ^ E)) (lN ab) 60 (10 ^ E) ab 0 FU (by omega) hle (by omega) (by omega) (zn_fu (by omega))
    have hgp : 0 < Nat.gcd (10 ^ E) ab := Nat.gcd_pos_of_pos_left _ h1
    have hgl : Nat.gcd (10 ^ E) ab ≤ 10 ^ E := Nat.gcd_le_left _ h1
    have hlt : ¬ lN (Nat.gcd (10 ^ E) ab) < (1 : Int64) := fun q => by
      have := (pk_lLT (a := Nat.gcd (10 ^ E) ab) (b := 1) (by omega) (by omega)).mp q
      omega
    have hne : ¬ lN (Nat.gcd (10 ^ E) ab) = 0 := fun q => absurd ((fb_lN0 (by omega)).mp q) (by omega)
    have hpw : mX6_power (10 : Int32) (nI E) = some (lN (10 ^ E)) := c_power (b := 10) (by omega) (by omega)
    rw [mX6_stressed_b98, if_pos (nI_lt (by omega) (by omega)), hpw, os1, hab, hg, os1, if_neg hlt]
    by_cases h4 : p4 = 0
    · rw [if_pos h4, if_neg hne, if_pos h4, pk_lDiv (by omega) hgp (by omega)]
    · rw [if_neg h4, if_neg hne, if_neg h4, pk_lDiv (by omega) hgp (by omega)]
  | d + 1, k, hk, n + 1, hn => by
    have ih := c_stress_loop hE hp hH hH2 hab hle o1 o2 o3 o4 o5 o6 p1 p2 p4 w1 w2 w3 w4 w5 w6 w7 w8 w9 a1 a2 a3 a4 a5 d (k + 1) (by omega) n (by omega)
    have ci : ¬ (nI k < 0 ∨ 9 ≤ k) := by simp (disch := omega) only [↓reduceIte, Nat.reduceAdd, Nat.reduceMul, Nat.reduceSub, Nat.zero_add, zn_0, zn_1, zn_2, zn_3, zn_4, zn_5, zn_6, zn_7, zn_8, zn_9, zn_10, zn_16, zn_20, zn_23, zn_24, zn_25, zn_26, zn_40, zn_207, zn_4761, zn_99, zn_130, zn_lt_t, zn_lt_f, zn_le_t, zn_le_f, zn_eq_t, zn_eq_f, zn_ix, zn_cl, zq_le_f, zq_le_t, zq_lt_f, zq_lt_t, zn_add, zn_mul, zn_sub, or_false, false_or, or_self, true_or, or_true, and_true, true_and, and_false, false_and, not_true_eq_false, not_false_eq_true, if_true, if_false, os1, os2, os3, os4, os5, os6, os7, os8, os9, os10, os11, os12, os13, os14, os15, os16, os17, os18, os19, os20, os21, os22, os23, os24]
    have hk2 := hH2 k
    have e10 : (10 : Int32) - nI p = nI (10 - p) := by rw [zn_10, zn_sub hp]
    rw [mX6_stressed_b98, if_neg (nI_nlt (by omega) (by omega)), zn_cl (by omega), if_neg ci, c_power (by omega) (by omega), os1, e10, zn_sub (by omega), c_power (by omega) (by omega), os1, hH k (by omega), nI_l (by omega), lN_mul, lN_mul, lN_add, nI_1, Nat.mul_assoc]
    exact ih
theorem r_str_in (h : PR ln lt A row) (ha : AOK L ln lt A) {l : Nat} (hl : l < aL A) {v p : Nat} (hv : v < 100) (hp : p ≤ 10) {c : Nat} (hc : c < 256) {E : Nat} (hE : E ≤ 8) (p4 : Int32) (th : Int32) (k84 : Int32 → Int32 → Int32 → Int32 → (Nat → Int32) → (Nat → Int32) → (Nat → Int32) → Int32 → Int64 → Int64 → Int32 → Option (Int64 × (Int32) × (Int32) × (Int32) × (Int32) × (Nat → Int32) × (Nat → Int32) × (Nat → Int32))) (ab be : Nat) (z1 z2 z3 : Int32) (b1 b2 b3 : Nat → Int32) : ∀ (d k : Nat), k + d = E → ∀ n, d < n → ∃ u1 u2 u3 v1 v2 v3, mX7_stressed_b99 row (nI l) (nI v) (nI p) p4 k84 n th z1 z2 z3 b1 b2 b3 (nI E) (lN ab) (lN be) (nI c) (lN (od p c k)) (nI k) = k84 th u1 u2 u3 v1 v2 v3 (nI E) (lN (ab + if aHit ln lt A l v c then od p c E else 0)) (lN (be + od p c E)) (nI (c + 1))
  | _, _, _, 0, hn => absurd hn (by omega)
  | 0, k, hk, n + 1, _ => by
    have e : k = E := by omega
    subst e
    have hf4 : A.1 < 4 := by have := ha.1; omega
    obtain ⟨sts', f', g', sd', r1⟩ := r_scanOf h ha hl hf4 (ha.2.2.1 (by omega)) ha.2.1 (nI c) z1 z2 z3 b1 b2 b3
    have hlb := aSC_LB ha hl hf4 ha.2.1 (SB (nI c) (aG ln lt A l))
    refine ⟨sts', eL (aSC ln lt A l A.1 A.2.1 (SB (nI c) (aG ln lt A l))), eW (aSC ln lt A l A.1 A.2.1 (SB (nI c) (aG ln lt A l))), f', g', sd', ?_⟩
    rw [mX7_stressed_b99, if_pos (nI_le (Nat.le_refl _) (by omega)), show row (1 : Int32).toNatClampNeg = nI A.1 from h.2.1, show row (2 : Int32).toNatClampNeg = nI A.2.1 from h.2.2.1, r1, os7, lN_add, nI_1]
    cases hsc : aSC ln lt A l A.1 A.2.1 (SB (nI c) (aG ln lt A l)) with
    | none =>
      have hb : aHit ln lt A l v c = false := by unfold aHit; rw [hsc]; rfl
      rw [if_pos (show eL none = -1000000 from rfl), hb, Int64.add_zero]
      rfl
    | some q =>
      obtain ⟨l0, w0⟩ := q
      have hl0 := hlb l0 w0 hsc
      rw [if_neg (show ¬ eL (some (l0, w0)) = -1000000 from nI_none hl0)]
      by_cases hle : l0 ≤ v
      · have hb : aHit ln lt A l v c = true := by unfold aHit; rw [hsc]; simp [hitO, hle]
        rw [if_neg (show ¬ nI v < eL (some (l0, w0)) from nI_nlt hle (by omega)), hb, lN_add]
        rfl
      · have hb : aHit ln lt A l v c = false := by unfold aHit; rw [hsc]; simp [hitO, hle]
        rw [if_pos (show nI v < eL (some (l0, w0)) from nI_lt (by omega) (by omega)), hb, Int64.add_zero]
        rfl
  | d + 1, k, hk, n + 1, hn => by
    have ih := r_str_in h ha hl hv hp hc hE p4 th k84 ab be z1 z2 z3 b1 b2 b3 d (k + 1) (by omega) n (by omega)
    have e : od p c (k + 1) = od p c k * (if c.testBit k then p else 10 - p) := rfl
    have h32 : k < 32 := by omega
    have hb : B (nI c) k = c.testBit k := by rw [B_nI]; simp [h32]
    have el : (nI p).toInt64 = lN p := nI_l (by omega)
    have e10 : (10 : Int64) - lN p = lN (10 - p) := by
      show lN 10 - lN p = _
      exact lN_sub hp
    rw [mX7_stressed_b99, if_neg (nI_ge (by omega) (by omega)), r_has _ h32, os1, hb, el, e10, nI_1]
    rw [e] at ih
    cases hbt : c.testBit k
    · rw [hbt] at ih
      rw [b2i_f, if_pos (by rfl), lN_mul]
      exact ih
    · rw [hbt] at ih
      rw [b2i_t, if_neg (by decide), lN_mul]
      exact ih
theorem r_strs_loop (h : PR ln lt A row) (ha : AOK L ln lt A) {l : Nat} (hl : l < aL A) {v p : Nat} (hv : v < 100) (hp : p ≤ 10) (hE : aE_ ln lt A l ≤ 8) (p4 : Int32) : ∀ (d c : Nat) (z1 z2 z3 : Int32) (b1 b2 b3 : Nat → Int32), c + d = 2 ^ aE_ ln lt A l → ∀ n, d < n → ∃ u1 u2 u3 v1 v2 v3, mX7_stressed_b84 row (nI l) (nI v) (nI p) p4 n 0 z1 z2 z3 b1 b2 b3 (nI (aE_ ln lt A l)) (lN (sumN (fun c => if aHit ln lt A l v c then od p c (aE_ ln lt A l) else 0) c)) (lN (sumN (fun c => od p c (aE_ ln lt A l)) c)) (nI c) = some (lN ((if p4 = 0 then aAb ln lt A l v p else 10 ^ aE_ ln lt A l) / Nat.gcd (10 ^ aE_ ln lt A l) (aAb ln lt A l v p)), 0, u1, u2, u3, v1, v2, v3)
  | _, _, _, _, _, _, _, _, _, 0, hn => absurd hn (by omega)
  | 0, c, z1, z2, z3, b1, b2, b3, hc, n + 1, _ => by
    have h256 : 2 ^ aE_ ln lt A l ≤ 2 ^ 8 := Nat.pow_le_pow_right (by omega) hE
    have h10 : 10 ^ aE_ ln lt A l ≤ 10 ^ 8 := Nat.pow_le_pow_right (by omega) hE
    have h1 : 0 < 10 ^ aE_ ln lt A l := Nat.pow_pos (by omega)
    have hs : (1 : Int32) <<< (nI (aE_ ln lt A l) &&& 31) = nI (2 ^ aE_ ln lt A l) := by
      have key : ∀ k, k < 9 → (1 : Int32) <<< (nI k &&& 31) = nI (2 ^ k) := by decide +kernel
      exact key _ (by omega)
    have hle := aAb_le (ln := ln) (lt := lt) (A := A) l v hp
    refine ⟨z1, z2, z3, b1, b2, b3, ?_⟩
    have e : c = 2 ^ aE_ ln lt A l := by omega
    rw [mX7_stressed_b84, hs, if_pos (nI_le (by omega) (by omega)), e, od_all hp]
    have eab : sumN (fun c => if aHit ln lt A l v c then od p c (aE_ ln lt A l) else 0) (2 ^ aE_ ln lt A l) = aAb ln lt A l v p := rfl
    rw [eab]
    have hpr : aAb ln lt A l v p * 10 ^ aE_ ln lt A l ≤ 10 ^ 8 * 10 ^ 8 := Nat.mul_le_mul (by omega) h10
    obtain ⟨N, hN⟩ := FU_e
    have hne : ¬ lN (10 ^ aE_ ln lt A l) = 0 := fun q => absurd ((fb_lN0 (by omega)).mp q) (by omega)
    by_cases heq : aAb ln lt A l v p = 10 ^ aE_ ln lt A l
    · have hg := r_gcd row (nI l) (nI v) (nI p) p4 0 z1 z2 z3 b1 b2 b3 (aAb ln lt A l v p) (10 ^ aE_ ln lt A l) (by omega) (by omega) 60 (aAb ln lt A l v p) (10 ^ aE_ ln lt A l) FU (by omega) (by omega) (by omega) (by omega) (zn_fu (by omega))
      rw [hg, Nat.gcd_comm]
    · have hlt : aAb ln lt A l v p < 10 ^ aE_ ln lt A l := by omega
      have hg := r_gcd row (nI l) (nI v) (nI p) p4 0 z1 z2 z3 b1 b2 b3 (aAb ln lt A l v p) (10 ^ aE_ ln lt A l) (by omega) (by omega) 60 (10 ^ aE_ ln lt A l) (aAb ln lt A l v p) (N + 63) (by rw [Nat.mul_comm]; omega) (by omega) h1 (by omega) (by omega)
      rw [hN, mX7_stressed_b208, if_neg (fun q => absurd ((lg0 (by omega)).mp q) (by omega)), if_neg hne, pk_lRem (by omega) h1 (by omega), Nat.mod_eq_of_lt hlt]
      exact hg
  | d + 1, c, z1, z2, z3, b1, b2, b3, hc, n + 1, hn => by
    have h256 : 2 ^ aE_ ln lt A l ≤ 2 ^ 8 := Nat.pow_le_pow_right (by omega) hE
    have hs : (1 : Int32) <<< (nI (aE_ ln lt A l) &&& 31) = nI (2 ^ aE_ ln lt A l) := by
      have key : ∀ k, k < 9 → (1 : Int32) <<< (nI k &&& 31) = nI (2 ^ k) := by decide +kernel
      exact key _ (by omega)
    obtain ⟨u1, u2, u3, v1, v2, v3, hi⟩ := r_str_in h ha hl hv hp (c := c) (by omega) hE p4 0 (mX7_stressed_b84 row (nI l) (nI v) (nI p) p4 n) (sumN (fun c => if aHit ln lt A l v c then od p c (aE_ ln lt A l) else 0) c) (sumN (fun c => od p c (aE_ ln lt A l)) c) z1 z2 z3 b1 b2 b3 (aE_ ln lt A l) 0 (by omega) FU (zn_fu (by omega))
    have hi' : mX7_stressed_b99 row (nI l) (nI v) (nI p) p4 (mX7_stressed_b84 row (nI l) (nI v) (nI p) p4 n) FU 0 z1 z2 z3 b1 b2 b3 (nI (aE_ ln lt A l)) (lN (sumN (fun c => if aHit ln lt A l v c then od p c (aE_ ln lt A l) else 0) c)) (lN (sumN (fun c => od p c (aE_ ln lt A l)) c)) (nI c) 1 0 = _ := hi
    rw [mX7_stressed_b84, hs, if_neg (nI_ge (by omega) (by omega)), hi']
    exact r_strs_loop h ha hl hv hp hE p4 d (c + 1) u1 u2 u3 v1 v2 v3 (by omega) n (by omega)
end
theorem st22 : Step22 RelW := by
  intro x_begun x_latestFault x_latestFinding rd_length rd_tape v_foot v_feet v_lines v_words v_sizes v_kinds v_spelled d_spelled i0_foot i0_feet i0_lines i0_words i0_sizes i0_kinds i0_spelled i1_foot i1_feet i1_lines i1_words i1_sizes i1_kinds i1_spelled ac_next ac_kept ac_sorts ac_firsts ac_seconds ac_takenKinds ac_takenSpellings er_words er_syllables er_strong er_either er_joins er_singles er_options er_least er_ways er_lastAt er_fees er_heavy er_light er_over x_hits x_bodies m_thrown m_status m_acts m_taped m_latest m_stands m_least m_ways m_traced m_lane m_many m_item m_poem m_was m_tape m_strengths m_sounds m_stand m_isKept m_kept m_trace x_lane x_rsz x_item L la sa ln sy sn lt st a1 a2 a3 a4 hR
  obtain ⟨hF, hG, hT, hW, hC, hZ⟩ := hR
  have hZ0 := hZ
  obtain ⟨hP, hD, hI0, hI1, A, ha, hpc, hpr, hA⟩ := hZ
  have hpc0 := hpc
  obtain ⟨p1, p2, p3, p4, hz, hc, hsp⟩ := hpc
  subst p1 p2 p3 p4
  replace hz : CZ A v_sizes := hz
  replace hc : CW A v_kinds v_spelled := hc
  obtain ⟨-, -, w20, l4⟩ := aok_sz ha
  have hin2 := in_i a2 0 99
  have hin3 := in_i a3 0 10
  have hin4 := in_i a4 0 1
  rw [show (0 : Int64).toInt = 0 from rfl, show (99 : Int64).toInt = 99 from rfl] at hin2
  rw [show (0 : Int64).toInt = 0 from rfl, show (10 : Int64).toInt = 10 from rfl] at hin3
  rw [show (0 : Int64).toInt = 0 from rfl, show (1 : Int64).toInt = 1 from rfl] at hin4
  have e0 : (0 : Int32).toInt = 0 := rfl
  have e1 : (1 : Int32).toInt = 1 := rfl
  have e10 : (10 : Int32).toInt = 10 := rfl
  have e99 : (99 : Int32).toInt = 99 := rfl
  rcases rng a1 (aL A) (by omega) with ⟨l, hl, rfl⟩ | hn
  · have hl6 : mX2_hasLine (nI (aL A)) (nI l) = some (nI 1) := c_hl_t hl (by omega)
    have hl7 : mX7_isLine m_poem (nI l) = some (nI 1) := r_il_t hpr ha hl
    by_cases hv : (0 ≤ a2.toInt ∧ a2.toInt ≤ 99) ∧ (0 ≤ a3.toInt ∧ a3.toInt ≤ 10) ∧ (0 ≤ a4.toInt ∧ a4.toInt ≤ 1)
    · obtain ⟨v1, v2, v3⟩ := hv
      rw [if_pos v1] at hin2
      rw [if_pos v2] at hin3
      rw [if_pos v3] at hin4
      obtain ⟨v, hv, rfl⟩ := i32_nat (p := a2) (n := 100) (by omega) (by omega) (by omega)
      obtain ⟨p, hp, rfl⟩ := i32_nat (p := a3) (n := 11) (by omega) (by omega) (by omega)
      have k1 : ¬ nI v < 0 := nI_pos (by omega)
      have k2 : nI v ≤ 99 := nI_le (b := 99) (by omega) (by omega)
      have k3 : ¬ nI p < 0 := nI_pos (by omega)
      have k4 : ¬ (10 : Int32) < nI p := nI_nlt (a := 10) (by omega) (by omega)
      have k5 : ¬ a4 < 0 := by rw [i32_lt]; omega
      have k6 : a4 ≤ 1 := by rw [i32_le]; omega
      have h20 := aPs_20 (ln := ln) ha hl (Nat.le_refl _)
      have hcE : aE_ ln lt A l ≤ aPs ln lt A l (aSz A l) := cnt_le _ _
      obtain ⟨la', c1, c2⟩ := c_hear hP ha hc hz hl er_words er_syllables er_strong er_either er_joins er_singles er_lastAt
      obtain ⟨f', g', q1, q2, q3⟩ := r_layLine hpr ha hl (-1) m_strengths m_sounds
      have hpE : mJ6_bitCount_0f7a4 (nI (msk (gEi (aG ln lt A l)) (aPs ln lt A l (aSz A l)))) = some (nI (aE_ ln lt A l)) := by
        rw [c_pop]
        congr 2
        have h1 : cnt (B (nI (msk (gEi (aG ln lt A l)) (aPs ln lt A l (aSz A l))))) (aPs ln lt A l (aSz A l)) = aE_ ln lt A l := cnt_congr _ (fun i hi => by rw [B_msk _ (by omega)]; simp [hi])
        have h2 := cnt_end (B (nI (msk (gEi (aG ln lt A l)) (aPs ln lt A l (aSz A l))))) (aPs ln lt A l (aSz A l)) (32 - aPs ln lt A l (aSz A l)) (by
          intro j g1 g2
          rw [B_msk _ (by omega)]
          have : ¬ j < aPs ln lt A l (aSz A l) := by omega
          simp [this])
        rw [show aPs ln lt A l (aSz A l) + (32 - aPs ln lt A l (aSz A l)) = 32 by omega] at h2
        rw [h2, h1]
      by_cases hE : aE_ ln lt A l ≤ 8
      · have k8 : nI (aE_ ln lt A l) ≤ 8 := nI_le (b := 8) hE (by omega)
        obtain ⟨K', le', wy', g1, g2, g3, g4, h', x1, x2⟩ := c_hits ha hl c2 hv hE er_options er_least er_ways er_fees er_heavy er_light er_over x_hits
        have hH2 : ∀ k, aH ln lt A l v (2 ^ aE_ ln lt A l) k < 1000 := by
          intro k
          have h256 : 2 ^ aE_ ln lt A l ≤ 2 ^ 8 := Nat.pow_le_pow_right (by omega) hE
          have := cnt_le (fun c => aHit ln lt A l v c && decide (popN c (aE_ ln lt A l) = k)) (2 ^ aE_ ln lt A l)
          show cnt _ _ < 1000
          omega
        have hx := c_stress_loop (L := L) (ln := ln) (sy := sy) (sn := sn) (lt := lt) hE (by omega : p ≤ 10) x2 hH2 (aAb_h (ln := ln) (lt := lt) (A := A) l v p) (aAb_le (ln := ln) (lt := lt) (A := A) l v (by omega : p ≤ 10)) (nI A.1) (nI A.2.1) (nI (aL A)) v_sizes v_kinds v_spelled (nI l) (nI v) a4 (nI (aSz A l)) (nI (aPs ln lt A l (aSz A l))) (nI (msk (gSt (aG ln lt A l)) (aPs ln lt A l (aSz A l)))) (nI (msk (gEi (aG ln lt A l)) (aPs ln lt A l (aSz A l)))) (nI (msk (JN ln lt A l) (aSz A l))) (nI (msk (sG ln lt A l) (aSz A l))) K' le' wy' la' g1 g2 g3 g4 (aE_ ln lt A l + 1) 0 (by omega) FU (zn_fu (by omega))
        have h256 : 2 ^ aE_ ln lt A l ≤ 2 ^ 8 := Nat.pow_le_pow_right (by omega) hE
        obtain ⟨u1, u2, u3, s1, s2, s3, hm⟩ := r_strs_loop hpr ha hl hv (by omega : p ≤ 10) hE a4 (2 ^ aE_ ln lt A l) 0 m_stands m_least m_ways f' g' m_stand (by omega) FU (zn_fu (by omega))
        refine ⟨lN ((if a4 = 0 then aAb ln lt A l v p else 10 ^ aE_ ln lt A l) / Nat.gcd (10 ^ aE_ ln lt A l) (aAb ln lt A l v p)), nI (aSz A l), nI (aPs ln lt A l (aSz A l)), nI (msk (gSt (aG ln lt A l)) (aPs ln lt A l (aSz A l))), nI (msk (gEi (aG ln lt A l)) (aPs ln lt A l (aSz A l))), nI (msk (JN ln lt A l) (aSz A l)), nI (msk (sG ln lt A l) (aSz A l)), K', le', wy', la', g1, g2, g3, g4, h', 0, u1, u2, u3, s1, s2, s3, ?_, ?_, hF, hG, hT, hW, hC, hZ0⟩
        · unfold mX6_stressed mX6_stressed_b0
          rw [hl6, os1, if_neg (by decide), if_neg k1, if_pos k2, if_neg k3, if_neg k4, if_neg k5, if_pos k6, c1, os7, hpE, os1, if_pos k8, x1, os8]
          exact hx
        · unfold mX7_stressed mX7_stressed_b0
          rw [hl7, os1, if_neg (by decide), hin2, os1, if_neg (by decide), hin3, os1, if_neg (by decide), hin4, os1, if_neg (by decide), q1, os3, if_pos k8]
          exact hm
      · have k8 : ¬ nI (aE_ ln lt A l) ≤ 8 := nI_ge (a := 8) (by omega) (by omega)
        refine ⟨-1000003, nI (aSz A l), nI (aPs ln lt A l (aSz A l)), nI (msk (gSt (aG ln lt A l)) (aPs ln lt A l (aSz A l))), nI (msk (gEi (aG ln lt A l)) (aPs ln lt A l (aSz A l))), nI (msk (JN ln lt A l) (aSz A l)), nI (msk (sG ln lt A l) (aSz A l)), er_options, er_least, er_ways, la', er_fees, er_heavy, er_light, er_over, x_hits, 0, m_stands, m_least, m_ways, f', g', m_stand, ?_, ?_, hF, hG, hT, hW, hC, hZ0⟩
        · unfold mX6_stressed mX6_stressed_b0
          rw [hl6, os1, if_neg (by decide), if_neg k1, if_pos k2, if_neg k3, if_neg k4, if_neg k5, if_pos k6, c1, os7, hpE, os1, if_neg k8]
        · unfold mX7_stressed mX7_stressed_b0
          rw [hl7, os1, if_neg (by decide), hin2, os1, if_neg (by decide), hin3, os1, if_neg (by decide), hin4, os1, if_neg (by decide), q1, os3, if_neg k8]
    · refine ⟨-1000001, er_words, er_syllables, er_strong, er_either, er_joins, er_singles, er_options, er_least, er_ways, er_lastAt, er_fees, er_heavy, er_light, er_over, x_hits, 0, m_stands, m_least, m_ways, m_strengths, m_sounds, m_stand, ?_, ?_, hF, hG, hT, hW, hC, hZ0⟩
      · unfold mX6_stressed mX6_stressed_b0
        rw [hl6, os1, if_neg (by decide)]
        by_cases k1 : a2 < 0
        · rw [if_pos k1]
        · rw [if_neg k1]
          by_cases k2 : a2 ≤ 99
          · rw [if_pos k2]
            by_cases k3 : a3 < 0
            · rw [if_pos k3]
            · rw [if_neg k3]
              by_cases k4 : (10 : Int32) < a3
              · rw [if_pos k4]
              · rw [if_neg k4]
                by_cases k5 : a4 < 0
                · rw [if_pos k5]
                · rw [if_neg k5, if_neg]
                  rw [i32_lt] at k1 k3 k4 k5
                  rw [i32_le] at k2 ⊢
                  omega
          · rw [if_neg k2]
      · unfold mX7_stressed mX7_stressed_b0
        rw [hl7, os1, if_neg (by decide), hin2, os1]
        by_cases g1 : 0 ≤ a2.toInt ∧ a2.toInt ≤ 99
        · rw [if_pos g1, if_neg (by decide), hin3, os1]
          by_cases g2 : 0 ≤ a3.toInt ∧ a3.toInt ≤ 10
          · rw [if_pos g2, if_neg (by decide), hin4, os1]
            rw [if_neg (fun g3 => hv ⟨g1, g2, g3⟩), if_pos rfl]
          · rw [if_neg g2, if_pos rfl]
        · rw [if_neg g1, if_pos rfl]
  · refine ⟨-1000001, er_words, er_syllables, er_strong, er_either, er_joins, er_singles, er_options, er_least, er_ways, er_lastAt, er_fees, er_heavy, er_light, er_over, x_hits, 0, m_stands, m_least, m_ways, m_strengths, m_sounds, m_stand, ?_, ?_, hF, hG, hT, hW, hC, hZ0⟩
    · unfold mX6_stressed mX6_stressed_b0
      rw [c_hl_f hn (by omega)]; rfl
    · unfold mX7_stressed mX7_stressed_b0
      rw [r_il_f hpr ha hn]; rfl
