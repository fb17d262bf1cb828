-- uses: 501.auto 502.abs 503.line 504.word 505.bits 506.pop 507.tail 508.alike 509.lines 511.scheme 533.count 540.hear 542.spread 543.opt 544.judge 545.ref 546.scan 550.near
/-! nearest, whole -/
theorem tgS_lt' {s : Nat → Option Nat} : ∀ d l acc v, (∀ k, l ≤ k → k < l + d → ∀ w, s k = some w → w < 1000) → tgS s d l acc = some v → v ≤ acc + 1000 * d
  | 0, l, acc, v, _, h => by have := Option.some.inj h; omega
  | d + 1, l, acc, v, hs, h => by
    unfold tgS at h
    split at h
    · exact absurd h (by simp)
    · rename_i c hc
      have h1 := hs l (by omega) (by omega) c hc
      have h2 := tgS_lt' d _ _ _ (fun k k1 k2 => hs k (by omega) (by omega)) h
      omega
/-- only by metres that there are -/
def csG (s : Nat → Nat → Option Nat) (f e : Nat) : Option Nat := if f < 4 ∧ e ≤ 5 then s f e else none
theorem csG_lt {s : Nat → Nat → Option Nat} (h : ∀ f e, f < 4 → e ≤ 5 → ∀ v, s f e = some v → v < 10000) : ∀ f e v, csG s f e = some v → v < 10000 := by
  intro f e v q
  unfold csG at q
  split at q
  · rename_i k; exact h f e k.1 k.2 v q
  · exact absurd q (by simp)
theorem csG_in {s : Nat → Nat → Option Nat} {f e : Nat} (hf : f < 4) (he : e ≤ 5) : csG s f e = s f e := if_pos ⟨hf, he⟩
section
variable {L : List Nat} {ln sy sn : Nat → Int32} {lt st : Nat → Nat → Int32} {A : AP} {row : Nat → Int32} {kinds sizes : Nat → Int32} {spelled : Nat → Nat}
theorem r_near_in {p1 p2 : Int32} {cs : Nat → Option Nat} {foot : Nat} (hT : ∀ feet, 1 ≤ feet → feet ≤ 5 → ∀ (z1 z2 z3 : Int32) (b1 b2 b3 : Nat → Int32), ∃ u1 u2 u3 v1 v2 v3, mX7_scanOf row z1 z2 z3 b1 b2 b3 p1 (nI foot) (nI feet) (-1) = some (eC (cs feet), u1, u2, u3, v1, v2, v3)) (hc : ∀ e v, cs e = some v → v < 10000) (k36 : Int32 → Int32 → Int32 → Int32 → Int32 → Int32 → Int32 → (Nat → Int32) → (Nat → Int32) → (Nat → Int32) → Int32 → Option (Int32 × (Int32) × (Int32) × (Int32) × (Int32) × (Int32) × (Int32) × (Int32) × (Nat → Int32) × (Nat → Int32) × (Nat → Int32))) (th : Int32) : ∀ (d feet : Nat) (b : BST) (nf ne nc : Int32) (z1 z2 z3 : Int32) (b1 b2 b3 : Nat → Int32), feet + d = 6 → 1 ≤ feet → bLB b → NR b nf ne nc → ∀ n, d < n → ∃ nf' ne' nc' u1 u2 u3 v1 v2 v3, mX7_nearest_b44 row p1 p2 k36 n th z1 z2 z3 nf ne nc b1 b2 b3 (nI foot) (nI feet) = k36 th u1 u2 u3 nf' ne' nc' v1 v2 v3 (nI (foot + 1)) ∧ NR (nbI cs foot d feet b) nf' ne' nc'
  | _, _, _, _, _, _, _, _, _, _, _, _, _, _, _, _, 0, hn => absurd hn (by omega)
  | 0, feet, b, nf, ne, nc, z1, z2, z3, b1, b2, b3, he, h1, hb, hnr, n + 1, _ => by
    refine ⟨nf, ne, nc, z1, z2, z3, b1, b2, b3, ?_, hnr⟩
    have e : feet = 6 := by omega
    subst e
    rw [mX7_nearest_b44, if_pos (by decide), nI_1]
  | d + 1, feet, b, nf, ne, nc, z1, z2, z3, b1, b2, b3, he, h1, hb, hnr, n + 1, hn => by
    obtain ⟨u1, u2, u3, v1, v2, v3, ht⟩ := hT feet h1 (by omega) z1 z2 z3 b1 b2 b3
    obtain ⟨nf', ne', nc', q1, q2⟩ := r_nears hb hnr foot feet (hc feet)
    have c1 : ¬ (6 : Int32) ≤ nI feet := nI_ge (b := 6) (by omega) (by omega)
    rw [mX7_nearest_b44, if_neg c1, ht, os7, q1, os3, nI_1]
    exact r_near_in hT hc k36 th d (feet + 1) (nst b foot feet (cs feet)) nf' ne' nc' u1 u2 u3 v1 v2 v3 (by omega) (by omega) (nst_LB hb foot feet (hc feet)) q2 n (by omega)
theorem r_near_out {p1 p2 : Int32} {cs : Nat → Nat → Option Nat} (hT : ∀ foot feet, foot < 4 → 1 ≤ feet → feet ≤ 5 → ∀ (z1 z2 z3 : Int32) (b1 b2 b3 : Nat → Int32), ∃ u1 u2 u3 v1 v2 v3, mX7_scanOf row z1 z2 z3 b1 b2 b3 p1 (nI foot) (nI feet) (-1) = some (eC (cs foot feet), u1, u2, u3, v1, v2, v3)) (hc : ∀ f e v, cs f e = some v → v < 10000) (th : Int32) : ∀ (d foot : Nat) (b : BST) (nf ne nc : Int32) (z1 z2 z3 : Int32) (b1 b2 b3 : Nat → Int32), foot + d = 4 → bLB b → NR b nf ne nc → ∀ n, d < n → ∃ nf' ne' nc' u1 u2 u3 v1 v2 v3, mX7_nearest_b36 row p1 p2 n th z1 z2 z3 nf ne nc b1 b2 b3 (nI foot) = some (bA (nbO cs d foot b) p2, th, u1, u2, u3, nf', ne', nc', v1, v2, v3)
  | _, _, _, _, _, _, _, _, _, _, _, _, _, _, _, 0, hn => absurd hn (by omega)
  | 0, foot, b, nf, ne, nc, z1, z2, z3, b1, b2, b3, he, hb, hnr, n + 1, _ => by
    refine ⟨nf, ne, nc, z1, z2, z3, b1, b2, b3, ?_⟩
    have e : foot = 4 := by omega
    subst e
    rw [mX7_nearest_b36, if_pos (by decide), r_ofNear hb hnr, os1]
    rfl
  | d + 1, foot, b, nf, ne, nc, z1, z2, z3, b1, b2, b3, he, hb, hnr, n + 1, hn => by
    obtain ⟨nf', ne', nc', u1, u2, u3, v1, v2, v3, hi, hi2⟩ := r_near_in (p2 := p2) (fun feet h1 h5 => hT foot feet (by omega) h1 h5) (hc foot) (mX7_nearest_b36 row p1 p2 n) th 5 1 b nf ne nc z1 z2 z3 b1 b2 b3 (by omega) (by omega) hb hnr FU (zn_fu (by omega))
    have c1 : ¬ (4 : Int32) ≤ nI foot := nI_ge (b := 4) (by omega) (by omega)
    have hi' : mX7_nearest_b44 row p1 p2 (mX7_nearest_b36 row p1 p2 n) FU th z1 z2 z3 nf ne nc b1 b2 b3 (nI foot) 1 = _ := hi
    rw [mX7_nearest_b36, if_neg c1, hi']
    exact r_near_out hT hc th d (foot + 1) _ nf' ne' nc' u1 u2 u3 v1 v2 v3 (by omega) (nbI_LB (hc foot) foot 5 1 b hb) hi2 n (by omega)
theorem r_nearA_in {p1 : Int32} {cs : Nat → Option Nat} {foot : Nat} (hT : ∀ feet, 1 ≤ feet → feet ≤ 5 → ∀ (z1 z2 z3 : Int32) (b1 b2 b3 : Nat → Int32), ∃ u1 u2 u3 v1 v2 v3, mX7_allBy row z1 z2 z3 b1 b2 b3 (nI foot) (nI feet) = some (eC (cs feet), u1, u2, u3, v1, v2, v3)) (hc : ∀ e v, cs e = some v → v < 10000) (k8 : Int32 → Int32 → Int32 → Int32 → Int32 → Int32 → (Nat → Int32) → (Nat → Int32) → (Nat → Int32) → Int32 → Option (Int32 × (Int32) × (Int32) × (Int32) × (Int32) × (Int32) × (Int32) × (Nat → Int32) × (Nat → Int32) × (Nat → Int32))) : ∀ (d feet : Nat) (b : BST) (nf ne nc : Int32) (z1 z2 z3 : Int32) (b1 b2 b3 : Nat → Int32), feet + d = 6 → 1 ≤ feet → bLB b → NR b nf ne nc → ∀ n, d < n → ∃ nf' ne' nc' u1 u2 u3 v1 v2 v3, mX7_nearestOfAll_b15 row p1 k8 n z1 z2 z3 nf ne nc b1 b2 b3 (nI foot) (nI feet) = k8 u1 u2 u3 nf' ne' nc' v1 v2 v3 (nI (foot + 1)) ∧ NR (nbI cs foot d feet b) nf' ne' nc'
  | _, _, _, _, _, _, _, _, _, _, _, _, _, _, _, _, 0, hn => absurd hn (by omega)
  | 0, feet, b, nf, ne, nc, z1, z2, z3, b1, b2, b3, he, h1, hb, hnr, n + 1, _ => by
    refine ⟨nf, ne, nc, z1, z2, z3, b1, b2, b3, ?_, hnr⟩
    have e : feet = 6 := by omega
    subst e
    rw [mX7_nearestOfAll_b15, if_pos (by decide), nI_1]
  | d + 1, feet, b, nf, ne, nc, z1, z2, z3, b1, b2, b3, he, h1, hb, hnr, n + 1, hn => by
    obtain ⟨u1, u2, u3, v1, v2, v3, ht⟩ := hT feet h1 (by omega) z1 z2 z3 b1 b2 b3
    obtain ⟨nf', ne', nc', q1, q2⟩ := r_nears hb hnr foot feet (hc feet)
    have c1 : ¬ (6 : Int32) ≤ nI feet := nI_ge (b := 6) (by omega) (by omega)
    rw [mX7_nearestOfAll_b15, if_neg c1, ht, os7, q1, os3, nI_1]
    exact r_nearA_in hT hc k8 d (feet + 1) (nst b foot feet (cs feet)) nf' ne' nc' u1 u2 u3 v1 v2 v3 (by omega) (by omega) (nst_LB hb foot feet (hc feet)) q2 n (by omega)
theorem r_nearA_out {p1 : Int32} {cs : Nat → Nat → Option Nat} (hT : ∀ foot feet, foot < 4 → 1 ≤ feet → feet ≤ 5 → ∀ (z1 z2 z3 : Int32) (b1 b2 b3 : Nat → Int32), ∃ u1 u2 u3 v1 v2 v3, mX7_allBy row z1 z2 z3 b1 b2 b3 (nI foot) (nI feet) = some (eC (cs foot feet), u1, u2, u3, v1, v2, v3)) (hc : ∀ f e v, cs f e = some v → v < 10000) : ∀ (d foot : Nat) (b : BST) (nf ne nc : Int32) (z1 z2 z3 : Int32) (b1 b2 b3 : Nat → Int32), foot + d = 4 → bLB b → NR b nf ne nc → ∀ n, d < n → ∃ nf' ne' nc' u1 u2 u3 v1 v2 v3, mX7_nearestOfAll_b8 row p1 n z1 z2 z3 nf ne nc b1 b2 b3 (nI foot) = some (bA (nbO cs d foot b) p1, u1, u2, u3, nf', ne', nc', v1, v2, v3)
  | _, _, _, _, _, _, _, _, _, _, _, _, _, _, _, 0, hn => absurd hn (by omega)
  | 0, foot, b, nf, ne, nc, z1, z2, z3, b1, b2, b3, he, hb, hnr, n + 1, _ => by
    refine ⟨nf, ne, nc, z1, z2, z3, b1, b2, b3, ?_⟩
    have e : foot = 4 := by omega
    subst e
    rw [mX7_nearestOfAll_b8, if_pos (by decide), r_ofNear hb hnr, os1]
    rfl
  | d + 1, foot, b, nf, ne, nc, z1, z2, z3, b1, b2, b3, he, hb, hnr, n + 1, hn => by
    obtain ⟨nf', ne', nc', u1, u2, u3, v1, v2, v3, hi, hi2⟩ := r_nearA_in (p1 := p1) (fun feet h1 h5 => hT foot feet (by omega) h1 h5) (hc foot) (mX7_nearestOfAll_b8 row p1 n) 5 1 b nf ne nc z1 z2 z3 b1 b2 b3 (by omega) (by omega) hb hnr FU (zn_fu (by omega))
    have c1 : ¬ (4 : Int32) ≤ nI foot := nI_ge (b := 4) (by omega) (by omega)
    have hi' : mX7_nearestOfAll_b15 row p1 (mX7_nearestOfAll_b8 row p1 n) FU z1 z2 z3 nf ne nc b1 b2 b3 (nI foot) 1 = _ := hi
    rw [mX7_nearestOfAll_b8, if_neg c1, hi']
    exact r_nearA_out hT hc d (foot + 1) _ nf' ne' nc' u1 u2 u3 v1 v2 v3 (by omega) (nbI_LB (hc foot) foot 5 1 b hb) hi2 n (by omega)
theorem tgS_one (s : Nat → Option Nat) (l : Nat) : tgS s 1 l 0 = s l := by
  unfold tgS
  cases h : s l with
  | none => rfl
  | some c => show some (0 + c) = some c; rw [Nat.zero_add]
theorem SS_0 (R : Nat → Nat → Bool) : ∀ l, (SS R (l + 1)).1 0 = 0
  | 0 => rfl
  | l + 1 => by
    have ih := SS_0 R l
    show (if gg R (l + 1) (l + 1) (l + 1) = l + 1 then ((fun j => if j = l + 1 then (SS R (l + 1)).2 else (SS R (l + 1)).1 j), (SS R (l + 1)).2 + 1) else ((fun j => if j = l + 1 then (SS R (l + 1)).1 (gg R (l + 1) (l + 1) (l + 1)) else (SS R (l + 1)).1 j), (SS R (l + 1)).2)).1 0 = 0
    split <;> (dsimp only; rw [if_neg (by omega)]; exact ih)
def nmT (t : Nat) : Nat := if t = 17 then 1 else if t = 257 then 2 else if t = 272 then 3 else if t = 0 then 4 else if t = 289 then 5 else 0
theorem c_name_loop (p : Int32) (vs : Nat → Int32) {t : Nat} (ht : t < 4096) : mX6_schemeName_b52 L ln sy sn lt st p sizes kinds spelled FU vs (nI t) 0 = some (nI (nmT t), vs) := by
  have t0 : sT7 0 = nI 17 := rfl
  have t1 : sT7 1 = nI 257 := rfl
  have t2 : sT7 2 = nI 272 := rfl
  have t3 : sT7 3 = nI 0 := rfl
  have t4 : sT7 4 = nI 289 := rfl
  obtain ⟨N, hN⟩ := FU_e
  rw [hN]
  unfold nmT
  by_cases h0 : t = 17
  · subst h0; rfl
  by_cases h1 : t = 257
  · subst h1; rfl
  by_cases h2 : t = 272
  · subst h2; rfl
  by_cases h3 : t = 0
  · subst h3; rfl
  by_cases h4 : t = 289
  · subst h4; rfl
  simp (disch := omega) only [↓reduceIte, Nat.reduceAdd, Nat.reduceMul, Nat.reduceSub, Nat.zero_add, zn_0, zn_1, zn_2, zn_3, zn_4, zn_5, zn_6, zn_7, zn_8, zn_9, zn_10, zn_16, zn_20, zn_23, zn_24, zn_25, zn_26, zn_40, zn_207, zn_4761, zn_99, zn_130, zn_lt_t, zn_lt_f, zn_le_t, zn_le_f, zn_eq_t, zn_eq_f, zn_ix, zn_cl, zq_le_f, zq_le_t, zq_lt_f, zq_lt_t, zn_add, zn_mul, zn_sub, or_false, false_or, or_self, true_or, or_true, and_true, true_and, and_false, false_and, not_true_eq_false, not_false_eq_true, if_true, if_false, os1, os2, os3, os4, os5, os6, os7, os8, os9, os10, os11, os12, os13, os14, os15, os16, os17, os18, os19, os20, os21, os22, os23, os24, mX6_schemeName_b52, t0, t1, t2, t3, t4, if_neg h0, if_neg h1, if_neg h2, if_neg h3, if_neg h4]
theorem told_k : ∀ a, a < 4 → ∀ b, b < 4 → ∀ c, c < 4 → (((((((0 : Int32) <<< ((4 : Int32) &&& 31)) ||| nI 0) <<< ((4 : Int32) &&& 31)) ||| nI a) <<< ((4 : Int32) &&& 31)) ||| nI b) <<< ((4 : Int32) &&& 31) ||| nI c = nI (256 * a + 16 * b + c) := by decide +kernel
theorem name_k : ∀ a, a < 4 → ∀ b, b < 4 → ∀ c, c < 4 → (if (100 : Int32) * nI a + (10 : Int32) * nI b + nI c = 11 then (1 : Int32) else if (100 : Int32) * nI a + (10 : Int32) * nI b + nI c = 101 then (2 : Int32) else if (100 : Int32) * nI a + (10 : Int32) * nI b + nI c = 110 then (3 : Int32) else if (100 : Int32) * nI a + (10 : Int32) * nI b + nI c = 0 then (4 : Int32) else if (100 : Int32) * nI a + (10 : Int32) * nI b + nI c = 121 then (5 : Int32) else 0) = nI (nmT (256 * a + 16 * b + c)) := by decide +kernel
/-- the name of the scheme -/
def aNm (ln : Nat → Int32) (lt : Nat → Nat → Int32) (A : AP) : Nat := if aL A = 4 then nmT (256 * (SS (RH ln lt A) 4).1 1 + 16 * (SS (RH ln lt A) 4).1 2 + (SS (RH ln lt A) 4).1 3) else 0
theorem c_name (hp : POOL L ln sy sn lt st) (ha : AOK L ln lt A) (hc : CW A kinds spelled) (hz : CZ A sizes) (vs : Nat → Int32) : ∃ vs', mX6_schemeName L ln sy sn lt st (nI (aL A)) sizes kinds spelled vs = some (nI (aNm ln lt A), vs') := by
  obtain ⟨-, -, w20, l4⟩ := aok_sz ha
  unfold mX6_schemeName mX6_schemeName_b0 aNm
  by_cases h4 : aL A = 4
  · obtain ⟨s, q1, q2⟩ := c_scheme hp ha hc hz vs
    rw [h4] at q1 q2 ⊢
    obtain ⟨k1, k2, k3⟩ := SS_lt (RH ln lt A) 4
    have k0 := SS_0 (RH ln lt A) 3
    have b1 := k2 1 (by omega)
    have b2 := k2 2 (by omega)
    have b3 := k2 3 (by omega)
    have e0 := q2 0 (by omega)
    rw [k0] at e0
    have e1 := q2 1 (by omega)
    have e2 := q2 2 (by omega)
    have e3 := q2 3 (by omega)
    have hn := c_name_loop (L := L) (ln := ln) (sy := sy) (sn := sn) (lt := lt) (st := st) (sizes := sizes) (kinds := kinds) (spelled := spelled) (nI 4) s (t := 256 * (SS (RH ln lt A) 4).1 1 + 16 * (SS (RH ln lt A) 4).1 2 + (SS (RH ln lt A) 4).1 3) (by omega)
    have tk := told_k ((SS (RH ln lt A) 4).1 1) (by omega) ((SS (RH ln lt A) 4).1 2) (by omega) ((SS (RH ln lt A) 4).1 3) (by omega)
    refine ⟨s, ?_⟩
    rw [if_pos (by rfl), q1, os2, if_pos rfl]
    obtain ⟨N, hN⟩ := FU_e
    have l25 : ∀ n x, mX6_schemeName_b25 L ln sy sn lt st (nI 4) sizes kinds spelled (n + 1 + 1 + 1 + 1 + 1) s x 0 = mX6_schemeName_b52 L ln sy sn lt st (nI 4) sizes kinds spelled FU s (((((((x <<< ((4 : Int32) &&& 31)) ||| s 0) <<< ((4 : Int32) &&& 31)) ||| s 1) <<< ((4 : Int32) &&& 31)) ||| s 2) <<< ((4 : Int32) &&& 31) ||| s 3) 0 := by
      intro n x
      rw [mX6_schemeName_b25, if_neg (by decide), if_neg (by decide), mX6_schemeName_b25, if_neg (by decide), if_neg (by decide), mX6_schemeName_b25, if_neg (by decide), if_neg (by decide), mX6_schemeName_b25, if_neg (by decide), if_neg (by decide), mX6_schemeName_b25, if_pos (by decide)]
      rfl
    have hN2 : FU = N + 59 + 1 + 1 + 1 + 1 + 1 := by omega
    have l25' := l25 (N + 59) 0
    rw [← hN2, e0, e1, e2, e3, tk, hn] at l25'
    exact l25'
  · rw [if_neg h4, if_neg (show ¬ nI (aL A) = (4 : Int32) from fun q => h4 (zn_inj (b := 4) (by omega) (by omega) q))]
    exact ⟨vs, rfl⟩
theorem r_name (h : PR ln lt A row) (ha : AOK L ln lt A) (h0 : 0 < aL A) (vs : Nat → Int32) : ∃ vs', mX7_nameOf row vs = some (nI (aNm ln lt A), vs') := by
  obtain ⟨-, -, w20, l4⟩ := aok_sz ha
  obtain ⟨s, q1, q2⟩ := r_scheme h ha vs
  obtain ⟨k1, k2, k3⟩ := SS_lt (RH ln lt A) (aL A)
  have e0 : row (0 : Int32).toNatClampNeg = nI (aL A) := h.1
  refine ⟨s, ?_⟩
  unfold mX7_nameOf mX7_nameOf_b0 aNm
  rw [q1, os2, e0]
  by_cases h4 : aL A = 4
  · rw [if_pos h4, if_neg (by rw [h4]; decide), if_neg (nI_ne0 (k3 h0) (by omega))]
    rw [h4] at q2 k2 k1
    have b1 := k2 1 (by omega)
    have b2 := k2 2 (by omega)
    have b3 := k2 3 (by omega)
    have e1 : s (1 : Int32).toNatClampNeg = _ := q2 1 (by omega)
    have e2 : s (2 : Int32).toNatClampNeg = _ := q2 2 (by omega)
    have e3 : s (3 : Int32).toNatClampNeg = _ := q2 3 (by omega)
    have nk := name_k ((SS (RH ln lt A) 4).1 1) (by omega) ((SS (RH ln lt A) 4).1 2) (by omega) ((SS (RH ln lt A) 4).1 3) (by omega)
    rw [e1, e2, e3, ← nk]
    (repeat' split) <;> rfl
  · rw [if_neg h4, if_pos (show nI (aL A) < (4 : Int32) from nI_lt (b := 4) (by omega) (by omega))]
    rfl
end
theorem st16 : Step16 RelW := by
  intro x_begun x_latestFault x_latestFinding rd_length rd_tape v_foot v_feet v_lines v_words v_sizes v_kinds v_spelled d_spelled i0_foot i0_feet i0_lines i0_words i0_sizes i0_kinds i0_spelled i1_foot i1_feet i1_lines i1_words i1_sizes i1_kinds i1_spelled ac_next ac_kept ac_sorts ac_firsts ac_seconds ac_takenKinds ac_takenSpellings er_words er_syllables er_strong er_either er_joins er_singles er_options er_least er_ways er_lastAt er_fees er_heavy er_light er_over x_bodies m_thrown m_status m_acts m_taped m_latest m_stands m_least m_ways m_nearFoot m_nearFeet m_nearCost m_traced m_lane m_many m_item m_poem m_was m_tape m_strengths m_sounds m_stand m_isKept m_kept m_trace x_lane x_rsz x_item L la sa ln sy sn lt st a1 a2 hR
  obtain ⟨hF, hG, hT, hW, hC, hZ⟩ := hR
  have hZ0 := hZ
  obtain ⟨hP, hD, hI0, hI1, A, ha, hpc, hpr, hA⟩ := hZ
  have hpc0 := hpc
  obtain ⟨p1, p2, p3, p4, hz, hc, hsp⟩ := hpc
  subst p1 p2 p3 p4
  replace hz : CZ A v_sizes := hz
  replace hc : CW A v_kinds v_spelled := hc
  obtain ⟨-, -, w20, l4⟩ := aok_sz ha
  have hin := in_i a2 0 2
  rw [show (0 : Int64).toInt = 0 from rfl, show (2 : Int64).toInt = 2 from rfl] at hin
  have e0 : (0 : Int32).toInt = 0 := rfl
  have e2 : (2 : Int32).toInt = 2 := rfl
  rcases rng a1 (aL A) (by omega) with ⟨l, hl, rfl⟩ | hn
  · have hl6 : mX2_hasLine (nI (aL A)) (nI l) = some (nI 1) := c_hl_t hl (by omega)
    have hl7 : mX7_isLine m_poem (nI l) = some (nI 1) := r_il_t hpr ha hl
    by_cases hv : 0 ≤ a2.toInt ∧ a2.toInt ≤ 2
    · rw [if_pos hv] at hin
      have hcs : ∀ f e v, csG (fun f e => lst ln lt A f e l) f e = some v → v < 10000 := csG_lt (fun f e hf he v q => by have := lst_lt ha hl hf he q; omega)
      obtain ⟨x1, x2, x3, x4, x5, x6, x7, x8, x9, y1, y2, y3, y4, y5, hx⟩ := c_nearestOf (p1 := nI l) (p2 := nI (l + 1)) (p3 := a2) (cs := csG (fun f e => lst ln lt A f e l)) (fun foot feet hf h1 h5 w1 w2 w3 w4 w5 w6 w7 w8 w9 a1 a2 a3 a4 a5 => by
        have := c_together hP ha hc hz hf h1 h5 (fr := l) (to := l + 1) (by omega) (by omega) w1 w2 w3 w4 w5 w6 w7 w8 w9 a1 a2 a3 a4 a5
        rw [show l + 1 - l = 1 by omega, tgS_one] at this
        rw [csG_in hf h5]
        exact this) hcs er_words er_syllables er_strong er_either er_joins er_singles er_options er_least er_ways er_lastAt er_fees er_heavy er_light er_over
      obtain ⟨nf', ne', nc', u1, u2, u3, v1, v2, v3, hm⟩ := r_near_out (row := m_poem) (p1 := nI l) (p2 := a2) (cs := csG (fun f e => lst ln lt A f e l)) (fun foot feet hf h1 h5 z1 z2 z3 b1 b2 b3 => by
        obtain ⟨sts', f', g', sd', r1⟩ := r_scanOf hpr ha hl hf h1 h5 (-1) z1 z2 z3 b1 b2 b3
        rw [SB_as] at r1
        rw [csG_in hf h5]
        have hel : eL (aSC ln lt A l foot feet (aG ln lt A l)) = eC (lst ln lt A foot feet l) := eL_eC _
        refine ⟨sts', eL (aSC ln lt A l foot feet (aG ln lt A l)), eW (aSC ln lt A l foot feet (aG ln lt A l)), f', g', sd', ?_⟩
        rw [r1, hel]) hcs 0 4 0 none m_nearFoot m_nearFeet (-1000000) m_stands m_least m_ways m_strengths m_sounds m_stand (by omega) (fun c f e q => absurd q (by simp)) ⟨rfl, fun c f e q => absurd q (by simp)⟩ FU (zn_fu (by omega))
      have k1 : ¬ a2 < 0 := by rw [i32_lt]; omega
      have k2 : a2 ≤ 2 := by rw [i32_le]; omega
      refine ⟨bA (nbO (csG (fun f e => lst ln lt A f e l)) 4 0 none) a2, x1, x2, x3, x4, x5, x6, x7, x8, x9, y1, y2, y3, y4, y5, 0, u1, u2, u3, nf', ne', nc', v1, v2, v3, ?_, ?_, hF, hG, hT, hW, hC, hZ0⟩
      · unfold mX6_nearest mX6_nearest_b0
        rw [hl6, os1, if_neg (by decide), if_neg k1, if_pos k2, nI_1, hx, os15]
      · unfold mX7_nearest mX7_nearest_b0
        rw [hl7, os1, if_neg (by decide), hin, os1, if_neg (by decide)]
        exact hm
    · rw [if_neg hv] at hin
      refine ⟨-1000001, er_words, er_syllables, er_strong, er_either, er_joins, er_singles, er_options, er_least, er_ways, er_lastAt, er_fees, er_heavy, er_light, er_over, 0, m_stands, m_least, m_ways, m_nearFoot, m_nearFeet, m_nearCost, m_strengths, m_sounds, m_stand, ?_, ?_, hF, hG, hT, hW, hC, hZ0⟩
      · unfold mX6_nearest mX6_nearest_b0
        rw [hl6, os1, if_neg (by decide)]
        by_cases k1 : a2 < 0
        · rw [if_pos k1]
        · rw [if_neg k1, if_neg (by rw [i32_lt] at k1; rw [i32_le]; omega)]
      · unfold mX7_nearest mX7_nearest_b0
        rw [hl7, os1, if_neg (by decide), hin]
        rfl
  · refine ⟨-1000001, er_words, er_syllables, er_strong, er_either, er_joins, er_singles, er_options, er_least, er_ways, er_lastAt, er_fees, er_heavy, er_light, er_over, 0, m_stands, m_least, m_ways, m_nearFoot, m_nearFeet, m_nearCost, m_strengths, m_sounds, m_stand, ?_, ?_, hF, hG, hT, hW, hC, hZ0⟩
    · unfold mX6_nearest mX6_nearest_b0
      rw [c_hl_f hn (by omega)]; rfl
    · unfold mX7_nearest mX7_nearest_b0
      rw [r_il_f hpr ha hn]; rfl
