-- uses: 501.auto 502.abs 503.line 504.word 505.bits 506.pop 507.tail 508.alike 509.lines 511.scheme 533.count 540.hear 542.spread 543.opt 544.judge 545.ref 546.scan
/-! the nearest metre; all lines -/
def tgS (s : Nat → Option Nat) : Nat → Nat → Nat → Option Nat
  | 0, _, acc => some acc
  | d + 1, l, acc => match s l with
    | none => none
    | some c => tgS s d (l + 1) (acc + c)
theorem tgS_lt {s : Nat → Option Nat} (hs : ∀ l v, s l = some v → v < 1000) : ∀ d l acc v, tgS s d l acc = some v → v ≤ acc + 1000 * d
  | 0, l, acc, v, h => by have := Option.some.inj h; omega
  | d + 1, l, acc, v, h => by
    unfold tgS at h
    split at h
    · exact absurd h (by simp)
    · rename_i c hc
      have h1 := hs l c hc
      have h2 := tgS_lt hs d _ _ _ h
      omega
theorem tgS_congr {s t : Nat → Option Nat} : ∀ d l acc, (∀ k, l ≤ k → k < l + d → s k = t k) → tgS s d l acc = tgS t d l acc
  | 0, _, _, _ => rfl
  | d + 1, l, acc, h => by
    unfold tgS
    rw [h l (by omega) (by omega)]
    split
    · rfl
    · exact tgS_congr d (l + 1) _ (fun k h1 h2 => h k (by omega) (by omega))
theorem eL_eC (lw : Option (Nat × Nat)) : eL lw = eC (lw.map Prod.fst) := by
  cases lw with
  | none => rfl
  | some p => rfl
abbrev BST : Type := Option (Nat × Nat × Nat)
def nst (b : BST) (foot feet : Nat) (c : Option Nat) : BST :=
  match c with
  | none => b
  | some c => match b with
    | none => some (c, foot, feet)
    | some (l, p) => if c < l then some (c, foot, feet) else some (l, p)
def bC (b : BST) : Int32 := match b with | none => -1000000 | some (c, _, _) => nI c
def bF (b : BST) : Int32 := match b with | none => -1000000 | some (_, f, _) => nI f
def bE (b : BST) : Int32 := match b with | none => -1000000 | some (_, _, e) => nI e
def bLB (b : BST) : Prop := ∀ c f e, b = some (c, f, e) → c < 10000
theorem nst_LB {b : BST} (h : bLB b) (foot feet : Nat) {c : Option Nat} (hc : ∀ v, c = some v → v < 10000) : bLB (nst b foot feet c) := by
  intro l f e q
  cases c with
  | none => exact h l f e q
  | some c =>
    have := hc c rfl
    cases b with
    | none =>
      simp only [nst] at q
      have q2 := (Prod.mk.inj (Option.some.inj q)).1
      omega
    | some p =>
      obtain ⟨l0, f0, e0⟩ := p
      have h0 := h l0 f0 e0 rfl
      simp only [nst] at q
      split at q
      · have q2 := (Prod.mk.inj (Option.some.inj q)).1
        omega
      · have q2 := (Prod.mk.inj (Option.some.inj q)).1
        omega
def nbI (cs : Nat → Option Nat) (foot : Nat) : Nat → Nat → BST → BST
  | 0, _, b => b
  | d + 1, feet, b => nbI cs foot d (feet + 1) (nst b foot feet (cs feet))
def nbO (cs : Nat → Nat → Option Nat) : Nat → Nat → BST → BST
  | 0, _, b => b
  | d + 1, foot, b => nbO cs d (foot + 1) (nbI (cs foot) foot 5 1 b)
theorem nbI_LB {cs : Nat → Option Nat} (hc : ∀ e v, cs e = some v → v < 10000) (foot : Nat) : ∀ d feet b, bLB b → bLB (nbI cs foot d feet b)
  | 0, _, _, h => h
  | d + 1, feet, b, h => nbI_LB hc foot d (feet + 1) _ (nst_LB h foot feet (hc feet))
theorem nI_none' {c : Nat} (hc : c < 10000) : ¬ nI c = (-1000000 : Int32) := by
  intro q
  have h := nI_toInt (n := c) (by omega)
  rw [q] at h
  have : (-1000000 : Int32).toInt = -1000000 := rfl
  omega
/-- the answer -/
def bA (b : BST) (what : Int32) : Int32 := if what = 0 then bF b else if what = 1 then bE b else bC b
section
variable {L : List Nat} {ln sy sn : Nat → Int32} {lt st : Nat → Nat → Int32} {A : AP} {row : Nat → Int32} {kinds sizes : Nat → Int32} {spelled : Nat → Nat}
theorem c_near_in {p1 p2 p3 : Int32} {cs : Nat → Option Nat} {foot : Nat} (hT : ∀ feet, 1 ≤ feet → feet ≤ 5 → ∀ (w1 w2 w3 w4 w5 w6 w7 w8 w9 : Int32) (a1 a2 a3 a4 a5 : Nat → Int32), ∃ x1 x2 x3 x4 x5 x6 x7 x8 x9 y1 y2 y3 y4 y5, mX6_together L ln sy sn lt sizes kinds spelled w1 w2 w3 w4 w5 w6 w7 w8 w9 a1 a2 a3 a4 a5 p1 p2 (nI foot) (nI feet) = some (eC (cs feet), x1, x2, x3, x4, x5, x6, x7, x8, x9, y1, y2, y3, y4, y5)) (hc : ∀ e v, cs e = some v → v < 10000) (k15 : Int32 → Int32 → Int32 → Int32 → Int32 → Int32 → Int32 → Int32 → Int32 → (Nat → Int32) → (Nat → Int32) → (Nat → Int32) → (Nat → Int32) → (Nat → Int32) → Int32 → Int32 → Int32 → Int32 → Option (Int32 × (Int32) × (Int32) × (Int32) × (Int32) × (Int32) × (Int32) × (Int32) × (Int32) × (Int32) × (Nat → Int32) × (Nat → Int32) × (Nat → Int32) × (Nat → Int32) × (Nat → Int32))) : ∀ (d feet : Nat) (b : BST) (w1 w2 w3 w4 w5 w6 w7 w8 w9 : Int32) (a1 a2 a3 a4 a5 : Nat → Int32), feet + d = 6 → 1 ≤ feet → bLB b → ∀ n, d < n → ∃ x1 x2 x3 x4 x5 x6 x7 x8 x9 y1 y2 y3 y4 y5, mX6_nearestOf_b27 L ln sy sn lt sizes kinds spelled p1 p2 p3 k15 n w1 w2 w3 w4 w5 w6 w7 w8 w9 a1 a2 a3 a4 a5 (bC b) (bF b) (bE b) (nI foot) (nI feet) = k15 x1 x2 x3 x4 x5 x6 x7 x8 x9 y1 y2 y3 y4 y5 (bC (nbI cs foot d feet b)) (bF (nbI cs foot d feet b)) (bE (nbI cs foot d feet b)) (nI (foot + 1))
  | _, _, _, _, _, _, _, _, _, _, _, _, _, _, _, _, _, _, _, _, 0, hn => absurd hn (by omega)
  | 0, feet, b, w1, w2, w3, w4, w5, w6, w7, w8, w9, a1, a2, a3, a4, a5, he, h1, hb, n + 1, _ => by
    refine ⟨w1, w2, w3, w4, w5, w6, w7, w8, w9, a1, a2, a3, a4, a5, ?_⟩
    have e : feet = 6 := by omega
    subst e
    rw [mX6_nearestOf_b27, if_pos (by decide), nI_1]
    rfl
  | d + 1, feet, b, w1, w2, w3, w4, w5, w6, w7, w8, w9, a1, a2, a3, a4, a5, he, h1, hb, n + 1, hn => by
    obtain ⟨x1, x2, x3, x4, x5, x6, x7, x8, x9, y1, y2, y3, y4, y5, ht⟩ := hT feet h1 (by omega) w1 w2 w3 w4 w5 w6 w7 w8 w9 a1 a2 a3 a4 a5
    have hb' := nst_LB hb foot feet (hc feet)
    have ih := c_near_in (p3 := p3) hT hc k15 d (feet + 1) (nst b foot feet (cs feet)) x1 x2 x3 x4 x5 x6 x7 x8 x9 y1 y2 y3 y4 y5 (by omega) (by omega) hb' n (by omega)
    have c1 : ¬ (5 : Int32) < nI feet := nI_nlt (a := 5) (by omega) (by omega)
    rw [mX6_nearestOf_b27, if_neg c1, ht, os15, nI_1]
    show ∃ x1 x2 x3 x4 x5 x6 x7 x8 x9 y1 y2 y3 y4 y5, _ = k15 x1 x2 x3 x4 x5 x6 x7 x8 x9 y1 y2 y3 y4 y5 (bC (nbI cs foot d (feet + 1) (nst b foot feet (cs feet)))) (bF (nbI cs foot d (feet + 1) (nst b foot feet (cs feet)))) (bE (nbI cs foot d (feet + 1) (nst b foot feet (cs feet)))) (nI (foot + 1))
    cases hcs : cs feet with
    | none =>
      rw [hcs] at ih
      rw [if_pos (show eC none = -1000000 from rfl)]
      exact ih
    | some v =>
      have hv := hc feet v hcs
      rw [hcs] at ih
      rw [if_neg (show ¬ eC (some v) = -1000000 from nI_none' hv)]
      cases b with
      | none =>
        rw [if_pos (show bC none = -1000000 from rfl), mX6_nearestOf_b66, nI_1]
        exact ih
      | some p =>
        obtain ⟨l0, f0, e0⟩ := p
        have h0 := hb l0 f0 e0 rfl
        rw [if_neg (show ¬ bC (some (l0, f0, e0)) = -1000000 from nI_none' h0)]
        by_cases hlt : v < l0
        · simp only [nst, if_pos hlt] at ih ⊢
          rw [if_neg (show ¬ bC (some (l0, f0, e0)) ≤ eC (some v) from nI_ge hlt (by omega)), mX6_nearestOf_b66, nI_1]
          exact ih
        · simp only [nst, if_neg hlt] at ih ⊢
          rw [if_pos (show bC (some (l0, f0, e0)) ≤ eC (some v) from nI_le (by omega) (by omega))]
          exact ih
theorem c_near_out {p1 p2 p3 : Int32} {cs : Nat → Nat → Option Nat} (hT : ∀ foot feet, foot < 4 → 1 ≤ feet → feet ≤ 5 → ∀ (w1 w2 w3 w4 w5 w6 w7 w8 w9 : Int32) (a1 a2 a3 a4 a5 : Nat → Int32), ∃ x1 x2 x3 x4 x5 x6 x7 x8 x9 y1 y2 y3 y4 y5, mX6_together L ln sy sn lt sizes kinds spelled w1 w2 w3 w4 w5 w6 w7 w8 w9 a1 a2 a3 a4 a5 p1 p2 (nI foot) (nI feet) = some (eC (cs foot feet), x1, x2, x3, x4, x5, x6, x7, x8, x9, y1, y2, y3, y4, y5)) (hc : ∀ f e v, cs f e = some v → v < 10000) : ∀ (d foot : Nat) (b : BST) (w1 w2 w3 w4 w5 w6 w7 w8 w9 : Int32) (a1 a2 a3 a4 a5 : Nat → Int32), foot + d = 4 → bLB b → ∀ n, d < n → ∃ x1 x2 x3 x4 x5 x6 x7 x8 x9 y1 y2 y3 y4 y5, mX6_nearestOf_b15 L ln sy sn lt sizes kinds spelled p1 p2 p3 n w1 w2 w3 w4 w5 w6 w7 w8 w9 a1 a2 a3 a4 a5 (bC b) (bF b) (bE b) (nI foot) = some (bA (nbO cs d foot b) p3, x1, x2, x3, x4, x5, x6, x7, x8, x9, y1, y2, y3, y4, y5)
  | _, _, _, _, _, _, _, _, _, _, _, _, _, _, _, _, _, _, _, 0, hn => absurd hn (by omega)
  | 0, foot, b, w1, w2, w3, w4, w5, w6, w7, w8, w9, a1, a2, a3, a4, a5, he, hb, n + 1, _ => by
    refine ⟨w1, w2, w3, w4, w5, w6, w7, w8, w9, a1, a2, a3, a4, a5, ?_⟩
    have e : foot = 4 := by omega
    subst e
    rw [mX6_nearestOf_b15, if_pos (by decide)]
    unfold bA nbO
    by_cases h0 : p3 = 0
    · rw [if_pos h0, if_pos h0]
    · rw [if_neg h0, if_neg h0]
      by_cases h1 : p3 = 1
      · rw [if_pos h1, if_pos h1]
      · rw [if_neg h1, if_neg h1]
  | d + 1, foot, b, w1, w2, w3, w4, w5, w6, w7, w8, w9, a1, a2, a3, a4, a5, he, hb, n + 1, hn => by
    obtain ⟨x1, x2, x3, x4, x5, x6, x7, x8, x9, y1, y2, y3, y4, y5, hi⟩ := c_near_in (p3 := p3) (fun feet h1 h5 => hT foot feet (by omega) h1 h5) (hc foot) (mX6_nearestOf_b15 L ln sy sn lt sizes kinds spelled p1 p2 p3 n) 5 1 b w1 w2 w3 w4 w5 w6 w7 w8 w9 a1 a2 a3 a4 a5 (by omega) (by omega) hb FU (zn_fu (by omega))
    have c1 : ¬ (4 : Int32) ≤ nI foot := nI_ge (b := 4) (by omega) (by omega)
    have hi' : mX6_nearestOf_b27 L ln sy sn lt sizes kinds spelled p1 p2 p3 (mX6_nearestOf_b15 L ln sy sn lt sizes kinds spelled p1 p2 p3 n) FU w1 w2 w3 w4 w5 w6 w7 w8 w9 a1 a2 a3 a4 a5 (bC b) (bF b) (bE b) (nI foot) 1 = _ := hi
    rw [mX6_nearestOf_b15, if_neg c1, hi']
    exact c_near_out hT hc d (foot + 1) _ x1 x2 x3 x4 x5 x6 x7 x8 x9 y1 y2 y3 y4 y5 (by omega) (nbI_LB (hc foot) foot 5 1 b hb) n (by omega)
theorem c_nearestOf {p1 p2 p3 : Int32} {cs : Nat → Nat → Option Nat} (hT : ∀ foot feet, foot < 4 → 1 ≤ feet → feet ≤ 5 → ∀ (w1 w2 w3 w4 w5 w6 w7 w8 w9 : Int32) (a1 a2 a3 a4 a5 : Nat → Int32), ∃ x1 x2 x3 x4 x5 x6 x7 x8 x9 y1 y2 y3 y4 y5, mX6_together L ln sy sn lt sizes kinds spelled w1 w2 w3 w4 w5 w6 w7 w8 w9 a1 a2 a3 a4 a5 p1 p2 (nI foot) (nI feet) = some (eC (cs foot feet), x1, x2, x3, x4, x5, x6, x7, x8, x9, y1, y2, y3, y4, y5)) (hc : ∀ f e v, cs f e = some v → v < 10000) (w1 w2 w3 w4 w5 w6 w7 w8 w9 : Int32) (a1 a2 a3 a4 a5 : Nat → Int32) : ∃ x1 x2 x3 x4 x5 x6 x7 x8 x9 y1 y2 y3 y4 y5, mX6_nearestOf L ln sy sn lt sizes kinds spelled w1 w2 w3 w4 w5 w6 w7 w8 w9 a1 a2 a3 a4 a5 p1 p2 p3 = some (bA (nbO cs 4 0 none) p3, x1, x2, x3, x4, x5, x6, x7, x8, x9, y1, y2, y3, y4, y5) :=
  c_near_out hT hc 4 0 none w1 w2 w3 w4 w5 w6 w7 w8 w9 a1 a2 a3 a4 a5 (by omega) (fun c f e q => absurd q (by simp)) FU (zn_fu (by omega))
/-- the least of a line by a metre -/
def lst (ln : Nat → Int32) (lt : Nat → Nat → Int32) (A : AP) (foot feet l : Nat) : Option Nat := (aSC ln lt A l foot feet (aG ln lt A l)).map Prod.fst
theorem lst_lt (ha : AOK L ln lt A) {l : Nat} (hl : l < aL A) {foot feet : Nat} (hf : foot < 4) (hfe : feet ≤ 5) {v : Nat} (h : lst ln lt A foot feet l = some v) : v < 1000 := by
  have hb := aSC_LB ha hl hf hfe (aG ln lt A l)
  unfold lst at h
  cases hs : aSC ln lt A l foot feet (aG ln lt A l) with
  | none => rw [hs] at h; exact absurd h (by simp)
  | some p =>
    obtain ⟨a, b⟩ := p
    rw [hs] at h
    have := hb a b hs
    have e : a = v := Option.some.inj h
    omega
theorem c_tog_loop (hp : POOL L ln sy sn lt st) (ha : AOK L ln lt A) (hc : CW A kinds spelled) (hz : CZ A sizes) {foot feet : Nat} (hf : foot < 4) (hf1 : 1 ≤ feet) (hfe : feet ≤ 5) (p1 : Int32) {to : Nat} (hto : to ≤ aL A) : ∀ (d l acc : Nat) (w1 w2 w3 w4 w5 w6 w7 w8 w9 : Int32) (a1 a2 a3 a4 a5 : Nat → Int32), l + d = to → ∀ n, d < n → ∃ x1 x2 x3 x4 x5 x6 x7 x8 x9 y1 y2 y3 y4 y5, mX6_together_b6 L ln sy sn lt sizes kinds spelled p1 (nI to) (nI foot) (nI feet) n w1 w2 w3 w4 w5 w6 w7 w8 w9 a1 a2 a3 a4 a5 (nI acc) (nI l) = some (eC (tgS (lst ln lt A foot feet) d l acc), x1, x2, x3, x4, x5, x6, x7, x8, x9, y1, y2, y3, y4, y5)
  | _, _, _, _, _, _, _, _, _, _, _, _, _, _, _, _, _, _, 0, hn => absurd hn (by omega)
  | 0, l, acc, w1, w2, w3, w4, w5, w6, w7, w8, w9, a1, a2, a3, a4, a5, hl, n + 1, _ => by
    obtain ⟨-, -, w20, l4⟩ := aok_sz ha
    refine ⟨w1, w2, w3, w4, w5, w6, w7, w8, w9, a1, a2, a3, a4, a5, ?_⟩
    rw [mX6_together_b6, if_pos (nI_le (by omega) (by omega))]
    rfl
  | d + 1, l, acc, w1, w2, w3, w4, w5, w6, w7, w8, w9, a1, a2, a3, a4, a5, hl, n + 1, hn => by
    obtain ⟨-, -, w20, l4⟩ := aok_sz ha
    have hll : l < aL A := by omega
    obtain ⟨la', c1, c2⟩ := c_hear hp ha hc hz hll w1 w2 w3 w4 w5 w6 a1
    obtain ⟨K', g1, g2, g3, g4, c3⟩ := c_leastBy ha hll hf hf1 hfe c2 w7 w8 w9 a2 a3 a4 a5
    have k1 : ¬ (4 : Int32) ≤ nI l := nI_ge (b := 4) (by omega) (by omega)
    rw [mX6_together_b6, if_neg (nI_ge (by omega) (by omega)), if_neg k1, c1, os7, c3, os8]
    have hel := eL_eC (aSC ln lt A l foot feet (aG ln lt A l))
    have hlst : (aSC ln lt A l foot feet (aG ln lt A l)).map Prod.fst = lst ln lt A foot feet l := rfl
    rw [hlst] at hel
    cases hs : lst ln lt A foot feet l with
    | none =>
      have et : tgS (lst ln lt A foot feet) (d + 1) l acc = none := by unfold tgS; rw [hs]
      rw [hs] at hel
      rw [et, if_pos (by rw [hel]; rfl)]
      exact ⟨_, _, _, _, _, _, _, _, _, _, _, _, _, _, rfl⟩
    | some v =>
      have hv := lst_lt ha hll hf hfe hs
      have et : tgS (lst ln lt A foot feet) (d + 1) l acc = tgS (lst ln lt A foot feet) d (l + 1) (acc + v) := by
        conv => lhs; unfold tgS
        rw [hs]
      rw [hs] at hel
      have hel' : eL (aSC ln lt A l foot feet (aG ln lt A l)) = nI v := hel
      rw [et, if_neg (by rw [hel']; exact nI_none hv), nI_1]
      have ih := c_tog_loop hp ha hc hz hf hf1 hfe p1 hto d (l + 1) (acc + v) (nI (aSz A l)) (nI (aPs ln lt A l (aSz A l))) (nI (msk (gSt (aG ln lt A l)) (aPs ln lt A l (aSz A l)))) (nI (msk (gEi (aG ln lt A l)) (aPs ln lt A l (aSz A l)))) (nI (msk (JN ln lt A l) (aSz A l))) (nI (msk (sG ln lt A l) (aSz A l))) K' (eL (aSC ln lt A l foot feet (aG ln lt A l))) (eW (aSC ln lt A l foot feet (aG ln lt A l))) la' g1 g2 g3 g4 (by omega) n (by omega)
      rw [← zn_add, ← hel'] at ih
      exact ih
theorem c_together (hp : POOL L ln sy sn lt st) (ha : AOK L ln lt A) (hc : CW A kinds spelled) (hz : CZ A sizes) {foot feet : Nat} (hf : foot < 4) (hf1 : 1 ≤ feet) (hfe : feet ≤ 5) {fr to : Nat} (hft : fr ≤ to) (hto : to ≤ aL A) (w1 w2 w3 w4 w5 w6 w7 w8 w9 : Int32) (a1 a2 a3 a4 a5 : Nat → Int32) : ∃ x1 x2 x3 x4 x5 x6 x7 x8 x9 y1 y2 y3 y4 y5, mX6_together L ln sy sn lt sizes kinds spelled w1 w2 w3 w4 w5 w6 w7 w8 w9 a1 a2 a3 a4 a5 (nI fr) (nI to) (nI foot) (nI feet) = some (eC (tgS (lst ln lt A foot feet) (to - fr) fr 0), x1, x2, x3, x4, x5, x6, x7, x8, x9, y1, y2, y3, y4, y5) := by
  obtain ⟨-, -, w20, l4⟩ := aok_sz ha
  exact c_tog_loop hp ha hc hz hf hf1 hfe (nI fr) hto (to - fr) fr 0 w1 w2 w3 w4 w5 w6 w7 w8 w9 a1 a2 a3 a4 a5 (by omega) FU (zn_fu (by omega))
theorem r_all_loop (h : PR ln lt A row) (ha : AOK L ln lt A) {foot feet : Nat} (hf : foot < 4) (hf1 : 1 ≤ feet) (hfe : feet ≤ 5) : ∀ (d l acc : Nat) (z1 z2 z3 : Int32) (b1 b2 b3 : Nat → Int32), l + d = aL A → ∀ n, d < n → ∃ u1 u2 u3 v1 v2 v3, mX7_allBy_b6 row (nI foot) (nI feet) n z1 z2 z3 b1 b2 b3 (nI acc) (nI l) = some (eC (tgS (lst ln lt A foot feet) d l acc), u1, u2, u3, v1, v2, v3)
  | _, _, _, _, _, _, _, _, _, _, 0, hn => absurd hn (by omega)
  | 0, l, acc, z1, z2, z3, b1, b2, b3, hl, n + 1, _ => by
    obtain ⟨-, -, w20, l4⟩ := aok_sz ha
    have e0 : row (0 : Int32).toNatClampNeg = nI (aL A) := h.1
    refine ⟨z1, z2, z3, b1, b2, b3, ?_⟩
    rw [mX7_allBy_b6, e0, if_pos (nI_le (by omega) (by omega))]
    rfl
  | d + 1, l, acc, z1, z2, z3, b1, b2, b3, hl, n + 1, hn => by
    obtain ⟨-, -, w20, l4⟩ := aok_sz ha
    have e0 : row (0 : Int32).toNatClampNeg = nI (aL A) := h.1
    have hll : l < aL A := by omega
    obtain ⟨sts', f', g', sd', r1⟩ := r_scanOf h ha hll hf hf1 hfe (-1) z1 z2 z3 b1 b2 b3
    rw [SB_as] at r1
    rw [mX7_allBy_b6, e0, if_neg (nI_ge (by omega) (by omega)), r1, os7]
    have hel := eL_eC (aSC ln lt A l foot feet (aG ln lt A l))
    have hlst : (aSC ln lt A l foot feet (aG ln lt A l)).map Prod.fst = lst ln lt A foot feet l := rfl
    rw [hlst] at hel
    cases hs : lst ln lt A foot feet l with
    | none =>
      have et : tgS (lst ln lt A foot feet) (d + 1) l acc = none := by unfold tgS; rw [hs]
      rw [hs] at hel
      rw [et, if_pos (by rw [hel]; rfl)]
      exact ⟨_, _, _, _, _, _, rfl⟩
    | some v =>
      have hv := lst_lt ha hll hf hfe hs
      have et : tgS (lst ln lt A foot feet) (d + 1) l acc = tgS (lst ln lt A foot feet) d (l + 1) (acc + v) := by
        conv => lhs; unfold tgS
        rw [hs]
      rw [hs] at hel
      have hel' : eL (aSC ln lt A l foot feet (aG ln lt A l)) = nI v := hel
      rw [et, if_neg (by rw [hel']; exact nI_none hv), nI_1]
      have ih := r_all_loop h ha hf hf1 hfe d (l + 1) (acc + v) sts' (eL (aSC ln lt A l foot feet (aG ln lt A l))) (eW (aSC ln lt A l foot feet (aG ln lt A l))) f' g' sd' (by omega) n (by omega)
      rw [← zn_add, ← hel'] at ih
      exact ih
theorem r_allBy (h : PR ln lt A row) (ha : AOK L ln lt A) {foot feet : Nat} (hf : foot < 4) (hf1 : 1 ≤ feet) (hfe : feet ≤ 5) (z1 z2 z3 : Int32) (b1 b2 b3 : Nat → Int32) : ∃ u1 u2 u3 v1 v2 v3, mX7_allBy row z1 z2 z3 b1 b2 b3 (nI foot) (nI feet) = some (eC (tgS (lst ln lt A foot feet) (aL A) 0 0), u1, u2, u3, v1, v2, v3) := by
  obtain ⟨-, -, w20, l4⟩ := aok_sz ha
  exact r_all_loop h ha hf hf1 hfe (aL A) 0 0 z1 z2 z3 b1 b2 b3 (by omega) FU (zn_fu (by omega))
/-- the reference's nearest -/
def NR (b : BST) (nf ne nc : Int32) : Prop := nc = bC b ∧ ∀ c f e, b = some (c, f, e) → nf = nI f ∧ ne = nI e
theorem r_nears {b : BST} (hb : bLB b) {nf ne nc : Int32} (hn : NR b nf ne nc) (foot feet : Nat) {c : Option Nat} (hc : ∀ v, c = some v → v < 10000) : ∃ nf' ne' nc', mX7_nears nf ne nc (nI foot) (nI feet) (eC c) = some (nf', ne', nc') ∧ NR (nst b foot feet c) nf' ne' nc' := by
  obtain ⟨n1, n2⟩ := hn
  unfold mX7_nears mX7_nears_b0
  cases c with
  | none => exact ⟨nf, ne, nc, by rw [if_pos (show eC none = -1000000 from rfl)], n1, n2⟩
  | some v =>
    have hv := hc v rfl
    rw [if_neg (show ¬ eC (some v) = -1000000 from nI_none' hv)]
    cases b with
    | none =>
      rw [if_pos (show nc = -1000000 from n1)]
      refine ⟨_, _, _, rfl, rfl, ?_⟩
      intro c f e q
      have q2 := Option.some.inj q
      obtain ⟨q3, q4⟩ := Prod.mk.inj q2
      obtain ⟨q5, q6⟩ := Prod.mk.inj q4
      rw [← q5, ← q6]; exact ⟨rfl, rfl⟩
    | some p =>
      obtain ⟨l0, f0, e0⟩ := p
      have h0 := hb l0 f0 e0 rfl
      have n1' : nc = nI l0 := n1
      rw [n1', if_neg (nI_none' h0)]
      by_cases hlt : v < l0
      · rw [if_neg (show ¬ nI l0 ≤ eC (some v) from nI_ge hlt (by omega))]
        simp only [nst, if_pos hlt]
        refine ⟨_, _, _, rfl, rfl, ?_⟩
        intro c f e q
        have q2 := Option.some.inj q
        obtain ⟨q3, q4⟩ := Prod.mk.inj q2
        obtain ⟨q5, q6⟩ := Prod.mk.inj q4
        rw [← q5, ← q6]; exact ⟨rfl, rfl⟩
      · rw [if_pos (show nI l0 ≤ eC (some v) from nI_le (by omega) (by omega))]
        simp only [nst, if_neg hlt]
        exact ⟨nf, ne, nI l0, rfl, rfl, n2⟩
theorem r_ofNear {b : BST} (hb : bLB b) {nf ne nc : Int32} (hn : NR b nf ne nc) (p : Int32) : mX7_ofNearest nf ne nc p = some (bA b p) := by
  obtain ⟨n1, n2⟩ := hn
  unfold mX7_ofNearest mX7_ofNearest_b0 bA
  cases b with
  | none =>
    rw [if_pos (show nc = -1000000 from n1)]
    show some (-1000000 : Int32) = some (if p = 0 then (-1000000 : Int32) else if p = 1 then (-1000000 : Int32) else (-1000000 : Int32))
    rw [ite_self, ite_self]
  | some q =>
    obtain ⟨l0, f0, e0⟩ := q
    have h0 := hb l0 f0 e0 rfl
    obtain ⟨m1, m2⟩ := n2 l0 f0 e0 rfl
    have n1' : nc = nI l0 := n1
    rw [n1', if_neg (nI_none' h0), m1, m2]
    by_cases k0 : p = 0
    · rw [if_pos k0, if_pos k0]; rfl
    · rw [if_neg k0, if_neg k0]
      by_cases k1 : p = 1
      · rw [if_pos k1, if_pos k1]; rfl
      · rw [if_neg k1, if_neg k1]; rfl
end
