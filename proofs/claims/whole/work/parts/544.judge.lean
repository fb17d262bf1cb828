-- uses: 501.auto 502.abs 503.line 504.word 505.bits 506.pop 507.tail 508.alike 509.lines 533.count 540.hear 542.spread 543.opt
/-! costs of scans; the class's judging -/
def anyB (f : Nat → Bool) : Nat → Bool
  | 0 => false
  | n + 1 => anyB f n || f n
theorem anyB_no (f : Nat → Bool) : ∀ n, anyB f n = false ↔ ∀ i, i < n → f i = false
  | 0 => ⟨fun _ i hi => absurd hi (by omega), fun _ => rfl⟩
  | n + 1 => by
    unfold anyB
    rw [Bool.or_eq_false_iff, anyB_no f n]
    constructor
    · rintro ⟨h1, h2⟩ i hi
      by_cases e : i = n
      · rw [e]; exact h2
      · exact h1 i (by omega)
    · intro h
      exact ⟨fun i hi => h i (by omega), h n (by omega)⟩
/-- what a syllable costs in a place -/
def gC (foot places : Nat) (tu : Bool) (t v : Nat) : Nat := if t < places then (if HS foot tu t then (if v = 0 then 3 else 0) else (if v = 1 then 2 else 0)) else 0
theorem gC_le (foot places : Nat) (tu : Bool) (t v : Nat) : gC foot places tu t v ≤ 3 := by
  unfold gC; (repeat' split) <;> omega
theorem sumN_le (f : Nat → Nat) (c : Nat) (h : ∀ i, f i ≤ c) : ∀ n, sumN f n ≤ c * n
  | 0 => Nat.le_refl _
  | n + 1 => by
    have := sumN_le f c h n
    have := h n
    unfold sumN
    rw [Nat.mul_succ]; omega
theorem sumN_congr {f g : Nat → Nat} : ∀ n, (∀ i, i < n → f i = g i) → sumN f n = sumN g n
  | 0, _ => rfl
  | n + 1, h => by
    unfold sumN
    rw [sumN_congr n (fun i hi => h i (by omega)), h n (by omega)]
theorem sum23 (a b : Nat → Bool) (g : Nat → Nat) : ∀ n, (∀ j, j < n → 2 * (a j).toNat + 3 * (b j).toNat = g j) → 2 * cnt a n + 3 * cnt b n = sumN g n
  | 0, _ => rfl
  | n + 1, h => by
    have ih := sum23 a b g n (fun j hj => h j (by omega))
    have := h n (by omega)
    unfold cnt sumN
    omega
/-- what a scan costs by strengths, or that it is none -/
def OC (P : Nat → Nat) (m foot feet : Nat) (g : Nat → Nat) (q : Nat × Bool) : Option Nat :=
  if anyB (fun j => !RM P (nI q.1) m j && decide (feet * szF foot ≤ TT P (nI q.1) m j) && decide (g j = 1)) (P m) then none
  else some (q.2.toNat + cnt (B (nI q.1)) 32 + AD (TT P (nI q.1) m (P m)) (feet * szF foot) + sumN (fun j => if RM P (nI q.1) m j then 0 else gC foot (feet * szF foot) q.2 (TT P (nI q.1) m j) (g j)) (P m))
def stp (lw : Option (Nat × Nat)) (c : Option Nat) : Option (Nat × Nat) :=
  match c with
  | none => lw
  | some c => match lw with
    | none => some (c, 1)
    | some (l, w) => if c < l then some (c, 1) else if c = l then some (l, w + 1) else some (l, w)
def eL (lw : Option (Nat × Nat)) : Int32 := match lw with | none => -1000000 | some (l, _) => nI l
def eW (lw : Option (Nat × Nat)) : Int32 := match lw with | none => 0 | some (_, w) => nI w
def LB (lw : Option (Nat × Nat)) : Prop := ∀ l w, lw = some (l, w) → l < 1000
theorem nI_none {c : Nat} (hc : c < 1000) : ¬ nI c = (-1000000 : Int32) := by
  intro q
  have h := nI_toInt (n := c) (by omega)
  rw [q] at h
  have : (-1000000 : Int32).toInt = -1000000 := rfl
  omega
theorem stp_LB {lw : Option (Nat × Nat)} (h : LB lw) {c : Option Nat} (hc : ∀ v, c = some v → v < 1000) : LB (stp lw c) := by
  intro l w e
  cases c with
  | none => exact h l w e
  | some c =>
    have := hc c rfl
    cases lw with
    | none =>
      simp only [stp] at e
      have e1 := Option.some.inj e
      have e2 := (Prod.mk.inj e1).1
      omega
    | some p =>
      obtain ⟨l0, w0⟩ := p
      have h0 := h l0 w0 rfl
      simp only [stp] at e
      split at e
      · have e2 := (Prod.mk.inj (Option.some.inj e)).1
        omega
      · split at e
        · have e2 := (Prod.mk.inj (Option.some.inj e)).1
          omega
        · have e2 := (Prod.mk.inj (Option.some.inj e)).1
          omega
section
variable {P : Nat → Nat} {m : Nat} {foot feet : Nat} {g : Nat → Nat}
theorem OC_lt (h : INC P m) (hm : m ≤ 5) (hS : P m ≤ 20) (hf : foot < 4) (hfe : feet ≤ 5) {q : Nat × Bool} (hq : q.1 < 2 ^ m) : ∀ v, OC P m foot feet g q = some v → v < 1000 := by
  intro v hv
  unfold OC at hv
  split at hv
  · exact absurd hv (by simp)
  · have e := Option.some.inj hv
    have h1 := sumN_le (fun j => if RM P (nI q.1) m j then 0 else gC foot (feet * szF foot) q.2 (TT P (nI q.1) m j) (g j)) 3 (by
      intro i; split
      · omega
      · exact gC_le _ _ _ _ _) (P m)
    have h2 := left_k h hq hm
    have h3 : q.2.toNat ≤ 1 := Bool.toNat_le _
    have h4 : feet * szF foot ≤ 5 * 3 := Nat.mul_le_mul hfe (foot_k foot hf).2.2.2.1
    have h5 : AD (TT P (nI q.1) m (P m)) (feet * szF foot) ≤ 35 := by unfold AD; omega
    omega
theorem judge_over (h : INC P m) (hS : P m ≤ 20) {q : Nat × Bool} {a b c d st : Int32} (ho : OPT P m foot feet q a b c d) (hst : ∀ j, j < 32 → B st j = (decide (j < P m) && decide (g j = 1))) : (st &&& d) = 0 ↔ anyB (fun j => !RM P (nI q.1) m j && decide (feet * szF foot ≤ TT P (nI q.1) m j) && decide (g j = 1)) (P m) = false := by
  obtain ⟨-, -, -, o4⟩ := ho
  rw [B_eq0, anyB_no]
  constructor
  · intro k j hj
    have k1 := k j (by omega)
    rw [B_and, hst j (by omega), o4 j (by omega)] at k1
    cases hr : RM P (nI q.1) m j
    · have t := (TT_in h hr).mpr hj
      rw [hr] at k1
      by_cases h1 : g j = 1
      · by_cases h2 : feet * szF foot ≤ TT P (nI q.1) m j
        · have h3 : ¬ TT P (nI q.1) m j < feet * szF foot := by omega
          simp [hj, h1, t, h3] at k1
        · simp [h2]
      · simp [h1]
    · simp
  · intro k j hj
    rw [B_and, hst j hj, o4 j hj]
    by_cases h1 : j < P m
    · have k1 := k j h1
      by_cases h2 : feet * szF foot ≤ TT P (nI q.1) m j
      · have h3 : ¬ TT P (nI q.1) m j < feet * szF foot := by omega
        revert k1
        simp only [h1, h2, h3, decide_true, decide_false, Bool.and_true, Bool.true_and, Bool.not_false]
        cases RM P (nI q.1) m j <;> cases decide (g j = 1) <;> simp
      · have h3 : TT P (nI q.1) m j < feet * szF foot := by omega
        simp [h3]
    · simp [h1]
theorem judge_cost (h : INC P m) (hS : P m ≤ 20) {q : Nat × Bool} {a b c d st wk : Int32} (ho : OPT P m foot feet q a b c d) (hst : ∀ j, j < 32 → B st j = (decide (j < P m) && decide (g j = 1))) (hwk : ∀ j, j < P m → B wk j = decide (g j = 0)) : a + (2 : Int32) * nI (cnt (B (st &&& c)) 32) + (3 : Int32) * nI (cnt (B (wk &&& b)) 32) = nI (q.2.toNat + cnt (B (nI q.1)) 32 + AD (TT P (nI q.1) m (P m)) (feet * szF foot) + sumN (fun j => if RM P (nI q.1) m j then 0 else gC foot (feet * szF foot) q.2 (TT P (nI q.1) m j) (g j)) (P m)) := by
  obtain ⟨o1, o2, o3, -⟩ := ho
  have e1 : cnt (B (st &&& c)) 32 = cnt (B (st &&& c)) (P m) := by
    have := cnt_end (B (st &&& c)) (P m) (32 - P m) (by
      intro j h1 h2
      rw [B_and, hst j (by omega)]
      have : ¬ j < P m := by omega
      simp [this])
    rw [show P m + (32 - P m) = 32 by omega] at this
    exact this
  have e2 : cnt (B (wk &&& b)) 32 = cnt (B (wk &&& b)) (P m) := by
    have := cnt_end (B (wk &&& b)) (P m) (32 - P m) (by
      intro j h1 h2
      rw [B_and, o2 j (by omega)]
      cases hr : RM P (nI q.1) m j
      · have t : ¬ TT P (nI q.1) m j < TT P (nI q.1) m (P m) := by rw [TT_in h hr]; omega
        simp [t]
      · simp)
    rw [show P m + (32 - P m) = 32 by omega] at this
    exact this
  have e3 := sum23 (B (st &&& c)) (B (wk &&& b)) (fun j => if RM P (nI q.1) m j then 0 else gC foot (feet * szF foot) q.2 (TT P (nI q.1) m j) (g j)) (P m) (by
    intro j hj
    rw [B_and, B_and, hst j (by omega), o3 j (by omega), hwk j hj, o2 j (by omega)]
    cases hr : RM P (nI q.1) m j
    · have t := (TT_in h hr).mpr hj
      unfold gC
      by_cases h2 : TT P (nI q.1) m j < feet * szF foot
      · cases HS foot q.2 (TT P (nI q.1) m j)
        · by_cases h1 : g j = 1
          · simp [hj, t, h2, h1]
          · simp [hj, t, h2, h1]
        · by_cases h1 : g j = 0
          · simp [hj, t, h2, h1]
          · simp [hj, t, h2, h1]
      · simp [h2]
    · simp)
  rw [e1, e2, o1, zn_2, zn_3, zn_mul, zn_mul, zn_add, zn_add, ← e3]
  congr 1
  omega
theorem getD_mid {α : Type} (pre : List α) (r : α) (rs : List α) (x : α) : (pre ++ r :: rs).getD pre.length x = r := by
  simp [List.getD]
theorem c_judge_loop (h : INC P m) (hm : m ≤ 5) (hS : P m ≤ 20) (hf : foot < 4) (hfe : feet ≤ 5) {os : List (Nat × Bool)} {f1 f2 f3 f4 : Nat → Int32} (ho : OPTS P m foot feet os f1 f2 f3 f4) (hlen : os.length ≤ 32) (hos : ∀ q ∈ os, q.1 < 2 ^ m) {st wk : Int32} (hst : ∀ j, j < 32 → B st j = (decide (j < P m) && decide (g j = 1))) (hwk : ∀ j, j < P m → B wk j = decide (g j = 0)) : ∀ (rs pre : List (Nat × Bool)) (lw : Option (Nat × Nat)), os = pre ++ rs → LB lw → ∀ n, rs.length < n → mX1_judge_b13 (nI os.length) f1 f2 f3 f4 st wk n (eL lw) (eW lw) (nI pre.length) = some (eL ((rs.map (OC P m foot feet g)).foldl stp lw), eW ((rs.map (OC P m foot feet g)).foldl stp lw))
  | _, _, _, _, _, 0, hn => absurd hn (by omega)
  | [], pre, lw, e, hb, n + 1, _ => by
    have : os.length = pre.length := by rw [e]; simp
    rw [mX1_judge_b13, this, if_pos (nI_le (Nat.le_refl _) (by omega))]
    rfl
  | r :: rs, pre, lw, e, hb, n + 1, hn => by
    have el : os.length = pre.length + (rs.length + 1) := by rw [e]; simp
    have hr := hos r (by rw [e]; simp)
    have hop := ho pre.length (by omega)
    have er : os.getD pre.length (0, false) = r := by rw [e]; exact getD_mid _ _ _ _
    rw [er] at hop
    have c1 : ¬ (nI pre.length < 0 ∨ 32 ≤ pre.length) := by simp (disch := omega) only [↓reduceIte, Nat.reduceAdd, Nat.reduceMul, Nat.reduceSub, Nat.zero_add, zn_0, zn_1, zn_2, zn_3, zn_4, zn_5, zn_6, zn_7, zn_8, zn_9, zn_10, zn_16, zn_20, zn_23, zn_24, zn_25, zn_26, zn_40, zn_207, zn_4761, zn_99, zn_130, zn_lt_t, zn_lt_f, zn_le_t, zn_le_f, zn_eq_t, zn_eq_f, zn_ix, zn_cl, zq_le_f, zq_le_t, zq_lt_f, zq_lt_t, zn_add, zn_mul, zn_sub, or_false, false_or, or_self, true_or, or_true, and_true, true_and, and_false, false_and, not_true_eq_false, not_false_eq_true, if_true, if_false, os1, os2, os3, os4, os5, os6, os7, os8, os9, os10, os11, os12, os13, os14, os15, os16, os17, os18, os19, os20, os21, os22, os23, os24]
    have jo := judge_over h hS hop hst
    have jc := judge_cost h hS hop hst hwk
    have hcl := OC_lt (g := g) h hm hS hf hfe hr
    have ih := fun lw' (hb' : LB lw') => c_judge_loop h hm hS hf hfe ho hlen hos hst hwk rs (pre ++ [r]) lw' (by rw [e]; simp) hb' n (by simp at hn; omega)
    have el2 : (pre ++ [r]).length = pre.length + 1 := by simp
    rw [el2] at ih
    have hfo : ((r :: rs).map (OC P m foot feet g)).foldl stp lw = (rs.map (OC P m foot feet g)).foldl stp (stp lw (OC P m foot feet g r)) := rfl
    rw [hfo, mX1_judge_b13, if_neg (nI_ge (by omega) (by omega)), zn_cl (by omega), if_neg c1, nI_1]
    cases ha : anyB (fun j => !RM P (nI r.1) m j && decide (feet * szF foot ≤ TT P (nI r.1) m j) && decide (g j = 1)) (P m)
    · rw [if_pos (jo.mpr ha), if_neg c1, if_neg c1, c_pop, os1, if_neg c1, c_pop, os1, jc]
      have hoc : OC P m foot feet g r = some (r.2.toNat + cnt (B (nI r.1)) 32 + AD (TT P (nI r.1) m (P m)) (feet * szF foot) + sumN (fun j => if RM P (nI r.1) m j then 0 else gC foot (feet * szF foot) r.2 (TT P (nI r.1) m j) (g j)) (P m)) := by
        unfold OC; rw [ha]; rfl
      have hlt := hcl _ hoc
      have hsb := stp_LB hb hcl
      have ih' := ih _ hsb
      rw [hoc] at ih' ⊢
      generalize r.2.toNat + cnt (B (nI r.1)) 32 + AD (TT P (nI r.1) m (P m)) (feet * szF foot) + sumN (fun j => if RM P (nI r.1) m j then 0 else gC foot (feet * szF foot) r.2 (TT P (nI r.1) m j) (g j)) (P m) = v at *
      cases lw with
      | none =>
        rw [if_pos (show eL none = -1000000 from rfl), mX1_judge_b86, mX1_judge_b97, if_pos rfl, nI_1]
        exact ih'
      | some p =>
        obtain ⟨l0, w0⟩ := p
        have h0 := hb l0 w0 rfl
        rw [if_neg (show ¬ eL (some (l0, w0)) = -1000000 from nI_none h0)]
        by_cases h1 : v < l0
        · rw [if_neg (show ¬ eL (some (l0, w0)) ≤ nI v from nI_ge h1 (by omega)), mX1_judge_b86, mX1_judge_b97, if_pos rfl, nI_1]
          simp only [stp, if_pos h1] at ih'
          simp only [stp, if_pos h1]
          exact ih'
        · rw [if_pos (show eL (some (l0, w0)) ≤ nI v from nI_le (by omega) (by omega)), mX1_judge_b97]
          by_cases h2 : v = l0
          · rw [if_pos (show nI v = eL (some (l0, w0)) by rw [h2]; rfl), nI_1]
            simp only [stp, if_neg h1, if_pos h2] at ih'
            simp only [stp, if_neg h1, if_pos h2]
            have ew : eW (some (l0, w0)) + 1 = eW (some (l0, w0 + 1)) := nI_1 w0
            rw [ew]
            exact ih'
          · rw [if_neg (show ¬ nI v = eL (some (l0, w0)) from fun q => h2 (zn_inj (by omega) (by omega) q)), nI_1]
            simp only [stp, if_neg h1, if_neg h2] at ih'
            simp only [stp, if_neg h1, if_neg h2]
            exact ih'
    · have k : ¬ (st &&& f4 pre.length) = 0 := by
        intro q; rw [jo.mp q] at ha; exact absurd ha (by decide)
      have hoc : OC P m foot feet g r = none := by unfold OC; rw [ha]; rfl
      have ih' := ih lw hb
      rw [if_neg k, hoc]
      exact ih'
theorem oN_mem (J G : Nat → Bool) : ∀ s q, q ∈ oN J G m P foot feet s → q.1 < s
  | 0, q, h => by simp [oN] at h
  | s + 1, q, h => by
    unfold oN at h
    rw [List.mem_append] at h
    rcases h with h | h
    · have := oN_mem J G s q h
      omega
    · split at h
      · split at h
        · simp at h; rcases h with h | h <;> rw [h] <;> exact Nat.lt_succ_self _
        · simp at h; rw [h]; exact Nat.lt_succ_self _
      · simp at h
theorem oN_top {J G : Nat → Bool} (hm1 : 1 ≤ m) (hm : m ≤ 5) (hJ : J (m - 1) = false) : ∀ d, 2 ^ (m - 1) + d ≤ 2 ^ m → oN J G m P foot feet (2 ^ (m - 1) + d) = oN J G m P foot feet (2 ^ (m - 1))
  | 0, _ => rfl
  | d + 1, hd => by
    have ih := oN_top (G := G) hm1 hm hJ d (by omega)
    have hk : okS J G m (2 ^ (m - 1) + d) = false := by
      cases hk : okS J G m (2 ^ (m - 1) + d)
      · rfl
      · have := okS_half (by omega) hm1 hm hJ hk
        omega
    show oN J G m P foot feet (2 ^ (m - 1) + d + 1) = _
    rw [oN, hk, ih]
    simp
theorem oN_len32 {J G : Nat → Bool} (hm1 : 1 ≤ m) (hm : m ≤ 5) (hJ : J (m - 1) = false) : (oN J G m P foot feet (2 ^ m)).length ≤ 32 ∧ oN J G m P foot feet (2 ^ m) = oN J G m P foot feet (2 ^ (m - 1)) := by
  have e : 2 ^ m = 2 ^ (m - 1) + 2 ^ (m - 1) := by
    obtain ⟨k, rfl⟩ : ∃ k, m = k + 1 := ⟨m - 1, by omega⟩
    rw [show k + 1 - 1 = k by omega, Nat.pow_succ]; omega
  have h16 : 2 ^ (m - 1) ≤ 2 ^ 4 := Nat.pow_le_pow_right (by omega) (by omega)
  have h := oN_top (P := P) (foot := foot) (feet := feet) (G := G) hm1 hm hJ (2 ^ (m - 1)) (by omega)
  rw [← e] at h
  have := oN_len (m := m) (P := P) (foot := foot) (feet := feet) J G (2 ^ (m - 1))
  exact ⟨by rw [h]; omega, h⟩
/-- all scans of a line by a metre: the least cost and in how many ways -/
def SCN (J G : Nat → Bool) (m : Nat) (P : Nat → Nat) (foot feet : Nat) (g : Nat → Nat) : Option (Nat × Nat) := ((oN J G m P foot feet (2 ^ (m - 1))).map (OC P m foot feet g)).foldl stp none
theorem foldl_LB (h : INC P m) (hm : m ≤ 5) (hS : P m ≤ 20) (hf : foot < 4) (hfe : feet ≤ 5) : ∀ (rs : List (Nat × Bool)) (lw : Option (Nat × Nat)), (∀ q ∈ rs, q.1 < 2 ^ m) → LB lw → LB ((rs.map (OC P m foot feet g)).foldl stp lw)
  | [], lw, _, hb => hb
  | r :: rs, lw, hq, hb => by
    have hr := hq r (by simp)
    exact foldl_LB h hm hS hf hfe rs _ (fun q h => hq q (by simp [h])) (stp_LB hb (OC_lt h hm hS hf hfe hr))
theorem SCN_LB {J G : Nat → Bool} (h : INC P m) (hm1 : 1 ≤ m) (hm : m ≤ 5) (hS : P m ≤ 20) (hf : foot < 4) (hfe : feet ≤ 5) : LB (SCN J G m P foot feet g) := by
  apply foldl_LB h hm hS hf hfe
  · intro q hq
    have := oN_mem J G _ q hq
    have : 2 ^ (m - 1) ≤ 2 ^ m := Nat.pow_le_pow_right (by omega) (by omega)
    omega
  · intro l w e; exact absurd e (by simp)
theorem c_judge {J G : Nat → Bool} (h : INC P m) (hm1 : 1 ≤ m) (hm : m ≤ 5) (hS : P m ≤ 20) (hf : foot < 4) (hfe : feet ≤ 5) (hJ : J (m - 1) = false) {f1 f2 f3 f4 : Nat → Int32} (ho : OPTS P m foot feet (oN J G m P foot feet (2 ^ m)) f1 f2 f3 f4) {st wk : Int32} (hst : ∀ j, j < 32 → B st j = (decide (j < P m) && decide (g j = 1))) (hwk : ∀ j, j < P m → B wk j = decide (g j = 0)) (e1 e2 : Int32) : mX1_judge (nI (oN J G m P foot feet (2 ^ m)).length) f1 f2 f3 f4 e1 e2 st wk = some (eL (SCN J G m P foot feet g), eW (SCN J G m P foot feet g)) := by
  obtain ⟨hl, he⟩ := oN_len32 (P := P) (foot := foot) (feet := feet) (G := G) hm1 hm hJ
  have := c_judge_loop h hm hS hf hfe ho hl (fun q hq => oN_mem J G _ q hq) hst hwk (oN J G m P foot feet (2 ^ m)) [] none rfl (fun l w e => absurd e (by simp)) FU (zn_fu (by omega))
  unfold SCN
  rw [← he]
  exact this
end
