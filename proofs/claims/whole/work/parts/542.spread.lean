-- uses: 501.auto 502.abs 503.line 504.word 505.bits 506.pop 507.tail 508.alike 509.lines 533.count 540.hear
/-! what runs together: syllables that are lost, those that stay -/
section
variable {P : Nat → Nat} {m : Nat} {set : Int32}
/-- lost by the first words -/
def RM (P : Nat → Nat) (set : Int32) : Nat → Nat → Bool
  | 0, _ => false
  | i + 1, j => RM P set i j || (B set i && decide (j + 1 = P (i + 1)))
/-- how many stay ahead of j -/
def TT (P : Nat → Nat) (set : Int32) (i j : Nat) : Nat := cnt (fun q => !RM P set i q) j
def INC (P : Nat → Nat) (m : Nat) : Prop := P 0 = 0 ∧ ∀ i, i < m → P i < P (i + 1)
theorem INC_lt (h : INC P m) (a : Nat) : ∀ d, a + d < m → P (a + d) < P (a + d + 1) ∧ P a ≤ P (a + d)
  | 0, hd => ⟨h.2 _ hd, Nat.le_refl _⟩
  | d + 1, hd => by
    have ih := INC_lt h a d (by omega)
    have := h.2 (a + (d + 1)) hd
    refine ⟨this, ?_⟩
    show P a ≤ P (a + d + 1)
    omega
theorem INC_le (h : INC P m) {a b : Nat} (hab : a ≤ b) (hb : b ≤ m) : P a ≤ P b := by
  obtain ⟨d, rfl⟩ : ∃ d, b = a + d := ⟨b - a, by omega⟩
  cases d with
  | zero => exact Nat.le_refl _
  | succ d =>
    have := INC_lt h a d (by omega)
    show P a ≤ P (a + d + 1)
    omega
theorem RM_lt (h : INC P m) : ∀ i j, i ≤ m → RM P set i j = true → j < P i
  | 0, _, _, hr => by simp [RM] at hr
  | i + 1, j, hi, hr => by
    unfold RM at hr
    rw [Bool.or_eq_true] at hr
    have := h.2 i (by omega)
    rcases hr with hr | hr
    · have := RM_lt h i j (by omega) hr
      omega
    · simp at hr; omega
theorem RM_ge (h : INC P m) {i j : Nat} (hi : i ≤ m) (hj : P i ≤ j) : RM P set i j = false := by
  cases hr : RM P set i j
  · rfl
  · have := RM_lt h i j hi hr
    omega
theorem RM_no {i : Nat} (hb : B set i = false) : RM P set (i + 1) = RM P set i := by
  funext j
  unfold RM
  rw [hb]
  cases i <;> simp [RM]
theorem TT_succ (i j : Nat) : TT P set i (j + 1) = TT P set i j + (!RM P set i j).toNat := rfl
theorem TT_le (i j : Nat) : TT P set i j ≤ j := cnt_le _ _
theorem TT_past (h : INC P m) {i : Nat} (hi : i < m) (hb : B set i = true) : ∀ d, TT P set (i + 1) (P (i + 1) + d) = TT P set i (P (i + 1) - 1 + d)
  | 0 => by
    have hp := h.2 i hi
    have e : P (i + 1) = P (i + 1) - 1 + 1 := by omega
    have k : RM P set (i + 1) (P (i + 1) - 1) = true := by
      unfold RM; rw [hb]
      have : P (i + 1) - 1 + 1 = P (i + 1) := by omega
      simp [this]
    have s := TT_succ (P := P) (set := set) (i + 1) (P (i + 1) - 1)
    rw [← e, k] at s
    show TT P set (i + 1) (P (i + 1)) = TT P set i (P (i + 1) - 1)
    rw [s]
    show cnt _ _ + 0 = cnt _ _
    rw [Nat.add_zero]
    apply cnt_congr
    intro q hq
    unfold RM
    have : ¬ q + 1 = P (i + 1) := by omega
    cases i <;> simp [RM, this]
  | d + 1 => by
    have ih := TT_past h hi hb d
    have hp := h.2 i hi
    have k1 : RM P set (i + 1) (P (i + 1) + d) = false := RM_ge h (by omega) (by omega)
    have k2 : RM P set i (P (i + 1) - 1 + d) = false := RM_ge h (by omega) (by omega)
    have s1 := TT_succ (P := P) (set := set) (i + 1) (P (i + 1) + d)
    have s2 := TT_succ (P := P) (set := set) i (P (i + 1) - 1 + d)
    rw [k1] at s1
    rw [k2] at s2
    show TT P set (i + 1) (P (i + 1) + d + 1) = TT P set i (P (i + 1) - 1 + d + 1)
    rw [s1, s2, ih]
theorem TT_ahead {i j : Nat} (hj : j < P (i + 1)) : TT P set (i + 1) j = TT P set i j := by
  unfold TT
  apply cnt_congr
  intro q hq
  have : ¬ q + 1 = P (i + 1) := by omega
  show (!(RM P set i q || (B set i && decide (q + 1 = P (i + 1))))) = _
  simp [this]
theorem c_spread_loop (h : INC P m) (hm : m ≤ 5) (hS : P m ≤ 20) {la : Nat → Int32} (hla : ∀ k, k < m → la k = nI (P (k + 1) - 1)) (bits : Int32) : ∀ (d i : Nat) (x : Int32), i + d = m → (∀ j, j < 32 → B x j = (!RM P set i j && B bits (TT P set i j))) → ∀ n, d < n → ∃ x', mX1_spread_b5 (nI m) la bits set n x (nI i) = some x' ∧ ∀ j, j < 32 → B x' j = (!RM P set m j && B bits (TT P set m j))
  | _, _, _, _, _, 0, hn => absurd hn (by omega)
  | 0, i, x, hi, hx, n + 1, _ => by
    have e : i = m := by omega
    subst e
    exact ⟨x, by rw [mX1_spread_b5, if_pos (nI_le (Nat.le_refl _) (by omega))], hx⟩
  | d + 1, i, x, hi, hx, n + 1, hn => by
    have c3 : ¬ (nI i < 0 ∨ 5 ≤ i) := by simp (disch := omega) only [↓reduceIte, Nat.reduceAdd, Nat.reduceMul, Nat.reduceSub, Nat.zero_add, zn_0, zn_1, zn_2, zn_3, zn_4, zn_5, zn_6, zn_7, zn_8, zn_9, zn_10, zn_16, zn_20, zn_23, zn_24, zn_25, zn_26, zn_40, zn_207, zn_4761, zn_99, zn_130, zn_lt_t, zn_lt_f, zn_le_t, zn_le_f, zn_eq_t, zn_eq_f, zn_ix, zn_cl, zq_le_f, zq_le_t, zq_lt_f, zq_lt_t, zn_add, zn_mul, zn_sub, or_false, false_or, or_self, true_or, or_true, and_true, true_and, and_false, false_and, not_true_eq_false, not_false_eq_true, if_true, if_false, os1, os2, os3, os4, os5, os6, os7, os8, os9, os10, os11, os12, os13, os14, os15, os16, os17, os18, os19, os20, os21, os22, os23, os24]
    have hp := h.2 i (by omega)
    have hpm := INC_le h (by omega : i + 1 ≤ m) (Nat.le_refl _)
    rw [mX1_spread_b5, if_neg (nI_ge (by omega) (by omega)), nI_1]
    cases hb : B set i
    · rw [if_neg (by rw [B_test set (by omega), hb]; decide)]
      apply c_spread_loop h hm hS hla bits d (i + 1) x (by omega) ?_ n (by omega)
      intro j hj
      unfold TT
      rw [RM_no hb]
      exact hx j hj
    · rw [if_pos (by rw [B_test set (by omega), hb]), zn_cl (by omega), if_neg c3, hla i (by omega)]
      apply c_spread_loop h hm hS hla bits d (i + 1) _ (by omega) ?_ n (by omega)
      intro j hj
      rw [B_or, B_and, B_low (by omega), show ((1 : Int32) &&& 31) = (nI 1 &&& 31) from rfl, B_shl _ (by omega), B_and, B_not, B_low (by omega)]
      by_cases h1 : j < P (i + 1) - 1
      · have k1 : ¬ j + 1 = P (i + 1) := by omega
        have k2 : RM P set (i + 1) j = RM P set i j := by
          show (RM P set i j || (B set i && decide (j + 1 = P (i + 1)))) = _
          simp [k1]
        have k3 : j - 1 < P (i + 1) - 1 := by omega
        rw [k2, TT_ahead (by omega), ← hx j hj]
        simp [h1, k3]
      · by_cases h2 : j + 1 = P (i + 1)
        · have k2 : RM P set (i + 1) j = true := by
            show (RM P set i j || (B set i && decide (j + 1 = P (i + 1)))) = _
            simp [h2, hb]
          rw [k2]
          by_cases h0 : j < 1
          · simp [h1, h0]
          · have k3 : j - 1 < P (i + 1) - 1 := by omega
            simp [h1, k3]
        · have k2 : RM P set (i + 1) j = false := RM_ge h (by omega) (by omega)
          have k4 : RM P set i (j - 1) = false := RM_ge h (by omega) (by omega)
          have e := TT_past h (by omega : i < m) hb (j - P (i + 1))
          rw [show P (i + 1) + (j - P (i + 1)) = j by omega, show P (i + 1) - 1 + (j - P (i + 1)) = j - 1 by omega] at e
          have hx1 := hx (j - 1) (by omega)
          rw [k4] at hx1
          have k3 : ¬ j - 1 < P (i + 1) - 1 := by omega
          have k5 : ¬ j < 1 := by omega
          have k6 : j - 1 < 32 := by omega
          rw [k2, e, hx1]
          simp [h1, k3, k5, k6, hj]
theorem c_spread (h : INC P m) (hm : m ≤ 5) (hS : P m ≤ 20) {la : Nat → Int32} (hla : ∀ k, k < m → la k = nI (P (k + 1) - 1)) (bits : Int32) : ∃ x', mX1_spread (nI m) la bits set = some x' ∧ ∀ j, j < 32 → B x' j = (!RM P set m j && B bits (TT P set m j)) := by
  have e : ∀ j, TT P set 0 j = j := by
    intro j
    induction j with
    | zero => rfl
    | succ j ih => rw [TT_succ, ih]; rfl
  exact c_spread_loop h hm hS hla bits m 0 bits (by omega) (fun j hj => by rw [e]; simp [RM]) FU (zn_fu (by omega))
theorem cnt_end (f : Nat → Bool) (a : Nat) : ∀ d, (∀ j, a ≤ j → j < a + d → f j = false) → cnt f (a + d) = cnt f a
  | 0, _ => rfl
  | d + 1, h => by
    show cnt f (a + d) + (f (a + d)).toNat = _
    rw [cnt_end f a d (fun j h1 h2 => h j h1 (by omega)), h (a + d) (by omega) (by omega)]
    rfl
theorem cnt_all (f : Nat → Bool) (a : Nat) : ∀ d, (∀ j, a ≤ j → j < a + d → f j = true) → cnt f (a + d) = cnt f a + d
  | 0, _ => rfl
  | d + 1, h => by
    show cnt f (a + d) + (f (a + d)).toNat = _
    rw [cnt_all f a d (fun j h1 h2 => h j h1 (by omega)), h (a + d) (by omega) (by omega)]
    show _ + 1 = _
    omega
/-- what stays, and what is lost, is all -/
theorem TT_sum (h : INC P m) : ∀ i, i ≤ m → TT P set i (P i) + cnt (B set) i = P i
  | 0, _ => by rw [h.1]; rfl
  | i + 1, hi => by
    have ih := TT_sum h i (by omega)
    have hp := h.2 i (by omega)
    have e1 : TT P set (i + 1) (P i) = TT P set i (P i) := TT_ahead hp
    have e2 : TT P set (i + 1) (P (i + 1) - 1) = TT P set (i + 1) (P i) + (P (i + 1) - 1 - P i) := by
      have := cnt_all (fun q => !RM P set (i + 1) q) (P i) (P (i + 1) - 1 - P i) (by
        intro j h1 h2
        have k1 : RM P set i j = false := RM_ge h (by omega) h1
        have k2 : ¬ j + 1 = P (i + 1) := by omega
        show (!(RM P set i j || (B set i && decide (j + 1 = P (i + 1))))) = _
        simp [k1, k2])
      rw [show P i + (P (i + 1) - 1 - P i) = P (i + 1) - 1 by omega] at this
      exact this
    have e3 := TT_succ (P := P) (set := set) (i + 1) (P (i + 1) - 1)
    rw [show P (i + 1) - 1 + 1 = P (i + 1) by omega] at e3
    have e4 : RM P set (i + 1) (P (i + 1) - 1) = B set i := by
      have k1 : RM P set i (P (i + 1) - 1) = false := RM_ge h (by omega) (by omega)
      have k2 : P (i + 1) - 1 + 1 = P (i + 1) := by omega
      show (RM P set i _ || (B set i && decide (P (i + 1) - 1 + 1 = P (i + 1)))) = _
      simp [k1, k2]
    rw [e4] at e3
    show TT P set (i + 1) (P (i + 1)) + (cnt (B set) i + (B set i).toNat) = _
    cases hb : B set i
    · rw [hb] at e3
      have : (!false).toNat = 1 := rfl
      have : (false).toNat = 0 := rfl
      omega
    · rw [hb] at e3
      have : (!true).toNat = 0 := rfl
      have : (true).toNat = 1 := rfl
      omega
theorem TT_mono (i a : Nat) : ∀ d, TT P set i a ≤ TT P set i (a + d)
  | 0 => Nat.le_refl _
  | d + 1 => by
    have := TT_mono i a d
    have e := TT_succ (P := P) (set := set) i (a + d)
    show _ ≤ TT P set i (a + d + 1)
    omega
/-- one that stays lies ahead of the end just if its number does -/
theorem TT_in (h : INC P m) {j : Nat} (hr : RM P set m j = false) : TT P set m j < TT P set m (P m) ↔ j < P m := by
  constructor
  · intro q
    apply Nat.lt_of_not_le
    intro q2
    have := TT_mono (P := P) (set := set) m (P m) (j - P m)
    rw [show P m + (j - P m) = j by omega] at this
    omega
  · intro q
    have e := TT_succ (P := P) (set := set) m j
    rw [hr] at e
    have := TT_mono (P := P) (set := set) m (j + 1) (P m - (j + 1))
    rw [show j + 1 + (P m - (j + 1)) = P m by omega] at this
    have : (!false).toNat = 1 := rfl
    omega
/-- where one is lost -/
theorem RM_at (h : INC P m) {i k : Nat} (hk : P i + k < P (i + 1)) : ∀ d, i + 1 + d ≤ m → RM P set (i + 1 + d) (P i + k) = (B set i && decide (P i + k + 1 = P (i + 1)))
  | 0, hd => by
    have k1 : RM P set i (P i + k) = false := RM_ge h (by omega) (by omega)
    show (RM P set i (P i + k) || (B set i && decide (P i + k + 1 = P (i + 1)))) = _
    rw [k1, Bool.false_or]
  | d + 1, hd => by
    have ih := RM_at h hk d (by omega)
    have hp := INC_lt h (i + 1) d (by omega)
    have k2 : ¬ P i + k + 1 = P (i + 1 + d + 1) := by omega
    show (RM P set (i + 1 + d) (P i + k) || (B set (i + 1 + d) && decide (P i + k + 1 = P (i + 1 + d + 1)))) = _
    rw [ih]
    simp [k2]
end
