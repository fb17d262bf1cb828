-- uses: 570.sets
/-! odds, and the common divisor -/
def od (p c : Nat) : Nat → Nat
  | 0 => 1
  | k + 1 => od p c k * (if c.testBit k then p else 10 - p)
def popN (c E : Nat) : Nat := cnt (fun k => c.testBit k) E
theorem popN_le (c E : Nat) : popN c E ≤ E := cnt_le _ _
theorem od_pop (p c : Nat) : ∀ k, od p c k = p ^ popN c k * (10 - p) ^ (k - popN c k)
  | 0 => by simp [od, popN, cnt]
  | k + 1 => by
    have ih := od_pop p c k
    have hl := popN_le c k
    have e : popN c (k + 1) = popN c k + (c.testBit k).toNat := rfl
    show od p c k * (if c.testBit k then p else 10 - p) = _
    rw [e, ih]
    cases c.testBit k
    · simp only [Bool.false_eq_true, if_false, Bool.toNat_false, Nat.add_zero]
      rw [show k + 1 - popN c k = (k - popN c k) + 1 by omega, Nat.pow_succ, Nat.mul_assoc]
    · simp only [if_true, Bool.toNat_true]
      rw [show k + 1 - (popN c k + 1) = k - popN c k by omega, Nat.pow_succ, Nat.mul_right_comm]
theorem od_congr (p : Nat) {c d : Nat} : ∀ k, (∀ i, i < k → c.testBit i = d.testBit i) → od p c k = od p d k
  | 0, _ => rfl
  | k + 1, h => by
    show od p c k * (if c.testBit k then p else 10 - p) = od p d k * (if d.testBit k then p else 10 - p)
    rw [od_congr p k (fun i hi => h i (by omega)), h k (by omega)]
theorem sumN_add (f : Nat → Nat) (a : Nat) : ∀ b, sumN f (a + b) = sumN f a + sumN (fun i => f (a + i)) b
  | 0 => rfl
  | b + 1 => by
    show sumN f (a + b) + f (a + b) = sumN f a + (sumN (fun i => f (a + i)) b + f (a + b))
    rw [sumN_add f a b]; omega
theorem sumN_mul (f : Nat → Nat) (x : Nat) : ∀ n, sumN (fun i => f i * x) n = sumN f n * x
  | 0 => by simp [sumN]
  | n + 1 => by
    show sumN (fun i => f i * x) n + f n * x = (sumN f n + f n) * x
    rw [sumN_mul f x n, Nat.add_mul]
theorem od_all {p : Nat} (hp : p ≤ 10) : ∀ E, sumN (fun c => od p c E) (2 ^ E) = 10 ^ E
  | 0 => by simp [sumN, od]
  | E + 1 => by
    have ih := od_all hp E
    rw [show 2 ^ (E + 1) = 2 ^ E + 2 ^ E by rw [Nat.pow_succ]; omega, sumN_add]
    have h1 : sumN (fun c => od p c (E + 1)) (2 ^ E) = sumN (fun c => od p c E) (2 ^ E) * (10 - p) := by
      rw [← sumN_mul]
      apply sumN_congr
      intro c hc
      show od p c E * (if c.testBit E then p else 10 - p) = _
      rw [Nat.testBit_lt_two_pow hc]; rfl
    have h2 : sumN (fun c => od p (2 ^ E + c) (E + 1)) (2 ^ E) = sumN (fun c => od p c E) (2 ^ E) * p := by
      rw [← sumN_mul]
      apply sumN_congr
      intro c hc
      have hb : ∀ i, (2 ^ E + c).testBit i = if i < E then c.testBit i else (1 : Nat).testBit (i - E) := by
        intro i
        rw [show 2 ^ E + c = 2 ^ E * 1 + c by omega, Nat.testBit_two_pow_mul_add _ hc]
      show od p (2 ^ E + c) E * (if (2 ^ E + c).testBit E then p else 10 - p) = _
      have h3 : (2 ^ E + c).testBit E = true := by rw [hb E]; simp
      rw [h3, od_congr p (d := c) E (fun i hi => by rw [hb i, if_pos hi])]; rfl
    rw [h1, h2, ih, ← Nat.mul_add, show 10 - p + p = 10 by omega, Nat.pow_succ]
theorem sumN_plus (f g : Nat → Nat) : ∀ n, sumN (fun i => f i + g i) n = sumN f n + sumN g n
  | 0 => rfl
  | n + 1 => by
    show sumN (fun i => f i + g i) n + (f n + g n) = (sumN f n + f n) + (sumN g n + g n)
    rw [sumN_plus f g n]; omega
theorem sumN_one (w : Nat → Nat) (m : Nat) : ∀ n, sumN (fun k => (decide (m = k)).toNat * w k) n = if m < n then w m else 0
  | 0 => by simp [sumN]
  | n + 1 => by
    show sumN (fun k => (decide (m = k)).toNat * w k) n + (decide (m = n)).toNat * w n = _
    rw [sumN_one w m n]
    by_cases h1 : m < n
    · have h2 : ¬ m = n := by omega
      rw [if_pos h1, if_pos (by omega)]; simp [h2]
    · rw [if_neg h1]
      by_cases h2 : m = n
      · rw [if_pos (by omega)]; simp [h2]
      · rw [if_neg (by omega)]; simp [h2]
theorem sumN_zero : ∀ n, sumN (fun _ => 0) n = 0
  | 0 => rfl
  | n + 1 => by show sumN (fun _ => 0) n + 0 = 0; rw [sumN_zero n]
/-- hits by how many are strong, and one by one -/
theorem hits_sum (hit : Nat → Bool) (w : Nat → Nat) (E : Nat) : ∀ n, sumN (fun k => cnt (fun c => hit c && decide (popN c E = k)) n * w k) (E + 1) = sumN (fun c => if hit c then w (popN c E) else 0) n
  | 0 => by
    show sumN (fun k => 0 * w k) (E + 1) = 0
    rw [show (fun k => 0 * w k) = (fun _ => 0) from funext (fun k => Nat.zero_mul _)]
    exact sumN_zero _
  | n + 1 => by
    have ih := hits_sum hit w E n
    have hl := popN_le n E
    show sumN (fun k => (cnt (fun c => hit c && decide (popN c E = k)) n + (hit n && decide (popN n E = k)).toNat) * w k) (E + 1) = sumN (fun c => if hit c then w (popN c E) else 0) n + (if hit n then w (popN n E) else 0)
    rw [← ih]
    have e : (fun k => (cnt (fun c => hit c && decide (popN c E = k)) n + (hit n && decide (popN n E = k)).toNat) * w k) = (fun k => cnt (fun c => hit c && decide (popN c E = k)) n * w k + (hit n && decide (popN n E = k)).toNat * w k) := funext (fun k => Nat.add_mul _ _ _)
    rw [e, sumN_plus]
    congr 1
    cases hit n
    · simp only [Bool.false_and, Bool.toNat_false, Nat.zero_mul, Bool.false_eq_true, if_false]
      exact sumN_zero _
    · simp only [Bool.true_and, if_true]
      rw [sumN_one w (popN n E) (E + 1), if_pos (by omega)]
theorem sumN_mono {f g : Nat → Nat} : ∀ n, (∀ i, i < n → f i ≤ g i) → sumN f n ≤ sumN g n
  | 0, _ => Nat.le_refl _
  | n + 1, h => by
    have := sumN_mono n (fun i hi => h i (by omega))
    have := h n (by omega)
    show sumN f n + f n ≤ sumN g n + g n
    omega
theorem fb_lN0 {y : Nat} (hy : y < 2 ^ 62) : (lN y = 0) ↔ y = 0 := by
  have := pk_lEQ (a := y) (b := 0) (by omega) (by omega)
  exact this
theorem lg0 {y : Nat} (hy : y < 2 ^ 62) : (lg_cmp (lN y) (0 : Int64) = 0) ↔ y = 0 := by
  constructor
  · intro h
    apply Nat.eq_zero_of_not_pos
    intro q
    have h1 := (lg_gt0 (lN y) 0).mpr (by rw [pk_lT (by omega), show (0 : Int64).toInt = 0 from rfl]; omega)
    rw [h] at h1
    exact absurd h1 (by decide)
  · intro h; subst h; rfl
theorem eucl {x y : Nat} (hy : 0 < y) (hxy : y ≤ x) {k : Nat} (h : x * y < 2 ^ (k + 1)) : y * (x % y) < 2 ^ k := by
  have hr := Nat.mod_lt x hy
  have hd := Nat.div_add_mod x y
  have hq : 1 ≤ x / y := Nat.div_pos hxy hy
  have h1 : y * 1 ≤ y * (x / y) := Nat.mul_le_mul (Nat.le_refl _) hq
  have h2 : 2 * (x % y) ≤ x := by omega
  have h3 : y * (2 * (x % y)) ≤ y * x := Nat.mul_le_mul (Nat.le_refl _) h2
  have e1 : y * (2 * (x % y)) = 2 * (y * (x % y)) := by rw [Nat.mul_left_comm]
  rw [e1, Nat.mul_comm y x] at h3
  rw [Nat.pow_succ] at h
  omega
theorem gcd_step (x y : Nat) : Nat.gcd y (x % y) = Nat.gcd x y := by
  rw [Nat.gcd_comm y (x % y), ← Nat.gcd_rec, Nat.gcd_comm]
theorem c_gcd (p1 p2 : Int64) : ∀ (k x y i n : Nat), x * y < 2 ^ k → y ≤ x → x < 2 ^ 62 → i + k < 100 → k < n → mX6_commonDivisor_b9 p1 p2 n (lN x) (lN y) (nI i) = some (lN (Nat.gcd x y))
  | _, _, _, _, 0, _, _, _, _, hn => absurd hn (by omega)
  | k, x, y, i, n + 1, h, hxy, hx, hi, hn => by
    have c1 : ¬ (100 : Int32) ≤ nI i := nI_ge (b := 100) (by omega) (by omega)
    rw [mX6_commonDivisor_b9, if_neg c1]
    by_cases h0 : y = 0
    · rw [if_pos ((lg0 (by omega)).mpr h0), h0, Nat.gcd_zero_right]
    · have hne : ¬ lN y = 0 := fun q => h0 ((fb_lN0 (by omega)).mp q)
      rw [if_neg (fun q => h0 ((lg0 (by omega)).mp q)), if_neg hne, pk_lRem (by omega) (by omega) (by omega), nI_1]
      cases k with
      | zero =>
        exfalso
        have : 1 * 1 ≤ x * y := Nat.mul_le_mul (by omega) (by omega)
        simp at h; omega
      | succ k =>
        have hr := Nat.mod_lt x (by omega : y > 0)
        rw [c_gcd p1 p2 k y (x % y) (i + 1) n (eucl (by omega) hxy h) (by omega) (by omega) (by omega) (by omega), gcd_step]
theorem r_gcd (po : Nat → Int32) (p1 p2 p3 p4 th : Int32) (z1 z2 z3 : Int32) (b1 b2 b3 : Nat → Int32) (ab be : Nat) (hab : ab < 2 ^ 62) (hbe : be < 2 ^ 62) : ∀ (k x y n : Nat), x * y < 2 ^ k → y ≤ x → 0 < x → x < 2 ^ 62 → k < n → mX7_stressed_b208 po p1 p2 p3 p4 n th z1 z2 z3 b1 b2 b3 (lN ab) (lN be) (lN x) (lN y) = some (lN ((if p4 = 0 then ab else be) / Nat.gcd x y), th, z1, z2, z3, b1, b2, b3)
  | _, _, _, 0, _, _, _, _, hn => absurd hn (by omega)
  | k, x, y, n + 1, h, hxy, h1, hx, hn => by
    rw [mX7_stressed_b208]
    by_cases h0 : y = 0
    · have hne : ¬ lN x = 0 := fun q => absurd ((fb_lN0 (by omega)).mp q) (by omega)
      rw [if_pos ((lg0 (by omega)).mpr h0), h0, Nat.gcd_zero_right]
      by_cases h4 : p4 = 0
      · rw [if_pos h4, if_neg hne, if_pos h4, pk_lDiv (by omega) h1 (by omega)]
      · rw [if_neg h4, if_neg hne, if_neg h4, pk_lDiv (by omega) h1 (by omega)]
    · have hne : ¬ lN y = 0 := fun q => h0 ((fb_lN0 (by omega)).mp q)
      rw [if_neg (fun q => h0 ((lg0 (by omega)).mp q)), if_neg hne, pk_lRem (by omega) (by omega) (by omega)]
      cases k with
      | zero =>
        exfalso
        have : 1 * 1 ≤ x * y := Nat.mul_le_mul (by omega) (by omega)
        simp at h; omega
      | succ k =>
        have hr := Nat.mod_lt x (by omega : y > 0)
        rw [r_gcd po p1 p2 p3 p4 th z1 z2 z3 b1 b2 b3 ab be hab hbe k y (x % y) n (eucl (by omega) hxy h) (by omega) (by omega) (by omega) (by omega), gcd_step]
theorem c_power_loop {b e : Nat} (hb : b < 100) (he : e < 100) : ∀ (d k : Nat), k + d = e → ∀ n, d < n → mX6_power_b5 (nI b) (nI e) n (lN (b ^ k)) (nI k) = some (lN (b ^ e))
  | _, _, _, 0, hn => absurd hn (by omega)
  | 0, k, hk, n + 1, _ => by
    have q : k = e := by omega
    subst q
    rw [mX6_power_b5, if_pos (nI_le (Nat.le_refl _) (by omega))]
  | d + 1, k, hk, n + 1, hn => by
    have ih := c_power_loop hb he d (k + 1) (by omega) n (by omega)
    rw [mX6_power_b5, if_neg (nI_ge (by omega) (by omega)), nI_l (by omega), lN_mul, nI_1, ← Nat.pow_succ]
    exact ih
theorem c_power {b e : Nat} (hb : b < 100) (he : e < 100) : mX6_power (nI b) (nI e) = some (lN (b ^ e)) := by
  have := c_power_loop hb he e 0 (by omega) FU (zn_fu (by omega))
  rw [Nat.pow_zero] at this
  exact this
