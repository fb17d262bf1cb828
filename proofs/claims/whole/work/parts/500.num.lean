/-! numbers: the mirrors' tests, told in Int -/
theorem i32_lt (x y : Int32) : x < y ↔ x.toInt < y.toInt := Int32.lt_iff_toInt_lt
theorem i32_le (x y : Int32) : x ≤ y ↔ x.toInt ≤ y.toInt := Int32.le_iff_toInt_le
theorem i32_eq (x y : Int32) : x = y ↔ x.toInt = y.toInt := Int32.toInt_inj.symm
theorem i32_cl (x : Int32) : x.toNatClampNeg = x.toInt.toNat := rfl
theorem lg_lt0 (x y : Int64) : lg_cmp x y < 0 ↔ x.toInt < y.toInt := by
  unfold lg_cmp
  by_cases h1 : x > y
  · rw [if_pos h1]
    rw [gt_iff_lt, Int64.lt_iff_toInt_lt] at h1
    constructor
    · intro h; exact absurd h (by decide)
    · intro h; omega
  · rw [if_neg h1]
    rw [gt_iff_lt, Int64.lt_iff_toInt_lt] at h1
    by_cases h2 : x = y
    · rw [if_pos h2]; subst h2
      constructor
      · intro h; exact absurd h (by decide)
      · intro h; omega
    · rw [if_neg h2]
      have h3 : x.toInt ≠ y.toInt := fun e => h2 (Int64.toInt_inj.mp e)
      constructor
      · intro _; omega
      · intro _; decide
theorem lg_gt0 (x y : Int64) : 0 < lg_cmp x y ↔ y.toInt < x.toInt := by
  unfold lg_cmp
  by_cases h1 : x > y
  · rw [if_pos h1]
    rw [gt_iff_lt, Int64.lt_iff_toInt_lt] at h1
    exact ⟨fun _ => h1, fun _ => by decide⟩
  · rw [if_neg h1]
    rw [gt_iff_lt, Int64.lt_iff_toInt_lt] at h1
    by_cases h2 : x = y
    · rw [if_pos h2]
      exact ⟨fun h => absurd h (by decide), fun h => absurd h h1⟩
    · rw [if_neg h2]
      exact ⟨fun h => absurd h (by decide), fun h => absurd h h1⟩
theorem in_l (x a b : Int64) : mX7_in x a b = some (if a.toInt ≤ x.toInt ∧ x.toInt ≤ b.toInt then 1 else 0) := by
  unfold mX7_in mX7_in_b0
  by_cases h1 : lg_cmp x a < 0
  · rw [if_pos h1, if_neg]
    rw [lg_lt0] at h1; omega
  · rw [if_neg h1]
    rw [lg_lt0] at h1
    by_cases h2 : 0 < lg_cmp x b
    · rw [if_pos h2, if_neg]
      rw [lg_gt0] at h2; omega
    · rw [if_neg h2, if_pos]
      rw [lg_gt0] at h2; omega
theorem in_i (p : Int32) (a b : Int64) : mX7_in p.toInt64 a b = some (if a.toInt ≤ p.toInt ∧ p.toInt ≤ b.toInt then 1 else 0) := by
  rw [in_l, Int32.toInt_toInt64]
theorem isRow6 (p : Int32) : mX6_isRow p = some (if 0 ≤ p.toInt ∧ p.toInt ≤ 7 then 1 else 0) := by
  unfold mX6_isRow mX6_isRow_b0
  have e8 : (8 : Int32).toInt = 8 := rfl
  have e0 : (0 : Int32).toInt = 0 := rfl
  by_cases h1 : p < 0
  · rw [if_pos h1, if_neg]
    rw [i32_lt] at h1; omega
  · rw [if_neg h1]
    rw [i32_lt] at h1
    by_cases h2 : (8 : Int32) ≤ p
    · rw [if_pos h2, if_neg]
      rw [i32_le] at h2; omega
    · rw [if_neg h2, if_pos]
      rw [i32_le] at h2; omega
theorem isRow7 (p : Int32) : mX7_isRow p = some (if 0 ≤ p.toInt ∧ p.toInt ≤ 7 then 1 else 0) := by
  unfold mX7_isRow mX7_isRow_b0
  rw [in_i, show (0 : Int64).toInt = 0 from rfl, show (7 : Int64).toInt = 7 from rfl]
  by_cases h : 0 ≤ p.toInt ∧ p.toInt ≤ 7
  · rw [if_pos h]; rfl
  · rw [if_neg h]; rfl
/-- an index that is in a row, out of a test in Int -/
theorem ix_ok {p : Int32} {n : Nat} (h0 : 0 ≤ p.toInt) (h1 : p.toInt < n) : ¬ (p < 0 ∨ n ≤ p.toNatClampNeg) := by
  rintro (h | h)
  · rw [i32_lt] at h
    have e0 : (0 : Int32).toInt = 0 := rfl
    omega
  · rw [i32_cl] at h; omega
