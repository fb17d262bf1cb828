/-! numbers as naturals: the rules by which a mirror is walked -/
theorem zn_lt_t {a b : Nat} (h : a < b) (hb : b < 2147483648) : (nI a < nI b) = True := eq_true (nI_lt h hb)
theorem zn_lt_f {a b : Nat} (h : b ≤ a) (ha : a < 2147483648) : (nI a < nI b) = False := eq_false (nI_nlt h ha)
theorem zn_le_t {a b : Nat} (h : a ≤ b) (hb : b < 2147483648) : (nI a ≤ nI b) = True := eq_true (nI_le h hb)
theorem zn_le_f {a b : Nat} (h : b < a) (ha : a < 2147483648) : (nI a ≤ nI b) = False := eq_false (nI_ge h ha)
theorem zn_inj {a b : Nat} (ha : a < 2147483648) (hb : b < 2147483648) (e : nI a = nI b) : a = b := by
  have h1 := nI_toInt (n := a) (by omega)
  have h2 := nI_toInt (n := b) (by omega)
  rw [e] at h1
  omega
theorem zn_eq_t {a b : Nat} (h : a = b) : (nI a = nI b) = True := eq_true (by rw [h])
theorem zn_eq_f {a b : Nat} (h : a ≠ b) (ha : a < 2147483648) (hb : b < 2147483648) : (nI a = nI b) = False := eq_false (fun e => h (zn_inj ha hb e))
theorem zn_lt {a b : Nat} (ha : a < 2147483648) (hb : b < 2147483648) : (nI a < nI b) = (a < b) := by
  apply propext
  constructor
  · intro h
    apply Nat.lt_of_not_le
    intro h2
    exact nI_nlt h2 ha h
  · intro h; exact nI_lt h hb
theorem zn_le {a b : Nat} (ha : a < 2147483648) (hb : b < 2147483648) : (nI a ≤ nI b) = (a ≤ b) := by
  apply propext
  constructor
  · intro h
    apply Nat.le_of_not_lt
    intro h2
    exact nI_ge h2 ha h
  · intro h; exact nI_le h hb
theorem zn_eq {a b : Nat} (ha : a < 2147483648) (hb : b < 2147483648) : (nI a = nI b) = (a = b) := propext ⟨zn_inj ha hb, fun e => by rw [e]⟩
theorem zn_cl {a : Nat} (ha : a < 2147483648) : (nI a).toNatClampNeg = a := nI_clamp ha
theorem zn_ix {n k : Nat} (h : k < n) (hk : k < 2147483648) : (n ≤ (nI k).toNatClampNeg) = False := eq_false (by rw [nI_clamp hk]; omega)
theorem zn_add (a b : Nat) : nI a + nI b = nI (a + b) := (Int32.ofNat_add a b).symm
theorem zn_mul (a b : Nat) : nI a * nI b = nI (a * b) := (Int32.ofNat_mul a b).symm
theorem zn_sub {a b : Nat} (h : b ≤ a) : nI a - nI b = nI (a - b) := by
  have e : nI a = nI (a - b) + nI b := by rw [zn_add]; congr 1; omega
  rw [e, Int32.add_sub_cancel]
theorem zn_0 : (0 : Int32) = nI 0 := rfl
theorem zn_1 : (1 : Int32) = nI 1 := rfl
theorem zn_2 : (2 : Int32) = nI 2 := rfl
theorem zn_3 : (3 : Int32) = nI 3 := rfl
theorem zn_4 : (4 : Int32) = nI 4 := rfl
theorem zn_5 : (5 : Int32) = nI 5 := rfl
theorem zn_6 : (6 : Int32) = nI 6 := rfl
theorem zn_7 : (7 : Int32) = nI 7 := rfl
theorem zn_8 : (8 : Int32) = nI 8 := rfl
theorem zn_9 : (9 : Int32) = nI 9 := rfl
theorem zn_10 : (10 : Int32) = nI 10 := rfl
theorem zn_16 : (16 : Int32) = nI 16 := rfl
theorem zn_20 : (20 : Int32) = nI 20 := rfl
theorem zn_23 : (23 : Int32) = nI 23 := rfl
theorem zn_24 : (24 : Int32) = nI 24 := rfl
theorem zn_25 : (25 : Int32) = nI 25 := rfl
theorem zn_26 : (26 : Int32) = nI 26 := rfl
theorem zn_40 : (40 : Int32) = nI 40 := rfl
theorem zn_207 : (207 : Int32) = nI 207 := rfl
theorem zn_4761 : (4761 : Int32) = nI 4761 := rfl
theorem zn_99 : (99 : Int32) = nI 99 := rfl
theorem zn_130 : (130 : Int32) = nI 130 := rfl
theorem zn_in {k low high : Nat} (hk : k < 2147483648) (a b : Int64) (ha : a.toInt = low) (hb : b.toInt = high) : mX7_in (nI k).toInt64 a b = some (if low ≤ k ∧ k ≤ high then 1 else 0) := by
  rw [in_i, ha, hb, nI_toInt (by omega)]
  by_cases h : low ≤ k ∧ k ≤ high
  · rw [if_pos h, if_pos (by omega)]
  · rw [if_neg h, if_neg (by omega)]
theorem zn_fu {d : Nat} (h : d < 100000) : d < FU := by unfold FU; omega
theorem zn_nat {p : Int32} (h0 : 0 ≤ p.toInt) : ∃ r : Nat, r < 2147483648 ∧ p = nI r ∧ (r : Int) = p.toInt := by
  have h2 := Int32.toInt_lt p
  refine ⟨p.toInt.toNat, by omega, ?_, by omega⟩
  rw [i32_eq, nI_toInt (by omega)]
  omega
/-- a number is a natural, or it is below none -/
theorem zn_cases (p : Int32) : (∃ r : Nat, r < 2147483648 ∧ p = nI r) ∨ (p < 0 ∧ p.toInt < 0) := by
  by_cases h : 0 ≤ p.toInt
  · obtain ⟨r, h1, h2, -⟩ := zn_nat h
    exact Or.inl ⟨r, h1, h2⟩
  · right
    refine ⟨?_, by omega⟩
    rw [i32_lt]
    exact (by omega : p.toInt < 0)
theorem zn_up (f : Nat → Int32) (k : Nat) (x : Int32) (j : Nat) : upd f k x j = if j = k then x else f j := rfl
theorem zn_vup {α : Type} (f : Nat → α) (k : Nat) (x : α) (j : Nat) : va_up f k x j = if j = k then x else f j := rfl
theorem FU_e : ∃ n, FU = n + 64 := ⟨999936, rfl⟩
def b2i (b : Bool) : Int32 := if b then 1 else 0
theorem b2i_t : b2i true = nI 1 := rfl
theorem b2i_f : b2i false = nI 0 := rfl
theorem zq_le_f {a b : Nat} (h : b < a) : (a ≤ b) = False := eq_false (by omega)
theorem zq_le_t {a b : Nat} (h : a ≤ b) : (a ≤ b) = True := eq_true h
theorem zq_lt_f {a b : Nat} (h : b ≤ a) : (a < b) = False := eq_false (by omega)
theorem zq_lt_t {a b : Nat} (h : a < b) : (a < b) = True := eq_true h
theorem zn_m1 (n : Nat) : nI (n + 1) + -(nI 1) = nI n := pk_m1 n
theorem zn_m0 : (nI 0 + -(nI 1) < nI 0) = True := by decide
theorem zn_os {α : Type} {a b : α} : (some a = some b) = (a = b) := propext ⟨Option.some.inj, fun e => by rw [e]⟩
