/-! rows: copy -/
theorem add64 (x y : Int32) : (x.toInt64 + y.toInt64).toInt = x.toInt + y.toInt := by
  have hx := Int32.toInt_lt x
  have hx2 := Int32.le_toInt x
  have hy := Int32.toInt_lt y
  have hy2 := Int32.le_toInt y
  rw [Int64.toInt_add, Int32.toInt_toInt64, Int32.toInt_toInt64]
  rw [Int.bmod_def]
  omega
def cpf (it : Nat → Int32) (S D k : Nat) : Nat → Int32 := fun z => if D ≤ z ∧ z < D + k then it (S + (z - D)) else it z
def cpd (it : Nat → Int32) (S D n k : Nat) : Nat → Int32 := fun z => if D + (n - k) ≤ z ∧ z < D + n then it (S + (z - D)) else it z
theorem cpy_up {a i b j n : Nat} (ha : a < 8) (hb : b < 8) (hi : i + n ≤ 40) (hj : j + n ≤ 40) (hij : j ≤ i) (la ma : Nat → Int32) (t s : Int32) (it : Nat → Int32) : ∀ (d k : Nat), k + d = n → ∀ fu, d < fu → mX7_copy_b143 la ma (nI a) (nI i) (nI b) (nI j) (nI n) fu t s (cpf it (40 * a + i) (40 * b + j) k) 1 (nI k) = some (nI n, t, s, cpf it (40 * a + i) (40 * b + j) n)
  | 0, k, hk, fu, hf => by
    obtain ⟨fu, rfl⟩ : ∃ q, fu = q + 1 := ⟨fu - 1, by omega⟩
    have e : k = n := by omega
    subst e
    rw [mX7_copy_b143, if_pos (nI_le (Nat.le_refl k) (by omega))]
  | d + 1, k, hk, fu, hf => by
    obtain ⟨fu, rfl⟩ : ∃ q, fu = q + 1 := ⟨fu - 1, by omega⟩
    have c1 : ¬ nI n ≤ nI k := nI_ge (by omega) (by omega)
    rw [mX7_copy_b143, if_neg c1, if_neg (by decide)]
    unfold mX7_copy_b167
    rw [mul40, mul40, nI_add, nI_add, if_neg (nI_ix (by omega) (by omega)), if_neg (nI_ix (by omega) (by omega)), nI_clamp (by omega), nI_clamp (by omega), nI_1]
    have e : upd (cpf it (40 * a + i) (40 * b + j) k) (40 * b + j + k) (cpf it (40 * a + i) (40 * b + j) k (40 * a + i + k)) = cpf it (40 * a + i) (40 * b + j) (k + 1) := by
      have e1 : cpf it (40 * a + i) (40 * b + j) k (40 * a + i + k) = it (40 * a + i + k) := by
        unfold cpf
        rw [if_neg (by omega)]
      rw [e1]
      funext z
      unfold upd cpf
      by_cases h1 : z = 40 * b + j + k
      · rw [if_pos h1, if_pos (by omega), h1]
        congr 1
        omega
      · rw [if_neg h1]
        by_cases h2 : 40 * b + j ≤ z ∧ z < 40 * b + j + k
        · rw [if_pos h2, if_pos (by omega)]
        · rw [if_neg h2, if_neg (by omega)]
    rw [e]
    exact cpy_up ha hb hi hj hij la ma t s it d (k + 1) (by omega) fu (by omega)
theorem cpy_dn {a i b j n : Nat} (ha : a < 8) (hb : b < 8) (hi : i + n ≤ 40) (hj : j + n ≤ 40) (hij : i < j) (la ma : Nat → Int32) (t s : Int32) (it : Nat → Int32) : ∀ (d k : Nat), k + d = n → ∀ fu, d < fu → mX7_copy_b143 la ma (nI a) (nI i) (nI b) (nI j) (nI n) fu t s (cpd it (40 * a + i) (40 * b + j) n k) 0 (nI k) = some (nI n, t, s, cpd it (40 * a + i) (40 * b + j) n n)
  | 0, k, hk, fu, hf => by
    obtain ⟨fu, rfl⟩ : ∃ q, fu = q + 1 := ⟨fu - 1, by omega⟩
    have e : k = n := by omega
    subst e
    rw [mX7_copy_b143, if_pos (nI_le (Nat.le_refl k) (by omega))]
  | d + 1, k, hk, fu, hf => by
    obtain ⟨fu, rfl⟩ : ∃ q, fu = q + 1 := ⟨fu - 1, by omega⟩
    have c1 : ¬ nI n ≤ nI k := nI_ge (by omega) (by omega)
    have es : nI n - 1 - nI k = nI (n - 1 - k) := by
      rw [show (1 : Int32) = nI 1 from rfl, pk_sub (by omega), pk_sub (by omega)]
    rw [mX7_copy_b143, if_neg c1, if_pos rfl, es]
    unfold mX7_copy_b167
    rw [mul40, mul40, nI_add, nI_add, if_neg (nI_ix (by omega) (by omega)), if_neg (nI_ix (by omega) (by omega)), nI_clamp (by omega), nI_clamp (by omega), nI_1]
    have e : upd (cpd it (40 * a + i) (40 * b + j) n k) (40 * b + j + (n - 1 - k)) (cpd it (40 * a + i) (40 * b + j) n k (40 * a + i + (n - 1 - k))) = cpd it (40 * a + i) (40 * b + j) n (k + 1) := by
      have e1 : cpd it (40 * a + i) (40 * b + j) n k (40 * a + i + (n - 1 - k)) = it (40 * a + i + (n - 1 - k)) := by
        unfold cpd
        rw [if_neg (by omega)]
      rw [e1]
      funext z
      unfold upd cpd
      by_cases h1 : z = 40 * b + j + (n - 1 - k)
      · rw [if_pos h1, if_pos (by omega), h1]
        congr 1
        omega
      · rw [if_neg h1]
        by_cases h2 : 40 * b + j + (n - k) ≤ z ∧ z < 40 * b + j + n
        · rw [if_pos h2, if_pos (by omega)]
        · rw [if_neg h2, if_neg (by omega)]
    rw [e]
    exact cpy_dn ha hb hi hj hij la ma t s it d (k + 1) (by omega) fu (by omega)
