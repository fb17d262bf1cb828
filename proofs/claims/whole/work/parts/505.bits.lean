-- uses: 501.auto
/-! bits -/
def B (x : Int32) (i : Nat) : Bool := x.toBitVec.getLsbD i
theorem B_out (x : Int32) {i : Nat} (h : 32 ≤ i) : B x i = false := BitVec.getLsbD_of_ge _ _ h
theorem B_nI (a i : Nat) : B (nI a) i = (decide (i < 32) && a.testBit i) := by
  show (BitVec.ofNat 32 a).getLsbD i = _
  rw [BitVec.getLsbD_ofNat]
theorem B_and (x y : Int32) (i : Nat) : B (x &&& y) i = (B x i && B y i) := by
  unfold B; rw [Int32.toBitVec_and, BitVec.getLsbD_and]
theorem B_or (x y : Int32) (i : Nat) : B (x ||| y) i = (B x i || B y i) := by
  unfold B; rw [Int32.toBitVec_or, BitVec.getLsbD_or]
theorem B_xor (x y : Int32) (i : Nat) : B (x ^^^ y) i = (B x i ^^ B y i) := by
  unfold B; rw [Int32.toBitVec_xor, BitVec.getLsbD_xor]
theorem B_not (x : Int32) (i : Nat) : B (x ^^^ (-1)) i = (decide (i < 32) && !B x i) := by
  rw [B_xor]
  by_cases h : i < 32
  · have e : B (-1) i = true := by
      show (BitVec.allOnes 32).getLsbD i = true
      rw [BitVec.getLsbD_allOnes]; simp [h]
    rw [e]; simp [h]
  · rw [B_out x (by omega), B_out (-1) (by omega)]; simp [h]
theorem smod_nI {k : Nat} (hk : k < 32) : ((nI k &&& 31).toBitVec.smod 32).toNat = k := by
  have key : ∀ k : Nat, k < 32 → ((nI k &&& 31).toBitVec.smod 32).toNat = k := by decide
  exact key k hk
theorem B_shl (x : Int32) {k : Nat} (hk : k < 32) (i : Nat) : B (x <<< (nI k &&& 31)) i = (decide (i < 32) && !decide (i < k) && B x (i - k)) := by
  unfold B
  rw [Int32.toBitVec_shiftLeft]
  rw [BitVec.shiftLeft_eq', BitVec.getLsbD_shiftLeft, smod_nI hk]
theorem B_ext {x y : Int32} (h : ∀ i, i < 32 → B x i = B y i) : x = y := by
  apply Int32.toBitVec_inj.mp
  apply BitVec.eq_of_getLsbD_eq
  intro i hi
  exact h i hi
theorem B_zero (i : Nat) : B 0 i = false := by
  show (0#32).getLsbD i = false
  simp
theorem B_eq0 {x : Int32} : x = 0 ↔ ∀ i, i < 32 → B x i = false := by
  constructor
  · intro h i _; rw [h, B_zero]
  · intro h; exact B_ext (fun i hi => by rw [h i hi, B_zero])
theorem B_low {k : Nat} (hk : k < 32) (i : Nat) : B (((1 : Int32) <<< (nI k &&& 31)) - 1) i = decide (i < k) := by
  have key : ∀ k : Nat, k < 32 → ((1 : Int32) <<< (nI k &&& 31)) - 1 = nI (2 ^ k - 1) := by decide
  rw [key k hk, B_nI, Nat.testBit_two_pow_sub_one]
  by_cases h : i < k
  · have : i < 32 := by omega
    simp [h, this]
  · simp [h]
theorem B_one {k : Nat} (hk : k < 32) (i : Nat) : B ((1 : Int32) <<< (nI k &&& 31)) i = decide (i = k) := by
  rw [B_shl _ hk, show (1 : Int32) = nI 1 from rfl, B_nI]
  by_cases h : i = k
  · subst h; simp [hk]
  · by_cases h2 : i < k
    · simp [h2, h]
    · have : (1 : Nat).testBit (i - k) = false := by
        obtain ⟨j, hj⟩ : ∃ j, i - k = j + 1 := ⟨i - k - 1, by omega⟩
        rw [hj]; simp [Nat.testBit_succ]
      simp [h, this]
theorem B_test (x : Int32) {k : Nat} (hk : k < 32) : (((x >>> (nI k &&& 31)) &&& (1 : Int32)) = (1 : Int32)) = (B x k = true) := by
  have h0 : ∀ i, B ((x >>> (nI k &&& 31)) &&& (1 : Int32)) i = (decide (i = 0) && B x k) := by
    intro i
    rw [B_and, show (1 : Int32) = nI 1 from rfl, B_nI]
    by_cases h : i = 0
    · subst h
      have e : B (x >>> (nI k &&& 31)) 0 = B x k := by
        unfold B
        rw [Int32.toBitVec_shiftRight, BitVec.sshiftRight_eq', BitVec.getLsbD_sshiftRight, smod_nI hk]
        simp [hk]
      rw [e]; simp
    · have : (1 : Nat).testBit i = false := by
        cases i with
        | zero => exact absurd rfl h
        | succ j => simp [Nat.testBit_succ]
      simp [h, this]
  apply propext
  constructor
  · intro e
    have h1 := h0 0
    rw [e, show (1 : Int32) = nI 1 from rfl, B_nI] at h1
    simpa using h1.symm
  · intro e
    apply B_ext
    intro i hi
    rw [h0, e, show (1 : Int32) = nI 1 from rfl, B_nI]
    by_cases h : i = 0
    · subst h; simp
    · have : (1 : Nat).testBit i = false := by
        cases i with
        | zero => exact absurd rfl h
        | succ j => simp [Nat.testBit_succ]
      simp [h, this]
theorem B_bit (x : Int32) {k : Nat} (hk : k < 32) : (x >>> (nI k &&& 31)) &&& (1 : Int32) = b2i (B x k) := by
  have h := B_test x hk
  cases hb : B x k
  · rw [hb] at h
    apply B_ext
    intro i hi
    rw [B_and, show (1 : Int32) = nI 1 from rfl, B_nI]
    show _ = B 0 i
    rw [B_zero]
    by_cases h0 : i = 0
    · subst h0
      have e : B (x >>> (nI k &&& 31)) 0 = B x k := by
        unfold B
        rw [Int32.toBitVec_shiftRight, BitVec.sshiftRight_eq', BitVec.getLsbD_sshiftRight, smod_nI hk]
        simp [hk]
      rw [e, hb]; simp
    · have : (1 : Nat).testBit i = false := by
        cases i with
        | zero => exact absurd rfl h0
        | succ j => simp [Nat.testBit_succ]
      simp [this]
  · rw [hb] at h
    rw [h.mpr rfl]; rfl
/-- how many are -/
def cnt (f : Nat → Bool) : Nat → Nat
  | 0 => 0
  | n + 1 => cnt f n + (f n).toNat
theorem cnt_le (f : Nat → Bool) : ∀ n, cnt f n ≤ n
  | 0 => Nat.le_refl 0
  | n + 1 => by
    have h1 := cnt_le f n
    have h2 : (f n).toNat ≤ 1 := Bool.toNat_le (f n)
    unfold cnt; omega
theorem cnt_congr {f g : Nat → Bool} : ∀ n, (∀ i, i < n → f i = g i) → cnt f n = cnt g n
  | 0, _ => rfl
  | n + 1, h => by
    unfold cnt
    rw [cnt_congr n (fun i hi => h i (by omega)), h n (by omega)]
theorem cnt_add (f : Nat → Bool) (m : Nat) : ∀ n, cnt f (m + n) = cnt f m + cnt (fun i => f (m + i)) n
  | 0 => rfl
  | n + 1 => by
    show cnt f (m + n) + (f (m + n)).toNat = _
    rw [cnt_add f m n]
    show _ = cnt f m + (cnt (fun i => f (m + i)) n + (f (m + n)).toNat)
    omega
/-- bits as a number -/
def msk (p : Nat → Bool) : Nat → Nat
  | 0 => 0
  | s + 1 => msk p s + (if p s then 2 ^ s else 0)
theorem msk_lt (p : Nat → Bool) : ∀ s, msk p s < 2 ^ s
  | 0 => Nat.one_pos
  | s + 1 => by
    have := msk_lt p s
    unfold msk
    rw [Nat.pow_succ]
    split <;> omega
theorem msk_bit (p : Nat → Bool) : ∀ s i, (msk p s).testBit i = (decide (i < s) && p i)
  | 0, i => by simp [msk]
  | s + 1, i => by
    have h1 := msk_lt p s
    have ih := msk_bit p s i
    unfold msk
    cases hp : p s
    · simp only [Bool.false_eq_true, if_false, Nat.add_zero, ih]
      by_cases h : i = s
      · subst h; simp [hp]
      · by_cases h2 : i < s
        · have : i < s + 1 := by omega
          simp [h2, this]
        · have : ¬ i < s + 1 := by omega
          simp [h2, this]
    · simp only [if_true]
      rw [Nat.add_comm, show 2 ^ s + msk p s = 2 ^ s * 1 + msk p s by omega, Nat.testBit_two_pow_mul_add _ h1, ih]
      by_cases h : i = s
      · subst h; simp [hp]
      · by_cases h2 : i < s
        · have : i < s + 1 := by omega
          simp [h2, this]
        · have h3 : ¬ i < s + 1 := by omega
          have : (1 : Nat).testBit (i - s) = false := by
            obtain ⟨j, hj⟩ : ∃ j, i - s = j + 1 := ⟨i - s - 1, by omega⟩
            rw [hj]; simp [Nat.testBit_succ]
          simp [h2, h3, this]
theorem msk_congr {f g : Nat → Bool} : ∀ n, (∀ i, i < n → f i = g i) → msk f n = msk g n
  | 0, _ => rfl
  | n + 1, h => by
    unfold msk
    rw [msk_congr n (fun i hi => h i (by omega)), h n (by omega)]
theorem B_msk (p : Nat → Bool) {s : Nat} (hs : s ≤ 32) (i : Nat) : B (nI (msk p s)) i = (decide (i < s) && p i) := by
  rw [B_nI, msk_bit]
  by_cases h : i < s
  · have : i < 32 := by omega
    simp [h, this]
  · simp [h]
/-- a number by its bits -/
theorem B_of {x : Int32} {p : Nat → Bool} {s : Nat} (hs : s ≤ 32) (h : ∀ i, i < 32 → B x i = (decide (i < s) && p i)) : x = nI (msk p s) := B_ext (fun i hi => by rw [h i hi, B_msk p hs])
theorem or_one (p : Nat → Bool) {s : Nat} (hs : s < 32) (b : Bool) (hb : p s = b) : (if b then nI (msk p s) ||| ((1 : Int32) <<< (nI s &&& 31)) else nI (msk p s)) = nI (msk p (s + 1)) := by
  cases b
  · simp [msk, hb]
  · simp only [if_true]
    apply B_of (by omega)
    intro i hi
    rw [B_or, B_msk p (by omega), B_one hs]
    by_cases h : i = s
    · subst h; simp [hb]
    · by_cases h2 : i < s
      · have : i < s + 1 := by omega
        simp [h, h2, this]
      · have : ¬ i < s + 1 := by omega
        simp [h, h2, this]
