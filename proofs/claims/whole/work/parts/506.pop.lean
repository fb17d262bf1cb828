-- uses: 501.auto 505.bits
/-! how many bits a number has -/
theorem and256 {a m y M : Nat} (ha : a < 256) (hm : m < 256) : (a + 256 * y) &&& (m + 256 * M) = (a &&& m) + 256 * (y &&& M) := by
  apply Nat.eq_of_testBit_eq
  intro i
  have h1 : a &&& m < 2 ^ 8 := Nat.and_lt_two_pow _ (by omega)
  rw [Nat.testBit_and, show a + 256 * y = 2 ^ 8 * y + a by omega, show m + 256 * M = 2 ^ 8 * M + m by omega, show (a &&& m) + 256 * (y &&& M) = 2 ^ 8 * (y &&& M) + (a &&& m) by omega]
  rw [Nat.testBit_two_pow_mul_add _ (by omega), Nat.testBit_two_pow_mul_add _ (by omega), Nat.testBit_two_pow_mul_add _ h1]
  by_cases h : i < 8
  · simp [h]
  · simp [h]
/-- one byte, its neighbour's low bits at its upper end -/
def sA (v : Nat) : Nat := v - ((v / 2) &&& 85)
def sB (v : Nat) : Nat := (sA v &&& 51) + ((sA v / 4) &&& 51)
def sC (v : Nat) : Nat := (sB v + sB v / 16) &&& 15
theorem sA_k : ∀ v, v < 256 → ∀ t, t < 2 → ((v / 2 + 128 * t) &&& 85) = (v / 2) &&& 85 ∧ ((v / 2) &&& 85) ≤ v ∧ sA v < 256 := by decide +kernel
theorem sB_k : ∀ v, v < 256 → ∀ t, t < 4 → ((sA v / 4 + 64 * t) &&& 51) = (sA v / 4) &&& 51 ∧ sB v < 80 ∧ sB v % 16 ≤ 4 ∧ sB v / 16 ≤ 4 := by decide +kernel
theorem sC_k : ∀ v, v < 256 → ∀ t, t < 16 → ((sB v + sB v / 16 + 16 * t) &&& 15) = sC v ∧ sC v ≤ 8 := by decide +kernel
theorem sC_p : ∀ v, v < 256 → sC v = (v % 2) + (v / 2 % 2) + (v / 4 % 2) + (v / 8 % 2) + (v / 16 % 2) + (v / 32 % 2) + (v / 64 % 2) + (v / 128 % 2) := by decide +kernel
theorem and4 {a b c d a' b' c' d' : Nat} (ha : a < 256) (hb : b < 256) (hc : c < 256) (ha' : a' < 256) (hb' : b' < 256) (hc' : c' < 256) : (a + 256 * (b + 256 * (c + 256 * d))) &&& (a' + 256 * (b' + 256 * (c' + 256 * d'))) = (a &&& a') + 256 * ((b &&& b') + 256 * ((c &&& c') + 256 * (d &&& d'))) := by
  rw [and256 ha ha', and256 hb hb', and256 hc hc']
theorem pop_1 {a b c d : Nat} (ha : a < 256) (hb : b < 256) (hc : c < 256) (hd : d < 256) :
    ((a + 256 * (b + 256 * (c + 256 * d))) / 2) &&& 1431655765 = ((a / 2) &&& 85) + 256 * (((b / 2) &&& 85) + 256 * (((c / 2) &&& 85) + 256 * ((d / 2) &&& 85))) := by
  have e : (a + 256 * (b + 256 * (c + 256 * d))) / 2 = (a / 2 + 128 * (b % 2)) + 256 * ((b / 2 + 128 * (c % 2)) + 256 * ((c / 2 + 128 * (d % 2)) + 256 * (d / 2))) := by omega
  rw [e, show (1431655765 : Nat) = 85 + 256 * (85 + 256 * (85 + 256 * 85)) from rfl, and4 (by omega) (by omega) (by omega) (by omega) (by omega) (by omega)]
  rw [(sA_k a ha (b % 2) (by omega)).1, (sA_k b hb (c % 2) (by omega)).1, (sA_k c hc (d % 2) (by omega)).1]
theorem pop_2 {a b c d : Nat} (ha : a < 256) (hb : b < 256) (hc : c < 256) (hd : d < 256) :
    ((sA a + 256 * (sA b + 256 * (sA c + 256 * sA d))) &&& 858993459) + (((sA a + 256 * (sA b + 256 * (sA c + 256 * sA d))) / 4) &&& 858993459) = sB a + 256 * (sB b + 256 * (sB c + 256 * sB d)) := by
  have qa := (sA_k a ha 0 (by omega)).2.2
  have qb := (sA_k b hb 0 (by omega)).2.2
  have qc := (sA_k c hc 0 (by omega)).2.2
  have qd := (sA_k d hd 0 (by omega)).2.2
  have e : (sA a + 256 * (sA b + 256 * (sA c + 256 * sA d))) / 4 = (sA a / 4 + 64 * (sA b % 4)) + 256 * ((sA b / 4 + 64 * (sA c % 4)) + 256 * ((sA c / 4 + 64 * (sA d % 4)) + 256 * (sA d / 4))) := by omega
  rw [e, show (858993459 : Nat) = 51 + 256 * (51 + 256 * (51 + 256 * 51)) from rfl, and4 (by omega) (by omega) (by omega) (by omega) (by omega) (by omega), and4 (by omega) (by omega) (by omega) (by omega) (by omega) (by omega)]
  rw [(sB_k a ha (sA b % 4) (by omega)).1, (sB_k b hb (sA c % 4) (by omega)).1, (sB_k c hc (sA d % 4) (by omega)).1]
  unfold sB; omega
theorem pop_3 {a b c d : Nat} (ha : a < 256) (hb : b < 256) (hc : c < 256) (hd : d < 256) :
    ((sB a + 256 * (sB b + 256 * (sB c + 256 * sB d))) + (sB a + 256 * (sB b + 256 * (sB c + 256 * sB d))) / 16) &&& 252645135 = sC a + 256 * (sC b + 256 * (sC c + 256 * sC d)) := by
  have qa := (sB_k a ha 0 (by omega)).2
  have qb := (sB_k b hb 0 (by omega)).2
  have qc := (sB_k c hc 0 (by omega)).2
  have qd := (sB_k d hd 0 (by omega)).2
  have e : (sB a + 256 * (sB b + 256 * (sB c + 256 * sB d))) + (sB a + 256 * (sB b + 256 * (sB c + 256 * sB d))) / 16 = (sB a + sB a / 16 + 16 * (sB b % 16)) + 256 * ((sB b + sB b / 16 + 16 * (sB c % 16)) + 256 * ((sB c + sB c / 16 + 16 * (sB d % 16)) + 256 * (sB d + sB d / 16))) := by omega
  rw [e, show (252645135 : Nat) = 15 + 256 * (15 + 256 * (15 + 256 * 15)) from rfl, and4 (by omega) (by omega) (by omega) (by omega) (by omega) (by omega)]
  rw [(sC_k a ha (sB b % 16) (by omega)).1, (sC_k b hb (sB c % 16) (by omega)).1, (sC_k c hc (sB d % 16) (by omega)).1]
  have h := (sC_k d hd 0 (by omega)).1
  rw [show sB d + sB d / 16 + 16 * 0 = sB d + sB d / 16 by omega] at h
  rw [h]
theorem nI_and {a b : Nat} : nI a &&& nI b = nI (a &&& b) := by
  apply B_ext
  intro i hi
  rw [B_and, B_nI, B_nI, B_nI, Nat.testBit_and]
  simp [hi]
theorem cnt8 (x : Nat) (m : Nat) : cnt (fun i => x.testBit (m + i)) 8 = (x / 2 ^ m % 2) + (x / 2 ^ m / 2 % 2) + (x / 2 ^ m / 4 % 2) + (x / 2 ^ m / 8 % 2) + (x / 2 ^ m / 16 % 2) + (x / 2 ^ m / 32 % 2) + (x / 2 ^ m / 64 % 2) + (x / 2 ^ m / 128 % 2) := by
  have e : ∀ i, (x.testBit (m + i)).toNat = x / 2 ^ m / 2 ^ i % 2 := by
    intro i
    rw [Nat.testBit_eq_decide_div_mod_eq, Nat.pow_add, Nat.div_div_eq_div_mul]
    have : x / (2 ^ m * 2 ^ i) % 2 < 2 := Nat.mod_lt _ (by omega)
    by_cases h : x / (2 ^ m * 2 ^ i) % 2 = 1
    · simp [h]
    · simp [h]; omega
  simp only [cnt, e]
  simp
theorem byte8 (y : Nat) : (y % 2) + (y / 2 % 2) + (y / 4 % 2) + (y / 8 % 2) + (y / 16 % 2) + (y / 32 % 2) + (y / 64 % 2) + (y / 128 % 2) = sC (y % 256) := by
  rw [sC_p _ (Nat.mod_lt _ (by omega))]
  rw [show y % 256 % 2 = y % 2 by omega, show y % 256 / 2 % 2 = y / 2 % 2 by omega, show y % 256 / 4 % 2 = y / 4 % 2 by omega, show y % 256 / 8 % 2 = y / 8 % 2 by omega, show y % 256 / 16 % 2 = y / 16 % 2 by omega, show y % 256 / 32 % 2 = y / 32 % 2 by omega, show y % 256 / 64 % 2 = y / 64 % 2 by omega, show y % 256 / 128 % 2 = y / 128 % 2 by omega]
theorem pop_nat (x : Nat) : cnt (fun i => x.testBit i) 32 = sC (x % 256) + sC (x / 256 % 256) + sC (x / 65536 % 256) + sC (x / 16777216 % 256) := by
  have h0 := cnt8 x 0
  have h1 := cnt8 x 8
  have h2 := cnt8 x 16
  have h3 := cnt8 x 24
  rw [byte8] at h0 h1 h2 h3
  have e : cnt (fun i => x.testBit i) 32 = cnt (fun i => x.testBit (0 + i)) 8 + cnt (fun i => x.testBit (8 + i)) 8 + cnt (fun i => x.testBit (16 + i)) 8 + cnt (fun i => x.testBit (24 + i)) 8 := by
    rw [show (32 : Nat) = 24 + 8 from rfl, cnt_add, show (24 : Nat) = 16 + 8 from rfl, cnt_add, show (16 : Nat) = 8 + 8 from rfl, cnt_add]
    have : (fun i => x.testBit (0 + i)) = fun i => x.testBit i := by funext i; rw [Nat.zero_add]
    rw [this]
  rw [e, h0, h1, h2, h3]
  simp
theorem c_pop (x : Int32) : mJ6_bitCount_0f7a4 x = some (nI (cnt (B x) 32)) := by
  obtain ⟨X, hX, rfl⟩ : ∃ X, X < 2 ^ 32 ∧ x = nI X := ⟨x.toBitVec.toNat, x.toBitVec.isLt, by
    apply Int32.toBitVec_inj.mp
    apply BitVec.eq_of_toNat_eq
    show _ = x.toBitVec.toNat % 2 ^ 32
    rw [Nat.mod_eq_of_lt x.toBitVec.isLt]⟩
  have ec : cnt (B (nI X)) 32 = cnt (fun i => X.testBit i) 32 := cnt_congr 32 (fun i hi => by rw [B_nI]; simp [hi])
  rw [ec, pop_nat X]
  obtain ⟨a, b, c, d, ha, hb, hc, hd, eX⟩ : ∃ a b c d, a < 256 ∧ b < 256 ∧ c < 256 ∧ d < 256 ∧ X = a + 256 * (b + 256 * (c + 256 * d)) := ⟨X % 256, X / 256 % 256, X / 65536 % 256, X / 16777216, by omega, by omega, by omega, by omega, by omega⟩
  rw [show X % 256 = a by omega, show X / 256 % 256 = b by omega, show X / 65536 % 256 = c by omega, show X / 16777216 % 256 = d by omega]
  have qa := sA_k a ha 0 (by omega)
  have qb := sA_k b hb 0 (by omega)
  have qc := sA_k c hc 0 (by omega)
  have qd := sA_k d hd 0 (by omega)
  have ra := (sB_k a ha 0 (by omega)).2
  have rb := (sB_k b hb 0 (by omega)).2
  have rc := (sB_k c hc 0 (by omega)).2
  have rd := (sB_k d hd 0 (by omega)).2
  have ta := (sC_k a ha 0 (by omega)).2
  have tb := (sC_k b hb 0 (by omega)).2
  have tc := (sC_k c hc 0 (by omega)).2
  have td := (sC_k d hd 0 (by omega)).2
  have s1 : nI X - ((((nI X).toUInt32 >>> ((1 : Int32).toUInt32 &&& Int32.toUInt32 31)).toInt32) &&& (1431655765 : Int32)) = nI (sA a + 256 * (sA b + 256 * (sA c + 256 * sA d))) := by
    rw [pk_ushrN hX 1 1 (by decide), show (1431655765 : Int32) = nI 1431655765 from rfl, nI_and, eX, pop_1 ha hb hc hd, zn_sub (by omega)]
    congr 1; unfold sA; omega
  have s2 : (nI (sA a + 256 * (sA b + 256 * (sA c + 256 * sA d))) &&& (858993459 : Int32)) + ((((nI (sA a + 256 * (sA b + 256 * (sA c + 256 * sA d)))).toUInt32 >>> ((2 : Int32).toUInt32 &&& Int32.toUInt32 31)).toInt32) &&& (858993459 : Int32)) = nI (sB a + 256 * (sB b + 256 * (sB c + 256 * sB d))) := by
    rw [pk_ushrN (by omega) 2 2 (by decide), show (858993459 : Int32) = nI 858993459 from rfl, nI_and, nI_and, zn_add, show (2 ^ 2 : Nat) = 4 from rfl, pop_2 ha hb hc hd]
  have s3 : (nI (sB a + 256 * (sB b + 256 * (sB c + 256 * sB d))) + (((nI (sB a + 256 * (sB b + 256 * (sB c + 256 * sB d)))).toUInt32 >>> ((4 : Int32).toUInt32 &&& Int32.toUInt32 31)).toInt32)) &&& (252645135 : Int32) = nI (sC a + 256 * (sC b + 256 * (sC c + 256 * sC d))) := by
    rw [pk_ushrN (by omega) 4 4 (by decide), show (252645135 : Int32) = nI 252645135 from rfl, zn_add, nI_and, show (2 ^ 4 : Nat) = 16 from rfl, pop_3 ha hb hc hd]
  unfold mJ6_bitCount_0f7a4 mJ6_bitCount_0f7a4_b0
  rw [s1, s2, s3]
  rw [pk_ushrN (by omega) 8 8 (by decide), zn_add, pk_ushrN (by omega) 16 16 (by decide), zn_add, pk_andN (by omega) 6 (by decide)]
  congr 2
  have q : ∀ h0 h1 h2 h3 : Nat, h0 ≤ 8 → h1 ≤ 8 → h2 ≤ 8 → h3 ≤ 8 → (h0 + 256 * (h1 + 256 * (h2 + 256 * h3)) + (h0 + 256 * (h1 + 256 * (h2 + 256 * h3))) / 2 ^ 8 + (h0 + 256 * (h1 + 256 * (h2 + 256 * h3)) + (h0 + 256 * (h1 + 256 * (h2 + 256 * h3))) / 2 ^ 8) / 2 ^ 16) % 2 ^ 6 = h0 + h1 + h2 + h3 := by
    intro h0 h1 h2 h3 g0 g1 g2 g3
    rw [show (h0 + 256 * (h1 + 256 * (h2 + 256 * h3))) / 2 ^ 8 = h1 + 256 * (h2 + 256 * h3) by omega]
    rw [show (h0 + 256 * (h1 + 256 * (h2 + 256 * h3)) + (h1 + 256 * (h2 + 256 * h3))) / 2 ^ 16 = h2 + h3 + 256 * h3 by omega]
    omega
  exact q _ _ _ _ ta tb tc td
