-- uses: 501.auto 502.abs 503.line 504.word 505.bits 506.pop 507.tail 508.alike 509.lines 533.count 540.hear 542.spread
/-! the class's options -/
def szF (foot : Nat) : Nat := if foot < 2 then 2 else 3
def wkF (foot : Nat) : Nat := if foot = 1 then 1 else if foot = 3 then 2 else 0
def stF (foot k : Nat) : Bool := if foot = 0 then decide (k = 1) else if foot = 2 then decide (k = 2) else decide (k = 0)
def tuF (foot : Nat) : Nat := if foot = 0 then 1 else if foot = 1 then 0 else if foot = 2 then 3 else 2
/-- whether a place is strong -/
def HS (foot : Nat) (tu : Bool) (t : Nat) : Bool := stF (if tu && decide (t < szF foot) then tuF foot else foot) (t % szF foot)
def HB (foot feet : Nat) (tu : Bool) : Int32 := nI (msk (HS foot tu) (feet * szF foot))
theorem heavy_k : ∀ foot, foot < 4 → ∀ feet, feet < 6 → 1 ≤ feet → mX1_heavyPlaces (nI foot) (nI foot) (nI feet) = some (HB foot feet false) ∧ mX1_heavyPlaces (sT2 foot) (nI foot) (nI feet) = some (HB foot feet true) := by decide +kernel
theorem foot_k : ∀ foot, foot < 4 → sT0 foot = nI (szF foot) ∧ (-(sT3 foot)).toInt = -((wkF foot : Nat) : Int) ∧ wkF foot ≤ 2 ∧ szF foot ≤ 3 ∧ 2 ≤ szF foot := by decide +kernel
def AD (a b : Nat) : Nat := (a - b) + (b - a)
def INR (left places foot : Nat) : Bool := decide (places ≤ left + wkF foot) && decide (left ≤ places + 2)
/-- an option: what it is of -/
def OPT (P : Nat → Nat) (m foot feet : Nat) (q : Nat × Bool) (fee hv li ov : Int32) : Prop :=
  fee = nI (q.2.toNat + cnt (B (nI q.1)) 32 + AD (TT P (nI q.1) m (P m)) (feet * szF foot)) ∧
  (∀ j, j < 32 → B hv j = (!RM P (nI q.1) m j && (decide (TT P (nI q.1) m j < TT P (nI q.1) m (P m)) && decide (TT P (nI q.1) m j < feet * szF foot) && HS foot q.2 (TT P (nI q.1) m j)))) ∧
  (∀ j, j < 32 → B li j = (!RM P (nI q.1) m j && (decide (TT P (nI q.1) m j < TT P (nI q.1) m (P m)) && decide (TT P (nI q.1) m j < feet * szF foot) && !HS foot q.2 (TT P (nI q.1) m j)))) ∧
  (∀ j, j < 32 → B ov j = (!RM P (nI q.1) m j && (decide (TT P (nI q.1) m j < TT P (nI q.1) m (P m)) && !decide (TT P (nI q.1) m j < feet * szF foot))))
section
variable {P : Nat → Nat} {m : Nat} {la : Nat → Int32} {foot feet : Nat}
theorem cnt_set {s : Nat} (hs : s < 2 ^ m) (hm : m ≤ 5) : cnt (B (nI s)) 32 = cnt (B (nI s)) m := by
  have := cnt_end (B (nI s)) m (32 - m) (by
    intro j h1 h2
    rw [B_nI, Nat.testBit_lt_two_pow (Nat.lt_of_lt_of_le hs (Nat.pow_le_pow_right (by omega) h1))]
    simp)
  rw [show m + (32 - m) = 32 by omega] at this
  exact this
theorem left_k (h : INC P m) {s : Nat} (hs : s < 2 ^ m) (hm : m ≤ 5) : TT P (nI s) m (P m) + cnt (B (nI s)) 32 = P m := by
  rw [cnt_set hs hm]; exact TT_sum h m (Nat.le_refl _)
theorem ad_k {a b : Nat} (ha : a < 1000) (hb : b < 1000) : (if 0 ≤ nI a - nI b then nI a - nI b else 0 - (nI a - nI b)) = nI (AD a b) := by
  have e := pk_sub_toInt (a := a) (b := b) (by omega) (by omega)
  have e0 : (0 : Int32).toInt = 0 := rfl
  unfold AD
  by_cases h : b ≤ a
  · rw [if_pos (by rw [i32_le]; omega), zn_sub h, show a - b + (b - a) = a - b by omega]
  · rw [if_neg (by rw [i32_le]; omega), Int32.zero_sub, Int32.neg_sub, zn_sub (by omega), show a - b + (b - a) = b - a by omega]
theorem c_add_no (h : INC P m) (hm : m ≤ 5) (hS : P m ≤ 20) (hf : foot < 4) (hfe : feet ≤ 5) {s : Nat} (hs : s < 2 ^ m) (hr : INR (TT P (nI s) m (P m)) (feet * szF foot) foot = false) (K fee hb : Int32) (f1 f2 f3 f4 : Nat → Int32) : mX1_addOption (nI m) (nI (P m)) la K f1 f2 f3 f4 (nI s) (nI foot) (nI feet) hb fee = some (K, f1, f2, f3, f4) := by
  obtain ⟨t1, t2, t3, t4, t5⟩ := foot_k foot hf
  have hl := left_k h hs hm
  have hpl : feet * szF foot ≤ 5 * 3 := Nat.mul_le_mul hfe t4
  have e1 : nI (P m) - nI (cnt (B (nI s)) 32) = nI (TT P (nI s) m (P m)) := by
    rw [zn_sub (by omega)]; congr 1; omega
  have e2 := pk_sub_toInt (a := TT P (nI s) m (P m)) (b := feet * szF foot) (by omega) (by omega)
  have c1 : ¬ (nI foot < 0 ∨ 4 ≤ foot) := by simp (disch := omega) only [↓reduceIte, Nat.reduceAdd, Nat.reduceMul, Nat.reduceSub, Nat.zero_add, zn_0, zn_1, zn_2, zn_3, zn_4, zn_5, zn_6, zn_7, zn_8, zn_9, zn_10, zn_16, zn_20, zn_23, zn_24, zn_25, zn_26, zn_40, zn_207, zn_4761, zn_99, zn_130, zn_lt_t, zn_lt_f, zn_le_t, zn_le_f, zn_eq_t, zn_eq_f, zn_ix, zn_cl, zq_le_f, zq_le_t, zq_lt_f, zq_lt_t, zn_add, zn_mul, zn_sub, or_false, false_or, or_self, true_or, or_true, and_true, true_and, and_false, false_and, not_true_eq_false, not_false_eq_true, if_true, if_false, os1, os2, os3, os4, os5, os6, os7, os8, os9, os10, os11, os12, os13, os14, os15, os16, os17, os18, os19, os20, os21, os22, os23, os24]
  have z2 : (2 : Int32).toInt = 2 := rfl
  unfold mX1_addOption mX1_addOption_b0
  rw [c_pop, os1, zn_cl (by omega), if_neg c1, if_neg c1, e1, t1, zn_mul]
  unfold INR at hr
  by_cases h1 : feet * szF foot ≤ TT P (nI s) m (P m) + wkF foot
  · rw [if_neg (by rw [i32_lt, e2, t2]; omega)]
    have h2 : ¬ TT P (nI s) m (P m) ≤ feet * szF foot + 2 := by
      intro q; simp [h1, q] at hr
    rw [if_pos (by rw [i32_lt, e2, z2]; omega)]
  · rw [if_pos (by rw [i32_lt, e2, t2]; omega)]
theorem bb1 (r a b c : Bool) : (!r && ((a && b) && (b && c))) = (!r && (a && b && c)) := by cases r <;> cases a <;> cases b <;> cases c <;> rfl
theorem bb2 (r a b c : Bool) : (!r && ((a && b) && (true && !(b && c)))) = (!r && (a && b && !c)) := by cases r <;> cases a <;> cases b <;> cases c <;> rfl
theorem bb3 (r a b : Bool) : (!r && (a && (true && !(a && b)))) = (!r && (a && !b)) := by cases r <;> cases a <;> cases b <;> rfl
theorem c_add_yes (h : INC P m) (hm : m ≤ 5) (hS : P m ≤ 20) (hla : ∀ k, k < m → la k = nI (P (k + 1) - 1)) (hf : foot < 4) (hfe : feet ≤ 5) {s : Nat} (hs : s < 2 ^ m) (hr : INR (TT P (nI s) m (P m)) (feet * szF foot) foot = true) {K : Nat} (hK : K < 32) (tu : Bool) (f1 f2 f3 f4 : Nat → Int32) : ∃ a b c d, mX1_addOption (nI m) (nI (P m)) la (nI K) f1 f2 f3 f4 (nI s) (nI foot) (nI feet) (HB foot feet tu) (nI tu.toNat) = some (nI (K + 1), upd f1 K a, upd f2 K b, upd f3 K c, upd f4 K d) ∧ OPT P m foot feet (s, tu) a b c d := by
  obtain ⟨t1, t2, t3, t4, t5⟩ := foot_k foot hf
  have hl := left_k h hs hm
  have hpl : feet * szF foot ≤ 5 * 3 := Nat.mul_le_mul hfe t4
  have e1 : nI (P m) - nI (cnt (B (nI s)) 32) = nI (TT P (nI s) m (P m)) := by
    rw [zn_sub (by omega)]; congr 1; omega
  have e2 := pk_sub_toInt (a := TT P (nI s) m (P m)) (b := feet * szF foot) (by omega) (by omega)
  have c1 : ¬ (nI foot < 0 ∨ 4 ≤ foot) := by simp (disch := omega) only [↓reduceIte, Nat.reduceAdd, Nat.reduceMul, Nat.reduceSub, Nat.zero_add, zn_0, zn_1, zn_2, zn_3, zn_4, zn_5, zn_6, zn_7, zn_8, zn_9, zn_10, zn_16, zn_20, zn_23, zn_24, zn_25, zn_26, zn_40, zn_207, zn_4761, zn_99, zn_130, zn_lt_t, zn_lt_f, zn_le_t, zn_le_f, zn_eq_t, zn_eq_f, zn_ix, zn_cl, zq_le_f, zq_le_t, zq_lt_f, zq_lt_t, zn_add, zn_mul, zn_sub, or_false, false_or, or_self, true_or, or_true, and_true, true_and, and_false, false_and, not_true_eq_false, not_false_eq_true, if_true, if_false, os1, os2, os3, os4, os5, os6, os7, os8, os9, os10, os11, os12, os13, os14, os15, os16, os17, os18, os19, os20, os21, os22, os23, os24]
  have c2 : ¬ (nI K < 0 ∨ 32 ≤ K) := by simp (disch := omega) only [↓reduceIte, Nat.reduceAdd, Nat.reduceMul, Nat.reduceSub, Nat.zero_add, zn_0, zn_1, zn_2, zn_3, zn_4, zn_5, zn_6, zn_7, zn_8, zn_9, zn_10, zn_16, zn_20, zn_23, zn_24, zn_25, zn_26, zn_40, zn_207, zn_4761, zn_99, zn_130, zn_lt_t, zn_lt_f, zn_le_t, zn_le_f, zn_eq_t, zn_eq_f, zn_ix, zn_cl, zq_le_f, zq_le_t, zq_lt_f, zq_lt_t, zn_add, zn_mul, zn_sub, or_false, false_or, or_self, true_or, or_true, and_true, true_and, and_false, false_and, not_true_eq_false, not_false_eq_true, if_true, if_false, os1, os2, os3, os4, os5, os6, os7, os8, os9, os10, os11, os12, os13, os14, os15, os16, os17, os18, os19, os20, os21, os22, os23, os24]
  have c3 : nI K < (32 : Int32) := nI_lt (b := 32) hK (by omega)
  have z2 : (2 : Int32).toInt = 2 := rfl
  have h1 : feet * szF foot ≤ TT P (nI s) m (P m) + wkF foot := by
    unfold INR at hr; simp at hr; exact hr.1
  have h2 : TT P (nI s) m (P m) ≤ feet * szF foot + 2 := by
    unfold INR at hr; simp at hr; exact hr.2
  obtain ⟨x1, q1, w1⟩ := c_spread (set := nI s) h hm hS hla (((((1 : Int32) <<< (nI (TT P (nI s) m (P m)) &&& 31)) - (1 : Int32)) &&& (((1 : Int32) <<< (nI (feet * szF foot) &&& 31)) - (1 : Int32))) &&& HB foot feet tu)
  obtain ⟨x2, q2, w2⟩ := c_spread (set := nI s) h hm hS hla (((((1 : Int32) <<< (nI (TT P (nI s) m (P m)) &&& 31)) - (1 : Int32)) &&& (((1 : Int32) <<< (nI (feet * szF foot) &&& 31)) - (1 : Int32))) &&& (HB foot feet tu ^^^ ((-1) : Int32)))
  obtain ⟨x3, q3, w3⟩ := c_spread (set := nI s) h hm hS hla ((((1 : Int32) <<< (nI (TT P (nI s) m (P m)) &&& 31)) - (1 : Int32)) &&& (((((1 : Int32) <<< (nI (TT P (nI s) m (P m)) &&& 31)) - (1 : Int32)) &&& (((1 : Int32) <<< (nI (feet * szF foot) &&& 31)) - (1 : Int32))) ^^^ ((-1) : Int32)))
  refine ⟨nI (tu.toNat + cnt (B (nI s)) 32 + AD (TT P (nI s) m (P m)) (feet * szF foot)), x1, x2, x3, ?_, rfl, ?_, ?_, ?_⟩
  · unfold mX1_addOption mX1_addOption_b0
    rw [c_pop, os1, zn_cl (by omega), if_neg c1, if_neg c1, e1, t1, zn_mul, if_neg (by rw [i32_lt, e2, t2]; omega), if_neg (by rw [i32_lt, e2, z2]; omega), if_pos c3, os1, zn_cl (by omega), if_neg c2, q1, os1, if_neg c2, q2, os1, if_neg c2, q3, os1, if_neg c2, ad_k (by omega) (by omega), zn_add, zn_add, nI_1]
  · intro j hj
    have ht := TT_le (P := P) (set := nI s) m j
    rw [w1 j hj, B_and, B_and, B_low (by omega), B_low (by omega), HB, B_msk _ (by omega)]
    exact bb1 _ _ _ _
  · intro j hj
    have ht := TT_le (P := P) (set := nI s) m j
    have h32 : decide (TT P (nI s) m j < 32) = true := by simp; omega
    rw [w2 j hj, B_and, B_and, B_low (by omega), B_low (by omega), B_not, HB, B_msk _ (by omega), h32]
    exact bb2 _ _ _ _
  · intro j hj
    have ht := TT_le (P := P) (set := nI s) m j
    have h32 : decide (TT P (nI s) m j < 32) = true := by simp; omega
    rw [w3 j hj, B_and, B_not, B_and, B_low (by omega), B_low (by omega), h32]
    exact bb3 _ _ _
def allB (f : Nat → Bool) : Nat → Bool
  | 0 => true
  | n + 1 => allB f n && f n
theorem allB_iff (f : Nat → Bool) : ∀ n, allB f n = true ↔ ∀ i, i < n → f i = true
  | 0 => ⟨fun _ i hi => absurd hi (by omega), fun _ => rfl⟩
  | n + 1 => by
    unfold allB
    rw [Bool.and_eq_true, allB_iff f n]
    constructor
    · rintro ⟨h1, h2⟩ i hi
      by_cases e : i = n
      · rw [e]; exact h2
      · exact h1 i (by omega)
    · intro h
      exact ⟨fun i hi => h i (by omega), h n (by omega)⟩
/-- words that may run together at once -/
def okS (J G : Nat → Bool) (m s : Nat) : Bool := allB (fun i => (!B (nI s) i || J i) && !(decide (0 < i) && B (nI s) i && B (nI s) (i - 1) && G i)) m
theorem okS_c {J G : Nat → Bool} {s : Nat} (hs : s < 2 ^ m) (hm : m ≤ 5) : okS J G m s = true ↔ ((nI s &&& (nI s <<< ((1 : Int32) &&& 31))) &&& nI (msk G m)) = 0 ∧ (nI s &&& (nI (msk J m) ^^^ ((-1) : Int32))) = 0 := by
  have hb : ∀ j, m ≤ j → B (nI s) j = false := by
    intro j h1
    rw [B_nI, Nat.testBit_lt_two_pow (Nat.lt_of_lt_of_le hs (Nat.pow_le_pow_right (by omega) h1))]
    simp
  unfold okS
  rw [allB_iff, B_eq0, B_eq0]
  constructor
  · intro h
    constructor
    · intro i hi
      rw [B_and, B_and, show ((1 : Int32) &&& 31) = (nI 1 &&& 31) from rfl, B_shl _ (by omega), B_msk _ (by omega)]
      by_cases h1 : i < m
      · have h2 := h i h1
        by_cases h0 : i < 1
        · simp [h0]
        · have h3 : 0 < i := by omega
          revert h2
          simp only [h3, h0, hi, h1, decide_true, decide_false, Bool.true_and, Bool.not_false]
          cases B (nI s) i <;> cases B (nI s) (i - 1) <;> cases G i <;> cases J i <;> simp
      · rw [hb i (by omega)]; simp
    · intro i hi
      rw [B_and, B_not, B_msk _ (by omega)]
      by_cases h1 : i < m
      · have h2 := h i h1
        revert h2
        simp only [hi, h1, decide_true, Bool.true_and]
        cases B (nI s) i <;> cases J i <;> simp
      · rw [hb i (by omega)]; simp
  · rintro ⟨h1, h2⟩ i hi
    have k1 := h1 i (by omega)
    have k2 := h2 i (by omega)
    rw [B_and, B_and, show ((1 : Int32) &&& 31) = (nI 1 &&& 31) from rfl, B_shl _ (by omega), B_msk _ (by omega)] at k1
    rw [B_and, B_not, B_msk _ (by omega)] at k2
    have h32 : i < 32 := by omega
    revert k1 k2
    by_cases h0 : i < 1
    · have h3 : ¬ 0 < i := by omega
      simp only [h3, h0, h32, hi, decide_true, decide_false, Bool.true_and, Bool.false_and, Bool.not_false, Bool.not_true, Bool.and_false, Bool.and_true]
      cases B (nI s) i <;> cases J i <;> simp
    · have h3 : 0 < i := by omega
      simp only [h3, h0, h32, hi, decide_true, decide_false, Bool.true_and, Bool.not_false]
      cases B (nI s) i <;> cases B (nI s) (i - 1) <;> cases G i <;> cases J i <;> simp
theorem okS_half {J G : Nat → Bool} {s : Nat} (hs : s < 2 ^ m) (hm1 : 1 ≤ m) (hm : m ≤ 5) (hJ : J (m - 1) = false) (ho : okS J G m s = true) : s < 2 ^ (m - 1) := by
  unfold okS at ho
  rw [allB_iff] at ho
  have h := ho (m - 1) (by omega)
  rw [hJ] at h
  have hb : B (nI s) (m - 1) = false := by
    revert h
    cases B (nI s) (m - 1) <;> simp
  rw [B_nI] at hb
  have key : ∀ m, m < 6 → 1 ≤ m → ∀ s, s < 32 → s < 2 ^ m → (decide (m - 1 < 32) && s.testBit (m - 1)) = false → s < 2 ^ (m - 1) := by decide +kernel
  have h32 : 2 ^ m ≤ 2 ^ 5 := Nat.pow_le_pow_right (by omega) hm
  exact key m (by omega) hm1 s (by omega) hs hb
/-- the options, in their order -/
def oN (J G : Nat → Bool) (m : Nat) (P : Nat → Nat) (foot feet : Nat) : Nat → List (Nat × Bool)
  | 0 => []
  | s + 1 => oN J G m P foot feet s ++ (if okS J G m s && INR (TT P (nI s) m (P m)) (feet * szF foot) foot then (if 2 ≤ feet then [(s, false), (s, true)] else [(s, false)]) else [])
theorem oN_len (J G : Nat → Bool) : ∀ s, (oN J G m P foot feet s).length ≤ 2 * s
  | 0 => Nat.le_refl _
  | s + 1 => by
    have := oN_len J G s
    unfold oN
    rw [List.length_append]
    (repeat' split) <;> simp <;> omega
def OPTS (P : Nat → Nat) (m foot feet : Nat) (os : List (Nat × Bool)) (f1 f2 f3 f4 : Nat → Int32) : Prop := ∀ o, o < os.length → OPT P m foot feet (os.getD o (0, false)) (f1 o) (f2 o) (f3 o) (f4 o)
theorem OPTS_snoc {os : List (Nat × Bool)} {f1 f2 f3 f4 : Nat → Int32} (h : OPTS P m foot feet os f1 f2 f3 f4) {q : Nat × Bool} {a b c d : Int32} (hq : OPT P m foot feet q a b c d) : OPTS P m foot feet (os ++ [q]) (upd f1 os.length a) (upd f2 os.length b) (upd f3 os.length c) (upd f4 os.length d) := by
  intro o ho
  rw [List.length_append] at ho
  have ho' : o < os.length + 1 := ho
  unfold upd
  by_cases e : o = os.length
  · subst e
    simp only [if_true]
    have : (os ++ [q]).getD os.length (0, false) = q := by simp [List.getD]
    rw [this]; exact hq
  · simp only [if_neg e]
    have h1 : o < os.length := by omega
    have : (os ++ [q]).getD o (0, false) = os.getD o (0, false) := by simp [List.getD, List.getElem?_append_left h1]
    rw [this]; exact h o h1
theorem sh2 : ∀ m, m < 6 → (1 : Int32) <<< (nI m &&& 31) = nI (2 ^ m) := by decide +kernel
theorem c_fit_loop {J G : Nat → Bool} (h : INC P m) (hm1 : 1 ≤ m) (hm : m ≤ 5) (hS : P m ≤ 20) (hla : ∀ k, k < m → la k = nI (P (k + 1) - 1)) (hf : foot < 4) (hf1 : 1 ≤ feet) (hfe : feet ≤ 5) (hJ : J (m - 1) = false) : ∀ (d s : Nat) (f1 f2 f3 f4 : Nat → Int32), s + d = 2 ^ m → OPTS P m foot feet (oN J G m P foot feet s) f1 f2 f3 f4 → ∀ n, d < n → ∃ g1 g2 g3 g4, mX1_fit_b36 (nI m) (nI (P m)) (nI (msk J m)) (nI (msk G m)) la (nI foot) (nI feet) n (nI (oN J G m P foot feet s).length) f1 f2 f3 f4 (HB foot feet false) (HB foot feet true) (nI s) = some (nI (oN J G m P foot feet (2 ^ m)).length, g1, g2, g3, g4) ∧ OPTS P m foot feet (oN J G m P foot feet (2 ^ m)) g1 g2 g3 g4
  | _, _, _, _, _, _, _, _, 0, hn => absurd hn (by omega)
  | 0, s, f1, f2, f3, f4, hs, ho, n + 1, _ => by
    have h32 : 2 ^ m ≤ 2 ^ 5 := Nat.pow_le_pow_right (by omega) hm
    have e : s = 2 ^ m := by omega
    subst e
    refine ⟨f1, f2, f3, f4, ?_, ho⟩
    rw [mX1_fit_b36, sh2 m (by omega), if_pos (nI_le (Nat.le_refl _) (by omega))]
  | d + 1, s, f1, f2, f3, f4, hs, ho, n + 1, hn => by
    have h32 : 2 ^ m ≤ 2 ^ 5 := Nat.pow_le_pow_right (by omega) hm
    have hsm : s < 2 ^ m := by omega
    have hoc := okS_c (J := J) (G := G) hsm hm
    have hon : oN J G m P foot feet (s + 1) = oN J G m P foot feet s ++ (if okS J G m s && INR (TT P (nI s) m (P m)) (feet * szF foot) foot then (if 2 ≤ feet then [(s, false), (s, true)] else [(s, false)]) else []) := rfl
    rw [mX1_fit_b36, sh2 m (by omega), if_neg (nI_ge (by omega) (by omega))]
    cases hk : okS J G m s
    · rw [hk] at hon hoc
      simp only [Bool.false_and, Bool.false_eq_true, if_false, List.append_nil] at hon
      have ih := c_fit_loop h hm1 hm hS hla hf hf1 hfe hJ (G := G) d (s + 1) f1 f2 f3 f4 (by omega) (by rw [hon]; exact ho) n (by omega)
      rw [hon] at ih
      by_cases k1 : ((nI s &&& (nI s <<< ((1 : Int32) &&& 31))) &&& nI (msk G m)) = 0
      · have k2 : ¬ (nI s &&& (nI (msk J m) ^^^ ((-1) : Int32))) = 0 := fun q => absurd (hoc.mpr ⟨k1, q⟩) (by decide)
        rw [if_pos k1, mX1_fit_b67, if_neg k2, nI_1]
        exact ih
      · rw [if_neg k1, mX1_fit_b67, if_neg (by decide : ¬ (1 : Int32) = 0), nI_1, ite_self]
        exact ih
    · rw [hk] at hon hoc
      obtain ⟨k1, k2⟩ := hoc.mp rfl
      have hh := okS_half hsm hm1 hm hJ hk
      have h16 : 2 ^ (m - 1) ≤ 2 ^ 4 := Nat.pow_le_pow_right (by omega) (by omega)
      have hlen := oN_len (m := m) (P := P) (foot := foot) (feet := feet) J G s
      rw [if_pos k1, mX1_fit_b67, if_pos k2, if_pos rfl]
      cases hr : INR (TT P (nI s) m (P m)) (feet * szF foot) foot
      · rw [hr] at hon
        simp only [Bool.and_false, Bool.false_eq_true, if_false, List.append_nil] at hon
        have ih := c_fit_loop h hm1 hm hS hla hf hf1 hfe hJ (G := G) d (s + 1) f1 f2 f3 f4 (by omega) (by rw [hon]; exact ho) n (by omega)
        rw [hon] at ih
        rw [c_add_no h hm hS hf hfe hsm hr, os5, c_add_no h hm hS hf hfe hsm hr, os5, nI_1, ite_self]
        exact ih
      · rw [hr] at hon
        simp only [Bool.and_self, if_true] at hon
        obtain ⟨a, b, c, e, q1, q2⟩ := c_add_yes h hm hS hla hf hfe hsm hr (K := (oN J G m P foot feet s).length) (by omega) false f1 f2 f3 f4
        have q1' : mX1_addOption (nI m) (nI (P m)) la (nI (oN J G m P foot feet s).length) f1 f2 f3 f4 (nI s) (nI foot) (nI feet) (HB foot feet false) 0 = _ := q1
        have ho1 := OPTS_snoc ho q2
        rw [q1', os5]
        by_cases hft : 2 ≤ feet
        · rw [if_pos hft] at hon
          obtain ⟨a', b', c', e', q1, q2⟩ := c_add_yes h hm hS hla hf hfe hsm hr (K := (oN J G m P foot feet s).length + 1) (by omega) true (upd f1 (oN J G m P foot feet s).length a) (upd f2 (oN J G m P foot feet s).length b) (upd f3 (oN J G m P foot feet s).length c) (upd f4 (oN J G m P foot feet s).length e)
          have q1' : mX1_addOption (nI m) (nI (P m)) la (nI ((oN J G m P foot feet s).length + 1)) (upd f1 (oN J G m P foot feet s).length a) (upd f2 (oN J G m P foot feet s).length b) (upd f3 (oN J G m P foot feet s).length c) (upd f4 (oN J G m P foot feet s).length e) (nI s) (nI foot) (nI feet) (HB foot feet true) 1 = _ := q1
          have ho2 := OPTS_snoc ho1 q2
          have el : (oN J G m P foot feet s ++ [(s, false)]).length = (oN J G m P foot feet s).length + 1 := by simp
          rw [el] at ho2
          have en : oN J G m P foot feet s ++ [(s, false)] ++ [(s, true)] = oN J G m P foot feet (s + 1) := by rw [hon]; simp
          rw [en] at ho2
          have el2 : (oN J G m P foot feet (s + 1)).length = (oN J G m P foot feet s).length + 1 + 1 := by rw [hon]; simp
          have ih := c_fit_loop h hm1 hm hS hla hf hf1 hfe hJ (G := G) d (s + 1) _ _ _ _ (by omega) ho2 n (by omega)
          rw [el2] at ih
          rw [if_neg (show ¬ nI feet < (2 : Int32) from nI_nlt (b := 2) hft (by omega)), q1', os5, nI_1]
          exact ih
        · rw [if_neg hft] at hon
          rw [← hon] at ho1
          have el2 : (oN J G m P foot feet (s + 1)).length = (oN J G m P foot feet s).length + 1 := by rw [hon]; simp
          have ih := c_fit_loop h hm1 hm hS hla hf hf1 hfe hJ (G := G) d (s + 1) _ _ _ _ (by omega) ho1 n (by omega)
          rw [el2] at ih
          rw [if_pos (show nI feet < (2 : Int32) from nI_lt (b := 2) (by omega) (by omega)), nI_1]
          exact ih
theorem metre6 (a b : Int32) : mX6_isMetre a b = some (if (0 ≤ a.toInt ∧ a.toInt < 4) ∧ (1 ≤ b.toInt ∧ b.toInt ≤ 5) then 1 else 0) := by
  have e0 : (0 : Int32).toInt = 0 := rfl
  have e1 : (1 : Int32).toInt = 1 := rfl
  have e4 : (4 : Int32).toInt = 4 := rfl
  have e5 : (5 : Int32).toInt = 5 := rfl
  unfold mX6_isMetre mX6_isMetre_b0
  simp only [i32_lt, i32_le, e0, e1, e4, e5]
  (repeat' split) <;> first | rfl | omega
theorem metre7 (a b : Int32) : mX7_isMetre a b = some (if (0 ≤ a.toInt ∧ a.toInt < 4) ∧ (1 ≤ b.toInt ∧ b.toInt ≤ 5) then 1 else 0) := by
  have e0 : (0 : Int64).toInt = 0 := rfl
  have e1 : (1 : Int64).toInt = 1 := rfl
  have e3 : (3 : Int64).toInt = 3 := rfl
  have e5 : (5 : Int64).toInt = 5 := rfl
  unfold mX7_isMetre mX7_isMetre_b0
  simp only [in_i, e0, e1, e3, e5, os1]
  by_cases h1 : 0 ≤ a.toInt ∧ a.toInt ≤ 3
  · by_cases h2 : 1 ≤ b.toInt ∧ b.toInt ≤ 5
    · rw [if_pos h1, if_neg (by decide), if_pos h2, if_neg (by decide), if_pos (by omega)]
    · rw [if_pos h1, if_neg (by decide), if_neg h2, if_pos rfl, if_neg (by omega)]
  · rw [if_neg h1, if_pos rfl, if_neg (by omega)]
theorem c_fit {J G : Nat → Bool} (h : INC P m) (hm1 : 1 ≤ m) (hm : m ≤ 5) (hS : P m ≤ 20) (hla : ∀ k, k < m → la k = nI (P (k + 1) - 1)) (hf : foot < 4) (hf1 : 1 ≤ feet) (hfe : feet ≤ 5) (hJ : J (m - 1) = false) (K : Int32) (f1 f2 f3 f4 : Nat → Int32) : ∃ g1 g2 g3 g4, mX1_fit (nI m) (nI (P m)) (nI (msk J m)) (nI (msk G m)) la K f1 f2 f3 f4 (nI foot) (nI feet) = some (nI (oN J G m P foot feet (2 ^ m)).length, g1, g2, g3, g4) ∧ OPTS P m foot feet (oN J G m P foot feet (2 ^ m)) g1 g2 g3 g4 := by
  have h32 : 2 ^ m ≤ 2 ^ 5 := Nat.pow_le_pow_right (by omega) hm
  obtain ⟨k1, k2⟩ := heavy_k foot hf feet (by omega) hf1
  have c1 : ¬ (nI foot < 0 ∨ 4 ≤ foot) := by simp (disch := omega) only [↓reduceIte, Nat.reduceAdd, Nat.reduceMul, Nat.reduceSub, Nat.zero_add, zn_0, zn_1, zn_2, zn_3, zn_4, zn_5, zn_6, zn_7, zn_8, zn_9, zn_10, zn_16, zn_20, zn_23, zn_24, zn_25, zn_26, zn_40, zn_207, zn_4761, zn_99, zn_130, zn_lt_t, zn_lt_f, zn_le_t, zn_le_f, zn_eq_t, zn_eq_f, zn_ix, zn_cl, zq_le_f, zq_le_t, zq_lt_f, zq_lt_t, zn_add, zn_mul, zn_sub, or_false, false_or, or_self, true_or, or_true, and_true, true_and, and_false, false_and, not_true_eq_false, not_false_eq_true, if_true, if_false, os1, os2, os3, os4, os5, os6, os7, os8, os9, os10, os11, os12, os13, os14, os15, os16, os17, os18, os19, os20, os21, os22, os23, os24]
  have := c_fit_loop (G := G) h hm1 hm hS hla hf hf1 hfe hJ (2 ^ m) 0 f1 f2 f3 f4 (by omega) (fun o ho => absurd ho (by simp [oN])) FU (zn_fu (by omega))
  unfold mX1_fit mX1_fit_b0
  rw [metre6, nI_toInt (by omega), nI_toInt (by omega), if_pos (by omega), os1, if_neg (by decide), k1, os1, zn_cl (by omega), if_neg c1, k2, os1]
  exact this
end
