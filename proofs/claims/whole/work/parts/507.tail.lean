-- uses: 501.auto 502.abs 503.line 504.word 505.bits
/-! syllables and tails of words, by both -/
section
variable {L : List Nat} {ln sy sn : Nat → Int32} {lt st : Nat → Nat → Int32} {A : AP} {row : Nat → Int32} {kinds sizes : Nat → Int32} {spelled : Nat → Nat}
theorem RT_two (f : Nat → Int32) (n : Nat) : RT f (n + 2) ≤ RT f n + 1 := by
  have e : RT f (n + 2) = RT f n + (if RN f n then 1 else 0) + (if RN f (n + 1) then 1 else 0) := rfl
  rw [e]
  have h : ¬ (RN f n = true ∧ RN f (n + 1) = true) := by
    unfold RN
    simp
    intro h1 _ _
    exact h1
  by_cases h1 : RN f n = true
  · have h2 : ¬ RN f (n + 1) = true := fun q => h ⟨h1, q⟩
    rw [if_pos h1, if_neg h2]; omega
  · rw [if_neg h1]; split <;> omega
theorem RT_half (f : Nat → Int32) : ∀ n, 2 * RT f n ≤ n + 1 ∧ 2 * RT f (n + 1) ≤ n + 2
  | 0 => ⟨by simp [RT], by have := RT_le f 1; show 2 * RT f 1 ≤ _; omega⟩
  | n + 1 => ⟨(RT_half f n).2, by have := RT_two f n; have := (RT_half f n).1; show 2 * RT f (n + 2) ≤ _; omega⟩
theorem SY_le4 (f : Nat → Int32) {n : Nat} (h : n ≤ 8) : SY f n ≤ 4 := by
  have := (RT_half f n).1
  unfold SY; split <;> omega
theorem SY_pos (f : Nat → Int32) {n : Nat} (h : 1 ≤ RT f n) : 1 ≤ SY f n := by
  unfold SY ME
  split
  · rename_i q; simp at q; omega
  · omega
theorem aok_s (ha : AOK L ln lt A) {w : Nat} (hw : w < aW A) : 1 ≤ aSy ln lt A w ∧ aSy ln lt A w ≤ 4 := by
  obtain ⟨hn, -, h1, -⟩ := aok_w ha hw
  exact ⟨SY_pos _ h1, SY_le4 _ hn.2⟩
theorem pool_w (hp : POOL L ln sy sn lt st) (ha : AOK L ln lt A) {w : Nat} (hw : w < aW A) : SPOK ln sy sn lt st (aQ A w) (aN ln A w) := by
  obtain ⟨hn, h5, h1, -, hq, hc⟩ := aok_w ha hw
  obtain ⟨n, h⟩ := hp _ hq
  have e : aN ln A w = n := by unfold aN; rw [h.2.1, nI_clamp (by have := h.1; omega)]
  rw [e]; exact h
def isS (k s : Nat) (i : Nat) : Bool := decide (STR k s i = 1)
def isE (k s : Nat) (i : Nat) : Bool := decide (STR k s i = 2)
/-- the class's words -/
def CW (A : AP) (kinds : Nat → Int32) (spelled : Nat → Nat) : Prop := ∀ w, w < aW A → kinds w = nI (aKd A w) ∧ spelled w = aQ A w
theorem c_strong (hp : POOL L ln sy sn lt st) (ha : AOK L ln lt A) (hc : CW A kinds spelled) {w : Nat} (hw : w < aW A) : mX2_strongOnes L sy kinds spelled (nI w) = some (nI (msk (isS (aKd A w) (aSy ln lt A w)) (aSy ln lt A w))) := by
  obtain ⟨hn, h5, h1, hk, hq, h20⟩ := aok_w ha hw
  obtain ⟨hs1, hs4⟩ := aok_s ha hw
  obtain ⟨ek, es⟩ := hc w hw
  have hs : sy (aQ A w) = nI (aSy ln lt A w) := (pool_w hp ha hw).2.2.1
  have key : ∀ s, s < 5 → ∀ k, k < 6 → 1 ≤ k → 1 ≤ s → (if nI k = 1 then some ((1 : Int32) &&& (((1 : Int32) <<< ((nI s) &&& 31)) - (1 : Int32))) else (if nI k = 2 then some ((((1 : Int32) <<< ((nI s) &&& 31)) - (1 : Int32)) ^^^ ((((1 : Int32) <<< ((nI s) &&& 31)) - (1 : Int32)) >>> ((1 : Int32) &&& 31))) else (if nI k = 3 then some ((1431655765 : Int32) &&& (((1 : Int32) <<< ((nI s) &&& 31)) - (1 : Int32))) else some (0 : Int32)))) = some (nI (msk (isS k s) s)) := by decide
  unfold mX2_strongOnes mX2_strongOnes_b0
  rw [zn_cl (by omega), if_neg (by simp (disch := omega) only [↓reduceIte, Nat.reduceAdd, Nat.reduceMul, Nat.reduceSub, Nat.zero_add, zn_0, zn_1, zn_2, zn_3, zn_4, zn_5, zn_6, zn_7, zn_8, zn_9, zn_10, zn_16, zn_20, zn_23, zn_24, zn_25, zn_26, zn_40, zn_207, zn_4761, zn_99, zn_130, zn_lt_t, zn_lt_f, zn_le_t, zn_le_f, zn_eq_t, zn_eq_f, zn_ix, zn_cl, zq_le_f, zq_le_t, zq_lt_f, zq_lt_t, zn_add, zn_mul, zn_sub, or_false, false_or, or_self, true_or, or_true, and_true, true_and, and_false, false_and, not_true_eq_false, not_false_eq_true, if_true, if_false, os1, os2, os3, os4, os5, os6, os7, os8, os9, os10, os11, os12, os13, os14, os15, os16, os17, os18, os19, os20, os21, os22, os23, os24]), es, ek, if_neg (fun q => q hq), if_neg (by simp (disch := omega) only [↓reduceIte, Nat.reduceAdd, Nat.reduceMul, Nat.reduceSub, Nat.zero_add, zn_0, zn_1, zn_2, zn_3, zn_4, zn_5, zn_6, zn_7, zn_8, zn_9, zn_10, zn_16, zn_20, zn_23, zn_24, zn_25, zn_26, zn_40, zn_207, zn_4761, zn_99, zn_130, zn_lt_t, zn_lt_f, zn_le_t, zn_le_f, zn_eq_t, zn_eq_f, zn_ix, zn_cl, zq_le_f, zq_le_t, zq_lt_f, zq_lt_t, zn_add, zn_mul, zn_sub, or_false, false_or, or_self, true_or, or_true, and_true, true_and, and_false, false_and, not_true_eq_false, not_false_eq_true, if_true, if_false, os1, os2, os3, os4, os5, os6, os7, os8, os9, os10, os11, os12, os13, os14, os15, os16, os17, os18, os19, os20, os21, os22, os23, os24]), hs]
  exact key _ (by omega) _ (by omega) (by omega) (by omega)
theorem c_either (hp : POOL L ln sy sn lt st) (ha : AOK L ln lt A) (hc : CW A kinds spelled) {w : Nat} (hw : w < aW A) : mX2_eitherOnes L sy kinds spelled (nI w) = some (nI (msk (isE (aKd A w) (aSy ln lt A w)) (aSy ln lt A w))) := by
  obtain ⟨hn, h5, h1, hk, hq, h20⟩ := aok_w ha hw
  obtain ⟨hs1, hs4⟩ := aok_s ha hw
  obtain ⟨ek, es⟩ := hc w hw
  have hs : sy (aQ A w) = nI (aSy ln lt A w) := (pool_w hp ha hw).2.2.1
  have key : ∀ s, s < 5 → ∀ k, k < 6 → 1 ≤ k → 1 ≤ s → (if nI k = 4 then some (((1 : Int32) <<< ((nI s) &&& 31)) - (1 : Int32)) else some (0 : Int32)) = some (nI (msk (isE k s) s)) := by decide
  have hk2 := key _ (by omega) _ (by omega) hk.1 hs1
  unfold mX2_eitherOnes mX2_eitherOnes_b0
  have c1 : ¬ (nI w < 0 ∨ 20 ≤ w) := by simp (disch := omega) only [↓reduceIte, Nat.reduceAdd, Nat.reduceMul, Nat.reduceSub, Nat.zero_add, zn_0, zn_1, zn_2, zn_3, zn_4, zn_5, zn_6, zn_7, zn_8, zn_9, zn_10, zn_16, zn_20, zn_23, zn_24, zn_25, zn_26, zn_40, zn_207, zn_4761, zn_99, zn_130, zn_lt_t, zn_lt_f, zn_le_t, zn_le_f, zn_eq_t, zn_eq_f, zn_ix, zn_cl, zq_le_f, zq_le_t, zq_lt_f, zq_lt_t, zn_add, zn_mul, zn_sub, or_false, false_or, or_self, true_or, or_true, and_true, true_and, and_false, false_and, not_true_eq_false, not_false_eq_true, if_true, if_false, os1, os2, os3, os4, os5, os6, os7, os8, os9, os10, os11, os12, os13, os14, os15, os16, os17, os18, os19, os20, os21, os22, os23, os24]
  have c2 : ¬ ¬ (aQ A w ∈ L) := fun q => q hq
  rw [zn_cl (by omega), es, ek]
  simp only [if_neg c1, if_neg c2, hs]
  exact hk2
/-- the last strong syllable (the last one, if none is strong) -/
def LSy (k s : Nat) : Nat := if k = 1 then 0 else if k = 3 then (s - 1) / 2 * 2 else s - 1
theorem LSy_lt {k s : Nat} (h : 1 ≤ s) : LSy k s < s := by unfold LSy; (repeat' split) <;> omega
/-- where a run begins -/
def TP (f : Nat → Int32) (r : Nat) : Nat → Nat
  | 0 => 0
  | n + 1 => if RN f n = true ∧ RT f n = r then n else TP f r n
theorem TP_ok (f : Nat → Int32) (r : Nat) : ∀ n, r < RT f n → TP f r n < n ∧ RN f (TP f r n) = true ∧ RT f (TP f r n) = r
  | 0, h => by simp [RT] at h
  | n + 1, h => by
    unfold TP
    by_cases h1 : RN f n = true ∧ RT f n = r
    · rw [if_pos h1]; exact ⟨by omega, h1⟩
    · rw [if_neg h1]
      have h2 : r < RT f n := by
        rw [RT] at h
        by_cases h3 : RN f n = true
        · rw [if_pos h3] at h
          have : RT f n ≠ r := fun e => h1 ⟨h3, e⟩
          omega
        · rw [if_neg h3] at h; omega
      have := TP_ok f r n h2
      exact ⟨by omega, this.2⟩
theorem RT_mono (f : Nat → Int32) {a : Nat} : ∀ d, RT f a ≤ RT f (a + d)
  | 0 => Nat.le_refl _
  | d + 1 => by
    have := RT_mono f (a := a) d
    show _ ≤ RT f (a + d) + _
    omega
theorem RT_succ_of {f : Nat → Int32} {i : Nat} (h : RN f i = true) : RT f (i + 1) = RT f i + 1 := by rw [RT, if_pos h]
theorem RT_succ_no {f : Nat → Int32} {i : Nat} (h : RN f i = false) : RT f (i + 1) = RT f i := by
  rw [RT, if_neg (by rw [h]; decide), Nat.add_zero]
/-- where the tail of a word begins, how long it is -/
def aT (ln : Nat → Int32) (lt : Nat → Nat → Int32) (A : AP) (w : Nat) : Nat := TP (lt (aQ A w)) (LSy (aKd A w) (aSy ln lt A w)) (aN ln A w)
abbrev aD (ln : Nat → Int32) (lt : Nat → Nat → Int32) (A : AP) (w : Nat) : Nat := SN (lt (aQ A w)) (aN ln A w)
theorem SY_RT (f : Nat → Int32) (n : Nat) : SY f n ≤ RT f n := by unfold SY; split <;> omega
theorem aT_ok (ha : AOK L ln lt A) {w : Nat} (hw : w < aW A) : aT ln lt A w < aD ln lt A w ∧ aD ln lt A w ≤ aN ln A w ∧ RN (lt (aQ A w)) (aT ln lt A w) = true ∧ RT (lt (aQ A w)) (aT ln lt A w) = LSy (aKd A w) (aSy ln lt A w) := by
  obtain ⟨hn, h5, h1, hk, hq, h20⟩ := aok_w ha hw
  obtain ⟨hs1, hs4⟩ := aok_s ha hw
  have hl := LSy_lt (k := aKd A w) hs1
  have hr : aSy ln lt A w ≤ _ := SY_RT (lt (aQ A w)) (aN ln A w)
  obtain ⟨a, b, c⟩ := TP_ok (lt (aQ A w)) (LSy (aKd A w) (aSy ln lt A w)) (aN ln A w) (by omega)
  refine ⟨?_, ?_, b, c⟩
  · show TP _ _ _ < SN _ _
    unfold SN
    by_cases hm : ME (lt (aQ A w)) (aN ln A w) = true
    · rw [if_pos hm]
      have hs : aSy ln lt A w = RT (lt (aQ A w)) (aN ln A w) - 1 := by show SY _ _ = _; unfold SY; rw [if_pos hm]
      apply Nat.lt_of_le_of_ne (by omega)
      intro e
      rw [e] at c b
      have := RT_succ_of b
      rw [show aN ln A w - 1 + 1 = aN ln A w by omega] at this
      omega
    · rw [if_neg hm]; exact a
  · show SN _ _ ≤ _
    unfold SN; split <;> omega
theorem c_tailStart_loop (hp : POOL L ln sy sn lt st) (ha : AOK L ln lt A) {w : Nat} (hw : w < aW A) (p1 : Int32) : mX2_tailStart_b21 L sy st kinds spelled p1 FU (nI (msk (isS (aKd A w) (aSy ln lt A w)) (aSy ln lt A w))) (aQ A w) (nI (aSy ln lt A w) - 1) = some (nI (aT ln lt A w)) := by
  obtain ⟨hn, h5, h1, hk, hq, h20⟩ := aok_w ha hw
  obtain ⟨hs1, hs4⟩ := aok_s ha hw
  obtain ⟨g1, g2, g3, g4, g5⟩ := pool_w hp ha hw
  obtain ⟨t1, t2, t3, t4⟩ := aT_ok ha hw
  have hst := g5 _ (by omega : aT ln lt A w < aN ln A w) t3
  rw [t4] at hst
  obtain ⟨N, hN⟩ := FU_e
  rw [hN]
  have hs : sy (aQ A w) = nI (aSy ln lt A w) := g3
  generalize aSy ln lt A w = s at *
  generalize aKd A w = k at *
  have hk' : k = 1 ∨ k = 2 ∨ k = 3 ∨ k = 4 ∨ k = 5 := by omega
  have hs' : s = 1 ∨ s = 2 ∨ s = 3 ∨ s = 4 := by omega
  have key : ∀ k, k < 6 → ∀ s, s < 5 → 1 ≤ k → 1 ≤ s → msk (isS k s) s = if k = 1 then 1 else if k = 2 then 2 ^ (s - 1) else if k = 3 then (if s < 3 then 1 else 5) else 0 := by decide
  have hm := key k (by omega) s (by omega) hk.1 hs1
  have tt : ∀ a, a < 16 → ∀ b, b < 4 → ((nI a >>> (nI b &&& nI 31)) &&& (nI 1) = (nI 1)) = (a / 2 ^ b % 2 = 1) := by
    intro a ha b hb
    have h := B_test (nI a) (k := b) (by omega)
    rw [B_nI, Nat.testBit_eq_decide_div_mod_eq] at h
    rw [show (nI 31) = (31 : Int32) from rfl, show (nI 1) = (1 : Int32) from rfl, h]
    have : b < 32 := by omega
    simp [this]
  have z31 : (31 : Int32) = nI 31 := rfl
  rcases hk' with rfl | rfl | rfl | rfl | rfl <;> rcases hs' with rfl | rfl | rfl | rfl <;>
    simp [LSy] at hst <;> simp at hm <;>
    simp (disch := omega) only [↓reduceIte, Nat.reduceAdd, Nat.reduceMul, Nat.reduceSub, Nat.zero_add, zn_0, zn_1, zn_2, zn_3, zn_4, zn_5, zn_6, zn_7, zn_8, zn_9, zn_10, zn_16, zn_20, zn_23, zn_24, zn_25, zn_26, zn_40, zn_207, zn_4761, zn_99, zn_130, zn_lt_t, zn_lt_f, zn_le_t, zn_le_f, zn_eq_t, zn_eq_f, zn_ix, zn_cl, zq_le_f, zq_le_t, zq_lt_f, zq_lt_t, zn_add, zn_mul, zn_sub, or_false, false_or, or_self, true_or, or_true, and_true, true_and, and_false, false_and, not_true_eq_false, not_false_eq_true, if_true, if_false, os1, os2, os3, os4, os5, os6, os7, os8, os9, os10, os11, os12, os13, os14, os15, os16, os17, os18, os19, os20, os21, os22, os23, os24, mX2_tailStart_b21, mX2_tailStart_b54, hm, hq, hs, hst, z31, tt, zn_m1, Nat.reducePow, Nat.reduceDiv, Nat.reduceMod, Nat.reduceEqDiff]
end
