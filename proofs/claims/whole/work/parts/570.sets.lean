-- uses: 546.scan
/-! the sets of those that are either, one behind the other -/
theorem succ_bit : ∀ (k c : Nat), (c + 1).testBit k = (c.testBit k ^^ decide (c % 2 ^ k + 1 = 2 ^ k))
  | 0, c => by
    have h : c % 2 = 0 ∨ c % 2 = 1 := by omega
    rcases h with h | h
    · have h2 : (c + 1) % 2 = 1 := by omega
      simp [Nat.testBit_zero, h, h2, Nat.mod_one]
    · have h2 : (c + 1) % 2 = 0 := by omega
      simp [Nat.testBit_zero, h, h2, Nat.mod_one]
  | k + 1, c => by
    have hm : c % 2 ^ (k + 1) = c % 2 + 2 * (c / 2 % 2 ^ k) := by rw [Nat.pow_succ, Nat.mul_comm, Nat.mod_mul]
    have hp : 2 ^ (k + 1) = 2 * 2 ^ k := by rw [Nat.pow_succ, Nat.mul_comm]
    have hl : c / 2 % 2 ^ k < 2 ^ k := Nat.mod_lt _ (Nat.two_pow_pos k)
    rw [Nat.testBit_succ, Nat.testBit_succ, hm, hp]
    have h : c % 2 = 0 ∨ c % 2 = 1 := by omega
    rcases h with h | h
    · have e : (c + 1) / 2 = c / 2 := by omega
      have e2 : ¬ (c % 2 + 2 * (c / 2 % 2 ^ k) + 1 = 2 * 2 ^ k) := by omega
      rw [e]; simp [e2]
    · have e : (c + 1) / 2 = c / 2 + 1 := by omega
      rw [e, succ_bit k (c / 2)]
      by_cases e3 : c / 2 % 2 ^ k + 1 = 2 ^ k
      · have e2 : c % 2 + 2 * (c / 2 % 2 ^ k) + 1 = 2 * 2 ^ k := by omega
        simp [e2, e3]
      · have e2 : ¬ (c % 2 + 2 * (c / 2 % 2 ^ k) + 1 = 2 * 2 ^ k) := by omega
        simp [e2, e3]
theorem full_bit (k c : Nat) : (c % 2 ^ (k + 1) + 1 = 2 ^ (k + 1)) ↔ (c % 2 ^ k + 1 = 2 ^ k ∧ c.testBit k = true) := by
  have hm : c % 2 ^ (k + 1) = c % 2 ^ k + 2 ^ k * (c / 2 ^ k % 2) := by rw [Nat.pow_succ, Nat.mod_mul]
  have hp : 2 ^ (k + 1) = 2 ^ k + 2 ^ k := by rw [Nat.pow_succ]; omega
  have hl : c % 2 ^ k < 2 ^ k := Nat.mod_lt _ (Nat.two_pow_pos k)
  have h2 : c / 2 ^ k % 2 = 0 ∨ c / 2 ^ k % 2 = 1 := by omega
  rw [hm, hp, Nat.testBit_eq_decide_div_mod_eq]
  rcases h2 with h | h
  · rw [h]; simp; omega
  · rw [h]; simp; omega
def pdB (g : Nat → Bool) (c : Nat) (j : Nat) : Bool := g j && c.testBit (cnt g j)
theorem pd_next (g : Nat → Bool) (c : Nat) : ∀ s, ∃ r, r < 2 ^ s ∧ msk (pdB g c) s + 2 ^ s = r + (if c % 2 ^ cnt g s + 1 = 2 ^ cnt g s then 2 ^ s else 0) + msk g s ∧ ∀ j, j < s → g j = true → r.testBit j = (c + 1).testBit (cnt g j)
  | 0 => ⟨0, by simp, by simp [msk, cnt, Nat.mod_one], fun j hj => absurd hj (by omega)⟩
  | s + 1 => by
    obtain ⟨r, h1, h2, h3⟩ := pd_next g c s
    have hp : 2 ^ (s + 1) = 2 ^ s + 2 ^ s := by rw [Nat.pow_succ]; omega
    have e1 : msk (pdB g c) (s + 1) = msk (pdB g c) s + (if pdB g c s then 2 ^ s else 0) := rfl
    have e2 : msk g (s + 1) = msk g s + (if g s then 2 ^ s else 0) := rfl
    have hb : ∀ j, (r + 2 ^ s).testBit j = if j < s then r.testBit j else (1 : Nat).testBit (j - s) := by
      intro j
      rw [show r + 2 ^ s = 2 ^ s * 1 + r by omega, Nat.testBit_two_pow_mul_add _ h1]
    have hr : r.testBit s = false := Nat.testBit_lt_two_pow h1
    have hrs : (r + 2 ^ s).testBit s = true := by rw [hb s]; simp
    have keep : ∀ j, j < s → g j = true → (r + 2 ^ s).testBit j = (c + 1).testBit (cnt g j) := by
      intro j hj hg; rw [hb j, if_pos hj]; exact h3 j hj hg
    rw [e1, e2, hp]
    cases hg : g s
    · have ec : cnt g (s + 1) = cnt g s := by show cnt g s + (g s).toNat = _; rw [hg]; rfl
      have ep : pdB g c s = false := by unfold pdB; rw [hg]; rfl
      rw [ec, ep]
      simp only [Bool.false_eq_true, if_false, Nat.add_zero]
      by_cases hc : c % 2 ^ cnt g s + 1 = 2 ^ cnt g s
      · rw [if_pos hc] at h2
        refine ⟨r, by omega, by rw [if_pos hc]; omega, fun j hj hgj => ?_⟩
        by_cases e : j = s
        · subst e; rw [hg] at hgj; exact absurd hgj (by decide)
        · exact h3 j (by omega) hgj
      · rw [if_neg hc] at h2
        refine ⟨r + 2 ^ s, by omega, by rw [if_neg hc]; omega, fun j hj hgj => ?_⟩
        by_cases e : j = s
        · subst e; rw [hg] at hgj; exact absurd hgj (by decide)
        · exact keep j (by omega) hgj
    · have ec : cnt g (s + 1) = cnt g s + 1 := by show cnt g s + (g s).toNat = _; rw [hg]; rfl
      have ep : pdB g c s = c.testBit (cnt g s) := by unfold pdB; rw [hg]; rfl
      have hf := full_bit (cnt g s) c
      have hsb := succ_bit (cnt g s) c
      rw [ec, ep]
      simp only [if_true]
      cases hbt : c.testBit (cnt g s)
      · rw [hbt] at hf hsb
        have hnf : ¬ (c % 2 ^ (cnt g s + 1) + 1 = 2 ^ (cnt g s + 1)) := fun q => absurd (hf.mp q).2 (by decide)
        rw [if_neg hnf]
        simp only [Bool.false_eq_true, if_false, Nat.add_zero]
        by_cases hc : c % 2 ^ cnt g s + 1 = 2 ^ cnt g s
        · rw [if_pos hc] at h2
          refine ⟨r + 2 ^ s, by omega, by omega, fun j hj hgj => ?_⟩
          by_cases e : j = s
          · subst e; rw [hrs, hsb]; simp [hc]
          · exact keep j (by omega) hgj
        · rw [if_neg hc] at h2
          refine ⟨r, by omega, by omega, fun j hj hgj => ?_⟩
          by_cases e : j = s
          · subst e; rw [hr, hsb]; simp [hc]
          · exact h3 j (by omega) hgj
      · rw [hbt] at hf hsb
        simp only [if_true]
        by_cases hc : c % 2 ^ cnt g s + 1 = 2 ^ cnt g s
        · rw [if_pos hc] at h2
          rw [if_pos (hf.mpr ⟨hc, rfl⟩)]
          refine ⟨r, by omega, by omega, fun j hj hgj => ?_⟩
          by_cases e : j = s
          · subst e; rw [hr, hsb]; simp [hc]
          · exact h3 j (by omega) hgj
        · rw [if_neg hc] at h2
          have hnf : ¬ (c % 2 ^ (cnt g s + 1) + 1 = 2 ^ (cnt g s + 1)) := fun q => hc (hf.mp q).1
          rw [if_neg hnf]
          refine ⟨r + 2 ^ s, by omega, by omega, fun j hj hgj => ?_⟩
          by_cases e : j = s
          · subst e; rw [hrs, hsb]; simp [hc]
          · exact keep j (by omega) hgj
/-- the next set -/
theorem next_set (g : Nat → Bool) {c s : Nat} (hs : s ≤ 31) (hc : c + 1 < 2 ^ cnt g s) : (nI (msk (pdB g c) s) - nI (msk g s)) &&& nI (msk g s) = nI (msk (pdB g (c + 1)) s) := by
  obtain ⟨r, h1, h2, h3⟩ := pd_next g c s
  rw [if_neg (by rw [Nat.mod_eq_of_lt (by omega)]; omega), Nat.add_zero] at h2
  have hx : nI (msk (pdB g c) s) - nI (msk g s) = nI r - nI (2 ^ s) := by
    have e : nI (msk (pdB g c) s) + nI (2 ^ s) = nI r + nI (msk g s) := by rw [zn_add, zn_add, h2]
    have e2 : nI (msk (pdB g c) s) = nI r + nI (msk g s) - nI (2 ^ s) := by rw [← e, Int32.add_sub_cancel]
    rw [Int32.sub_eq_iff_eq_add, e2, Int32.sub_eq_add_neg, Int32.sub_eq_add_neg, Int32.add_assoc, Int32.add_assoc, Int32.add_comm (nI (msk g s))]
  apply B_of (by omega)
  intro j hj
  rw [B_and, B_msk g (by omega), hx]
  by_cases hjs : j < s
  · cases hg : g j
    · simp [hjs, pdB, hg]
    · have hb : B (nI r - nI (2 ^ s)) j = r.testBit j := by
        have hps : 2 ^ s ≤ 2 ^ 31 := Nat.pow_le_pow_right (by omega) hs
        have e : nI r - nI (2 ^ s) = nI (r + (2 ^ 32 - 2 ^ s)) := by
          have e1 : nI (r + (2 ^ 32 - 2 ^ s)) + nI (2 ^ s) = nI r := by
            rw [zn_add, show r + (2 ^ 32 - 2 ^ s) + 2 ^ s = r + 2 ^ 32 by omega, ← zn_add]
            have : nI (2 ^ 32) = 0 := by decide
            rw [this, Int32.add_zero]
          rw [← e1, Int32.add_sub_cancel]
        obtain ⟨q, hq⟩ : ∃ q, 2 ^ 32 - 2 ^ s = 2 ^ s * q := by
          refine ⟨2 ^ (32 - s) - 1, ?_⟩
          rw [Nat.mul_sub, Nat.mul_one, ← Nat.pow_add, show s + (32 - s) = 32 by omega]
        rw [e, hq, B_nI, show r + 2 ^ s * q = 2 ^ s * q + r by omega, Nat.testBit_two_pow_mul_add _ h1, if_pos hjs]
        simp [hj]
      rw [hb, h3 j hjs hg]
      simp [hjs, pdB, hg]
  · simp [hjs]
