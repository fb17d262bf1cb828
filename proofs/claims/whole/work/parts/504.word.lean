-- uses: 501.auto 502.abs 503.line
/-! words, by the reference -/
section
variable {L : List Nat} {ln sy sn : Nat → Int32} {lt st : Nat → Nat → Int32} {A : AP} {row : Nat → Int32}
def aN (ln : Nat → Int32) (A : AP) (w : Nat) : Nat := (ln (aQ A w)).toNatClampNeg
theorem aok_w (ha : AOK L ln lt A) {w : Nat} (hw : w < aW A) : (1 ≤ aN ln A w ∧ aN ln A w ≤ 8) ∧ ln (aQ A w) = nI (aN ln A w) ∧ 1 ≤ RT (lt (aQ A w)) (aN ln A w) ∧ (1 ≤ aKd A w ∧ aKd A w ≤ 5) ∧ aQ A w ∈ L ∧ w < 20 := by
  obtain ⟨-, -, c, -⟩ := aok_sz ha
  obtain ⟨h1, h2, n, h3, h4, h5, h6⟩ := ha.2.2.2.2.2.2 w hw
  have e : aN ln A w = n := by unfold aN; rw [h5, nI_clamp (by omega)]
  rw [e]
  exact ⟨⟨h3, h4⟩, h5, h6, h1, h2, by omega⟩
theorem r_kindOf (h : PR ln lt A row) (ha : AOK L ln lt A) {w : Nat} (hw : w < aW A) : mX7_kindOf row (nI w) = some (nI (aKd A w)) := by
  obtain ⟨-, -, -, -, -, hc⟩ := aok_w ha hw
  obtain ⟨h1, -, -⟩ := h.2.2.2.2 w hw
  unfold mX7_kindOf mX7_kindOf_b0
  simp (disch := omega) only [↓reduceIte, Nat.reduceAdd, Nat.reduceMul, Nat.reduceSub, Nat.zero_add, zn_0, zn_1, zn_2, zn_3, zn_4, zn_5, zn_6, zn_7, zn_8, zn_9, zn_10, zn_16, zn_20, zn_23, zn_24, zn_25, zn_26, zn_40, zn_207, zn_4761, zn_99, zn_130, zn_lt_t, zn_lt_f, zn_le_t, zn_le_f, zn_eq_t, zn_eq_f, zn_ix, zn_cl, zq_le_f, zq_le_t, zq_lt_f, zq_lt_t, zn_add, zn_mul, zn_sub, or_false, false_or, or_self, true_or, or_true, and_true, true_and, and_false, false_and, not_true_eq_false, not_false_eq_true, if_true, if_false, os1, os2, os3, os4, os5, os6, os7, os8, os9, os10, os11, os12, os13, os14, os15, os16, os17, os18, os19, os20, os21, os22, os23, os24, h1]
theorem r_size (h : PR ln lt A row) (ha : AOK L ln lt A) {w : Nat} (hw : w < aW A) : mX7_sizeOfWord row (nI w) = some (nI (aN ln A w)) := by
  obtain ⟨-, h5, -, -, -, hc⟩ := aok_w ha hw
  obtain ⟨-, h1, -⟩ := h.2.2.2.2 w hw
  unfold mX7_sizeOfWord mX7_sizeOfWord_b0
  simp (disch := omega) only [↓reduceIte, Nat.reduceAdd, Nat.reduceMul, Nat.reduceSub, Nat.zero_add, zn_0, zn_1, zn_2, zn_3, zn_4, zn_5, zn_6, zn_7, zn_8, zn_9, zn_10, zn_16, zn_20, zn_23, zn_24, zn_25, zn_26, zn_40, zn_207, zn_4761, zn_99, zn_130, zn_lt_t, zn_lt_f, zn_le_t, zn_le_f, zn_eq_t, zn_eq_f, zn_ix, zn_cl, zq_le_f, zq_le_t, zq_lt_f, zq_lt_t, zn_add, zn_mul, zn_sub, or_false, false_or, or_self, true_or, or_true, and_true, true_and, and_false, false_and, not_true_eq_false, not_false_eq_true, if_true, if_false, os1, os2, os3, os4, os5, os6, os7, os8, os9, os10, os11, os12, os13, os14, os15, os16, os17, os18, os19, os20, os21, os22, os23, os24]
  rw [show 7 + 10 * w + 1 = 8 + 10 * w by omega, h1, h5]
theorem r_letter (h : PR ln lt A row) (ha : AOK L ln lt A) {w : Nat} (hw : w < aW A) {i : Nat} (hi : i < aN ln A w) : mX7_letterOf row (nI w) (nI i) = some (lt (aQ A w) i) := by
  obtain ⟨hn, h5, -, -, -, hc⟩ := aok_w ha hw
  obtain ⟨-, -, h1⟩ := h.2.2.2.2 w hw
  have h2 := h1 i (by omega) (by rw [h5]; exact nI_lt hi (by omega))
  unfold mX7_letterOf mX7_letterOf_b0
  simp (disch := omega) only [↓reduceIte, Nat.reduceAdd, Nat.reduceMul, Nat.reduceSub, Nat.zero_add, zn_0, zn_1, zn_2, zn_3, zn_4, zn_5, zn_6, zn_7, zn_8, zn_9, zn_10, zn_16, zn_20, zn_23, zn_24, zn_25, zn_26, zn_40, zn_207, zn_4761, zn_99, zn_130, zn_lt_t, zn_lt_f, zn_le_t, zn_le_f, zn_eq_t, zn_eq_f, zn_ix, zn_cl, zq_le_f, zq_le_t, zq_lt_f, zq_lt_t, zn_add, zn_mul, zn_sub, or_false, false_or, or_self, true_or, or_true, and_true, true_and, and_false, false_and, not_true_eq_false, not_false_eq_true, if_true, if_false, os1, os2, os3, os4, os5, os6, os7, os8, os9, os10, os11, os12, os13, os14, os15, os16, os17, os18, os19, os20, os21, os22, os23, os24]
  rw [show 7 + 10 * w + 2 + i = 9 + 10 * w + i by omega, h2]
theorem r_vowel (c : Int32) : mX7_isVowel c = some (b2i (VW c)) := by
  unfold mX7_isVowel mX7_isVowel_b0 VW
  by_cases h0 : c = 0
  · subst h0; rfl
  by_cases h1 : c = 4
  · subst h1; rfl
  by_cases h2 : c = 8
  · subst h2; rfl
  by_cases h3 : c = 14
  · subst h3; rfl
  by_cases h4 : c = 20
  · subst h4; rfl
  simp [h0, h1, h2, h3, h4, b2i]
theorem c_vowel (c : Int32) : mX6_isVowel c = some (b2i (VW c)) := by
  unfold mX6_isVowel mX6_isVowel_b0
  rcases zn_cases c with ⟨r, h1, rfl⟩ | ⟨h1, h2⟩
  · by_cases hr : r < 26
    · have key : ∀ r : Nat, r < 26 → (if nI r < 0 then some (0 : Int32) else (if (26 : Int32) ≤ nI r then some (0 : Int32) else (if (((1065233 : Int32) >>> (nI r &&& 31)) &&& (1 : Int32)) = (1 : Int32) then some (1 : Int32) else some (0 : Int32)))) = some (b2i (VW (nI r))) := by decide
      exact key r hr
    · have e : VW (nI r) = false := by
        unfold VW
        simp (disch := omega) only [zn_0, zn_4, zn_8, show (14 : Int32) = nI 14 from rfl, show (20 : Int32) = nI 20 from rfl, zn_eq_f]
        rfl
      simp (disch := omega) only [↓reduceIte, Nat.reduceAdd, Nat.reduceMul, Nat.reduceSub, Nat.zero_add, zn_0, zn_1, zn_2, zn_3, zn_4, zn_5, zn_6, zn_7, zn_8, zn_9, zn_10, zn_16, zn_20, zn_23, zn_24, zn_25, zn_26, zn_40, zn_207, zn_4761, zn_99, zn_130, zn_lt_t, zn_lt_f, zn_le_t, zn_le_f, zn_eq_t, zn_eq_f, zn_ix, zn_cl, zq_le_f, zq_le_t, zq_lt_f, zq_lt_t, zn_add, zn_mul, zn_sub, or_false, false_or, or_self, true_or, or_true, and_true, true_and, and_false, false_and, not_true_eq_false, not_false_eq_true, if_true, if_false, os1, os2, os3, os4, os5, os6, os7, os8, os9, os10, os11, os12, os13, os14, os15, os16, os17, os18, os19, os20, os21, os22, os23, os24, e, b2i_f]
  · have e : VW c = false := by
      unfold VW
      have e0 : (0 : Int32).toInt = 0 := rfl
      have e4 : (4 : Int32).toInt = 4 := rfl
      have e8 : (8 : Int32).toInt = 8 := rfl
      have e14 : (14 : Int32).toInt = 14 := rfl
      have e20 : (20 : Int32).toInt = 20 := rfl
      have n0 : ¬ c = 0 := by rw [i32_eq]; omega
      have n4 : ¬ c = 4 := by rw [i32_eq]; omega
      have n8 : ¬ c = 8 := by rw [i32_eq]; omega
      have n14 : ¬ c = 14 := by rw [i32_eq]; omega
      have n20 : ¬ c = 20 := by rw [i32_eq]; omega
      simp [n0, n4, n8, n14, n20]
    rw [if_pos h1, e]; rfl
theorem r_isRun (h : PR ln lt A row) (ha : AOK L ln lt A) {w : Nat} (hw : w < aW A) {i : Nat} (hi : i < aN ln A w) : mX7_isRun row (nI w) (nI i) = some (b2i (RN (lt (aQ A w)) i)) := by
  obtain ⟨hn, -, -, -, -, hc⟩ := aok_w ha hw
  unfold mX7_isRun mX7_isRun_b0 RN
  rw [r_letter h ha hw hi, os1, r_vowel, os1]
  cases h1 : VW (lt (aQ A w) i)
  · rfl
  · by_cases h0 : i = 0
    · subst h0; rfl
    · rw [b2i_t]
      simp (disch := omega) only [↓reduceIte, Nat.reduceAdd, Nat.reduceMul, Nat.reduceSub, Nat.zero_add, zn_0, zn_1, zn_2, zn_3, zn_4, zn_5, zn_6, zn_7, zn_8, zn_9, zn_10, zn_16, zn_20, zn_23, zn_24, zn_25, zn_26, zn_40, zn_207, zn_4761, zn_99, zn_130, zn_lt_t, zn_lt_f, zn_le_t, zn_le_f, zn_eq_t, zn_eq_f, zn_ix, zn_cl, zq_le_f, zq_le_t, zq_lt_f, zq_lt_t, zn_add, zn_mul, zn_sub, or_false, false_or, or_self, true_or, or_true, and_true, true_and, and_false, false_and, not_true_eq_false, not_false_eq_true, if_true, if_false, os1, os2, os3, os4, os5, os6, os7, os8, os9, os10, os11, os12, os13, os14, os15, os16, os17, os18, os19, os20, os21, os22, os23, os24]
      rw [r_letter h ha hw (by omega : i - 1 < _), os1, r_vowel, os1]
      cases h2 : VW (lt (aQ A w) (i - 1))
      · simp [b2i, h0, nI]
      · simp [b2i, h0, nI]
theorem RT_le (f : Nat → Int32) : ∀ n, RT f n ≤ n
  | 0 => Nat.le_refl 0
  | n + 1 => by
    have := RT_le f n
    unfold RT
    split <;> omega
theorem r_runs_loop (h : PR ln lt A row) (ha : AOK L ln lt A) {w : Nat} (hw : w < aW A) : ∀ (d k : Nat), k + d = aN ln A w → ∀ n, d < n → mX7_runs_b4 row (nI w) n (nI (RT (lt (aQ A w)) k)) (nI k) = some (nI (RT (lt (aQ A w)) (aN ln A w)))
  | _, _, _, 0, hn => absurd hn (by omega)
  | 0, k, hk, n + 1, _ => by
    obtain ⟨hN, -, -, -, -, hc⟩ := aok_w ha hw
    rw [mX7_runs_b4, r_size h ha hw, os1, show k = aN ln A w by omega]
    simp (disch := omega) only [↓reduceIte, Nat.reduceAdd, Nat.reduceMul, Nat.reduceSub, Nat.zero_add, zn_0, zn_1, zn_2, zn_3, zn_4, zn_5, zn_6, zn_7, zn_8, zn_9, zn_10, zn_16, zn_20, zn_23, zn_24, zn_25, zn_26, zn_40, zn_207, zn_4761, zn_99, zn_130, zn_lt_t, zn_lt_f, zn_le_t, zn_le_f, zn_eq_t, zn_eq_f, zn_ix, zn_cl, zq_le_f, zq_le_t, zq_lt_f, zq_lt_t, zn_add, zn_mul, zn_sub, or_false, false_or, or_self, true_or, or_true, and_true, true_and, and_false, false_and, not_true_eq_false, not_false_eq_true, if_true, if_false, os1, os2, os3, os4, os5, os6, os7, os8, os9, os10, os11, os12, os13, os14, os15, os16, os17, os18, os19, os20, os21, os22, os23, os24]
  | d + 1, k, hk, n + 1, hn => by
    obtain ⟨hN, -, -, -, -, hc⟩ := aok_w ha hw
    have ih := r_runs_loop h ha hw d (k + 1) (by omega) n (by omega)
    rw [mX7_runs_b4, r_size h ha hw, os1, r_isRun h ha hw (by omega : k < _)]
    rw [RT] at ih
    cases hb : RN (lt (aQ A w)) k
    · rw [b2i_f]
      simp (disch := omega) only [↓reduceIte, Nat.reduceAdd, Nat.reduceMul, Nat.reduceSub, Nat.zero_add, zn_0, zn_1, zn_2, zn_3, zn_4, zn_5, zn_6, zn_7, zn_8, zn_9, zn_10, zn_16, zn_20, zn_23, zn_24, zn_25, zn_26, zn_40, zn_207, zn_4761, zn_99, zn_130, zn_lt_t, zn_lt_f, zn_le_t, zn_le_f, zn_eq_t, zn_eq_f, zn_ix, zn_cl, zq_le_f, zq_le_t, zq_lt_f, zq_lt_t, zn_add, zn_mul, zn_sub, or_false, false_or, or_self, true_or, or_true, and_true, true_and, and_false, false_and, not_true_eq_false, not_false_eq_true, if_true, if_false, os1, os2, os3, os4, os5, os6, os7, os8, os9, os10, os11, os12, os13, os14, os15, os16, os17, os18, os19, os20, os21, os22, os23, os24]
      simp only [hb, Bool.false_eq_true, if_false] at ih
      exact ih
    · rw [b2i_t]
      simp (disch := omega) only [↓reduceIte, Nat.reduceAdd, Nat.reduceMul, Nat.reduceSub, Nat.zero_add, zn_0, zn_1, zn_2, zn_3, zn_4, zn_5, zn_6, zn_7, zn_8, zn_9, zn_10, zn_16, zn_20, zn_23, zn_24, zn_25, zn_26, zn_40, zn_207, zn_4761, zn_99, zn_130, zn_lt_t, zn_lt_f, zn_le_t, zn_le_f, zn_eq_t, zn_eq_f, zn_ix, zn_cl, zq_le_f, zq_le_t, zq_lt_f, zq_lt_t, zn_add, zn_mul, zn_sub, or_false, false_or, or_self, true_or, or_true, and_true, true_and, and_false, false_and, not_true_eq_false, not_false_eq_true, if_true, if_false, os1, os2, os3, os4, os5, os6, os7, os8, os9, os10, os11, os12, os13, os14, os15, os16, os17, os18, os19, os20, os21, os22, os23, os24]
      simp only [hb, if_true] at ih
      exact ih
theorem r_runs (h : PR ln lt A row) (ha : AOK L ln lt A) {w : Nat} (hw : w < aW A) : mX7_runs row (nI w) = some (nI (RT (lt (aQ A w)) (aN ln A w))) := by
  obtain ⟨hN, -, -, -, -, hc⟩ := aok_w ha hw
  have := r_runs_loop h ha hw (aN ln A w) 0 (by omega) FU (zn_fu (by omega))
  exact this
theorem r_mute (h : PR ln lt A row) (ha : AOK L ln lt A) {w : Nat} (hw : w < aW A) : mX7_isMuteEnd row (nI w) = some (b2i (ME (lt (aQ A w)) (aN ln A w))) := by
  obtain ⟨hN, -, -, -, -, hc⟩ := aok_w ha hw
  have hr := RT_le (lt (aQ A w)) (aN ln A w)
  unfold mX7_isMuteEnd mX7_isMuteEnd_b0 ME
  rw [r_size h ha hw, os1]
  have e : nI (aN ln A w) - 1 = nI (aN ln A w - 1) := by rw [zn_1, zn_sub (by omega)]
  rw [e, r_letter h ha hw (by omega : aN ln A w - 1 < _), os1]
  by_cases h4 : lt (aQ A w) (aN ln A w - 1) = 4
  · rw [if_pos h4, r_isRun h ha hw (by omega : aN ln A w - 1 < _), os1]
    cases hb : RN (lt (aQ A w)) (aN ln A w - 1)
    · simp [h4, b2i]
    · rw [r_runs h ha hw, os1, b2i_t]
      by_cases h1 : 1 < RT (lt (aQ A w)) (aN ln A w)
      · simp (disch := omega) only [↓reduceIte, Nat.reduceAdd, Nat.reduceMul, Nat.reduceSub, Nat.zero_add, zn_0, zn_1, zn_2, zn_3, zn_4, zn_5, zn_6, zn_7, zn_8, zn_9, zn_10, zn_16, zn_20, zn_23, zn_24, zn_25, zn_26, zn_40, zn_207, zn_4761, zn_99, zn_130, zn_lt_t, zn_lt_f, zn_le_t, zn_le_f, zn_eq_t, zn_eq_f, zn_ix, zn_cl, zq_le_f, zq_le_t, zq_lt_f, zq_lt_t, zn_add, zn_mul, zn_sub, or_false, false_or, or_self, true_or, or_true, and_true, true_and, and_false, false_and, not_true_eq_false, not_false_eq_true, if_true, if_false, os1, os2, os3, os4, os5, os6, os7, os8, os9, os10, os11, os12, os13, os14, os15, os16, os17, os18, os19, os20, os21, os22, os23, os24]
        simp [h1, h4, b2i, nI]
      · simp (disch := omega) only [↓reduceIte, Nat.reduceAdd, Nat.reduceMul, Nat.reduceSub, Nat.zero_add, zn_0, zn_1, zn_2, zn_3, zn_4, zn_5, zn_6, zn_7, zn_8, zn_9, zn_10, zn_16, zn_20, zn_23, zn_24, zn_25, zn_26, zn_40, zn_207, zn_4761, zn_99, zn_130, zn_lt_t, zn_lt_f, zn_le_t, zn_le_f, zn_eq_t, zn_eq_f, zn_ix, zn_cl, zq_le_f, zq_le_t, zq_lt_f, zq_lt_t, zn_add, zn_mul, zn_sub, or_false, false_or, or_self, true_or, or_true, and_true, true_and, and_false, false_and, not_true_eq_false, not_false_eq_true, if_true, if_false, os1, os2, os3, os4, os5, os6, os7, os8, os9, os10, os11, os12, os13, os14, os15, os16, os17, os18, os19, os20, os21, os22, os23, os24]
        simp [h1, h4, b2i, nI]
  · rw [if_neg h4]
    simp [h4, b2i]
theorem SY_le (f : Nat → Int32) (n : Nat) : SY f n ≤ n := by
  have := RT_le f n
  unfold SY
  split <;> omega
abbrev aSy (ln : Nat → Int32) (lt : Nat → Nat → Int32) (A : AP) (w : Nat) : Nat := SY (lt (aQ A w)) (aN ln A w)
theorem r_syll (h : PR ln lt A row) (ha : AOK L ln lt A) {w : Nat} (hw : w < aW A) : mX7_syllables row (nI w) = some (nI (aSy ln lt A w)) := by
  obtain ⟨hN, -, h1, -, -, hc⟩ := aok_w ha hw
  unfold aSy mX7_syllables mX7_syllables_b0 SY
  rw [r_runs h ha hw, os1, r_mute h ha hw, os1]
  cases hb : ME (lt (aQ A w)) (aN ln A w)
  · rw [b2i_f]
    simp (disch := omega) only [↓reduceIte, Nat.reduceAdd, Nat.reduceMul, Nat.reduceSub, Nat.zero_add, zn_0, zn_1, zn_2, zn_3, zn_4, zn_5, zn_6, zn_7, zn_8, zn_9, zn_10, zn_16, zn_20, zn_23, zn_24, zn_25, zn_26, zn_40, zn_207, zn_4761, zn_99, zn_130, zn_lt_t, zn_lt_f, zn_le_t, zn_le_f, zn_eq_t, zn_eq_f, zn_ix, zn_cl, zq_le_f, zq_le_t, zq_lt_f, zq_lt_t, zn_add, zn_mul, zn_sub, or_false, false_or, or_self, true_or, or_true, and_true, true_and, and_false, false_and, not_true_eq_false, not_false_eq_true, if_true, if_false, os1, os2, os3, os4, os5, os6, os7, os8, os9, os10, os11, os12, os13, os14, os15, os16, os17, os18, os19, os20, os21, os22, os23, os24, Bool.false_eq_true, Nat.sub_zero]
  · rw [b2i_t]
    simp (disch := omega) only [↓reduceIte, Nat.reduceAdd, Nat.reduceMul, Nat.reduceSub, Nat.zero_add, zn_0, zn_1, zn_2, zn_3, zn_4, zn_5, zn_6, zn_7, zn_8, zn_9, zn_10, zn_16, zn_20, zn_23, zn_24, zn_25, zn_26, zn_40, zn_207, zn_4761, zn_99, zn_130, zn_lt_t, zn_lt_f, zn_le_t, zn_le_f, zn_eq_t, zn_eq_f, zn_ix, zn_cl, zq_le_f, zq_le_t, zq_lt_f, zq_lt_t, zn_add, zn_mul, zn_sub, or_false, false_or, or_self, true_or, or_true, and_true, true_and, and_false, false_and, not_true_eq_false, not_false_eq_true, if_true, if_false, os1, os2, os3, os4, os5, os6, os7, os8, os9, os10, os11, os12, os13, os14, os15, os16, os17, os18, os19, os20, os21, os22, os23, os24]
/-- how strong a syllable is: 0 weak, 1 strong, 2 either -/
def STR (k s i : Nat) : Nat := if k = 1 then (if i = 0 then 1 else 0) else if k = 2 then (if i + 1 = s then 1 else 0) else if k = 3 then (if i % 2 = 0 then 1 else 0) else if k = 4 then 2 else 0
theorem STR_le (k s i : Nat) : STR k s i ≤ 2 := by unfold STR; (repeat' split) <;> omega
theorem r_strength (h : PR ln lt A row) (ha : AOK L ln lt A) {w : Nat} (hw : w < aW A) {i : Nat} (hi : i < 100) : mX7_strength row (nI w) (nI i) = some (nI (STR (aKd A w) (aSy ln lt A w) i)) := by
  obtain ⟨hN, -, h1, hk, -, hc⟩ := aok_w ha hw
  have hs := SY_le (lt (aQ A w)) (aN ln A w)
  have hs1 : 1 ≤ SY (lt (aQ A w)) (aN ln A w) := by
    unfold SY ME; split
    · simp at *; omega
    · omega
  unfold aSy mX7_strength mX7_strength_b0
  rw [r_kindOf h ha hw, os1]
  have hk' : aKd A w = 1 ∨ aKd A w = 2 ∨ aKd A w = 3 ∨ aKd A w = 4 ∨ aKd A w = 5 := by omega
  rcases hk' with e | e | e | e | e <;> rw [e]
  · by_cases h0 : i = 0
    · subst h0; rfl
    · simp (disch := omega) only [↓reduceIte, Nat.reduceAdd, Nat.reduceMul, Nat.reduceSub, Nat.zero_add, zn_0, zn_1, zn_2, zn_3, zn_4, zn_5, zn_6, zn_7, zn_8, zn_9, zn_10, zn_16, zn_20, zn_23, zn_24, zn_25, zn_26, zn_40, zn_207, zn_4761, zn_99, zn_130, zn_lt_t, zn_lt_f, zn_le_t, zn_le_f, zn_eq_t, zn_eq_f, zn_ix, zn_cl, zq_le_f, zq_le_t, zq_lt_f, zq_lt_t, zn_add, zn_mul, zn_sub, or_false, false_or, or_self, true_or, or_true, and_true, true_and, and_false, false_and, not_true_eq_false, not_false_eq_true, if_true, if_false, os1, os2, os3, os4, os5, os6, os7, os8, os9, os10, os11, os12, os13, os14, os15, os16, os17, os18, os19, os20, os21, os22, os23, os24]
      simp [STR, h0]
  · rw [r_syll h ha hw, os1]
    unfold aSy
    by_cases h0 : i + 1 = SY (lt (aQ A w)) (aN ln A w)
    · simp (disch := omega) only [↓reduceIte, Nat.reduceAdd, Nat.reduceMul, Nat.reduceSub, Nat.zero_add, zn_0, zn_1, zn_2, zn_3, zn_4, zn_5, zn_6, zn_7, zn_8, zn_9, zn_10, zn_16, zn_20, zn_23, zn_24, zn_25, zn_26, zn_40, zn_207, zn_4761, zn_99, zn_130, zn_lt_t, zn_lt_f, zn_le_t, zn_le_f, zn_eq_t, zn_eq_f, zn_ix, zn_cl, zq_le_f, zq_le_t, zq_lt_f, zq_lt_t, zn_add, zn_mul, zn_sub, or_false, false_or, or_self, true_or, or_true, and_true, true_and, and_false, false_and, not_true_eq_false, not_false_eq_true, if_true, if_false, os1, os2, os3, os4, os5, os6, os7, os8, os9, os10, os11, os12, os13, os14, os15, os16, os17, os18, os19, os20, os21, os22, os23, os24]
      simp [STR, h0]
    · simp (disch := omega) only [↓reduceIte, Nat.reduceAdd, Nat.reduceMul, Nat.reduceSub, Nat.zero_add, zn_0, zn_1, zn_2, zn_3, zn_4, zn_5, zn_6, zn_7, zn_8, zn_9, zn_10, zn_16, zn_20, zn_23, zn_24, zn_25, zn_26, zn_40, zn_207, zn_4761, zn_99, zn_130, zn_lt_t, zn_lt_f, zn_le_t, zn_le_f, zn_eq_t, zn_eq_f, zn_ix, zn_cl, zq_le_f, zq_le_t, zq_lt_f, zq_lt_t, zn_add, zn_mul, zn_sub, or_false, false_or, or_self, true_or, or_true, and_true, true_and, and_false, false_and, not_true_eq_false, not_false_eq_true, if_true, if_false, os1, os2, os3, os4, os5, os6, os7, os8, os9, os10, os11, os12, os13, os14, os15, os16, os17, os18, os19, os20, os21, os22, os23, os24]
      simp [STR, h0]
  · have hm : nI i - nI i / (2 : Int32) * (2 : Int32) = nI (i % 2) := pk_rem (d := 2) (by omega) (by omega) (by omega)
    rw [hm]
    by_cases h0 : i % 2 = 0
    · simp (disch := omega) only [↓reduceIte, Nat.reduceAdd, Nat.reduceMul, Nat.reduceSub, Nat.zero_add, zn_0, zn_1, zn_2, zn_3, zn_4, zn_5, zn_6, zn_7, zn_8, zn_9, zn_10, zn_16, zn_20, zn_23, zn_24, zn_25, zn_26, zn_40, zn_207, zn_4761, zn_99, zn_130, zn_lt_t, zn_lt_f, zn_le_t, zn_le_f, zn_eq_t, zn_eq_f, zn_ix, zn_cl, zq_le_f, zq_le_t, zq_lt_f, zq_lt_t, zn_add, zn_mul, zn_sub, or_false, false_or, or_self, true_or, or_true, and_true, true_and, and_false, false_and, not_true_eq_false, not_false_eq_true, if_true, if_false, os1, os2, os3, os4, os5, os6, os7, os8, os9, os10, os11, os12, os13, os14, os15, os16, os17, os18, os19, os20, os21, os22, os23, os24]
      simp [STR, h0]
    · simp (disch := omega) only [↓reduceIte, Nat.reduceAdd, Nat.reduceMul, Nat.reduceSub, Nat.zero_add, zn_0, zn_1, zn_2, zn_3, zn_4, zn_5, zn_6, zn_7, zn_8, zn_9, zn_10, zn_16, zn_20, zn_23, zn_24, zn_25, zn_26, zn_40, zn_207, zn_4761, zn_99, zn_130, zn_lt_t, zn_lt_f, zn_le_t, zn_le_f, zn_eq_t, zn_eq_f, zn_ix, zn_cl, zq_le_f, zq_le_t, zq_lt_f, zq_lt_t, zn_add, zn_mul, zn_sub, or_false, false_or, or_self, true_or, or_true, and_true, true_and, and_false, false_and, not_true_eq_false, not_false_eq_true, if_true, if_false, os1, os2, os3, os4, os5, os6, os7, os8, os9, os10, os11, os12, os13, os14, os15, os16, os17, os18, os19, os20, os21, os22, os23, os24]
      simp [STR, h0]
  · rfl
  · rfl
end
