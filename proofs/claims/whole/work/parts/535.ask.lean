-- uses: 501.auto 502.abs 503.line 504.word 505.bits 507.tail 508.alike 509.lines
/-! ask -/
theorem lv6 {k : Nat} (hk : k < 16) (f : Nat → Int32) (b : Int32) : mX6_leave (nI k) f b = some (nI (k + 1), upd f k b) := by
  unfold mX6_leave mX6_leave_b0
  simp (disch := omega) only [↓reduceIte, Nat.reduceAdd, Nat.reduceMul, Nat.reduceSub, Nat.zero_add, zn_0, zn_1, zn_2, zn_3, zn_4, zn_5, zn_6, zn_7, zn_8, zn_9, zn_10, zn_16, zn_20, zn_23, zn_24, zn_25, zn_26, zn_40, zn_207, zn_4761, zn_99, zn_130, zn_lt_t, zn_lt_f, zn_le_t, zn_le_f, zn_eq_t, zn_eq_f, zn_ix, zn_cl, zq_le_f, zq_le_t, zq_lt_f, zq_lt_t, zn_add, zn_mul, zn_sub, or_false, false_or, or_self, true_or, or_true, and_true, true_and, and_false, false_and, not_true_eq_false, not_false_eq_true, if_true, if_false, os1, os2, os3, os4, os5, os6, os7, os8, os9, os10, os11, os12, os13, os14, os15, os16, os17, os18, os19, os20, os21, os22, os23, os24]
theorem bg7 {k : Nat} (hk : k < 16) (f : Nat → Int32) (b : Int32) : mX7_began (nI k) f b = some (nI (k + 1), upd f k b) := by
  unfold mX7_began mX7_began_b0
  simp (disch := omega) only [↓reduceIte, Nat.reduceAdd, Nat.reduceMul, Nat.reduceSub, Nat.zero_add, zn_0, zn_1, zn_2, zn_3, zn_4, zn_5, zn_6, zn_7, zn_8, zn_9, zn_10, zn_16, zn_20, zn_23, zn_24, zn_25, zn_26, zn_40, zn_207, zn_4761, zn_99, zn_130, zn_lt_t, zn_lt_f, zn_le_t, zn_le_f, zn_eq_t, zn_eq_f, zn_ix, zn_cl, zq_le_f, zq_le_t, zq_lt_f, zq_lt_t, zn_add, zn_mul, zn_sub, or_false, false_or, or_self, true_or, or_true, and_true, true_and, and_false, false_and, not_true_eq_false, not_false_eq_true, if_true, if_false, os1, os2, os3, os4, os5, os6, os7, os8, os9, os10, os11, os12, os13, os14, os15, os16, os17, os18, os19, os20, os21, os22, os23, os24]
theorem bod6 : ∀ k, k < 6 → mX6_bodyOf (nI k) 0 = some (sT5 k) ∧ mX6_bodyOf (nI k) 1 = some (sT6 k) := by decide
section
variable {L : List Nat} {ln sy sn : Nat → Int32} {lt st : Nat → Nat → Int32} {A : AP} {row : Nat → Int32} {kinds sizes : Nat → Int32} {spelled : Nat → Nat}
theorem an10 (hp : POOL L ln sy sn lt st) (ha : AOK L ln lt A) (hc : CW A kinds spelled) {w : Nat} (hw : w < aW A) {k d : Nat} (f : Nat → Int32) (hk : k < 16) (hd : d ≤ 10) : ∀ N, 0 < N → mX6_answerOf L ln sy (nI (aW A)) kinds spelled N (nI k) f 10 (nI w) (nI d) = some (nI (aN ln A w), nI (k + 1), (upd f (k) 10))
  | 0, h => absurd h (by omega)
  | N + 1, h => by
    obtain ⟨-, -, w20, -⟩ := aok_sz ha
    obtain ⟨hN, l1, hr1, hkd, hq, h20⟩ := aok_w ha hw
    obtain ⟨ek, es⟩ := hc w hw
    have hsy : sy (aQ A w) = nI (aSy ln lt A w) := (pool_w hp ha hw).2.2.1
    have hw6 : mX2_hasWord (nI (aW A)) (nI w) = some 1 := c_hw_t hw (by omega)
    have c1' : ¬ (nI w < 0 ∨ 20 ≤ w) := by simp (disch := omega) only [↓reduceIte, Nat.reduceAdd, Nat.reduceMul, Nat.reduceSub, Nat.zero_add, zn_0, zn_1, zn_2, zn_3, zn_4, zn_5, zn_6, zn_7, zn_8, zn_9, zn_10, zn_16, zn_20, zn_23, zn_24, zn_25, zn_26, zn_40, zn_207, zn_4761, zn_99, zn_130, zn_lt_t, zn_lt_f, zn_le_t, zn_le_f, zn_eq_t, zn_eq_f, zn_ix, zn_cl, zq_le_f, zq_le_t, zq_lt_f, zq_lt_t, zn_add, zn_mul, zn_sub, or_false, false_or, or_self, true_or, or_true, and_true, true_and, and_false, false_and, not_true_eq_false, not_false_eq_true, if_true, if_false, os1, os2, os3, os4, os5, os6, os7, os8, os9, os10, os11, os12, os13, os14, os15, os16, os17, os18, os19, os20, os21, os22, os23, os24]
    have hd' : ¬ (10 : Int32) < nI d := by simp (disch := omega) only [↓reduceIte, Nat.reduceAdd, Nat.reduceMul, Nat.reduceSub, Nat.zero_add, zn_0, zn_1, zn_2, zn_3, zn_4, zn_5, zn_6, zn_7, zn_8, zn_9, zn_10, zn_16, zn_20, zn_23, zn_24, zn_25, zn_26, zn_40, zn_207, zn_4761, zn_99, zn_130, zn_lt_t, zn_lt_f, zn_le_t, zn_le_f, zn_eq_t, zn_eq_f, zn_ix, zn_cl, zq_le_f, zq_le_t, zq_lt_f, zq_lt_t, zn_add, zn_mul, zn_sub, or_false, false_or, or_self, true_or, or_true, and_true, true_and, and_false, false_and, not_true_eq_false, not_false_eq_true, if_true, if_false, os1, os2, os3, os4, os5, os6, os7, os8, os9, os10, os11, os12, os13, os14, os15, os16, os17, os18, os19, os20, os21, os22, os23, os24]
    have hq' : ¬ ¬ (aQ A w ∈ L) := fun q => q hq
    rw [mX6_answerOf, mX6_answerOf_b0, if_neg hd', hw6, os1, if_neg (by decide), lv6 (by omega), os2, zn_cl (by omega), if_neg c1', if_pos rfl, if_neg c1', es, if_neg hq', l1]
theorem an20 (hp : POOL L ln sy sn lt st) (ha : AOK L ln lt A) (hc : CW A kinds spelled) {w : Nat} (hw : w < aW A) {k d : Nat} (f : Nat → Int32) (hk : k < 16) (hd : d ≤ 10) : ∀ N, 0 < N → mX6_answerOf L ln sy (nI (aW A)) kinds spelled N (nI k) f 20 (nI w) (nI d) = some (nI w, nI (k + 1), (upd f (k) 20))
  | 0, h => absurd h (by omega)
  | N + 1, h => by
    obtain ⟨-, -, w20, -⟩ := aok_sz ha
    obtain ⟨hN, l1, hr1, hkd, hq, h20⟩ := aok_w ha hw
    obtain ⟨ek, es⟩ := hc w hw
    have hsy : sy (aQ A w) = nI (aSy ln lt A w) := (pool_w hp ha hw).2.2.1
    have hw6 : mX2_hasWord (nI (aW A)) (nI w) = some 1 := c_hw_t hw (by omega)
    have c1' : ¬ (nI w < 0 ∨ 20 ≤ w) := by simp (disch := omega) only [↓reduceIte, Nat.reduceAdd, Nat.reduceMul, Nat.reduceSub, Nat.zero_add, zn_0, zn_1, zn_2, zn_3, zn_4, zn_5, zn_6, zn_7, zn_8, zn_9, zn_10, zn_16, zn_20, zn_23, zn_24, zn_25, zn_26, zn_40, zn_207, zn_4761, zn_99, zn_130, zn_lt_t, zn_lt_f, zn_le_t, zn_le_f, zn_eq_t, zn_eq_f, zn_ix, zn_cl, zq_le_f, zq_le_t, zq_lt_f, zq_lt_t, zn_add, zn_mul, zn_sub, or_false, false_or, or_self, true_or, or_true, and_true, true_and, and_false, false_and, not_true_eq_false, not_false_eq_true, if_true, if_false, os1, os2, os3, os4, os5, os6, os7, os8, os9, os10, os11, os12, os13, os14, os15, os16, os17, os18, os19, os20, os21, os22, os23, os24]
    have hd' : ¬ (10 : Int32) < nI d := by simp (disch := omega) only [↓reduceIte, Nat.reduceAdd, Nat.reduceMul, Nat.reduceSub, Nat.zero_add, zn_0, zn_1, zn_2, zn_3, zn_4, zn_5, zn_6, zn_7, zn_8, zn_9, zn_10, zn_16, zn_20, zn_23, zn_24, zn_25, zn_26, zn_40, zn_207, zn_4761, zn_99, zn_130, zn_lt_t, zn_lt_f, zn_le_t, zn_le_f, zn_eq_t, zn_eq_f, zn_ix, zn_cl, zq_le_f, zq_le_t, zq_lt_f, zq_lt_t, zn_add, zn_mul, zn_sub, or_false, false_or, or_self, true_or, or_true, and_true, true_and, and_false, false_and, not_true_eq_false, not_false_eq_true, if_true, if_false, os1, os2, os3, os4, os5, os6, os7, os8, os9, os10, os11, os12, os13, os14, os15, os16, os17, os18, os19, os20, os21, os22, os23, os24]
    have hq' : ¬ ¬ (aQ A w ∈ L) := fun q => q hq
    rw [mX6_answerOf, mX6_answerOf_b0, if_neg hd', hw6, os1, if_neg (by decide), lv6 (by omega), os2, zn_cl (by omega), if_neg c1', if_neg (by decide), if_neg (by decide), if_neg (by decide), if_neg (by decide), if_neg (by decide), if_neg (by decide), if_neg (by decide), if_neg (by decide), if_neg (by decide), if_neg (by decide), if_pos rfl]
theorem an13 (hp : POOL L ln sy sn lt st) (ha : AOK L ln lt A) (hc : CW A kinds spelled) {w : Nat} (hw : w < aW A) {k d : Nat} (f : Nat → Int32) (hk : k < 15) (hd : d ≤ 9) : ∀ N, 1 < N → mX6_answerOf L ln sy (nI (aW A)) kinds spelled N (nI k) f 13 (nI w) (nI d) = some (nI (aN ln A w) - 100, nI (k + 1 + 1), (upd (upd f (k) 13) (k + 1) 10))
  | 0, h => absurd h (by omega)
  | N + 1, h => by
    obtain ⟨-, -, w20, -⟩ := aok_sz ha
    obtain ⟨hN, l1, hr1, hkd, hq, h20⟩ := aok_w ha hw
    obtain ⟨ek, es⟩ := hc w hw
    have hsy : sy (aQ A w) = nI (aSy ln lt A w) := (pool_w hp ha hw).2.2.1
    have hw6 : mX2_hasWord (nI (aW A)) (nI w) = some 1 := c_hw_t hw (by omega)
    have c1' : ¬ (nI w < 0 ∨ 20 ≤ w) := by simp (disch := omega) only [↓reduceIte, Nat.reduceAdd, Nat.reduceMul, Nat.reduceSub, Nat.zero_add, zn_0, zn_1, zn_2, zn_3, zn_4, zn_5, zn_6, zn_7, zn_8, zn_9, zn_10, zn_16, zn_20, zn_23, zn_24, zn_25, zn_26, zn_40, zn_207, zn_4761, zn_99, zn_130, zn_lt_t, zn_lt_f, zn_le_t, zn_le_f, zn_eq_t, zn_eq_f, zn_ix, zn_cl, zq_le_f, zq_le_t, zq_lt_f, zq_lt_t, zn_add, zn_mul, zn_sub, or_false, false_or, or_self, true_or, or_true, and_true, true_and, and_false, false_and, not_true_eq_false, not_false_eq_true, if_true, if_false, os1, os2, os3, os4, os5, os6, os7, os8, os9, os10, os11, os12, os13, os14, os15, os16, os17, os18, os19, os20, os21, os22, os23, os24]
    have hd' : ¬ (10 : Int32) < nI d := by simp (disch := omega) only [↓reduceIte, Nat.reduceAdd, Nat.reduceMul, Nat.reduceSub, Nat.zero_add, zn_0, zn_1, zn_2, zn_3, zn_4, zn_5, zn_6, zn_7, zn_8, zn_9, zn_10, zn_16, zn_20, zn_23, zn_24, zn_25, zn_26, zn_40, zn_207, zn_4761, zn_99, zn_130, zn_lt_t, zn_lt_f, zn_le_t, zn_le_f, zn_eq_t, zn_eq_f, zn_ix, zn_cl, zq_le_f, zq_le_t, zq_lt_f, zq_lt_t, zn_add, zn_mul, zn_sub, or_false, false_or, or_self, true_or, or_true, and_true, true_and, and_false, false_and, not_true_eq_false, not_false_eq_true, if_true, if_false, os1, os2, os3, os4, os5, os6, os7, os8, os9, os10, os11, os12, os13, os14, os15, os16, os17, os18, os19, os20, os21, os22, os23, os24]
    have hq' : ¬ ¬ (aQ A w ∈ L) := fun q => q hq
    rw [mX6_answerOf, mX6_answerOf_b0, if_neg hd', hw6, os1, if_neg (by decide), lv6 (by omega), os2, zn_cl (by omega), if_neg c1', if_neg (by decide), if_neg (by decide), if_neg (by decide), if_pos rfl, nI_1, an10 hp ha hc hw _ (by omega) (by omega) N (by omega), os3]
theorem an14 (hp : POOL L ln sy sn lt st) (ha : AOK L ln lt A) (hc : CW A kinds spelled) {w : Nat} (hw : w < aW A) {k d : Nat} (f : Nat → Int32) (hk : k < 14) (hd : d ≤ 8) : ∀ N, 2 < N → mX6_answerOf L ln sy (nI (aW A)) kinds spelled N (nI k) f 14 (nI w) (nI d) = some (2 * (nI (aN ln A w) - 100), nI (k + 1 + 1 + 1), (upd (upd (upd f (k) 14) (k + 1) 13) (k + 1 + 1) 10))
  | 0, h => absurd h (by omega)
  | N + 1, h => by
    obtain ⟨-, -, w20, -⟩ := aok_sz ha
    obtain ⟨hN, l1, hr1, hkd, hq, h20⟩ := aok_w ha hw
    obtain ⟨ek, es⟩ := hc w hw
    have hsy : sy (aQ A w) = nI (aSy ln lt A w) := (pool_w hp ha hw).2.2.1
    have hw6 : mX2_hasWord (nI (aW A)) (nI w) = some 1 := c_hw_t hw (by omega)
    have c1' : ¬ (nI w < 0 ∨ 20 ≤ w) := by simp (disch := omega) only [↓reduceIte, Nat.reduceAdd, Nat.reduceMul, Nat.reduceSub, Nat.zero_add, zn_0, zn_1, zn_2, zn_3, zn_4, zn_5, zn_6, zn_7, zn_8, zn_9, zn_10, zn_16, zn_20, zn_23, zn_24, zn_25, zn_26, zn_40, zn_207, zn_4761, zn_99, zn_130, zn_lt_t, zn_lt_f, zn_le_t, zn_le_f, zn_eq_t, zn_eq_f, zn_ix, zn_cl, zq_le_f, zq_le_t, zq_lt_f, zq_lt_t, zn_add, zn_mul, zn_sub, or_false, false_or, or_self, true_or, or_true, and_true, true_and, and_false, false_and, not_true_eq_false, not_false_eq_true, if_true, if_false, os1, os2, os3, os4, os5, os6, os7, os8, os9, os10, os11, os12, os13, os14, os15, os16, os17, os18, os19, os20, os21, os22, os23, os24]
    have hd' : ¬ (10 : Int32) < nI d := by simp (disch := omega) only [↓reduceIte, Nat.reduceAdd, Nat.reduceMul, Nat.reduceSub, Nat.zero_add, zn_0, zn_1, zn_2, zn_3, zn_4, zn_5, zn_6, zn_7, zn_8, zn_9, zn_10, zn_16, zn_20, zn_23, zn_24, zn_25, zn_26, zn_40, zn_207, zn_4761, zn_99, zn_130, zn_lt_t, zn_lt_f, zn_le_t, zn_le_f, zn_eq_t, zn_eq_f, zn_ix, zn_cl, zq_le_f, zq_le_t, zq_lt_f, zq_lt_t, zn_add, zn_mul, zn_sub, or_false, false_or, or_self, true_or, or_true, and_true, true_and, and_false, false_and, not_true_eq_false, not_false_eq_true, if_true, if_false, os1, os2, os3, os4, os5, os6, os7, os8, os9, os10, os11, os12, os13, os14, os15, os16, os17, os18, os19, os20, os21, os22, os23, os24]
    have hq' : ¬ ¬ (aQ A w ∈ L) := fun q => q hq
    rw [mX6_answerOf, mX6_answerOf_b0, if_neg hd', hw6, os1, if_neg (by decide), lv6 (by omega), os2, zn_cl (by omega), if_neg c1', if_neg (by decide), if_neg (by decide), if_neg (by decide), if_neg (by decide), if_pos rfl, nI_1, an13 hp ha hc hw _ (by omega) (by omega) N (by omega), os3]
theorem an21 (hp : POOL L ln sy sn lt st) (ha : AOK L ln lt A) (hc : CW A kinds spelled) {w : Nat} (hw : w < aW A) {k d : Nat} (f : Nat → Int32) (hk : k < 15) (hd : d ≤ 9) : ∀ N, 1 < N → mX6_answerOf L ln sy (nI (aW A)) kinds spelled N (nI k) f 21 (nI w) (nI d) = some (nI w + nI (aSy ln lt A w), nI (k + 1 + 1), (upd (upd f (k) 21) (k + 1) 20))
  | 0, h => absurd h (by omega)
  | N + 1, h => by
    obtain ⟨-, -, w20, -⟩ := aok_sz ha
    obtain ⟨hN, l1, hr1, hkd, hq, h20⟩ := aok_w ha hw
    obtain ⟨ek, es⟩ := hc w hw
    have hsy : sy (aQ A w) = nI (aSy ln lt A w) := (pool_w hp ha hw).2.2.1
    have hw6 : mX2_hasWord (nI (aW A)) (nI w) = some 1 := c_hw_t hw (by omega)
    have c1' : ¬ (nI w < 0 ∨ 20 ≤ w) := by simp (disch := omega) only [↓reduceIte, Nat.reduceAdd, Nat.reduceMul, Nat.reduceSub, Nat.zero_add, zn_0, zn_1, zn_2, zn_3, zn_4, zn_5, zn_6, zn_7, zn_8, zn_9, zn_10, zn_16, zn_20, zn_23, zn_24, zn_25, zn_26, zn_40, zn_207, zn_4761, zn_99, zn_130, zn_lt_t, zn_lt_f, zn_le_t, zn_le_f, zn_eq_t, zn_eq_f, zn_ix, zn_cl, zq_le_f, zq_le_t, zq_lt_f, zq_lt_t, zn_add, zn_mul, zn_sub, or_false, false_or, or_self, true_or, or_true, and_true, true_and, and_false, false_and, not_true_eq_false, not_false_eq_true, if_true, if_false, os1, os2, os3, os4, os5, os6, os7, os8, os9, os10, os11, os12, os13, os14, os15, os16, os17, os18, os19, os20, os21, os22, os23, os24]
    have hd' : ¬ (10 : Int32) < nI d := by simp (disch := omega) only [↓reduceIte, Nat.reduceAdd, Nat.reduceMul, Nat.reduceSub, Nat.zero_add, zn_0, zn_1, zn_2, zn_3, zn_4, zn_5, zn_6, zn_7, zn_8, zn_9, zn_10, zn_16, zn_20, zn_23, zn_24, zn_25, zn_26, zn_40, zn_207, zn_4761, zn_99, zn_130, zn_lt_t, zn_lt_f, zn_le_t, zn_le_f, zn_eq_t, zn_eq_f, zn_ix, zn_cl, zq_le_f, zq_le_t, zq_lt_f, zq_lt_t, zn_add, zn_mul, zn_sub, or_false, false_or, or_self, true_or, or_true, and_true, true_and, and_false, false_and, not_true_eq_false, not_false_eq_true, if_true, if_false, os1, os2, os3, os4, os5, os6, os7, os8, os9, os10, os11, os12, os13, os14, os15, os16, os17, os18, os19, os20, os21, os22, os23, os24]
    have hq' : ¬ ¬ (aQ A w ∈ L) := fun q => q hq
    rw [mX6_answerOf, mX6_answerOf_b0, if_neg hd', hw6, os1, if_neg (by decide), lv6 (by omega), os2, zn_cl (by omega), if_neg c1', if_neg (by decide), if_neg (by decide), if_neg (by decide), if_neg (by decide), if_neg (by decide), if_neg (by decide), if_neg (by decide), if_neg (by decide), if_neg (by decide), if_neg (by decide), if_neg (by decide), if_pos rfl, nI_1, an20 hp ha hc hw _ (by omega) (by omega) N (by omega), os3, if_neg c1', es, if_neg hq', hsy]
theorem an22 (hp : POOL L ln sy sn lt st) (ha : AOK L ln lt A) (hc : CW A kinds spelled) {w : Nat} (hw : w < aW A) {k d : Nat} (f : Nat → Int32) (hk : k < 14) (hd : d ≤ 8) : ∀ N, 2 < N → mX6_answerOf L ln sy (nI (aW A)) kinds spelled N (nI k) f 22 (nI w) (nI d) = some (nI w + nI (aSy ln lt A w) - 1000, nI (k + 1 + 1 + 1), (upd (upd (upd f (k) 22) (k + 1) 21) (k + 1 + 1) 20))
  | 0, h => absurd h (by omega)
  | N + 1, h => by
    obtain ⟨-, -, w20, -⟩ := aok_sz ha
    obtain ⟨hN, l1, hr1, hkd, hq, h20⟩ := aok_w ha hw
    obtain ⟨ek, es⟩ := hc w hw
    have hsy : sy (aQ A w) = nI (aSy ln lt A w) := (pool_w hp ha hw).2.2.1
    have hw6 : mX2_hasWord (nI (aW A)) (nI w) = some 1 := c_hw_t hw (by omega)
    have c1' : ¬ (nI w < 0 ∨ 20 ≤ w) := by simp (disch := omega) only [↓reduceIte, Nat.reduceAdd, Nat.reduceMul, Nat.reduceSub, Nat.zero_add, zn_0, zn_1, zn_2, zn_3, zn_4, zn_5, zn_6, zn_7, zn_8, zn_9, zn_10, zn_16, zn_20, zn_23, zn_24, zn_25, zn_26, zn_40, zn_207, zn_4761, zn_99, zn_130, zn_lt_t, zn_lt_f, zn_le_t, zn_le_f, zn_eq_t, zn_eq_f, zn_ix, zn_cl, zq_le_f, zq_le_t, zq_lt_f, zq_lt_t, zn_add, zn_mul, zn_sub, or_false, false_or, or_self, true_or, or_true, and_true, true_and, and_false, false_and, not_true_eq_false, not_false_eq_true, if_true, if_false, os1, os2, os3, os4, os5, os6, os7, os8, os9, os10, os11, os12, os13, os14, os15, os16, os17, os18, os19, os20, os21, os22, os23, os24]
    have hd' : ¬ (10 : Int32) < nI d := by simp (disch := omega) only [↓reduceIte, Nat.reduceAdd, Nat.reduceMul, Nat.reduceSub, Nat.zero_add, zn_0, zn_1, zn_2, zn_3, zn_4, zn_5, zn_6, zn_7, zn_8, zn_9, zn_10, zn_16, zn_20, zn_23, zn_24, zn_25, zn_26, zn_40, zn_207, zn_4761, zn_99, zn_130, zn_lt_t, zn_lt_f, zn_le_t, zn_le_f, zn_eq_t, zn_eq_f, zn_ix, zn_cl, zq_le_f, zq_le_t, zq_lt_f, zq_lt_t, zn_add, zn_mul, zn_sub, or_false, false_or, or_self, true_or, or_true, and_true, true_and, and_false, false_and, not_true_eq_false, not_false_eq_true, if_true, if_false, os1, os2, os3, os4, os5, os6, os7, os8, os9, os10, os11, os12, os13, os14, os15, os16, os17, os18, os19, os20, os21, os22, os23, os24]
    have hq' : ¬ ¬ (aQ A w ∈ L) := fun q => q hq
    rw [mX6_answerOf, mX6_answerOf_b0, if_neg hd', hw6, os1, if_neg (by decide), lv6 (by omega), os2, zn_cl (by omega), if_neg c1', if_neg (by decide), if_neg (by decide), if_neg (by decide), if_neg (by decide), if_neg (by decide), if_neg (by decide), if_neg (by decide), if_neg (by decide), if_neg (by decide), if_neg (by decide), if_neg (by decide), if_neg (by decide), if_pos rfl, nI_1, an21 hp ha hc hw _ (by omega) (by omega) N (by omega), os3]
theorem an24 (hp : POOL L ln sy sn lt st) (ha : AOK L ln lt A) (hc : CW A kinds spelled) {w : Nat} (hw : w < aW A) {k d : Nat} (f : Nat → Int32) (hk : k < 14) (hd : d ≤ 8) : ∀ N, 2 < N → mX6_answerOf L ln sy (nI (aW A)) kinds spelled N (nI k) f 24 (nI w) (nI d) = some (2 * (nI w + nI (aSy ln lt A w)), nI (k + 1 + 1 + 1), (upd (upd (upd f (k) 24) (k + 1) 21) (k + 1 + 1) 20))
  | 0, h => absurd h (by omega)
  | N + 1, h => by
    obtain ⟨-, -, w20, -⟩ := aok_sz ha
    obtain ⟨hN, l1, hr1, hkd, hq, h20⟩ := aok_w ha hw
    obtain ⟨ek, es⟩ := hc w hw
    have hsy : sy (aQ A w) = nI (aSy ln lt A w) := (pool_w hp ha hw).2.2.1
    have hw6 : mX2_hasWord (nI (aW A)) (nI w) = some 1 := c_hw_t hw (by omega)
    have c1' : ¬ (nI w < 0 ∨ 20 ≤ w) := by simp (disch := omega) only [↓reduceIte, Nat.reduceAdd, Nat.reduceMul, Nat.reduceSub, Nat.zero_add, zn_0, zn_1, zn_2, zn_3, zn_4, zn_5, zn_6, zn_7, zn_8, zn_9, zn_10, zn_16, zn_20, zn_23, zn_24, zn_25, zn_26, zn_40, zn_207, zn_4761, zn_99, zn_130, zn_lt_t, zn_lt_f, zn_le_t, zn_le_f, zn_eq_t, zn_eq_f, zn_ix, zn_cl, zq_le_f, zq_le_t, zq_lt_f, zq_lt_t, zn_add, zn_mul, zn_sub, or_false, false_or, or_self, true_or, or_true, and_true, true_and, and_false, false_and, not_true_eq_false, not_false_eq_true, if_true, if_false, os1, os2, os3, os4, os5, os6, os7, os8, os9, os10, os11, os12, os13, os14, os15, os16, os17, os18, os19, os20, os21, os22, os23, os24]
    have hd' : ¬ (10 : Int32) < nI d := by simp (disch := omega) only [↓reduceIte, Nat.reduceAdd, Nat.reduceMul, Nat.reduceSub, Nat.zero_add, zn_0, zn_1, zn_2, zn_3, zn_4, zn_5, zn_6, zn_7, zn_8, zn_9, zn_10, zn_16, zn_20, zn_23, zn_24, zn_25, zn_26, zn_40, zn_207, zn_4761, zn_99, zn_130, zn_lt_t, zn_lt_f, zn_le_t, zn_le_f, zn_eq_t, zn_eq_f, zn_ix, zn_cl, zq_le_f, zq_le_t, zq_lt_f, zq_lt_t, zn_add, zn_mul, zn_sub, or_false, false_or, or_self, true_or, or_true, and_true, true_and, and_false, false_and, not_true_eq_false, not_false_eq_true, if_true, if_false, os1, os2, os3, os4, os5, os6, os7, os8, os9, os10, os11, os12, os13, os14, os15, os16, os17, os18, os19, os20, os21, os22, os23, os24]
    have hq' : ¬ ¬ (aQ A w ∈ L) := fun q => q hq
    rw [mX6_answerOf, mX6_answerOf_b0, if_neg hd', hw6, os1, if_neg (by decide), lv6 (by omega), os2, zn_cl (by omega), if_neg c1', if_neg (by decide), if_neg (by decide), if_neg (by decide), if_neg (by decide), if_neg (by decide), if_neg (by decide), if_neg (by decide), if_neg (by decide), if_neg (by decide), if_neg (by decide), if_neg (by decide), if_neg (by decide), if_neg (by decide), if_neg (by decide), if_pos rfl, nI_1, an21 hp ha hc hw _ (by omega) (by omega) N (by omega), os3]
theorem an11_1 (hp : POOL L ln sy sn lt st) (ha : AOK L ln lt A) (hc : CW A kinds spelled) {w : Nat} (hw : w < aW A) {k d : Nat} (f : Nat → Int32) (hk : k < 13) (hd : d ≤ 8) (e : aKd A w = 1) : ∀ N, 2 < N → mX6_answerOf L ln sy (nI (aW A)) kinds spelled N (nI k) f 11 (nI w) (nI d) = some (nI (aN ln A w) + (nI w + nI (aSy ln lt A w)), nI (k + 1 + 1 + 1 + 1), (upd (upd (upd (upd f (k) 11) (k + 1) 10) (k + 1 + 1) 21) (k + 1 + 1 + 1) 20))
  | 0, h => absurd h (by omega)
  | N + 1, h => by
    obtain ⟨-, -, w20, -⟩ := aok_sz ha
    obtain ⟨hN, l1, hr1, hkd, hq, h20⟩ := aok_w ha hw
    obtain ⟨ek, es⟩ := hc w hw
    have hsy : sy (aQ A w) = nI (aSy ln lt A w) := (pool_w hp ha hw).2.2.1
    have hw6 : mX2_hasWord (nI (aW A)) (nI w) = some 1 := c_hw_t hw (by omega)
    have c1' : ¬ (nI w < 0 ∨ 20 ≤ w) := by simp (disch := omega) only [↓reduceIte, Nat.reduceAdd, Nat.reduceMul, Nat.reduceSub, Nat.zero_add, zn_0, zn_1, zn_2, zn_3, zn_4, zn_5, zn_6, zn_7, zn_8, zn_9, zn_10, zn_16, zn_20, zn_23, zn_24, zn_25, zn_26, zn_40, zn_207, zn_4761, zn_99, zn_130, zn_lt_t, zn_lt_f, zn_le_t, zn_le_f, zn_eq_t, zn_eq_f, zn_ix, zn_cl, zq_le_f, zq_le_t, zq_lt_f, zq_lt_t, zn_add, zn_mul, zn_sub, or_false, false_or, or_self, true_or, or_true, and_true, true_and, and_false, false_and, not_true_eq_false, not_false_eq_true, if_true, if_false, os1, os2, os3, os4, os5, os6, os7, os8, os9, os10, os11, os12, os13, os14, os15, os16, os17, os18, os19, os20, os21, os22, os23, os24]
    have hd' : ¬ (10 : Int32) < nI d := by simp (disch := omega) only [↓reduceIte, Nat.reduceAdd, Nat.reduceMul, Nat.reduceSub, Nat.zero_add, zn_0, zn_1, zn_2, zn_3, zn_4, zn_5, zn_6, zn_7, zn_8, zn_9, zn_10, zn_16, zn_20, zn_23, zn_24, zn_25, zn_26, zn_40, zn_207, zn_4761, zn_99, zn_130, zn_lt_t, zn_lt_f, zn_le_t, zn_le_f, zn_eq_t, zn_eq_f, zn_ix, zn_cl, zq_le_f, zq_le_t, zq_lt_f, zq_lt_t, zn_add, zn_mul, zn_sub, or_false, false_or, or_self, true_or, or_true, and_true, true_and, and_false, false_and, not_true_eq_false, not_false_eq_true, if_true, if_false, os1, os2, os3, os4, os5, os6, os7, os8, os9, os10, os11, os12, os13, os14, os15, os16, os17, os18, os19, os20, os21, os22, os23, os24]
    have hq' : ¬ ¬ (aQ A w ∈ L) := fun q => q hq
    have hb : mX6_bodyOf (nI 1) 1 = some 21 := (bod6 1 (by omega)).2
    rw [mX6_answerOf, mX6_answerOf_b0, if_neg hd', hw6, os1, if_neg (by decide), lv6 (by omega), os2, zn_cl (by omega), if_neg c1', if_neg (by decide), if_pos rfl, nI_1, an10 hp ha hc hw _ (by omega) (by omega) N (by omega), os3, ek, e, hb, os1, an21 hp ha hc hw _ (by omega) (by omega) N (by omega), os3]
theorem an11_2 (hp : POOL L ln sy sn lt st) (ha : AOK L ln lt A) (hc : CW A kinds spelled) {w : Nat} (hw : w < aW A) {k d : Nat} (f : Nat → Int32) (hk : k < 12) (hd : d ≤ 7) (e : aKd A w = 2) : ∀ N, 3 < N → mX6_answerOf L ln sy (nI (aW A)) kinds spelled N (nI k) f 11 (nI w) (nI d) = some (nI (aN ln A w) + (2 * (nI w + nI (aSy ln lt A w))), nI (k + 1 + 1 + 1 + 1 + 1), (upd (upd (upd (upd (upd f (k) 11) (k + 1) 10) (k + 1 + 1) 24) (k + 1 + 1 + 1) 21) (k + 1 + 1 + 1 + 1) 20))
  | 0, h => absurd h (by omega)
  | N + 1, h => by
    obtain ⟨-, -, w20, -⟩ := aok_sz ha
    obtain ⟨hN, l1, hr1, hkd, hq, h20⟩ := aok_w ha hw
    obtain ⟨ek, es⟩ := hc w hw
    have hsy : sy (aQ A w) = nI (aSy ln lt A w) := (pool_w hp ha hw).2.2.1
    have hw6 : mX2_hasWord (nI (aW A)) (nI w) = some 1 := c_hw_t hw (by omega)
    have c1' : ¬ (nI w < 0 ∨ 20 ≤ w) := by simp (disch := omega) only [↓reduceIte, Nat.reduceAdd, Nat.reduceMul, Nat.reduceSub, Nat.zero_add, zn_0, zn_1, zn_2, zn_3, zn_4, zn_5, zn_6, zn_7, zn_8, zn_9, zn_10, zn_16, zn_20, zn_23, zn_24, zn_25, zn_26, zn_40, zn_207, zn_4761, zn_99, zn_130, zn_lt_t, zn_lt_f, zn_le_t, zn_le_f, zn_eq_t, zn_eq_f, zn_ix, zn_cl, zq_le_f, zq_le_t, zq_lt_f, zq_lt_t, zn_add, zn_mul, zn_sub, or_false, false_or, or_self, true_or, or_true, and_true, true_and, and_false, false_and, not_true_eq_false, not_false_eq_true, if_true, if_false, os1, os2, os3, os4, os5, os6, os7, os8, os9, os10, os11, os12, os13, os14, os15, os16, os17, os18, os19, os20, os21, os22, os23, os24]
    have hd' : ¬ (10 : Int32) < nI d := by simp (disch := omega) only [↓reduceIte, Nat.reduceAdd, Nat.reduceMul, Nat.reduceSub, Nat.zero_add, zn_0, zn_1, zn_2, zn_3, zn_4, zn_5, zn_6, zn_7, zn_8, zn_9, zn_10, zn_16, zn_20, zn_23, zn_24, zn_25, zn_26, zn_40, zn_207, zn_4761, zn_99, zn_130, zn_lt_t, zn_lt_f, zn_le_t, zn_le_f, zn_eq_t, zn_eq_f, zn_ix, zn_cl, zq_le_f, zq_le_t, zq_lt_f, zq_lt_t, zn_add, zn_mul, zn_sub, or_false, false_or, or_self, true_or, or_true, and_true, true_and, and_false, false_and, not_true_eq_false, not_false_eq_true, if_true, if_false, os1, os2, os3, os4, os5, os6, os7, os8, os9, os10, os11, os12, os13, os14, os15, os16, os17, os18, os19, os20, os21, os22, os23, os24]
    have hq' : ¬ ¬ (aQ A w ∈ L) := fun q => q hq
    have hb : mX6_bodyOf (nI 2) 1 = some 24 := (bod6 2 (by omega)).2
    rw [mX6_answerOf, mX6_answerOf_b0, if_neg hd', hw6, os1, if_neg (by decide), lv6 (by omega), os2, zn_cl (by omega), if_neg c1', if_neg (by decide), if_pos rfl, nI_1, an10 hp ha hc hw _ (by omega) (by omega) N (by omega), os3, ek, e, hb, os1, an24 hp ha hc hw _ (by omega) (by omega) N (by omega), os3]
theorem an11_3 (hp : POOL L ln sy sn lt st) (ha : AOK L ln lt A) (hc : CW A kinds spelled) {w : Nat} (hw : w < aW A) {k d : Nat} (f : Nat → Int32) (hk : k < 12) (hd : d ≤ 7) (e : aKd A w = 3) : ∀ N, 3 < N → mX6_answerOf L ln sy (nI (aW A)) kinds spelled N (nI k) f 11 (nI w) (nI d) = some (nI (aN ln A w) + (nI w + nI (aSy ln lt A w) - 1000), nI (k + 1 + 1 + 1 + 1 + 1), (upd (upd (upd (upd (upd f (k) 11) (k + 1) 10) (k + 1 + 1) 22) (k + 1 + 1 + 1) 21) (k + 1 + 1 + 1 + 1) 20))
  | 0, h => absurd h (by omega)
  | N + 1, h => by
    obtain ⟨-, -, w20, -⟩ := aok_sz ha
    obtain ⟨hN, l1, hr1, hkd, hq, h20⟩ := aok_w ha hw
    obtain ⟨ek, es⟩ := hc w hw
    have hsy : sy (aQ A w) = nI (aSy ln lt A w) := (pool_w hp ha hw).2.2.1
    have hw6 : mX2_hasWord (nI (aW A)) (nI w) = some 1 := c_hw_t hw (by omega)
    have c1' : ¬ (nI w < 0 ∨ 20 ≤ w) := by simp (disch := omega) only [↓reduceIte, Nat.reduceAdd, Nat.reduceMul, Nat.reduceSub, Nat.zero_add, zn_0, zn_1, zn_2, zn_3, zn_4, zn_5, zn_6, zn_7, zn_8, zn_9, zn_10, zn_16, zn_20, zn_23, zn_24, zn_25, zn_26, zn_40, zn_207, zn_4761, zn_99, zn_130, zn_lt_t, zn_lt_f, zn_le_t, zn_le_f, zn_eq_t, zn_eq_f, zn_ix, zn_cl, zq_le_f, zq_le_t, zq_lt_f, zq_lt_t, zn_add, zn_mul, zn_sub, or_false, false_or, or_self, true_or, or_true, and_true, true_and, and_false, false_and, not_true_eq_false, not_false_eq_true, if_true, if_false, os1, os2, os3, os4, os5, os6, os7, os8, os9, os10, os11, os12, os13, os14, os15, os16, os17, os18, os19, os20, os21, os22, os23, os24]
    have hd' : ¬ (10 : Int32) < nI d := by simp (disch := omega) only [↓reduceIte, Nat.reduceAdd, Nat.reduceMul, Nat.reduceSub, Nat.zero_add, zn_0, zn_1, zn_2, zn_3, zn_4, zn_5, zn_6, zn_7, zn_8, zn_9, zn_10, zn_16, zn_20, zn_23, zn_24, zn_25, zn_26, zn_40, zn_207, zn_4761, zn_99, zn_130, zn_lt_t, zn_lt_f, zn_le_t, zn_le_f, zn_eq_t, zn_eq_f, zn_ix, zn_cl, zq_le_f, zq_le_t, zq_lt_f, zq_lt_t, zn_add, zn_mul, zn_sub, or_false, false_or, or_self, true_or, or_true, and_true, true_and, and_false, false_and, not_true_eq_false, not_false_eq_true, if_true, if_false, os1, os2, os3, os4, os5, os6, os7, os8, os9, os10, os11, os12, os13, os14, os15, os16, os17, os18, os19, os20, os21, os22, os23, os24]
    have hq' : ¬ ¬ (aQ A w ∈ L) := fun q => q hq
    have hb : mX6_bodyOf (nI 3) 1 = some 22 := (bod6 3 (by omega)).2
    rw [mX6_answerOf, mX6_answerOf_b0, if_neg hd', hw6, os1, if_neg (by decide), lv6 (by omega), os2, zn_cl (by omega), if_neg c1', if_neg (by decide), if_pos rfl, nI_1, an10 hp ha hc hw _ (by omega) (by omega) N (by omega), os3, ek, e, hb, os1, an22 hp ha hc hw _ (by omega) (by omega) N (by omega), os3]
theorem an12_2 (hp : POOL L ln sy sn lt st) (ha : AOK L ln lt A) (hc : CW A kinds spelled) {w : Nat} (hw : w < aW A) {k d : Nat} (f : Nat → Int32) (hk : k < 11) (hd : d ≤ 6) (e : aKd A w = 2) : ∀ N, 4 < N → mX6_answerOf L ln sy (nI (aW A)) kinds spelled N (nI k) f 12 (nI w) (nI d) = some (-(nI (aN ln A w) + (2 * (nI w + nI (aSy ln lt A w)))), nI (k + 1 + 1 + 1 + 1 + 1 + 1), (upd (upd (upd (upd (upd (upd f (k) 12) (k + 1) 11) (k + 1 + 1) 10) (k + 1 + 1 + 1) 24) (k + 1 + 1 + 1 + 1) 21) (k + 1 + 1 + 1 + 1 + 1) 20))
  | 0, h => absurd h (by omega)
  | N + 1, h => by
    obtain ⟨-, -, w20, -⟩ := aok_sz ha
    obtain ⟨hN, l1, hr1, hkd, hq, h20⟩ := aok_w ha hw
    obtain ⟨ek, es⟩ := hc w hw
    have hsy : sy (aQ A w) = nI (aSy ln lt A w) := (pool_w hp ha hw).2.2.1
    have hw6 : mX2_hasWord (nI (aW A)) (nI w) = some 1 := c_hw_t hw (by omega)
    have c1' : ¬ (nI w < 0 ∨ 20 ≤ w) := by simp (disch := omega) only [↓reduceIte, Nat.reduceAdd, Nat.reduceMul, Nat.reduceSub, Nat.zero_add, zn_0, zn_1, zn_2, zn_3, zn_4, zn_5, zn_6, zn_7, zn_8, zn_9, zn_10, zn_16, zn_20, zn_23, zn_24, zn_25, zn_26, zn_40, zn_207, zn_4761, zn_99, zn_130, zn_lt_t, zn_lt_f, zn_le_t, zn_le_f, zn_eq_t, zn_eq_f, zn_ix, zn_cl, zq_le_f, zq_le_t, zq_lt_f, zq_lt_t, zn_add, zn_mul, zn_sub, or_false, false_or, or_self, true_or, or_true, and_true, true_and, and_false, false_and, not_true_eq_false, not_false_eq_true, if_true, if_false, os1, os2, os3, os4, os5, os6, os7, os8, os9, os10, os11, os12, os13, os14, os15, os16, os17, os18, os19, os20, os21, os22, os23, os24]
    have hd' : ¬ (10 : Int32) < nI d := by simp (disch := omega) only [↓reduceIte, Nat.reduceAdd, Nat.reduceMul, Nat.reduceSub, Nat.zero_add, zn_0, zn_1, zn_2, zn_3, zn_4, zn_5, zn_6, zn_7, zn_8, zn_9, zn_10, zn_16, zn_20, zn_23, zn_24, zn_25, zn_26, zn_40, zn_207, zn_4761, zn_99, zn_130, zn_lt_t, zn_lt_f, zn_le_t, zn_le_f, zn_eq_t, zn_eq_f, zn_ix, zn_cl, zq_le_f, zq_le_t, zq_lt_f, zq_lt_t, zn_add, zn_mul, zn_sub, or_false, false_or, or_self, true_or, or_true, and_true, true_and, and_false, false_and, not_true_eq_false, not_false_eq_true, if_true, if_false, os1, os2, os3, os4, os5, os6, os7, os8, os9, os10, os11, os12, os13, os14, os15, os16, os17, os18, os19, os20, os21, os22, os23, os24]
    have hq' : ¬ ¬ (aQ A w ∈ L) := fun q => q hq
    rw [mX6_answerOf, mX6_answerOf_b0, if_neg hd', hw6, os1, if_neg (by decide), lv6 (by omega), os2, zn_cl (by omega), if_neg c1', if_neg (by decide), if_neg (by decide), if_pos rfl, nI_1, an11_2 hp ha hc hw _ (by omega) (by omega) e N (by omega), os3, Int32.zero_sub]
theorem an23_4 (hp : POOL L ln sy sn lt st) (ha : AOK L ln lt A) (hc : CW A kinds spelled) {w : Nat} (hw : w < aW A) {k d : Nat} (f : Nat → Int32) (hk : k < 13) (hd : d ≤ 8) (e : aKd A w = 4) : ∀ N, 2 < N → mX6_answerOf L ln sy (nI (aW A)) kinds spelled N (nI k) f 23 (nI w) (nI d) = some (nI w - (nI (aN ln A w) - 100), nI (k + 1 + 1 + 1 + 1), (upd (upd (upd (upd f (k) 23) (k + 1) 20) (k + 1 + 1) 13) (k + 1 + 1 + 1) 10))
  | 0, h => absurd h (by omega)
  | N + 1, h => by
    obtain ⟨-, -, w20, -⟩ := aok_sz ha
    obtain ⟨hN, l1, hr1, hkd, hq, h20⟩ := aok_w ha hw
    obtain ⟨ek, es⟩ := hc w hw
    have hsy : sy (aQ A w) = nI (aSy ln lt A w) := (pool_w hp ha hw).2.2.1
    have hw6 : mX2_hasWord (nI (aW A)) (nI w) = some 1 := c_hw_t hw (by omega)
    have c1' : ¬ (nI w < 0 ∨ 20 ≤ w) := by simp (disch := omega) only [↓reduceIte, Nat.reduceAdd, Nat.reduceMul, Nat.reduceSub, Nat.zero_add, zn_0, zn_1, zn_2, zn_3, zn_4, zn_5, zn_6, zn_7, zn_8, zn_9, zn_10, zn_16, zn_20, zn_23, zn_24, zn_25, zn_26, zn_40, zn_207, zn_4761, zn_99, zn_130, zn_lt_t, zn_lt_f, zn_le_t, zn_le_f, zn_eq_t, zn_eq_f, zn_ix, zn_cl, zq_le_f, zq_le_t, zq_lt_f, zq_lt_t, zn_add, zn_mul, zn_sub, or_false, false_or, or_self, true_or, or_true, and_true, true_and, and_false, false_and, not_true_eq_false, not_false_eq_true, if_true, if_false, os1, os2, os3, os4, os5, os6, os7, os8, os9, os10, os11, os12, os13, os14, os15, os16, os17, os18, os19, os20, os21, os22, os23, os24]
    have hd' : ¬ (10 : Int32) < nI d := by simp (disch := omega) only [↓reduceIte, Nat.reduceAdd, Nat.reduceMul, Nat.reduceSub, Nat.zero_add, zn_0, zn_1, zn_2, zn_3, zn_4, zn_5, zn_6, zn_7, zn_8, zn_9, zn_10, zn_16, zn_20, zn_23, zn_24, zn_25, zn_26, zn_40, zn_207, zn_4761, zn_99, zn_130, zn_lt_t, zn_lt_f, zn_le_t, zn_le_f, zn_eq_t, zn_eq_f, zn_ix, zn_cl, zq_le_f, zq_le_t, zq_lt_f, zq_lt_t, zn_add, zn_mul, zn_sub, or_false, false_or, or_self, true_or, or_true, and_true, true_and, and_false, false_and, not_true_eq_false, not_false_eq_true, if_true, if_false, os1, os2, os3, os4, os5, os6, os7, os8, os9, os10, os11, os12, os13, os14, os15, os16, os17, os18, os19, os20, os21, os22, os23, os24]
    have hq' : ¬ ¬ (aQ A w ∈ L) := fun q => q hq
    have hb : mX6_bodyOf (nI 4) 0 = some 13 := (bod6 4 (by omega)).1
    rw [mX6_answerOf, mX6_answerOf_b0, if_neg hd', hw6, os1, if_neg (by decide), lv6 (by omega), os2, zn_cl (by omega), if_neg c1', if_neg (by decide), if_neg (by decide), if_neg (by decide), if_neg (by decide), if_neg (by decide), if_neg (by decide), if_neg (by decide), if_neg (by decide), if_neg (by decide), if_neg (by decide), if_neg (by decide), if_neg (by decide), if_neg (by decide), if_pos rfl, nI_1, an20 hp ha hc hw _ (by omega) (by omega) N (by omega), os3, ek, e, hb, os1, an13 hp ha hc hw _ (by omega) (by omega) N (by omega), os3]
theorem an23_5 (hp : POOL L ln sy sn lt st) (ha : AOK L ln lt A) (hc : CW A kinds spelled) {w : Nat} (hw : w < aW A) {k d : Nat} (f : Nat → Int32) (hk : k < 12) (hd : d ≤ 7) (e : aKd A w = 5) : ∀ N, 3 < N → mX6_answerOf L ln sy (nI (aW A)) kinds spelled N (nI k) f 23 (nI w) (nI d) = some (nI w - (2 * (nI (aN ln A w) - 100)), nI (k + 1 + 1 + 1 + 1 + 1), (upd (upd (upd (upd (upd f (k) 23) (k + 1) 20) (k + 1 + 1) 14) (k + 1 + 1 + 1) 13) (k + 1 + 1 + 1 + 1) 10))
  | 0, h => absurd h (by omega)
  | N + 1, h => by
    obtain ⟨-, -, w20, -⟩ := aok_sz ha
    obtain ⟨hN, l1, hr1, hkd, hq, h20⟩ := aok_w ha hw
    obtain ⟨ek, es⟩ := hc w hw
    have hsy : sy (aQ A w) = nI (aSy ln lt A w) := (pool_w hp ha hw).2.2.1
    have hw6 : mX2_hasWord (nI (aW A)) (nI w) = some 1 := c_hw_t hw (by omega)
    have c1' : ¬ (nI w < 0 ∨ 20 ≤ w) := by simp (disch := omega) only [↓reduceIte, Nat.reduceAdd, Nat.reduceMul, Nat.reduceSub, Nat.zero_add, zn_0, zn_1, zn_2, zn_3, zn_4, zn_5, zn_6, zn_7, zn_8, zn_9, zn_10, zn_16, zn_20, zn_23, zn_24, zn_25, zn_26, zn_40, zn_207, zn_4761, zn_99, zn_130, zn_lt_t, zn_lt_f, zn_le_t, zn_le_f, zn_eq_t, zn_eq_f, zn_ix, zn_cl, zq_le_f, zq_le_t, zq_lt_f, zq_lt_t, zn_add, zn_mul, zn_sub, or_false, false_or, or_self, true_or, or_true, and_true, true_and, and_false, false_and, not_true_eq_false, not_false_eq_true, if_true, if_false, os1, os2, os3, os4, os5, os6, os7, os8, os9, os10, os11, os12, os13, os14, os15, os16, os17, os18, os19, os20, os21, os22, os23, os24]
    have hd' : ¬ (10 : Int32) < nI d := by simp (disch := omega) only [↓reduceIte, Nat.reduceAdd, Nat.reduceMul, Nat.reduceSub, Nat.zero_add, zn_0, zn_1, zn_2, zn_3, zn_4, zn_5, zn_6, zn_7, zn_8, zn_9, zn_10, zn_16, zn_20, zn_23, zn_24, zn_25, zn_26, zn_40, zn_207, zn_4761, zn_99, zn_130, zn_lt_t, zn_lt_f, zn_le_t, zn_le_f, zn_eq_t, zn_eq_f, zn_ix, zn_cl, zq_le_f, zq_le_t, zq_lt_f, zq_lt_t, zn_add, zn_mul, zn_sub, or_false, false_or, or_self, true_or, or_true, and_true, true_and, and_false, false_and, not_true_eq_false, not_false_eq_true, if_true, if_false, os1, os2, os3, os4, os5, os6, os7, os8, os9, os10, os11, os12, os13, os14, os15, os16, os17, os18, os19, os20, os21, os22, os23, os24]
    have hq' : ¬ ¬ (aQ A w ∈ L) := fun q => q hq
    have hb : mX6_bodyOf (nI 5) 0 = some 14 := (bod6 5 (by omega)).1
    rw [mX6_answerOf, mX6_answerOf_b0, if_neg hd', hw6, os1, if_neg (by decide), lv6 (by omega), os2, zn_cl (by omega), if_neg c1', if_neg (by decide), if_neg (by decide), if_neg (by decide), if_neg (by decide), if_neg (by decide), if_neg (by decide), if_neg (by decide), if_neg (by decide), if_neg (by decide), if_neg (by decide), if_neg (by decide), if_neg (by decide), if_neg (by decide), if_pos rfl, nI_1, an20 hp ha hc hw _ (by omega) (by omega) N (by omega), os3, ek, e, hb, os1, an14 hp ha hc hw _ (by omega) (by omega) N (by omega), os3]
end
theorem st28 : Step28 RelW := by
  intro x_begun x_latestFault x_latestFinding rd_length rd_tape v_foot v_feet v_lines v_words v_sizes v_kinds v_spelled d_spelled i0_foot i0_feet i0_lines i0_words i0_sizes i0_kinds i0_spelled i1_foot i1_feet i1_lines i1_words i1_sizes i1_kinds i1_spelled ac_next ac_kept ac_sorts ac_firsts ac_seconds ac_takenKinds ac_takenSpellings x_bodies m_thrown m_status m_acts m_taped m_latest m_traced m_lane m_many m_item m_poem m_was m_tape m_isKept m_kept m_trace x_lane x_rsz x_item L la sa ln sy sn lt st a1 a2 hR
  obtain ⟨hF, hG, hT, hW, hC, hZ⟩ := hR
  have hZ0 := hZ
  obtain ⟨hP, hD, hI0, hI1, A, ha, hpc, hpr, hA⟩ := hZ
  have hpc0 := hpc
  obtain ⟨p1, p2, p3, p4, hz, hc, hsp⟩ := hpc
  subst p1 p2 p3 p4
  replace hz : CZ A v_sizes := hz
  replace hc : CW A v_kinds v_spelled := hc
  obtain ⟨-, -, w20, l4⟩ := aok_sz ha
  rcases rng a1 (aW A) (by omega) with ⟨w, hw, rfl⟩ | hn
  · obtain ⟨hN, l1, hr1, hkd, hq, h20⟩ := aok_w ha hw
    obtain ⟨ek, es⟩ := hc w hw
    have hw6 : mX2_hasWord (nI (aW A)) (nI w) = some 1 := c_hw_t hw (by omega)
    have hw7 : mX7_isWord m_poem (nI w) = some 1 := r_iw_t hpr ha hw
    have c1 : ¬ (nI w < 0 ∨ 20 ≤ w) := by simp (disch := omega) only [↓reduceIte, Nat.reduceAdd, Nat.reduceMul, Nat.reduceSub, Nat.zero_add, zn_0, zn_1, zn_2, zn_3, zn_4, zn_5, zn_6, zn_7, zn_8, zn_9, zn_10, zn_16, zn_20, zn_23, zn_24, zn_25, zn_26, zn_40, zn_207, zn_4761, zn_99, zn_130, zn_lt_t, zn_lt_f, zn_le_t, zn_le_f, zn_eq_t, zn_eq_f, zn_ix, zn_cl, zq_le_f, zq_le_t, zq_lt_f, zq_lt_t, zn_add, zn_mul, zn_sub, or_false, false_or, or_self, true_or, or_true, and_true, true_and, and_false, false_and, not_true_eq_false, not_false_eq_true, if_true, if_false, os1, os2, os3, os4, os5, os6, os7, os8, os9, os10, os11, os12, os13, os14, os15, os16, os17, os18, os19, os20, os21, os22, os23, os24]
    have hk7 := r_kindOf hpr ha hw
    have hs7 := r_size hpr ha hw
    have hy7 := r_syll hpr ha hw
    have hin := in_i a2 0 1
    rw [show (0 : Int64).toInt = 0 from rfl, show (1 : Int64).toInt = 1 from rfl] at hin
    have hkc : aKd A w = 1 ∨ aKd A w = 2 ∨ aKd A w = 3 ∨ aKd A w = 4 ∨ aKd A w = 5 := by omega
    rcases rng a2 2 (by omega) with ⟨v, hv, rfl⟩ | hv
    · rw [nI_toInt (by omega), if_pos (by omega)] at hin
      have hvc : v = 0 ∨ v = 1 := by omega
      rcases hvc with rfl | rfl
      · rcases hkc with e | e | e | e | e
        · refine ⟨nI (aN ln A w) + (nI w + nI (aSy ln lt A w)), nI 4, (upd (upd (upd (upd x_bodies 0 11) 1 10) 2 21) 3 20), 0, nI 4, (upd (upd (upd (upd m_trace 0 11) 1 10) 2 21) 3 20), ?_, ?_, hF, hG, hT, hW, ⟨rfl, 4, by omega, rfl, ?_⟩, hZ0⟩
          · unfold mX6_ask mX6_ask_b0
            have hb : mX6_bodyOf (nI 1) 0 = some 11 := (bod6 1 (by omega)).1
            rw [hw6, os1, if_neg (by decide), if_neg (by decide), if_pos (by decide), zn_cl (by omega), if_neg c1, ek, e]
            show ob1 (mX6_bodyOf (nI 1) 0) _ = _
            rw [hb, os1]
            have h := an11_1 (k := 0) (d := 0) hP ha hc hw x_bodies (by omega) (by omega) e 40 (by omega)
            show ob3 (mX6_answerOf L ln sy (nI (aW A)) v_kinds v_spelled 40 (nI 0) x_bodies 11 (nI w) (nI 0)) _ = _
            rw [h, os3]
          · unfold mX7_ask mX7_ask_b0
            rw [hw7, os1, if_neg (by decide), hin, os1, if_neg (by decide), if_pos (by rfl)]
            show ob3 (mX7_askedSize m_poem (nI 0) m_trace (nI w)) _ = _
            simp (disch := omega) only [↓reduceIte, Nat.reduceAdd, Nat.reduceMul, Nat.reduceSub, Nat.zero_add, zn_0, zn_1, zn_2, zn_3, zn_4, zn_5, zn_6, zn_7, zn_8, zn_9, zn_10, zn_16, zn_20, zn_23, zn_24, zn_25, zn_26, zn_40, zn_207, zn_4761, zn_99, zn_130, zn_lt_t, zn_lt_f, zn_le_t, zn_le_f, zn_eq_t, zn_eq_f, zn_ix, zn_cl, zq_le_f, zq_le_t, zq_lt_f, zq_lt_t, zn_add, zn_mul, zn_sub, or_false, false_or, or_self, true_or, or_true, and_true, true_and, and_false, false_and, not_true_eq_false, not_false_eq_true, if_true, if_false, os1, os2, os3, os4, os5, os6, os7, os8, os9, os10, os11, os12, os13, os14, os15, os16, os17, os18, os19, os20, os21, os22, os23, os24, mX7_askedSize, mX7_askedSize_b0, mX7_askedSize_b31, mX7_markOf, mX7_markOf_b0, mX7_markOf_b52, mX7_markOf_b55, mX7_smallSize, mX7_smallSize_b0, mX7_smallSize_b17, mX7_smallSize_b28, mX7_plainSize, mX7_plainSize_b0, hk7, hs7, hy7, e, bg7]
          · intro i hi
            have hi' : i = 0 ∨ i = 1 ∨ i = 2 ∨ i = 3 := by omega
            rcases hi' with rfl | rfl | rfl | rfl <;> rfl
        · refine ⟨-(nI (aN ln A w) + (2 * (nI w + nI (aSy ln lt A w)))), nI 6, (upd (upd (upd (upd (upd (upd x_bodies 0 12) 1 11) 2 10) 3 24) 4 21) 5 20), 0, nI 6, (upd (upd (upd (upd (upd (upd m_trace 0 12) 1 11) 2 10) 3 24) 4 21) 5 20), ?_, ?_, hF, hG, hT, hW, ⟨rfl, 6, by omega, rfl, ?_⟩, hZ0⟩
          · unfold mX6_ask mX6_ask_b0
            have hb : mX6_bodyOf (nI 2) 0 = some 12 := (bod6 2 (by omega)).1
            rw [hw6, os1, if_neg (by decide), if_neg (by decide), if_pos (by decide), zn_cl (by omega), if_neg c1, ek, e]
            show ob1 (mX6_bodyOf (nI 2) 0) _ = _
            rw [hb, os1]
            have h := an12_2 (k := 0) (d := 0) hP ha hc hw x_bodies (by omega) (by omega) e 40 (by omega)
            show ob3 (mX6_answerOf L ln sy (nI (aW A)) v_kinds v_spelled 40 (nI 0) x_bodies 12 (nI w) (nI 0)) _ = _
            rw [h, os3]
          · unfold mX7_ask mX7_ask_b0
            rw [hw7, os1, if_neg (by decide), hin, os1, if_neg (by decide), if_pos (by rfl)]
            show ob3 (mX7_askedSize m_poem (nI 0) m_trace (nI w)) _ = _
            simp (disch := omega) only [↓reduceIte, Nat.reduceAdd, Nat.reduceMul, Nat.reduceSub, Nat.zero_add, zn_0, zn_1, zn_2, zn_3, zn_4, zn_5, zn_6, zn_7, zn_8, zn_9, zn_10, zn_16, zn_20, zn_23, zn_24, zn_25, zn_26, zn_40, zn_207, zn_4761, zn_99, zn_130, zn_lt_t, zn_lt_f, zn_le_t, zn_le_f, zn_eq_t, zn_eq_f, zn_ix, zn_cl, zq_le_f, zq_le_t, zq_lt_f, zq_lt_t, zn_add, zn_mul, zn_sub, or_false, false_or, or_self, true_or, or_true, and_true, true_and, and_false, false_and, not_true_eq_false, not_false_eq_true, if_true, if_false, os1, os2, os3, os4, os5, os6, os7, os8, os9, os10, os11, os12, os13, os14, os15, os16, os17, os18, os19, os20, os21, os22, os23, os24, mX7_askedSize, mX7_askedSize_b0, mX7_askedSize_b31, mX7_markOf, mX7_markOf_b0, mX7_markOf_b52, mX7_markOf_b55, mX7_smallSize, mX7_smallSize_b0, mX7_smallSize_b17, mX7_smallSize_b28, mX7_plainSize, mX7_plainSize_b0, hk7, hs7, hy7, e, bg7]
          · intro i hi
            have hi' : i = 0 ∨ i = 1 ∨ i = 2 ∨ i = 3 ∨ i = 4 ∨ i = 5 := by omega
            rcases hi' with rfl | rfl | rfl | rfl | rfl | rfl <;> rfl
        · refine ⟨nI (aN ln A w) + (nI w + nI (aSy ln lt A w) - 1000), nI 5, (upd (upd (upd (upd (upd x_bodies 0 11) 1 10) 2 22) 3 21) 4 20), 0, nI 5, (upd (upd (upd (upd (upd m_trace 0 11) 1 10) 2 22) 3 21) 4 20), ?_, ?_, hF, hG, hT, hW, ⟨rfl, 5, by omega, rfl, ?_⟩, hZ0⟩
          · unfold mX6_ask mX6_ask_b0
            have hb : mX6_bodyOf (nI 3) 0 = some 11 := (bod6 3 (by omega)).1
            rw [hw6, os1, if_neg (by decide), if_neg (by decide), if_pos (by decide), zn_cl (by omega), if_neg c1, ek, e]
            show ob1 (mX6_bodyOf (nI 3) 0) _ = _
            rw [hb, os1]
            have h := an11_3 (k := 0) (d := 0) hP ha hc hw x_bodies (by omega) (by omega) e 40 (by omega)
            show ob3 (mX6_answerOf L ln sy (nI (aW A)) v_kinds v_spelled 40 (nI 0) x_bodies 11 (nI w) (nI 0)) _ = _
            rw [h, os3]
          · unfold mX7_ask mX7_ask_b0
            rw [hw7, os1, if_neg (by decide), hin, os1, if_neg (by decide), if_pos (by rfl)]
            show ob3 (mX7_askedSize m_poem (nI 0) m_trace (nI w)) _ = _
            simp (disch := omega) only [↓reduceIte, Nat.reduceAdd, Nat.reduceMul, Nat.reduceSub, Nat.zero_add, zn_0, zn_1, zn_2, zn_3, zn_4, zn_5, zn_6, zn_7, zn_8, zn_9, zn_10, zn_16, zn_20, zn_23, zn_24, zn_25, zn_26, zn_40, zn_207, zn_4761, zn_99, zn_130, zn_lt_t, zn_lt_f, zn_le_t, zn_le_f, zn_eq_t, zn_eq_f, zn_ix, zn_cl, zq_le_f, zq_le_t, zq_lt_f, zq_lt_t, zn_add, zn_mul, zn_sub, or_false, false_or, or_self, true_or, or_true, and_true, true_and, and_false, false_and, not_true_eq_false, not_false_eq_true, if_true, if_false, os1, os2, os3, os4, os5, os6, os7, os8, os9, os10, os11, os12, os13, os14, os15, os16, os17, os18, os19, os20, os21, os22, os23, os24, mX7_askedSize, mX7_askedSize_b0, mX7_askedSize_b31, mX7_markOf, mX7_markOf_b0, mX7_markOf_b52, mX7_markOf_b55, mX7_smallSize, mX7_smallSize_b0, mX7_smallSize_b17, mX7_smallSize_b28, mX7_plainSize, mX7_plainSize_b0, hk7, hs7, hy7, e, bg7]
          · intro i hi
            have hi' : i = 0 ∨ i = 1 ∨ i = 2 ∨ i = 3 ∨ i = 4 := by omega
            rcases hi' with rfl | rfl | rfl | rfl | rfl <;> rfl
        · refine ⟨nI (aN ln A w) - 100, nI 2, (upd (upd x_bodies 0 13) 1 10), 0, nI 2, (upd (upd m_trace 0 13) 1 10), ?_, ?_, hF, hG, hT, hW, ⟨rfl, 2, by omega, rfl, ?_⟩, hZ0⟩
          · unfold mX6_ask mX6_ask_b0
            have hb : mX6_bodyOf (nI 4) 0 = some 13 := (bod6 4 (by omega)).1
            rw [hw6, os1, if_neg (by decide), if_neg (by decide), if_pos (by decide), zn_cl (by omega), if_neg c1, ek, e]
            show ob1 (mX6_bodyOf (nI 4) 0) _ = _
            rw [hb, os1]
            have h := an13 (k := 0) (d := 0) hP ha hc hw x_bodies (by omega) (by omega)  40 (by omega)
            show ob3 (mX6_answerOf L ln sy (nI (aW A)) v_kinds v_spelled 40 (nI 0) x_bodies 13 (nI w) (nI 0)) _ = _
            rw [h, os3]
          · unfold mX7_ask mX7_ask_b0
            rw [hw7, os1, if_neg (by decide), hin, os1, if_neg (by decide), if_pos (by rfl)]
            show ob3 (mX7_askedSize m_poem (nI 0) m_trace (nI w)) _ = _
            simp (disch := omega) only [↓reduceIte, Nat.reduceAdd, Nat.reduceMul, Nat.reduceSub, Nat.zero_add, zn_0, zn_1, zn_2, zn_3, zn_4, zn_5, zn_6, zn_7, zn_8, zn_9, zn_10, zn_16, zn_20, zn_23, zn_24, zn_25, zn_26, zn_40, zn_207, zn_4761, zn_99, zn_130, zn_lt_t, zn_lt_f, zn_le_t, zn_le_f, zn_eq_t, zn_eq_f, zn_ix, zn_cl, zq_le_f, zq_le_t, zq_lt_f, zq_lt_t, zn_add, zn_mul, zn_sub, or_false, false_or, or_self, true_or, or_true, and_true, true_and, and_false, false_and, not_true_eq_false, not_false_eq_true, if_true, if_false, os1, os2, os3, os4, os5, os6, os7, os8, os9, os10, os11, os12, os13, os14, os15, os16, os17, os18, os19, os20, os21, os22, os23, os24, mX7_askedSize, mX7_askedSize_b0, mX7_askedSize_b31, mX7_markOf, mX7_markOf_b0, mX7_markOf_b52, mX7_markOf_b55, mX7_smallSize, mX7_smallSize_b0, mX7_smallSize_b17, mX7_smallSize_b28, mX7_plainSize, mX7_plainSize_b0, hk7, hs7, hy7, e, bg7]
          · intro i hi
            have hi' : i = 0 ∨ i = 1 := by omega
            rcases hi' with rfl | rfl <;> rfl
        · refine ⟨2 * (nI (aN ln A w) - 100), nI 3, (upd (upd (upd x_bodies 0 14) 1 13) 2 10), 0, nI 3, (upd (upd (upd m_trace 0 14) 1 13) 2 10), ?_, ?_, hF, hG, hT, hW, ⟨rfl, 3, by omega, rfl, ?_⟩, hZ0⟩
          · unfold mX6_ask mX6_ask_b0
            have hb : mX6_bodyOf (nI 5) 0 = some 14 := (bod6 5 (by omega)).1
            rw [hw6, os1, if_neg (by decide), if_neg (by decide), if_pos (by decide), zn_cl (by omega), if_neg c1, ek, e]
            show ob1 (mX6_bodyOf (nI 5) 0) _ = _
            rw [hb, os1]
            have h := an14 (k := 0) (d := 0) hP ha hc hw x_bodies (by omega) (by omega)  40 (by omega)
            show ob3 (mX6_answerOf L ln sy (nI (aW A)) v_kinds v_spelled 40 (nI 0) x_bodies 14 (nI w) (nI 0)) _ = _
            rw [h, os3]
          · unfold mX7_ask mX7_ask_b0
            rw [hw7, os1, if_neg (by decide), hin, os1, if_neg (by decide), if_pos (by rfl)]
            show ob3 (mX7_askedSize m_poem (nI 0) m_trace (nI w)) _ = _
            simp (disch := omega) only [↓reduceIte, Nat.reduceAdd, Nat.reduceMul, Nat.reduceSub, Nat.zero_add, zn_0, zn_1, zn_2, zn_3, zn_4, zn_5, zn_6, zn_7, zn_8, zn_9, zn_10, zn_16, zn_20, zn_23, zn_24, zn_25, zn_26, zn_40, zn_207, zn_4761, zn_99, zn_130, zn_lt_t, zn_lt_f, zn_le_t, zn_le_f, zn_eq_t, zn_eq_f, zn_ix, zn_cl, zq_le_f, zq_le_t, zq_lt_f, zq_lt_t, zn_add, zn_mul, zn_sub, or_false, false_or, or_self, true_or, or_true, and_true, true_and, and_false, false_and, not_true_eq_false, not_false_eq_true, if_true, if_false, os1, os2, os3, os4, os5, os6, os7, os8, os9, os10, os11, os12, os13, os14, os15, os16, os17, os18, os19, os20, os21, os22, os23, os24, mX7_askedSize, mX7_askedSize_b0, mX7_askedSize_b31, mX7_markOf, mX7_markOf_b0, mX7_markOf_b52, mX7_markOf_b55, mX7_smallSize, mX7_smallSize_b0, mX7_smallSize_b17, mX7_smallSize_b28, mX7_plainSize, mX7_plainSize_b0, hk7, hs7, hy7, e, bg7]
          · intro i hi
            have hi' : i = 0 ∨ i = 1 ∨ i = 2 := by omega
            rcases hi' with rfl | rfl | rfl <;> rfl
      · rcases hkc with e | e | e | e | e
        · refine ⟨nI w + nI (aSy ln lt A w), nI 2, (upd (upd x_bodies 0 21) 1 20), 0, nI 2, (upd (upd m_trace 0 21) 1 20), ?_, ?_, hF, hG, hT, hW, ⟨rfl, 2, by omega, rfl, ?_⟩, hZ0⟩
          · unfold mX6_ask mX6_ask_b0
            have hb : mX6_bodyOf (nI 1) 1 = some 21 := (bod6 1 (by omega)).2
            rw [hw6, os1, if_neg (by decide), if_neg (by decide), if_pos (by decide), zn_cl (by omega), if_neg c1, ek, e]
            show ob1 (mX6_bodyOf (nI 1) 1) _ = _
            rw [hb, os1]
            have h := an21 (k := 0) (d := 0) hP ha hc hw x_bodies (by omega) (by omega)  40 (by omega)
            show ob3 (mX6_answerOf L ln sy (nI (aW A)) v_kinds v_spelled 40 (nI 0) x_bodies 21 (nI w) (nI 0)) _ = _
            rw [h, os3]
          · unfold mX7_ask mX7_ask_b0
            rw [hw7, os1, if_neg (by decide), hin, os1, if_neg (by decide), if_neg (by decide)]
            show ob3 (mX7_markOf m_poem (nI 0) m_trace (nI w)) _ = _
            simp (disch := omega) only [↓reduceIte, Nat.reduceAdd, Nat.reduceMul, Nat.reduceSub, Nat.zero_add, zn_0, zn_1, zn_2, zn_3, zn_4, zn_5, zn_6, zn_7, zn_8, zn_9, zn_10, zn_16, zn_20, zn_23, zn_24, zn_25, zn_26, zn_40, zn_207, zn_4761, zn_99, zn_130, zn_lt_t, zn_lt_f, zn_le_t, zn_le_f, zn_eq_t, zn_eq_f, zn_ix, zn_cl, zq_le_f, zq_le_t, zq_lt_f, zq_lt_t, zn_add, zn_mul, zn_sub, or_false, false_or, or_self, true_or, or_true, and_true, true_and, and_false, false_and, not_true_eq_false, not_false_eq_true, if_true, if_false, os1, os2, os3, os4, os5, os6, os7, os8, os9, os10, os11, os12, os13, os14, os15, os16, os17, os18, os19, os20, os21, os22, os23, os24, mX7_askedSize, mX7_askedSize_b0, mX7_askedSize_b31, mX7_markOf, mX7_markOf_b0, mX7_markOf_b52, mX7_markOf_b55, mX7_smallSize, mX7_smallSize_b0, mX7_smallSize_b17, mX7_smallSize_b28, mX7_plainSize, mX7_plainSize_b0, hk7, hs7, hy7, e, bg7]
          · intro i hi
            have hi' : i = 0 ∨ i = 1 := by omega
            rcases hi' with rfl | rfl <;> rfl
        · refine ⟨2 * (nI w + nI (aSy ln lt A w)), nI 3, (upd (upd (upd x_bodies 0 24) 1 21) 2 20), 0, nI 3, (upd (upd (upd m_trace 0 24) 1 21) 2 20), ?_, ?_, hF, hG, hT, hW, ⟨rfl, 3, by omega, rfl, ?_⟩, hZ0⟩
          · unfold mX6_ask mX6_ask_b0
            have hb : mX6_bodyOf (nI 2) 1 = some 24 := (bod6 2 (by omega)).2
            rw [hw6, os1, if_neg (by decide), if_neg (by decide), if_pos (by decide), zn_cl (by omega), if_neg c1, ek, e]
            show ob1 (mX6_bodyOf (nI 2) 1) _ = _
            rw [hb, os1]
            have h := an24 (k := 0) (d := 0) hP ha hc hw x_bodies (by omega) (by omega)  40 (by omega)
            show ob3 (mX6_answerOf L ln sy (nI (aW A)) v_kinds v_spelled 40 (nI 0) x_bodies 24 (nI w) (nI 0)) _ = _
            rw [h, os3]
          · unfold mX7_ask mX7_ask_b0
            rw [hw7, os1, if_neg (by decide), hin, os1, if_neg (by decide), if_neg (by decide)]
            show ob3 (mX7_markOf m_poem (nI 0) m_trace (nI w)) _ = _
            simp (disch := omega) only [↓reduceIte, Nat.reduceAdd, Nat.reduceMul, Nat.reduceSub, Nat.zero_add, zn_0, zn_1, zn_2, zn_3, zn_4, zn_5, zn_6, zn_7, zn_8, zn_9, zn_10, zn_16, zn_20, zn_23, zn_24, zn_25, zn_26, zn_40, zn_207, zn_4761, zn_99, zn_130, zn_lt_t, zn_lt_f, zn_le_t, zn_le_f, zn_eq_t, zn_eq_f, zn_ix, zn_cl, zq_le_f, zq_le_t, zq_lt_f, zq_lt_t, zn_add, zn_mul, zn_sub, or_false, false_or, or_self, true_or, or_true, and_true, true_and, and_false, false_and, not_true_eq_false, not_false_eq_true, if_true, if_false, os1, os2, os3, os4, os5, os6, os7, os8, os9, os10, os11, os12, os13, os14, os15, os16, os17, os18, os19, os20, os21, os22, os23, os24, mX7_askedSize, mX7_askedSize_b0, mX7_askedSize_b31, mX7_markOf, mX7_markOf_b0, mX7_markOf_b52, mX7_markOf_b55, mX7_smallSize, mX7_smallSize_b0, mX7_smallSize_b17, mX7_smallSize_b28, mX7_plainSize, mX7_plainSize_b0, hk7, hs7, hy7, e, bg7]
          · intro i hi
            have hi' : i = 0 ∨ i = 1 ∨ i = 2 := by omega
            rcases hi' with rfl | rfl | rfl <;> rfl
        · refine ⟨nI w + nI (aSy ln lt A w) - 1000, nI 3, (upd (upd (upd x_bodies 0 22) 1 21) 2 20), 0, nI 3, (upd (upd (upd m_trace 0 22) 1 21) 2 20), ?_, ?_, hF, hG, hT, hW, ⟨rfl, 3, by omega, rfl, ?_⟩, hZ0⟩
          · unfold mX6_ask mX6_ask_b0
            have hb : mX6_bodyOf (nI 3) 1 = some 22 := (bod6 3 (by omega)).2
            rw [hw6, os1, if_neg (by decide), if_neg (by decide), if_pos (by decide), zn_cl (by omega), if_neg c1, ek, e]
            show ob1 (mX6_bodyOf (nI 3) 1) _ = _
            rw [hb, os1]
            have h := an22 (k := 0) (d := 0) hP ha hc hw x_bodies (by omega) (by omega)  40 (by omega)
            show ob3 (mX6_answerOf L ln sy (nI (aW A)) v_kinds v_spelled 40 (nI 0) x_bodies 22 (nI w) (nI 0)) _ = _
            rw [h, os3]
          · unfold mX7_ask mX7_ask_b0
            rw [hw7, os1, if_neg (by decide), hin, os1, if_neg (by decide), if_neg (by decide)]
            show ob3 (mX7_markOf m_poem (nI 0) m_trace (nI w)) _ = _
            simp (disch := omega) only [↓reduceIte, Nat.reduceAdd, Nat.reduceMul, Nat.reduceSub, Nat.zero_add, zn_0, zn_1, zn_2, zn_3, zn_4, zn_5, zn_6, zn_7, zn_8, zn_9, zn_10, zn_16, zn_20, zn_23, zn_24, zn_25, zn_26, zn_40, zn_207, zn_4761, zn_99, zn_130, zn_lt_t, zn_lt_f, zn_le_t, zn_le_f, zn_eq_t, zn_eq_f, zn_ix, zn_cl, zq_le_f, zq_le_t, zq_lt_f, zq_lt_t, zn_add, zn_mul, zn_sub, or_false, false_or, or_self, true_or, or_true, and_true, true_and, and_false, false_and, not_true_eq_false, not_false_eq_true, if_true, if_false, os1, os2, os3, os4, os5, os6, os7, os8, os9, os10, os11, os12, os13, os14, os15, os16, os17, os18, os19, os20, os21, os22, os23, os24, mX7_askedSize, mX7_askedSize_b0, mX7_askedSize_b31, mX7_markOf, mX7_markOf_b0, mX7_markOf_b52, mX7_markOf_b55, mX7_smallSize, mX7_smallSize_b0, mX7_smallSize_b17, mX7_smallSize_b28, mX7_plainSize, mX7_plainSize_b0, hk7, hs7, hy7, e, bg7]
          · intro i hi
            have hi' : i = 0 ∨ i = 1 ∨ i = 2 := by omega
            rcases hi' with rfl | rfl | rfl <;> rfl
        · refine ⟨nI w - (nI (aN ln A w) - 100), nI 4, (upd (upd (upd (upd x_bodies 0 23) 1 20) 2 13) 3 10), 0, nI 4, (upd (upd (upd (upd m_trace 0 23) 1 20) 2 13) 3 10), ?_, ?_, hF, hG, hT, hW, ⟨rfl, 4, by omega, rfl, ?_⟩, hZ0⟩
          · unfold mX6_ask mX6_ask_b0
            have hb : mX6_bodyOf (nI 4) 1 = some 23 := (bod6 4 (by omega)).2
            rw [hw6, os1, if_neg (by decide), if_neg (by decide), if_pos (by decide), zn_cl (by omega), if_neg c1, ek, e]
            show ob1 (mX6_bodyOf (nI 4) 1) _ = _
            rw [hb, os1]
            have h := an23_4 (k := 0) (d := 0) hP ha hc hw x_bodies (by omega) (by omega) e 40 (by omega)
            show ob3 (mX6_answerOf L ln sy (nI (aW A)) v_kinds v_spelled 40 (nI 0) x_bodies 23 (nI w) (nI 0)) _ = _
            rw [h, os3]
          · unfold mX7_ask mX7_ask_b0
            rw [hw7, os1, if_neg (by decide), hin, os1, if_neg (by decide), if_neg (by decide)]
            show ob3 (mX7_markOf m_poem (nI 0) m_trace (nI w)) _ = _
            simp (disch := omega) only [↓reduceIte, Nat.reduceAdd, Nat.reduceMul, Nat.reduceSub, Nat.zero_add, zn_0, zn_1, zn_2, zn_3, zn_4, zn_5, zn_6, zn_7, zn_8, zn_9, zn_10, zn_16, zn_20, zn_23, zn_24, zn_25, zn_26, zn_40, zn_207, zn_4761, zn_99, zn_130, zn_lt_t, zn_lt_f, zn_le_t, zn_le_f, zn_eq_t, zn_eq_f, zn_ix, zn_cl, zq_le_f, zq_le_t, zq_lt_f, zq_lt_t, zn_add, zn_mul, zn_sub, or_false, false_or, or_self, true_or, or_true, and_true, true_and, and_false, false_and, not_true_eq_false, not_false_eq_true, if_true, if_false, os1, os2, os3, os4, os5, os6, os7, os8, os9, os10, os11, os12, os13, os14, os15, os16, os17, os18, os19, os20, os21, os22, os23, os24, mX7_askedSize, mX7_askedSize_b0, mX7_askedSize_b31, mX7_markOf, mX7_markOf_b0, mX7_markOf_b52, mX7_markOf_b55, mX7_smallSize, mX7_smallSize_b0, mX7_smallSize_b17, mX7_smallSize_b28, mX7_plainSize, mX7_plainSize_b0, hk7, hs7, hy7, e, bg7]
          · intro i hi
            have hi' : i = 0 ∨ i = 1 ∨ i = 2 ∨ i = 3 := by omega
            rcases hi' with rfl | rfl | rfl | rfl <;> rfl
        · refine ⟨nI w - (2 * (nI (aN ln A w) - 100)), nI 5, (upd (upd (upd (upd (upd x_bodies 0 23) 1 20) 2 14) 3 13) 4 10), 0, nI 5, (upd (upd (upd (upd (upd m_trace 0 23) 1 20) 2 14) 3 13) 4 10), ?_, ?_, hF, hG, hT, hW, ⟨rfl, 5, by omega, rfl, ?_⟩, hZ0⟩
          · unfold mX6_ask mX6_ask_b0
            have hb : mX6_bodyOf (nI 5) 1 = some 23 := (bod6 5 (by omega)).2
            rw [hw6, os1, if_neg (by decide), if_neg (by decide), if_pos (by decide), zn_cl (by omega), if_neg c1, ek, e]
            show ob1 (mX6_bodyOf (nI 5) 1) _ = _
            rw [hb, os1]
            have h := an23_5 (k := 0) (d := 0) hP ha hc hw x_bodies (by omega) (by omega) e 40 (by omega)
            show ob3 (mX6_answerOf L ln sy (nI (aW A)) v_kinds v_spelled 40 (nI 0) x_bodies 23 (nI w) (nI 0)) _ = _
            rw [h, os3]
          · unfold mX7_ask mX7_ask_b0
            rw [hw7, os1, if_neg (by decide), hin, os1, if_neg (by decide), if_neg (by decide)]
            show ob3 (mX7_markOf m_poem (nI 0) m_trace (nI w)) _ = _
            simp (disch := omega) only [↓reduceIte, Nat.reduceAdd, Nat.reduceMul, Nat.reduceSub, Nat.zero_add, zn_0, zn_1, zn_2, zn_3, zn_4, zn_5, zn_6, zn_7, zn_8, zn_9, zn_10, zn_16, zn_20, zn_23, zn_24, zn_25, zn_26, zn_40, zn_207, zn_4761, zn_99, zn_130, zn_lt_t, zn_lt_f, zn_le_t, zn_le_f, zn_eq_t, zn_eq_f, zn_ix, zn_cl, zq_le_f, zq_le_t, zq_lt_f, zq_lt_t, zn_add, zn_mul, zn_sub, or_false, false_or, or_self, true_or, or_true, and_true, true_and, and_false, false_and, not_true_eq_false, not_false_eq_true, if_true, if_false, os1, os2, os3, os4, os5, os6, os7, os8, os9, os10, os11, os12, os13, os14, os15, os16, os17, os18, os19, os20, os21, os22, os23, os24, mX7_askedSize, mX7_askedSize_b0, mX7_askedSize_b31, mX7_markOf, mX7_markOf_b0, mX7_markOf_b52, mX7_markOf_b55, mX7_smallSize, mX7_smallSize_b0, mX7_smallSize_b17, mX7_smallSize_b28, mX7_plainSize, mX7_plainSize_b0, hk7, hs7, hy7, e, bg7]
          · intro i hi
            have hi' : i = 0 ∨ i = 1 ∨ i = 2 ∨ i = 3 ∨ i = 4 := by omega
            rcases hi' with rfl | rfl | rfl | rfl | rfl <;> rfl
    · rw [if_neg (by omega)] at hin
      refine ⟨-1000001, x_begun, x_bodies, 0, m_traced, m_trace, ?_, ?_, hF, hG, hT, hW, hC, hZ0⟩
      · unfold mX6_ask mX6_ask_b0
        rw [hw6, os1, if_neg (by decide)]
        by_cases c1 : a2 < 0
        · rw [if_pos c1]
        · rw [if_neg c1, if_neg]
          rw [i32_lt] at c1; rw [i32_le]
          have e0 : (0 : Int32).toInt = 0 := rfl
          have e1 : (1 : Int32).toInt = 1 := rfl
          omega
      · unfold mX7_ask mX7_ask_b0
        rw [hw7, os1, if_neg (by decide), hin]
        rfl
  · refine ⟨-1000001, x_begun, x_bodies, 0, m_traced, m_trace, ?_, ?_, hF, hG, hT, hW, hC, hZ0⟩
    · unfold mX6_ask mX6_ask_b0
      rw [c_hw_f hn (by omega)]; rfl
    · unfold mX7_ask mX7_ask_b0
      rw [r_iw_f hpr ha hn]; rfl
