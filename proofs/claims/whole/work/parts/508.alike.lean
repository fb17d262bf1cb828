-- uses: 501.auto 502.abs 503.line 504.word 505.bits 507.tail
/-! tails that are alike, by both -/
section
variable {L : List Nat} {ln sy sn : Nat → Int32} {lt st : Nat → Nat → Int32} {A : AP} {row : Nat → Int32} {kinds sizes : Nat → Int32} {spelled : Nat → Nat}
theorem c_tailStart (hp : POOL L ln sy sn lt st) (ha : AOK L ln lt A) (hc : CW A kinds spelled) {w : Nat} (hw : w < aW A) : mX2_tailStart L sy st kinds spelled (nI w) = some (nI (aT ln lt A w)) := by
  obtain ⟨hn, h5, h1, hk, hq, h20⟩ := aok_w ha hw
  obtain ⟨ek, es⟩ := hc w hw
  have hs : sy (aQ A w) = nI (aSy ln lt A w) := (pool_w hp ha hw).2.2.1
  unfold mX2_tailStart mX2_tailStart_b0
  have c1 : ¬ (nI w < 0 ∨ 20 ≤ w) := by simp (disch := omega) only [↓reduceIte, Nat.reduceAdd, Nat.reduceMul, Nat.reduceSub, Nat.zero_add, zn_0, zn_1, zn_2, zn_3, zn_4, zn_5, zn_6, zn_7, zn_8, zn_9, zn_10, zn_16, zn_20, zn_23, zn_24, zn_25, zn_26, zn_40, zn_207, zn_4761, zn_99, zn_130, zn_lt_t, zn_lt_f, zn_le_t, zn_le_f, zn_eq_t, zn_eq_f, zn_ix, zn_cl, zq_le_f, zq_le_t, zq_lt_f, zq_lt_t, zn_add, zn_mul, zn_sub, or_false, false_or, or_self, true_or, or_true, and_true, true_and, and_false, false_and, not_true_eq_false, not_false_eq_true, if_true, if_false, os1, os2, os3, os4, os5, os6, os7, os8, os9, os10, os11, os12, os13, os14, os15, os16, os17, os18, os19, os20, os21, os22, os23, os24]
  rw [c_strong hp ha hc hw, os1, zn_cl (by omega), if_neg c1, es, if_neg (fun q => q hq), hs]
  exact c_tailStart_loop hp ha hw _
theorem r_tf_loop2 (h : PR ln lt A row) (ha : AOK L ln lt A) {w : Nat} (hw : w < aW A) : ∀ (d k : Nat), k + d = aT ln lt A w → ∀ n, d < n → mX7_tailFrom_b59 row (nI w) n (nI (LSy (aKd A w) (aSy ln lt A w))) (nI (RT (lt (aQ A w)) k)) (nI k) = some (nI (aT ln lt A w))
  | _, _, _, 0, hn => absurd hn (by omega)
  | 0, k, hk, n + 1, _ => by
    obtain ⟨hN, -, -, -, -, hc⟩ := aok_w ha hw
    obtain ⟨t1, t2, t3, t4⟩ := aT_ok ha hw
    have e : k = aT ln lt A w := by omega
    subst e
    rw [mX7_tailFrom_b59, r_size h ha hw, os1, r_isRun h ha hw (by omega), t3, t4, b2i_t]
    simp (disch := omega) only [↓reduceIte, Nat.reduceAdd, Nat.reduceMul, Nat.reduceSub, Nat.zero_add, zn_0, zn_1, zn_2, zn_3, zn_4, zn_5, zn_6, zn_7, zn_8, zn_9, zn_10, zn_16, zn_20, zn_23, zn_24, zn_25, zn_26, zn_40, zn_207, zn_4761, zn_99, zn_130, zn_lt_t, zn_lt_f, zn_le_t, zn_le_f, zn_eq_t, zn_eq_f, zn_ix, zn_cl, zq_le_f, zq_le_t, zq_lt_f, zq_lt_t, zn_add, zn_mul, zn_sub, or_false, false_or, or_self, true_or, or_true, and_true, true_and, and_false, false_and, not_true_eq_false, not_false_eq_true, if_true, if_false, os1, os2, os3, os4, os5, os6, os7, os8, os9, os10, os11, os12, os13, os14, os15, os16, os17, os18, os19, os20, os21, os22, os23, os24]
  | d + 1, k, hk, n + 1, hn => by
    obtain ⟨hN, -, -, -, -, hc⟩ := aok_w ha hw
    obtain ⟨t1, t2, t3, t4⟩ := aT_ok ha hw
    have hl := LSy_lt (k := aKd A w) (aok_s ha hw).1
    have hs4 := (aok_s ha hw).2
    have ih := r_tf_loop2 h ha hw d (k + 1) (by omega) n (by omega)
    rw [mX7_tailFrom_b59, r_size h ha hw, os1, r_isRun h ha hw (by omega : k < _)]
    cases hb : RN (lt (aQ A w)) k
    · rw [RT_succ_no hb] at ih
      rw [b2i_f]
      simp (disch := omega) only [↓reduceIte, Nat.reduceAdd, Nat.reduceMul, Nat.reduceSub, Nat.zero_add, zn_0, zn_1, zn_2, zn_3, zn_4, zn_5, zn_6, zn_7, zn_8, zn_9, zn_10, zn_16, zn_20, zn_23, zn_24, zn_25, zn_26, zn_40, zn_207, zn_4761, zn_99, zn_130, zn_lt_t, zn_lt_f, zn_le_t, zn_le_f, zn_eq_t, zn_eq_f, zn_ix, zn_cl, zq_le_f, zq_le_t, zq_lt_f, zq_lt_t, zn_add, zn_mul, zn_sub, or_false, false_or, or_self, true_or, or_true, and_true, true_and, and_false, false_and, not_true_eq_false, not_false_eq_true, if_true, if_false, os1, os2, os3, os4, os5, os6, os7, os8, os9, os10, os11, os12, os13, os14, os15, os16, os17, os18, os19, os20, os21, os22, os23, os24]
      exact ih
    · rw [RT_succ_of hb] at ih
      have hm := RT_mono (lt (aQ A w)) (a := k + 1) d
      rw [show k + 1 + d = aT ln lt A w by omega, RT_succ_of hb, t4] at hm
      rw [b2i_t]
      simp (disch := omega) only [↓reduceIte, Nat.reduceAdd, Nat.reduceMul, Nat.reduceSub, Nat.zero_add, zn_0, zn_1, zn_2, zn_3, zn_4, zn_5, zn_6, zn_7, zn_8, zn_9, zn_10, zn_16, zn_20, zn_23, zn_24, zn_25, zn_26, zn_40, zn_207, zn_4761, zn_99, zn_130, zn_lt_t, zn_lt_f, zn_le_t, zn_le_f, zn_eq_t, zn_eq_f, zn_ix, zn_cl, zq_le_f, zq_le_t, zq_lt_f, zq_lt_t, zn_add, zn_mul, zn_sub, or_false, false_or, or_self, true_or, or_true, and_true, true_and, and_false, false_and, not_true_eq_false, not_false_eq_true, if_true, if_false, os1, os2, os3, os4, os5, os6, os7, os8, os9, os10, os11, os12, os13, os14, os15, os16, os17, os18, os19, os20, os21, os22, os23, os24]
      exact ih
/-- the last strong one ahead of i -/
def bestS (k s : Nat) : Nat → Int32
  | 0 => -1000000
  | i + 1 => if isS k s i then nI i else bestS k s i
theorem r_tf_loop1 (h : PR ln lt A row) (ha : AOK L ln lt A) {w : Nat} (hw : w < aW A) : ∀ (d k : Nat), k + d = aSy ln lt A w → ∀ n, d < n → mX7_tailFrom_b5 row (nI w) n (bestS (aKd A w) (aSy ln lt A w) k) (nI k) = some (nI (aT ln lt A w))
  | _, _, _, 0, hn => absurd hn (by omega)
  | 0, k, hk, n + 1, _ => by
    obtain ⟨hs1, hs4⟩ := aok_s ha hw
    obtain ⟨hN, -, -, hkd, -, hc⟩ := aok_w ha hw
    obtain ⟨t1, t2, t3, t4⟩ := aT_ok ha hw
    have e : k = aSy ln lt A w := by omega
    subst e
    rw [mX7_tailFrom_b5, r_syll h ha hw, os1]
    have hb : bestS (aKd A w) (aSy ln lt A w) (aSy ln lt A w) = nI (LSy (aKd A w) (aSy ln lt A w)) ∨ (bestS (aKd A w) (aSy ln lt A w) (aSy ln lt A w) = -1000000 ∧ LSy (aKd A w) (aSy ln lt A w) = aSy ln lt A w - 1) := by
      have key : ∀ k, k < 6 → ∀ s, s < 5 → 1 ≤ k → 1 ≤ s → bestS k s s = nI (LSy k s) ∨ (bestS k s s = -1000000 ∧ LSy k s = s - 1) := by decide
      exact key _ (by omega) _ (by omega) hkd.1 hs1
    have hl := LSy_lt (k := aKd A w) hs1
    have l2 := r_tf_loop2 h ha hw (aT ln lt A w) 0 (by omega) FU (zn_fu (by omega))
    have e0 : RT (lt (aQ A w)) 0 = 0 := rfl
    rw [e0] at l2
    rw [if_pos (nI_le (Nat.le_refl _) (by omega))]
    rcases hb with hb | ⟨hb, hb2⟩
    · rw [hb, if_neg]
      · exact l2
      · intro q
        have h1 := nI_toInt (n := LSy (aKd A w) (aSy ln lt A w)) (by omega)
        rw [q] at h1
        have : (-1000000 : Int32).toInt = -1000000 := rfl
        omega
    · rw [hb, if_pos rfl, os1]
      rw [hb2] at l2
      rw [zn_1, zn_sub hs1]
      exact l2
  | d + 1, k, hk, n + 1, hn => by
    obtain ⟨hs1, hs4⟩ := aok_s ha hw
    have ih := r_tf_loop1 h ha hw d (k + 1) (by omega) n (by omega)
    rw [mX7_tailFrom_b5, r_syll h ha hw, os1, r_strength h ha hw (by omega)]
    have hle := STR_le (aKd A w) (aSy ln lt A w) k
    rw [bestS] at ih
    have c1 : ¬ nI (aSy ln lt A w) ≤ nI k := nI_ge (by omega) (by omega)
    by_cases hb : STR (aKd A w) (aSy ln lt A w) k = 1
    · rw [if_neg c1, os1, hb, if_pos (by rfl), nI_1]
      rw [if_pos (by unfold isS; simp [hb])] at ih
      exact ih
    · rw [if_neg c1, os1, if_neg, nI_1]
      · rw [if_neg (by unfold isS; simp [hb])] at ih
        exact ih
      · intro q
        exact hb (zn_inj (b := 1) (by omega) (by omega) q)
theorem r_tailFrom (h : PR ln lt A row) (ha : AOK L ln lt A) {w : Nat} (hw : w < aW A) : mX7_tailFrom row (nI w) = some (nI (aT ln lt A w)) := by
  obtain ⟨hs1, hs4⟩ := aok_s ha hw
  exact r_tf_loop1 h ha hw (aSy ln lt A w) 0 (by omega) FU (zn_fu (by omega))
theorem r_tailSize (h : PR ln lt A row) (ha : AOK L ln lt A) {w : Nat} (hw : w < aW A) : mX7_tailSize row (nI w) = some (nI (aD ln lt A w - aT ln lt A w)) := by
  obtain ⟨hN, -, -, hkd, -, hc⟩ := aok_w ha hw
  obtain ⟨t1, t2, t3, t4⟩ := aT_ok ha hw
  unfold mX7_tailSize mX7_tailSize_b0 mX7_tailSize_b18
  rw [r_size h ha hw, os1, r_mute h ha hw, os1, r_tailFrom h ha hw, os1, os1]
  have e : aD ln lt A w = if ME (lt (aQ A w)) (aN ln A w) = true then aN ln A w - 1 else aN ln A w := rfl
  cases hb : ME (lt (aQ A w)) (aN ln A w)
  · rw [hb, if_neg (by decide)] at e
    rw [b2i_f, e]
    simp (disch := omega) only [↓reduceIte, Nat.reduceAdd, Nat.reduceMul, Nat.reduceSub, Nat.zero_add, zn_0, zn_1, zn_2, zn_3, zn_4, zn_5, zn_6, zn_7, zn_8, zn_9, zn_10, zn_16, zn_20, zn_23, zn_24, zn_25, zn_26, zn_40, zn_207, zn_4761, zn_99, zn_130, zn_lt_t, zn_lt_f, zn_le_t, zn_le_f, zn_eq_t, zn_eq_f, zn_ix, zn_cl, zq_le_f, zq_le_t, zq_lt_f, zq_lt_t, zn_add, zn_mul, zn_sub, or_false, false_or, or_self, true_or, or_true, and_true, true_and, and_false, false_and, not_true_eq_false, not_false_eq_true, if_true, if_false, os1, os2, os3, os4, os5, os6, os7, os8, os9, os10, os11, os12, os13, os14, os15, os16, os17, os18, os19, os20, os21, os22, os23, os24, Nat.sub_zero]
  · rw [hb, if_pos rfl] at e
    rw [b2i_t, e]
    simp (disch := omega) only [↓reduceIte, Nat.reduceAdd, Nat.reduceMul, Nat.reduceSub, Nat.zero_add, zn_0, zn_1, zn_2, zn_3, zn_4, zn_5, zn_6, zn_7, zn_8, zn_9, zn_10, zn_16, zn_20, zn_23, zn_24, zn_25, zn_26, zn_40, zn_207, zn_4761, zn_99, zn_130, zn_lt_t, zn_lt_f, zn_le_t, zn_le_f, zn_eq_t, zn_eq_f, zn_ix, zn_cl, zq_le_f, zq_le_t, zq_lt_f, zq_lt_t, zn_add, zn_mul, zn_sub, or_false, false_or, or_self, true_or, or_true, and_true, true_and, and_false, false_and, not_true_eq_false, not_false_eq_true, if_true, if_false, os1, os2, os3, os4, os5, os6, os7, os8, os9, os10, os11, os12, os13, os14, os15, os16, os17, os18, os19, os20, os21, os22, os23, os24]
/-- alike from i on, d letters -/
def eqF (f g : Nat → Int32) : Nat → Nat → Bool
  | 0, _ => true
  | d + 1, i => decide (f i = g i) && eqF f g d (i + 1)
theorem eqF_symm (f g : Nat → Int32) : ∀ d i, eqF f g d i = eqF g f d i
  | 0, _ => rfl
  | d + 1, i => by
    unfold eqF
    rw [eqF_symm f g d (i + 1)]
    by_cases h : f i = g i
    · simp [h]
    · have : ¬ g i = f i := fun e => h e.symm
      simp [h, this]
abbrev aTl (ln : Nat → Int32) (lt : Nat → Nat → Int32) (A : AP) (w : Nat) : Nat → Int32 := fun i => lt (aQ A w) (aT ln lt A w + i)
def ALK (ln : Nat → Int32) (lt : Nat → Nat → Int32) (A : AP) (a b : Nat) : Bool := decide (aD ln lt A a - aT ln lt A a = aD ln lt A b - aT ln lt A b) && eqF (aTl ln lt A a) (aTl ln lt A b) (aD ln lt A a - aT ln lt A a) 0
theorem ALK_symm (a b : Nat) : ALK ln lt A a b = ALK ln lt A b a := by
  unfold ALK
  by_cases h : aD ln lt A a - aT ln lt A a = aD ln lt A b - aT ln lt A b
  · rw [eqF_symm, h]
  · have : ¬ aD ln lt A b - aT ln lt A b = aD ln lt A a - aT ln lt A a := fun e => h e.symm
    simp [h, this]
theorem r_alike_no (row : Nat → Int32) (a b : Nat) {m : Nat} (hm : m ≤ 8) (n : Nat) (k : Nat) (hk : k ≤ 8) : mX7_areAlike_b25 row (nI a) (nI b) (n + 1) (nI m) 0 (nI k) = some 0 := by
  rw [mX7_areAlike_b25]
  by_cases h : m ≤ k
  · simp (disch := omega) only [↓reduceIte, Nat.reduceAdd, Nat.reduceMul, Nat.reduceSub, Nat.zero_add, zn_0, zn_1, zn_2, zn_3, zn_4, zn_5, zn_6, zn_7, zn_8, zn_9, zn_10, zn_16, zn_20, zn_23, zn_24, zn_25, zn_26, zn_40, zn_207, zn_4761, zn_99, zn_130, zn_lt_t, zn_lt_f, zn_le_t, zn_le_f, zn_eq_t, zn_eq_f, zn_ix, zn_cl, zq_le_f, zq_le_t, zq_lt_f, zq_lt_t, zn_add, zn_mul, zn_sub, or_false, false_or, or_self, true_or, or_true, and_true, true_and, and_false, false_and, not_true_eq_false, not_false_eq_true, if_true, if_false, os1, os2, os3, os4, os5, os6, os7, os8, os9, os10, os11, os12, os13, os14, os15, os16, os17, os18, os19, os20, os21, os22, os23, os24]
  · simp (disch := omega) only [↓reduceIte, Nat.reduceAdd, Nat.reduceMul, Nat.reduceSub, Nat.zero_add, zn_0, zn_1, zn_2, zn_3, zn_4, zn_5, zn_6, zn_7, zn_8, zn_9, zn_10, zn_16, zn_20, zn_23, zn_24, zn_25, zn_26, zn_40, zn_207, zn_4761, zn_99, zn_130, zn_lt_t, zn_lt_f, zn_le_t, zn_le_f, zn_eq_t, zn_eq_f, zn_ix, zn_cl, zq_le_f, zq_le_t, zq_lt_f, zq_lt_t, zn_add, zn_mul, zn_sub, or_false, false_or, or_self, true_or, or_true, and_true, true_and, and_false, false_and, not_true_eq_false, not_false_eq_true, if_true, if_false, os1, os2, os3, os4, os5, os6, os7, os8, os9, os10, os11, os12, os13, os14, os15, os16, os17, os18, os19, os20, os21, os22, os23, os24]
theorem r_alike_loop (h : PR ln lt A row) (ha : AOK L ln lt A) {a b : Nat} (hwa : a < aW A) (hwb : b < aW A) (hd : aD ln lt A a - aT ln lt A a = aD ln lt A b - aT ln lt A b) : ∀ (d k : Nat), k + d = aD ln lt A a - aT ln lt A a → ∀ n, d < n → mX7_areAlike_b25 row (nI a) (nI b) n (nI (aD ln lt A a - aT ln lt A a)) 1 (nI k) = some (b2i (eqF (aTl ln lt A a) (aTl ln lt A b) d k))
  | _, _, _, 0, hn => absurd hn (by omega)
  | 0, k, hk, n + 1, _ => by
    obtain ⟨hN, -, -, hkd, -, hc⟩ := aok_w ha hwa
    obtain ⟨t1, t2, t3, t4⟩ := aT_ok ha hwa
    rw [mX7_areAlike_b25]
    simp (disch := omega) only [↓reduceIte, Nat.reduceAdd, Nat.reduceMul, Nat.reduceSub, Nat.zero_add, zn_0, zn_1, zn_2, zn_3, zn_4, zn_5, zn_6, zn_7, zn_8, zn_9, zn_10, zn_16, zn_20, zn_23, zn_24, zn_25, zn_26, zn_40, zn_207, zn_4761, zn_99, zn_130, zn_lt_t, zn_lt_f, zn_le_t, zn_le_f, zn_eq_t, zn_eq_f, zn_ix, zn_cl, zq_le_f, zq_le_t, zq_lt_f, zq_lt_t, zn_add, zn_mul, zn_sub, or_false, false_or, or_self, true_or, or_true, and_true, true_and, and_false, false_and, not_true_eq_false, not_false_eq_true, if_true, if_false, os1, os2, os3, os4, os5, os6, os7, os8, os9, os10, os11, os12, os13, os14, os15, os16, os17, os18, os19, os20, os21, os22, os23, os24]
    rfl
  | d + 1, k, hk, n + 1, hn => by
    obtain ⟨hN, -, -, hkd, -, hc⟩ := aok_w ha hwa
    obtain ⟨t1, t2, t3, t4⟩ := aT_ok ha hwa
    obtain ⟨hN', -, -, -, -, hc'⟩ := aok_w ha hwb
    obtain ⟨t1', t2', -, -⟩ := aT_ok ha hwb
    obtain ⟨n, rfl⟩ : ∃ q, n = q + 1 := ⟨n - 1, by omega⟩
    have ih := r_alike_loop h ha hwa hwb hd d (k + 1) (by omega) (n + 1) (by omega)
    rw [mX7_areAlike_b25, if_neg (nI_ge (by omega) (by omega)), if_neg (by decide), r_tailFrom h ha hwa, os1, zn_add, r_letter h ha hwa (by omega), os1, r_tailFrom h ha hwb, os1, zn_add, r_letter h ha hwb (by omega), os1, nI_1, eqF]
    by_cases he : lt (aQ A a) (aT ln lt A a + k) = lt (aQ A b) (aT ln lt A b + k)
    · rw [if_pos he, ih]
      simp only [aTl, he, decide_true, Bool.true_and]
    · rw [if_neg he, r_alike_no row a b (by omega) n (k + 1) (by omega)]
      simp only [aTl, he, decide_false, Bool.false_and]
      rfl
theorem r_alike (h : PR ln lt A row) (ha : AOK L ln lt A) {a b : Nat} (hwa : a < aW A) (hwb : b < aW A) : mX7_areAlike row (nI a) (nI b) = some (b2i (ALK ln lt A a b)) := by
  obtain ⟨hN, -, -, hkd, -, hc⟩ := aok_w ha hwa
  obtain ⟨t1, t2, t3, t4⟩ := aT_ok ha hwa
  obtain ⟨hN', -, -, -, -, hc'⟩ := aok_w ha hwb
  obtain ⟨t1', t2', -, -⟩ := aT_ok ha hwb
  unfold mX7_areAlike mX7_areAlike_b0 ALK
  rw [r_tailSize h ha hwa, os1, r_tailSize h ha hwb, os1]
  by_cases hd : aD ln lt A a - aT ln lt A a = aD ln lt A b - aT ln lt A b
  · have := r_alike_loop h ha hwa hwb hd (aD ln lt A a - aT ln lt A a) 0 (by omega) FU (zn_fu (by omega))
    rw [if_pos (by rw [hd])]
    simp only [hd, decide_true, Bool.true_and] at this ⊢
    exact this
  · obtain ⟨N, hN⟩ := FU_e
    have hno := r_alike_no row a b (m := aD ln lt A a - aT ln lt A a) (by omega) (N + 63) 0 (by omega)
    rw [nI_0] at hno
    rw [if_neg (fun e => hd (zn_inj (by omega) (by omega) e)), hN, hno]
    simp only [hd, decide_false, Bool.false_and]
    rfl
theorem c_alike_loop (ha : AOK L ln lt A) (hc : CW A kinds spelled) {a b : Nat} (hwa : a < aW A) (hwb : b < aW A) (hd : aD ln lt A a - aT ln lt A a = aD ln lt A b - aT ln lt A b) : ∀ (d k : Nat), k + d = aD ln lt A a - aT ln lt A a → ∀ n, d < n → mX2_tailsAlike_b48 L ln sy sn lt st kinds spelled (nI a) (nI b) n (nI (aT ln lt A a)) (nI (aT ln lt A b)) (nI (aD ln lt A a - aT ln lt A a)) (nI k) = some (b2i (eqF (aTl ln lt A a) (aTl ln lt A b) d k))
  | _, _, _, 0, hn => absurd hn (by omega)
  | 0, k, hk, n + 1, _ => by
    obtain ⟨hN, -, -, hkd, -, hc⟩ := aok_w ha hwa
    obtain ⟨t1, t2, t3, t4⟩ := aT_ok ha hwa
    rw [mX2_tailsAlike_b48]
    simp (disch := omega) only [↓reduceIte, Nat.reduceAdd, Nat.reduceMul, Nat.reduceSub, Nat.zero_add, zn_0, zn_1, zn_2, zn_3, zn_4, zn_5, zn_6, zn_7, zn_8, zn_9, zn_10, zn_16, zn_20, zn_23, zn_24, zn_25, zn_26, zn_40, zn_207, zn_4761, zn_99, zn_130, zn_lt_t, zn_lt_f, zn_le_t, zn_le_f, zn_eq_t, zn_eq_f, zn_ix, zn_cl, zq_le_f, zq_le_t, zq_lt_f, zq_lt_t, zn_add, zn_mul, zn_sub, or_false, false_or, or_self, true_or, or_true, and_true, true_and, and_false, false_and, not_true_eq_false, not_false_eq_true, if_true, if_false, os1, os2, os3, os4, os5, os6, os7, os8, os9, os10, os11, os12, os13, os14, os15, os16, os17, os18, os19, os20, os21, os22, os23, os24]
    rfl
  | d + 1, k, hk, n + 1, hn => by
    obtain ⟨hN, l1, -, hkd, hq, h20⟩ := aok_w ha hwa
    obtain ⟨t1, t2, t3, t4⟩ := aT_ok ha hwa
    obtain ⟨hN', l2, -, -, hq', h20'⟩ := aok_w ha hwb
    obtain ⟨t1', t2', -, -⟩ := aT_ok ha hwb
    obtain ⟨ek, es⟩ := hc a hwa
    obtain ⟨ek', es'⟩ := hc b hwb
    have ih := c_alike_loop ha hc hwa hwb hd d (k + 1) (by omega) n (by omega)
    rw [mX2_tailsAlike_b48, eqF]
    simp (disch := omega) only [↓reduceIte, Nat.reduceAdd, Nat.reduceMul, Nat.reduceSub, Nat.zero_add, zn_0, zn_1, zn_2, zn_3, zn_4, zn_5, zn_6, zn_7, zn_8, zn_9, zn_10, zn_16, zn_20, zn_23, zn_24, zn_25, zn_26, zn_40, zn_207, zn_4761, zn_99, zn_130, zn_lt_t, zn_lt_f, zn_le_t, zn_le_f, zn_eq_t, zn_eq_f, zn_ix, zn_cl, zq_le_f, zq_le_t, zq_lt_f, zq_lt_t, zn_add, zn_mul, zn_sub, or_false, false_or, or_self, true_or, or_true, and_true, true_and, and_false, false_and, not_true_eq_false, not_false_eq_true, if_true, if_false, os1, os2, os3, os4, os5, os6, os7, os8, os9, os10, os11, os12, os13, os14, os15, os16, os17, os18, os19, os20, os21, os22, os23, os24, es, es', l1, l2, hq, hq']
    by_cases he : lt (aQ A a) (aT ln lt A a + k) = lt (aQ A b) (aT ln lt A b + k)
    · rw [if_pos he, ih]
      simp only [aTl, he, decide_true, Bool.true_and]
    · rw [if_neg he]
      simp only [aTl, he, decide_false, Bool.false_and]
      rfl
theorem c_alike (hp : POOL L ln sy sn lt st) (ha : AOK L ln lt A) (hc : CW A kinds spelled) {a b : Nat} (hwa : a < aW A) (hwb : b < aW A) : mX2_tailsAlike L ln sy sn lt st kinds spelled (nI a) (nI b) = some (b2i (ALK ln lt A a b)) := by
  obtain ⟨hN, l1, -, hkd, hq, h20⟩ := aok_w ha hwa
  obtain ⟨t1, t2, t3, t4⟩ := aT_ok ha hwa
  obtain ⟨hN', l2, -, -, hq', h20'⟩ := aok_w ha hwb
  obtain ⟨t1', t2', -, -⟩ := aT_ok ha hwb
  obtain ⟨ek, es⟩ := hc a hwa
  obtain ⟨ek', es'⟩ := hc b hwb
  have sa : sn (aQ A a) = nI (aD ln lt A a) := (pool_w hp ha hwa).2.2.2.1
  have sb : sn (aQ A b) = nI (aD ln lt A b) := (pool_w hp ha hwb).2.2.2.1
  have e1 : nI (aD ln lt A a) - nI (aT ln lt A a) = nI (aD ln lt A a - aT ln lt A a) := zn_sub (by omega)
  have e2 : nI (aD ln lt A b) - nI (aT ln lt A b) = nI (aD ln lt A b - aT ln lt A b) := zn_sub (by omega)
  unfold mX2_tailsAlike mX2_tailsAlike_b0 ALK
  have c1 : ¬ (nI a < 0 ∨ 20 ≤ a) := by simp (disch := omega) only [↓reduceIte, Nat.reduceAdd, Nat.reduceMul, Nat.reduceSub, Nat.zero_add, zn_0, zn_1, zn_2, zn_3, zn_4, zn_5, zn_6, zn_7, zn_8, zn_9, zn_10, zn_16, zn_20, zn_23, zn_24, zn_25, zn_26, zn_40, zn_207, zn_4761, zn_99, zn_130, zn_lt_t, zn_lt_f, zn_le_t, zn_le_f, zn_eq_t, zn_eq_f, zn_ix, zn_cl, zq_le_f, zq_le_t, zq_lt_f, zq_lt_t, zn_add, zn_mul, zn_sub, or_false, false_or, or_self, true_or, or_true, and_true, true_and, and_false, false_and, not_true_eq_false, not_false_eq_true, if_true, if_false, os1, os2, os3, os4, os5, os6, os7, os8, os9, os10, os11, os12, os13, os14, os15, os16, os17, os18, os19, os20, os21, os22, os23, os24]
  have c2 : ¬ (nI b < 0 ∨ 20 ≤ b) := by simp (disch := omega) only [↓reduceIte, Nat.reduceAdd, Nat.reduceMul, Nat.reduceSub, Nat.zero_add, zn_0, zn_1, zn_2, zn_3, zn_4, zn_5, zn_6, zn_7, zn_8, zn_9, zn_10, zn_16, zn_20, zn_23, zn_24, zn_25, zn_26, zn_40, zn_207, zn_4761, zn_99, zn_130, zn_lt_t, zn_lt_f, zn_le_t, zn_le_f, zn_eq_t, zn_eq_f, zn_ix, zn_cl, zq_le_f, zq_le_t, zq_lt_f, zq_lt_t, zn_add, zn_mul, zn_sub, or_false, false_or, or_self, true_or, or_true, and_true, true_and, and_false, false_and, not_true_eq_false, not_false_eq_true, if_true, if_false, os1, os2, os3, os4, os5, os6, os7, os8, os9, os10, os11, os12, os13, os14, os15, os16, os17, os18, os19, os20, os21, os22, os23, os24]
  rw [c_tailStart hp ha hc hwa, os1, c_tailStart hp ha hc hwb, os1, zn_cl (by omega), zn_cl (by omega), if_neg c1, es, if_neg (fun q => q hq), if_neg c2, es', if_neg (fun q => q hq'), sa, sb, e1, e2]
  by_cases hd : aD ln lt A a - aT ln lt A a = aD ln lt A b - aT ln lt A b
  · have := c_alike_loop (L := L) (sy := sy) (sn := sn) (st := st) ha hc hwa hwb hd (aD ln lt A a - aT ln lt A a) 0 (by omega) FU (zn_fu (by omega))
    rw [if_pos (by rw [hd])]
    simp only [hd, decide_true, Bool.true_and] at this ⊢
    exact this
  · rw [if_neg (fun e => hd (zn_inj (by omega) (by omega) e))]
    simp only [hd, decide_false, Bool.false_and]
    rfl
end
