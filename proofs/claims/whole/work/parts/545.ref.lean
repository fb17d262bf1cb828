-- uses: 501.auto 502.abs 503.line 504.word 505.bits 506.pop 507.tail 508.alike 509.lines 533.count 540.hear 542.spread 543.opt 544.judge
/-! the reference's scans -/
theorem r_has (set : Int32) {i : Nat} (hi : i < 32) : mX7_has set (nI i) = some (b2i (B set i)) := by
  unfold mX7_has mX7_has_b0
  cases hb : B set i
  · rw [if_neg (by rw [B_test set hi, hb]; decide)]; rfl
  · rw [if_pos (by rw [B_test set hi, hb])]; rfl
theorem SB_le {g : Nat → Nat} (hg : ∀ j, g j ≤ 2) (b : Int32) (j : Nat) : SB b g j ≤ 2 := by
  unfold SB
  split
  · split <;> omega
  · exact hg j
section
variable {L : List Nat} {ln sy sn : Nat → Int32} {lt st : Nat → Nat → Int32} {A : AP} {row : Nat → Int32}
abbrev prS (J G : Nat → Bool) (s : Nat) : Nat → Bool := fun i => (!B (nI s) i || J i) && !(decide (0 < i) && B (nI s) i && B (nI s) (i - 1) && G i)
theorem r_may_loop (h : PR ln lt A row) (ha : AOK L ln lt A) {l : Nat} (hl : l < aL A) {g : Nat → Int32} (hg : ∀ p, p < aSz A l → g p = nI (aSy ln lt A (aFst A l + p))) (s : Nat) : ∀ (d i : Nat), i + d = aSz A l → ∀ n, d < n → mX7_mayAll_b13 g row (nI l) (nI s) n (nI (aFst A l)) (b2i (allB (prS (JN ln lt A l) (sG ln lt A l) s) i)) (nI i) = some (b2i (allB (prS (JN ln lt A l) (sG ln lt A l) s) (aSz A l)))
  | _, _, _, 0, hn => absurd hn (by omega)
  | 0, i, hi, n + 1, _ => by
    obtain ⟨g1, g2, g3, g4, g5, g6⟩ := aok_l ha hl
    have hrow : row (3 + l) = nI (aSz A l) := h.2.2.2.1 l (by omega)
    have e : i = aSz A l := by omega
    subst e
    rw [mX7_mayAll_b13, zn_3, zn_add, zn_cl (by omega), if_neg (by simp (disch := omega) only [↓reduceIte, Nat.reduceAdd, Nat.reduceMul, Nat.reduceSub, Nat.zero_add, zn_0, zn_1, zn_2, zn_3, zn_4, zn_5, zn_6, zn_7, zn_8, zn_9, zn_10, zn_16, zn_20, zn_23, zn_24, zn_25, zn_26, zn_40, zn_207, zn_4761, zn_99, zn_130, zn_lt_t, zn_lt_f, zn_le_t, zn_le_f, zn_eq_t, zn_eq_f, zn_ix, zn_cl, zq_le_f, zq_le_t, zq_lt_f, zq_lt_t, zn_add, zn_mul, zn_sub, or_false, false_or, or_self, true_or, or_true, and_true, true_and, and_false, false_and, not_true_eq_false, not_false_eq_true, if_true, if_false, os1, os2, os3, os4, os5, os6, os7, os8, os9, os10, os11, os12, os13, os14, os15, os16, os17, os18, os19, os20, os21, os22, os23, os24]), hrow, if_pos (nI_le (Nat.le_refl _) (by omega))]
    cases allB (prS (JN ln lt A l) (sG ln lt A l) s) (aSz A l) <;> rfl
  | d + 1, i, hi, n + 1, hn => by
    obtain ⟨g1, g2, g3, g4, g5, g6⟩ := aok_l ha hl
    have hrow : row (3 + l) = nI (aSz A l) := h.2.2.2.1 l (by omega)
    have hw : aFst A l + i < aW A := by omega
    obtain ⟨s1, s4⟩ := aok_s ha hw
    have ih := r_may_loop h ha hl hg s d (i + 1) (by omega) n (by omega)
    have eal : allB (prS (JN ln lt A l) (sG ln lt A l) s) (i + 1) = (allB (prS (JN ln lt A l) (sG ln lt A l) s) i && prS (JN ln lt A l) (sG ln lt A l) s i) := rfl
    have c3 : ¬ (nI i < 0 ∨ 5 ≤ i) := by simp (disch := omega) only [↓reduceIte, Nat.reduceAdd, Nat.reduceMul, Nat.reduceSub, Nat.zero_add, zn_0, zn_1, zn_2, zn_3, zn_4, zn_5, zn_6, zn_7, zn_8, zn_9, zn_10, zn_16, zn_20, zn_23, zn_24, zn_25, zn_26, zn_40, zn_207, zn_4761, zn_99, zn_130, zn_lt_t, zn_lt_f, zn_le_t, zn_le_f, zn_eq_t, zn_eq_f, zn_ix, zn_cl, zq_le_f, zq_le_t, zq_lt_f, zq_lt_t, zn_add, zn_mul, zn_sub, or_false, false_or, or_self, true_or, or_true, and_true, true_and, and_false, false_and, not_true_eq_false, not_false_eq_true, if_true, if_false, os1, os2, os3, os4, os5, os6, os7, os8, os9, os10, os11, os12, os13, os14, os15, os16, os17, os18, os19, os20, os21, os22, os23, os24]
    rw [mX7_mayAll_b13, zn_3, zn_add, zn_cl (by omega), if_neg (by simp (disch := omega) only [↓reduceIte, Nat.reduceAdd, Nat.reduceMul, Nat.reduceSub, Nat.zero_add, zn_0, zn_1, zn_2, zn_3, zn_4, zn_5, zn_6, zn_7, zn_8, zn_9, zn_10, zn_16, zn_20, zn_23, zn_24, zn_25, zn_26, zn_40, zn_207, zn_4761, zn_99, zn_130, zn_lt_t, zn_lt_f, zn_le_t, zn_le_f, zn_eq_t, zn_eq_f, zn_ix, zn_cl, zq_le_f, zq_le_t, zq_lt_f, zq_lt_t, zn_add, zn_mul, zn_sub, or_false, false_or, or_self, true_or, or_true, and_true, true_and, and_false, false_and, not_true_eq_false, not_false_eq_true, if_true, if_false, os1, os2, os3, os4, os5, os6, os7, os8, os9, os10, os11, os12, os13, os14, os15, os16, os17, os18, os19, os20, os21, os22, os23, os24]), hrow, if_neg (nI_ge (by omega) (by omega))]
    cases hal : allB (prS (JN ln lt A l) (sG ln lt A l) s) i
    · rw [hal, Bool.false_and] at eal
      rw [eal] at ih
      rw [b2i_f, if_pos (by rfl), mX7_mayAll_b53, mX7_mayAll_b54, if_pos rfl, nI_1]
      exact ih
    · rw [hal, Bool.true_and] at eal
      rw [b2i_t, if_neg (by decide), r_has _ (by omega), os1]
      cases hb : B (nI s) i
      · have hp : prS (JN ln lt A l) (sG ln lt A l) s i = true := by simp [prS, hb]
        rw [hp] at eal
        rw [eal] at ih
        rw [b2i_f, if_pos (by rfl), mX7_mayAll_b49, mX7_mayAll_b54, if_neg (by decide : ¬ (1 : Int32) = 0), nI_1, r_has _ (by omega), os1, hb, b2i_f, if_pos (by rfl : nI 0 = 0), ite_self]
        exact ih
      · rw [b2i_t, if_neg (by decide), zn_add, r_mayRun h ha hl (by omega), os1]
        cases hj : JN ln lt A l i
        · have hp : prS (JN ln lt A l) (sG ln lt A l) s i = false := by simp [prS, hb, hj]
          rw [hp] at eal
          rw [eal] at ih
          rw [b2i_f, if_pos (by rfl), mX7_mayAll_b53, mX7_mayAll_b54, if_pos rfl, nI_1]
          exact ih
        · rw [b2i_t, if_neg (by decide), mX7_mayAll_b49, mX7_mayAll_b54, if_neg (by decide : ¬ (1 : Int32) = 0), nI_1]
          by_cases h0 : i = 0
          · have hp : prS (JN ln lt A l) (sG ln lt A l) s i = true := by simp [prS, hj, h0]; simp [← h0, hj]
            rw [hp] at eal
            rw [eal] at ih
            rw [if_pos (by rw [h0]; decide)]
            exact ih
          · rw [if_neg (nI_nle (by omega) (by omega)), r_has _ (by omega), os1, hb, b2i_t, if_neg (by decide), zn_1, zn_sub (by omega), r_has _ (by omega), os1]
            have h0' : 0 < i := by omega
            cases hb1 : B (nI s) (i - 1)
            · have hp : prS (JN ln lt A l) (sG ln lt A l) s i = true := by simp [prS, hj, hb1]
              rw [hp] at eal
              rw [eal] at ih
              rw [b2i_f, if_pos (by rfl)]
              exact ih
            · rw [b2i_t, if_neg (by decide), zn_cl (by omega), if_neg c3, hg i (by omega)]
              by_cases h1 : aSy ln lt A (aFst A l + i) = 1
              · have hp : prS (JN ln lt A l) (sG ln lt A l) s i = false := by simp [prS, hj, hb1, hb, h0', sG, h1]
                rw [hp] at eal
                rw [eal] at ih
                rw [if_pos (by rw [h1])]
                exact ih
              · have hp : prS (JN ln lt A l) (sG ln lt A l) s i = true := by simp [prS, hj, sG, h1]
                rw [hp] at eal
                rw [eal] at ih
                rw [if_neg (fun q => h1 (zn_inj (by omega) (by omega) q))]
                exact ih
theorem r_mayAll (h : PR ln lt A row) (ha : AOK L ln lt A) {l : Nat} (hl : l < aL A) {g : Nat → Int32} (hg : ∀ p, p < aSz A l → g p = nI (aSy ln lt A (aFst A l + p))) (s : Nat) : mX7_mayAll g row (nI l) (nI s) = some (b2i (okS (JN ln lt A l) (sG ln lt A l) (aSz A l) s)) := by
  obtain ⟨g1, g2, g3, g4, g5, g6⟩ := aok_l ha hl
  unfold mX7_mayAll mX7_mayAll_b0
  rw [r_firstOf h ha (by omega), os1]
  exact r_may_loop h ha hl hg s (aSz A l) 0 (by omega) FU (zn_fu (by omega))
end
section
variable {P sz : Nat → Nat} {m : Nat} {f sn : Nat → Int32} {g : Nat → Nat} {s : Nat}
def STEPS (P sz : Nat → Nat) (m : Nat) : Prop := P 0 = 0 ∧ ∀ i, i < m → P (i + 1) = P i + sz i ∧ 1 ≤ sz i ∧ sz i ≤ 4
theorem STEPS_INC (h : STEPS P sz m) : INC P m := ⟨h.1, fun i hi => by have := h.2 i hi; omega⟩
theorem r_scan_in (hP : STEPS P sz m) (hm : m ≤ 5) (hS : P m ≤ 20) (hsn : ∀ p, p < m → sn p = nI (sz p)) (hf : ∀ p, p < m → ∀ q, q < sz p → f (4 * p + q) = nI (g (P p + q))) {i : Nat} (hi : i < m) (p1 : Int32) (k7 : Int32 → (Nat → Int32) → Int32 → Option (Int32 × (Nat → Int32))) : ∀ (d k : Nat) (sd : Nat → Int32), k + d = sz i - (B (nI s) i).toNat → (∀ j, j < P i + k → RM P (nI s) m j = false → sd (TT P (nI s) m j) = nI (g j)) → ∀ n, d < n → ∃ sd', mX7_layScan_b15 f sn p1 (nI s) k7 n (nI (TT P (nI s) m (P i + k))) sd (nI i) (nI k) = k7 (nI (TT P (nI s) m (P (i + 1)))) sd' (nI (i + 1)) ∧ ∀ j, j < P (i + 1) → RM P (nI s) m j = false → sd' (TT P (nI s) m j) = nI (g j)
  | _, _, _, _, _, 0, hn => absurd hn (by omega)
  | 0, k, sd, hk, hsd, n + 1, _ => by
    have hI := STEPS_INC hP
    obtain ⟨q1, q2, q3⟩ := hP.2 i hi
    have c3 : ¬ (nI i < 0 ∨ 5 ≤ i) := by simp (disch := omega) only [↓reduceIte, Nat.reduceAdd, Nat.reduceMul, Nat.reduceSub, Nat.zero_add, zn_0, zn_1, zn_2, zn_3, zn_4, zn_5, zn_6, zn_7, zn_8, zn_9, zn_10, zn_16, zn_20, zn_23, zn_24, zn_25, zn_26, zn_40, zn_207, zn_4761, zn_99, zn_130, zn_lt_t, zn_lt_f, zn_le_t, zn_le_f, zn_eq_t, zn_eq_f, zn_ix, zn_cl, zq_le_f, zq_le_t, zq_lt_f, zq_lt_t, zn_add, zn_mul, zn_sub, or_false, false_or, or_self, true_or, or_true, and_true, true_and, and_false, false_and, not_true_eq_false, not_false_eq_true, if_true, if_false, os1, os2, os3, os4, os5, os6, os7, os8, os9, os10, os11, os12, os13, os14, os15, os16, os17, os18, os19, os20, os21, os22, os23, os24]
    have eb : nI (sz i) - b2i (B (nI s) i) = nI (sz i - (B (nI s) i).toNat) := by
      cases B (nI s) i
      · rw [b2i_f]; exact zn_sub (by omega)
      · rw [b2i_t]; exact zn_sub (by omega)
    refine ⟨sd, ?_, ?_⟩
    · rw [mX7_layScan_b15, zn_cl (by omega), if_neg c3, hsn i hi, B_bit _ (by omega), eb, if_pos (nI_le (by omega) (by omega)), nI_1]
      have : TT P (nI s) m (P i + k) = TT P (nI s) m (P (i + 1)) := by
        cases hb : B (nI s) i
        · rw [hb] at hk
          have : (false).toNat = 0 := rfl
          rw [show P i + k = P (i + 1) by omega]
        · rw [hb] at hk
          have : (true).toNat = 1 := rfl
          have hr := RM_at (set := nI s) hI (i := i) (k := k) (by omega) (m - (i + 1)) (by omega)
          rw [show i + 1 + (m - (i + 1)) = m by omega, hb, show P i + k + 1 = P (i + 1) by omega] at hr
          have e := TT_succ (P := P) (set := nI s) m (P i + k)
          rw [show P i + k + 1 = P (i + 1) by omega, hr] at e
          rw [e]; simp
      rw [this]
    · intro j hj hr
      by_cases h1 : j < P i + k
      · exact hsd j h1 hr
      · exfalso
        cases hb : B (nI s) i
        · rw [hb] at hk
          have : (false).toNat = 0 := rfl
          omega
        · rw [hb] at hk
          have : (true).toNat = 1 := rfl
          have hr2 := RM_at (set := nI s) hI (i := i) (k := k) (by omega) (m - (i + 1)) (by omega)
          rw [show i + 1 + (m - (i + 1)) = m by omega, hb, show P i + k + 1 = P (i + 1) by omega] at hr2
          rw [show j = P i + k by omega, hr2] at hr
          simp at hr
  | d + 1, k, sd, hk, hsd, n + 1, hn => by
    have hI := STEPS_INC hP
    obtain ⟨q1, q2, q3⟩ := hP.2 i hi
    have hPm := INC_le hI (by omega : i + 1 ≤ m) (Nat.le_refl _)
    have c3 : ¬ (nI i < 0 ∨ 5 ≤ i) := by simp (disch := omega) only [↓reduceIte, Nat.reduceAdd, Nat.reduceMul, Nat.reduceSub, Nat.zero_add, zn_0, zn_1, zn_2, zn_3, zn_4, zn_5, zn_6, zn_7, zn_8, zn_9, zn_10, zn_16, zn_20, zn_23, zn_24, zn_25, zn_26, zn_40, zn_207, zn_4761, zn_99, zn_130, zn_lt_t, zn_lt_f, zn_le_t, zn_le_f, zn_eq_t, zn_eq_f, zn_ix, zn_cl, zq_le_f, zq_le_t, zq_lt_f, zq_lt_t, zn_add, zn_mul, zn_sub, or_false, false_or, or_self, true_or, or_true, and_true, true_and, and_false, false_and, not_true_eq_false, not_false_eq_true, if_true, if_false, os1, os2, os3, os4, os5, os6, os7, os8, os9, os10, os11, os12, os13, os14, os15, os16, os17, os18, os19, os20, os21, os22, os23, os24]
    have c4 : ¬ (nI (4 * i + k) < 0 ∨ 20 ≤ 4 * i + k) := by simp (disch := omega) only [↓reduceIte, Nat.reduceAdd, Nat.reduceMul, Nat.reduceSub, Nat.zero_add, zn_0, zn_1, zn_2, zn_3, zn_4, zn_5, zn_6, zn_7, zn_8, zn_9, zn_10, zn_16, zn_20, zn_23, zn_24, zn_25, zn_26, zn_40, zn_207, zn_4761, zn_99, zn_130, zn_lt_t, zn_lt_f, zn_le_t, zn_le_f, zn_eq_t, zn_eq_f, zn_ix, zn_cl, zq_le_f, zq_le_t, zq_lt_f, zq_lt_t, zn_add, zn_mul, zn_sub, or_false, false_or, or_self, true_or, or_true, and_true, true_and, and_false, false_and, not_true_eq_false, not_false_eq_true, if_true, if_false, os1, os2, os3, os4, os5, os6, os7, os8, os9, os10, os11, os12, os13, os14, os15, os16, os17, os18, os19, os20, os21, os22, os23, os24]
    have htl := TT_le (P := P) (set := nI s) m (P i + k)
    have c5 : ¬ (nI (TT P (nI s) m (P i + k)) < 0 ∨ 20 ≤ TT P (nI s) m (P i + k)) := by simp (disch := omega) only [↓reduceIte, Nat.reduceAdd, Nat.reduceMul, Nat.reduceSub, Nat.zero_add, zn_0, zn_1, zn_2, zn_3, zn_4, zn_5, zn_6, zn_7, zn_8, zn_9, zn_10, zn_16, zn_20, zn_23, zn_24, zn_25, zn_26, zn_40, zn_207, zn_4761, zn_99, zn_130, zn_lt_t, zn_lt_f, zn_le_t, zn_le_f, zn_eq_t, zn_eq_f, zn_ix, zn_cl, zq_le_f, zq_le_t, zq_lt_f, zq_lt_t, zn_add, zn_mul, zn_sub, or_false, false_or, or_self, true_or, or_true, and_true, true_and, and_false, false_and, not_true_eq_false, not_false_eq_true, if_true, if_false, os1, os2, os3, os4, os5, os6, os7, os8, os9, os10, os11, os12, os13, os14, os15, os16, os17, os18, os19, os20, os21, os22, os23, os24]
    have e4 : (4 : Int32) * nI i + nI k = nI (4 * i + k) := by rw [zn_4, zn_mul, zn_add]
    have eb : nI (sz i) - b2i (B (nI s) i) = nI (sz i - (B (nI s) i).toNat) := by
      cases B (nI s) i
      · rw [b2i_f]; exact zn_sub (by omega)
      · rw [b2i_t]; exact zn_sub (by omega)
    have hr := RM_at (set := nI s) hI (i := i) (k := k) (by omega) (m - (i + 1)) (by omega)
    rw [show i + 1 + (m - (i + 1)) = m by omega] at hr
    have hr0 : RM P (nI s) m (P i + k) = false := by
      rw [hr]
      cases hb : B (nI s) i
      · rfl
      · rw [hb] at hk
        have : (true).toNat = 1 := rfl
        have : ¬ P i + k + 1 = P (i + 1) := by omega
        simp [this]
    have e := TT_succ (P := P) (set := nI s) m (P i + k)
    rw [hr0] at e
    have e' : TT P (nI s) m (P i + (k + 1)) = TT P (nI s) m (P i + k) + 1 := e
    obtain ⟨sd', w1, w2⟩ := r_scan_in hP hm hS hsn hf hi p1 k7 d (k + 1) (upd sd (TT P (nI s) m (P i + k)) (nI (g (P i + k)))) (by omega) (by
      intro j hj hrj
      unfold upd
      by_cases h1 : j = P i + k
      · rw [if_pos (by rw [h1]), h1]
      · have ej := TT_succ (P := P) (set := nI s) m j
        rw [hrj] at ej
        have mo := TT_mono (P := P) (set := nI s) m (j + 1) (P i + k - (j + 1))
        rw [show j + 1 + (P i + k - (j + 1)) = P i + k by omega] at mo
        have : (!false).toNat = 1 := rfl
        rw [if_neg (by omega)]
        exact hsd j (by omega) hrj) n (by omega)
    refine ⟨sd', ?_, w2⟩
    rw [mX7_layScan_b15, zn_cl (by omega), if_neg c3, hsn i hi, B_bit _ (by omega), eb, if_neg (nI_ge (by omega) (by omega)), e4, zn_cl (a := 4 * i + k) (by omega), if_neg c4, zn_cl (by omega), if_neg c5, hf i hi k (by omega), nI_1, nI_1, ← e']
    exact w1
theorem r_scan_loop (hP : STEPS P sz m) (hm : m ≤ 5) (hS : P m ≤ 20) (hsn : ∀ p, p < m → sn p = nI (sz p)) (hf : ∀ p, p < m → ∀ q, q < sz p → f (4 * p + q) = nI (g (P p + q))) : ∀ (d i : Nat) (sd : Nat → Int32), i + d = m → (∀ j, j < P i → RM P (nI s) m j = false → sd (TT P (nI s) m j) = nI (g j)) → ∀ n, d < n → ∃ sd', mX7_layScan_b7 f sn (nI m) (nI s) n (nI (TT P (nI s) m (P i))) sd (nI i) = some (nI (TT P (nI s) m (P m)), sd') ∧ ∀ j, j < P m → RM P (nI s) m j = false → sd' (TT P (nI s) m j) = nI (g j)
  | _, _, _, _, _, 0, hn => absurd hn (by omega)
  | 0, i, sd, hi, hsd, n + 1, _ => by
    have e : i = m := by omega
    subst e
    exact ⟨sd, by rw [mX7_layScan_b7, if_pos (nI_le (Nat.le_refl _) (by omega))], hsd⟩
  | d + 1, i, sd, hi, hsd, n + 1, hn => by
    obtain ⟨q1, q2, q3⟩ := hP.2 i (by omega)
    obtain ⟨sd', w1, w2⟩ := r_scan_in (s := s) hP hm hS hsn hf (i := i) (by omega) (nI m) (mX7_layScan_b7 f sn (nI m) (nI s) n) (sz i - (B (nI s) i).toNat) 0 sd (by omega) hsd FU (zn_fu (by omega))
    rw [mX7_layScan_b7, if_neg (nI_ge (by omega) (by omega))]
    have w1' : mX7_layScan_b15 f sn (nI m) (nI s) (mX7_layScan_b7 f sn (nI m) (nI s) n) FU (nI (TT P (nI s) m (P i))) sd (nI i) 0 = _ := w1
    rw [w1']
    exact r_scan_loop hP hm hS hsn hf d (i + 1) sd' (by omega) w2 n (by omega)
theorem r_layScan (hP : STEPS P sz m) (hm : m ≤ 5) (hS : P m ≤ 20) (hsn : ∀ p, p < m → sn p = nI (sz p)) (hf : ∀ p, p < m → ∀ q, q < sz p → f (4 * p + q) = nI (g (P p + q))) (x : Int32) (sd : Nat → Int32) : ∃ sd', mX7_layScan f sn x sd (nI m) (nI s) = some (nI (TT P (nI s) m (P m)), sd') ∧ ∀ j, j < P m → RM P (nI s) m j = false → sd' (TT P (nI s) m j) = nI (g j) := by
  have := r_scan_loop (s := s) hP hm hS hsn hf m 0 sd (by omega) (fun j hj => absurd hj (by rw [hP.1]; omega)) FU (zn_fu (by omega))
  rw [hP.1] at this
  exact this
end
theorem size7 : ∀ foot, foot < 4 → mX7_size (nI foot) = some (nI (szF foot)) ∧ nI foot ^^^ (1 : Int32) = nI (tuF foot) ∧ tuF foot < 4 := by decide +kernel
theorem strong7 : ∀ foot, foot < 4 → ∀ k, k < 3 → mX7_isStrong (nI foot) (nI k) = some (b2i (stF foot k)) := by decide +kernel
theorem anyB_of {f : Nat → Bool} {n i : Nat} (hi : i < n) (h : f i = true) : anyB f n = true := by
  cases hb : anyB f n
  · have := (anyB_no f n).mp hb i hi
    rw [this] at h; exact absurd h (by decide)
  · rfl
section
variable {foot feet left : Nat} {tu : Bool} {sd : Nat → Int32}
/-- what a place costs as it is laid -/
def gI (foot places : Nat) (tu : Bool) (sd : Nat → Int32) (t : Nat) : Nat := if t < places then (if HS foot tu t then (if sd t = 0 then 3 else 0) else (if sd t = 1 then 2 else 0)) else 0
def bI (places : Nat) (sd : Nat → Int32) (t : Nat) : Bool := decide (places ≤ t) && decide (sd t = 1)
theorem r_cost_loop (hf : foot < 4) (places : Nat) (hpl : places ≤ 15) (hle : left ≤ 20) (p2 : Int32) (acc : Nat) : ∀ (d t : Nat), t + d = left → anyB (bI places sd) t = false → ∀ n, d < n → mX7_costOf_b100 (nI left) sd (nI foot) p2 (b2i tu) n (nI places) (nI (acc + sumN (gI foot places tu sd) t)) (nI t) = some (if anyB (bI places sd) left then -1000000 else nI (acc + sumN (gI foot places tu sd) left))
  | _, _, _, _, 0, hn => absurd hn (by omega)
  | 0, t, ht, ha, n + 1, _ => by
    have e : t = left := by omega
    subst e
    rw [mX7_costOf_b100, if_pos (nI_le (Nat.le_refl _) (by omega)), ha]
    rfl
  | d + 1, t, ht, ha, n + 1, hn => by
    obtain ⟨z1, z2, z3⟩ := size7 foot hf
    obtain ⟨-, -, -, f4, f5⟩ := foot_k foot hf
    have c4 : ¬ (nI t < 0 ∨ 20 ≤ t) := by simp (disch := omega) only [↓reduceIte, Nat.reduceAdd, Nat.reduceMul, Nat.reduceSub, Nat.zero_add, zn_0, zn_1, zn_2, zn_3, zn_4, zn_5, zn_6, zn_7, zn_8, zn_9, zn_10, zn_16, zn_20, zn_23, zn_24, zn_25, zn_26, zn_40, zn_207, zn_4761, zn_99, zn_130, zn_lt_t, zn_lt_f, zn_le_t, zn_le_f, zn_eq_t, zn_eq_f, zn_ix, zn_cl, zq_le_f, zq_le_t, zq_lt_f, zq_lt_t, zn_add, zn_mul, zn_sub, or_false, false_or, or_self, true_or, or_true, and_true, true_and, and_false, false_and, not_true_eq_false, not_false_eq_true, if_true, if_false, os1, os2, os3, os4, os5, os6, os7, os8, os9, os10, os11, os12, os13, os14, os15, os16, os17, os18, os19, os20, os21, os22, os23, os24]
    have ih := r_cost_loop hf places hpl hle p2 acc d (t + 1) (by omega)
    have esum : acc + sumN (gI foot places tu sd) (t + 1) = acc + sumN (gI foot places tu sd) t + gI foot places tu sd t := by
      show acc + (sumN (gI foot places tu sd) t + gI foot places tu sd t) = _
      omega
    have eany : anyB (bI places sd) (t + 1) = (anyB (bI places sd) t || bI places sd t) := rfl
    rw [ha, Bool.false_or] at eany
    rw [esum, eany] at ih
    rw [mX7_costOf_b100, if_neg (nI_ge (by omega) (by omega))]
    by_cases hp : t < places
    · have hb0 : bI places sd t = false := by
        unfold bI
        have : ¬ places ≤ t := by omega
        simp [this]
      have ih' := ih hb0 n (by omega)
      have hm3 : t % szF foot < 3 := by
        have := Nat.mod_lt t (by omega : szF foot > 0)
        omega
      have hrem : nI t - nI t / nI (szF foot) * nI (szF foot) = nI (t % szF foot) := pk_rem (by omega) (by omega) (by omega)
      have hz0 : ¬ nI (szF foot) = 0 := nI_ne0 (by omega) (by omega)
      have fin : ∀ F, F < 4 → stF F (t % szF foot) = HS foot tu t → mX7_costOf_b150 (nI left) sd (nI foot) p2 (b2i tu) (mX7_costOf_b100 (nI left) sd (nI foot) p2 (b2i tu) n) (nI places) (nI (acc + sumN (gI foot places tu sd) t)) (nI t) (nI F) = some (if anyB (bI places sd) left then -1000000 else nI (acc + sumN (gI foot places tu sd) left)) := by
        intro F hF hst
        have hg : gI foot places tu sd t = if HS foot tu t then (if sd t = 0 then 3 else 0) else (if sd t = 1 then 2 else 0) := by
          unfold gI; rw [if_pos hp]
        rw [hg] at ih'
        rw [mX7_costOf_b150, z1, os1, if_neg hz0, hrem, strong7 F hF _ hm3, os1, hst]
        cases hh : HS foot tu t
        · rw [hh] at ih'
          simp only [Bool.false_eq_true, if_false] at ih'
          rw [b2i_f, if_pos (by rfl), mX7_costOf_b187, if_pos (by rfl), zn_cl (by omega), if_neg c4]
          by_cases h1 : sd t = 1
          · rw [if_pos h1] at ih' ⊢
            rw [zn_2, zn_add, nI_1]
            exact ih'
          · rw [if_neg h1] at ih' ⊢
            rw [Int32.add_zero, nI_1]
            exact ih'
        · rw [hh] at ih'
          simp only [if_true] at ih'
          rw [b2i_t, if_neg (by decide), zn_cl (by omega), if_neg c4]
          by_cases h0 : sd t = 0
          · rw [if_pos h0] at ih' ⊢
            rw [zn_3, zn_add, nI_1]
            exact ih'
          · rw [if_neg h0] at ih' ⊢
            rw [mX7_costOf_b187, if_neg (by decide), Int32.add_zero, nI_1]
            exact ih'
      rw [if_pos (nI_lt hp (by omega))]
      cases htu : tu
      · rw [htu] at fin
        rw [b2i_f, if_pos (by rfl), mX7_costOf_b149]
        exact fin foot hf (by unfold HS; simp)
      · rw [htu] at fin
        rw [b2i_t, if_neg (by decide), z1, os1]
        by_cases hts : t < szF foot
        · rw [if_neg (nI_ge hts (by omega)), z2]
          exact fin (tuF foot) z3 (by unfold HS; simp [hts])
        · rw [if_pos (nI_le (by omega) (by omega)), mX7_costOf_b149]
          exact fin foot hf (by unfold HS; simp [hts])
    · have hg : gI foot places tu sd t = 0 := by unfold gI; rw [if_neg hp]
      rw [hg] at ih
      rw [if_neg (nI_nlt (by omega) (by omega)), zn_cl (by omega), if_neg c4]
      by_cases h1 : sd t = 1
      · have : bI places sd t = true := by
          unfold bI
          have : places ≤ t := by omega
          simp [this, h1]
        rw [if_pos h1, anyB_of (by omega : t < left) this]
        rfl
      · have hb0 : bI places sd t = false := by unfold bI; simp [h1]
        rw [if_neg h1, nI_1]
        exact ih hb0 n (by omega)
theorem r_costOf (hf : foot < 4) (hf1 : 1 ≤ feet) (hfe : feet ≤ 5) (hle : left ≤ 20) : mX7_costOf (nI left) sd (nI foot) (nI feet) (b2i tu) = some (if INR left (feet * szF foot) foot then (if anyB (bI (feet * szF foot) sd) left then -1000000 else nI (tu.toNat + AD left (feet * szF foot) + sumN (gI foot (feet * szF foot) tu sd) left)) else -1000000) := by
  obtain ⟨z1, z2, z3⟩ := size7 foot hf
  obtain ⟨-, -, f3, f4, f5⟩ := foot_k foot hf
  have hpl : feet * szF foot ≤ 5 * 3 := Nat.mul_le_mul hfe f4
  have hpg : 1 * szF foot ≤ feet * szF foot := Nat.mul_le_mul hf1 (Nat.le_refl _)
  have main : wkF foot ≤ feet * szF foot → mX7_costOf_b27 (nI left) sd (nI foot) (nI feet) (b2i tu) (nI (feet * szF foot)) (nI (wkF foot)) = some (if INR left (feet * szF foot) foot then (if anyB (bI (feet * szF foot) sd) left then -1000000 else nI (tu.toNat + AD left (feet * szF foot) + sumN (gI foot (feet * szF foot) tu sd) left)) else -1000000) := by
    intro hwk
    have hl := r_cost_loop (sd := sd) (tu := tu) (left := left) hf (feet * szF foot) hpl hle (nI feet) (tu.toNat + AD left (feet * szF foot)) left 0 (by omega) rfl FU (zn_fu (by omega))
    have h81 : ∀ v, v = AD left (feet * szF foot) → mX7_costOf_b81 (nI left) sd (nI foot) (nI feet) (b2i tu) (nI (feet * szF foot)) (nI v) = some (if anyB (bI (feet * szF foot) sd) left then -1000000 else nI (tu.toNat + AD left (feet * szF foot) + sumN (gI foot (feet * szF foot) tu sd) left)) := by
      intro v hv
      rw [mX7_costOf_b81]
      cases htu : tu
      · rw [htu] at hl
        rw [b2i_f, if_pos (by rfl), Int32.add_zero, hv]
        have e : (false).toNat + AD left (feet * szF foot) + sumN (gI foot (feet * szF foot) false sd) 0 = AD left (feet * szF foot) := by
          show 0 + _ + 0 = _; omega
        rw [e] at hl
        exact hl
      · rw [htu] at hl
        rw [b2i_t, if_neg (by decide), nI_1, hv]
        have e : (true).toNat + AD left (feet * szF foot) + sumN (gI foot (feet * szF foot) true sd) 0 = AD left (feet * szF foot) + 1 := by
          show 1 + _ + 0 = _; omega
        rw [e] at hl
        exact hl
    rw [mX7_costOf_b27, zn_sub hwk, zn_2, zn_add]
    unfold INR
    by_cases h1 : feet * szF foot ≤ left + wkF foot
    · rw [if_neg (nI_nlt (by omega) (by omega))]
      by_cases h2 : left ≤ feet * szF foot + 2
      · rw [if_pos (nI_le h2 (by omega))]
        simp only [h1, h2, decide_true, Bool.and_self, if_true]
        by_cases h3 : feet * szF foot ≤ left
        · rw [if_pos (nI_le h3 (by omega)), zn_sub h3]
          exact h81 _ (by unfold AD; omega)
        · rw [if_neg (nI_ge (by omega) (by omega)), zn_sub (by omega)]
          exact h81 _ (by unfold AD; omega)
      · rw [if_neg (nI_ge (by omega) (by omega))]
        simp [h2]
    · rw [if_pos (nI_lt (by omega) (by omega))]
      simp [h1]
  unfold mX7_costOf mX7_costOf_b0
  rw [z1, os1, zn_mul]
  have hc : foot = 0 ∨ foot = 1 ∨ foot = 2 ∨ foot = 3 := by omega
  rcases hc with rfl | rfl | rfl | rfl
  · rw [if_neg (by decide), if_neg (by decide)]; exact main (by omega)
  · rw [if_pos (by decide)]; exact main (by omega)
  · rw [if_neg (by decide), if_neg (by decide)]; exact main (by omega)
  · rw [if_neg (by decide), if_pos (by decide)]; exact main (by omega)
end
def eC (c : Option Nat) : Int32 := match c with | none => -1000000 | some v => nI v
theorem r_counts {lw : Option (Nat × Nat)} (hb : LB lw) {c : Option Nat} (hc : ∀ v, c = some v → v < 1000) : mX7_counts (eL lw) (eW lw) (eC c) = some (eL (stp lw c), eW (stp lw c)) := by
  unfold mX7_counts mX7_counts_b0
  cases c with
  | none =>
    rw [if_pos (show eC none = -1000000 from rfl), mX7_counts_b33, if_pos (show eC none = -1000000 from rfl), Int32.add_zero]
    rfl
  | some v =>
    have hv := hc v rfl
    have hne : ¬ eC (some v) = -1000000 := nI_none hv
    rw [if_neg hne]
    cases lw with
    | none =>
      rw [if_pos (show eL none = -1000000 from rfl), mX7_counts_b23, mX7_counts_b33, if_neg hne, if_pos rfl]
      rfl
    | some p =>
      obtain ⟨l0, w0⟩ := p
      have h0 := hb l0 w0 rfl
      rw [if_neg (show ¬ eL (some (l0, w0)) = -1000000 from nI_none h0)]
      by_cases h1 : v < l0
      · rw [if_neg (show ¬ eL (some (l0, w0)) ≤ eC (some v) from nI_ge h1 (by omega)), mX7_counts_b23, mX7_counts_b33, if_neg hne, if_pos rfl]
        simp only [stp, if_pos h1]
        rfl
      · rw [if_pos (show eL (some (l0, w0)) ≤ eC (some v) from nI_le (by omega) (by omega)), mX7_counts_b33, if_neg hne]
        by_cases h2 : v = l0
        · rw [if_pos (show eC (some v) = eL (some (l0, w0)) by rw [h2]; rfl)]
          simp only [stp, if_neg h1, if_pos h2]
          rw [show eW (some (l0, w0)) + 1 = eW (some (l0, w0 + 1)) from nI_1 w0]
          rfl
        · rw [if_neg (show ¬ eC (some v) = eL (some (l0, w0)) from fun q => h2 (zn_inj (by omega) (by omega) q)), Int32.add_zero]
          simp only [stp, if_neg h1, if_neg h2]
