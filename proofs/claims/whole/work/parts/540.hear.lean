-- uses: 501.auto 502.abs 503.line 504.word 505.bits 507.tail 508.alike 509.lines
/-! a line, heard by the class, laid by the reference -/
section
variable {L : List Nat} {ln sy sn : Nat → Int32} {lt st : Nat → Nat → Int32} {A : AP} {row : Nat → Int32} {kinds sizes : Nat → Int32} {spelled : Nat → Nat}
/-- how strong a syllable of a line is, by its first words -/
def LG (ln : Nat → Int32) (lt : Nat → Nat → Int32) (A : AP) (l : Nat) : Nat → Nat → Nat
  | 0, _ => 0
  | k + 1, j => if j < aPs ln lt A l k then LG ln lt A l k j else STR (aKd A (aFst A l + k)) (aSy ln lt A (aFst A l + k)) (j - aPs ln lt A l k)
abbrev aG (ln : Nat → Int32) (lt : Nat → Nat → Int32) (A : AP) (l : Nat) : Nat → Nat := LG ln lt A l (aSz A l)
theorem aPs_succ (l k : Nat) : aPs ln lt A l (k + 1) = aPs ln lt A l k + aSy ln lt A (aFst A l + k) := rfl
theorem aPs_mono (l a : Nat) : ∀ d, aPs ln lt A l a ≤ aPs ln lt A l (a + d)
  | 0 => Nat.le_refl _
  | d + 1 => by
    have h := aPs_mono l a d
    have e := aPs_succ (ln := ln) (lt := lt) (A := A) l (a + d)
    show _ ≤ aPs ln lt A l (a + d + 1)
    omega
theorem LG_le (l : Nat) : ∀ n j, LG ln lt A l n j ≤ 2
  | 0, _ => by unfold LG; omega
  | n + 1, j => by
    unfold LG
    by_cases h : j < aPs ln lt A l n
    · rw [if_pos h]; exact LG_le l n j
    · rw [if_neg h]; exact STR_le _ _ _
theorem LG_in (l i : Nat) {k : Nat} (hk : k < aSy ln lt A (aFst A l + i)) : ∀ d, LG ln lt A l (i + 1 + d) (aPs ln lt A l i + k) = STR (aKd A (aFst A l + i)) (aSy ln lt A (aFst A l + i)) k
  | 0 => by
    show LG ln lt A l (i + 1) _ = _
    unfold LG
    rw [if_neg (by omega), show aPs ln lt A l i + k - aPs ln lt A l i = k by omega]
  | d + 1 => by
    have h := LG_in l i hk d
    have e := aPs_succ (ln := ln) (lt := lt) (A := A) l i
    have m := aPs_mono (ln := ln) (lt := lt) (A := A) l (i + 1) d
    show LG ln lt A l (i + 1 + d + 1) _ = _
    unfold LG
    rw [if_pos (by omega), h]
theorem aG_in {l i k : Nat} (hi : i < aSz A l) (hk : k < aSy ln lt A (aFst A l + i)) : aG ln lt A l (aPs ln lt A l i + k) = STR (aKd A (aFst A l + i)) (aSy ln lt A (aFst A l + i)) k := by
  have h := LG_in (ln := ln) (lt := lt) (A := A) l i hk (aSz A l - (i + 1))
  rw [show i + 1 + (aSz A l - (i + 1)) = aSz A l by omega] at h
  exact h
theorem or_shl (p q : Nat → Bool) {a s : Nat} (h : a + s ≤ 32) (ha : a < 32) (hq : ∀ k, k < s → p (a + k) = q k) : nI (msk p a) ||| (nI (msk q s) <<< (nI a &&& 31)) = nI (msk p (a + s)) := by
  apply B_of h
  intro i hi
  rw [B_or, B_msk p (by omega), B_shl _ ha, B_msk q (by omega)]
  by_cases h1 : i < a
  · have : i < a + s := by omega
    simp [h1, this]
  · by_cases h2 : i < a + s
    · have h3 : i - a < s := by omega
      have h4 := hq (i - a) h3
      rw [show a + (i - a) = i by omega] at h4
      simp [h1, h2, h3, hi, h4]
    · have h3 : ¬ i - a < s := by omega
      simp [h1, h2, h3]
def gSt (g : Nat → Nat) (j : Nat) : Bool := decide (g j = 1)
def gEi (g : Nat → Nat) (j : Nat) : Bool := decide (g j = 2)
def sG (ln : Nat → Int32) (lt : Nat → Nat → Int32) (A : AP) (l i : Nat) : Bool := decide (aSy ln lt A (aFst A l + i) = 1)
theorem aPs_20 (ha : AOK L ln lt A) {l : Nat} (hl : l < aL A) {k : Nat} (hk : k ≤ aSz A l) : aPs ln lt A l k ≤ 20 := by
  obtain ⟨g1, g2, g3, g4, g5, g6⟩ := aok_l ha hl
  have := aPs_le ha hl k hk
  omega
theorem c_hear_loop (hp : POOL L ln sy sn lt st) (ha : AOK L ln lt A) (hc : CW A kinds spelled) {l : Nat} (hl : l < aL A) (ej p2 : Int32) : ∀ (d i : Nat) (la : Nat → Int32), i + d = aSz A l → (∀ k, k < i → la k = nI (aPs ln lt A l (k + 1) - 1)) → ∀ n, d < n → ∃ la', mX1_hear_b52 L ln sy sn lt sizes kinds spelled p2 n (nI (aSz A l)) (nI (aPs ln lt A l i)) (nI (msk (gSt (aG ln lt A l)) (aPs ln lt A l i))) (nI (msk (gEi (aG ln lt A l)) (aPs ln lt A l i))) ej (nI (msk (sG ln lt A l) i)) la (nI (aFst A l)) (nI i) = some (nI (aSz A l), nI (aPs ln lt A l (aSz A l)), nI (msk (gSt (aG ln lt A l)) (aPs ln lt A l (aSz A l))), nI (msk (gEi (aG ln lt A l)) (aPs ln lt A l (aSz A l))), ej, nI (msk (sG ln lt A l) (aSz A l)), la') ∧ ∀ k, k < aSz A l → la' k = nI (aPs ln lt A l (k + 1) - 1)
  | _, _, _, _, _, 0, hn => absurd hn (by omega)
  | 0, i, la, hi, hla, n + 1, _ => by
    obtain ⟨g1, g2, g3, g4, g5, g6⟩ := aok_l ha hl
    have e : i = aSz A l := by omega
    subst e
    refine ⟨la, ?_, hla⟩
    rw [mX1_hear_b52, if_pos (nI_le (Nat.le_refl _) (by omega))]
  | d + 1, i, la, hi, hla, n + 1, hn => by
    obtain ⟨g1, g2, g3, g4, g5, g6⟩ := aok_l ha hl
    have hw : aFst A l + i < aW A := by omega
    obtain ⟨hN, l1, -, hkd, hq, h20⟩ := aok_w ha hw
    obtain ⟨s1, s4⟩ := aok_s ha hw
    have es := (hc _ hw).2
    have hsy : sy (aQ A (aFst A l + i)) = nI (aSy ln lt A (aFst A l + i)) := (pool_w hp ha hw).2.2.1
    have hps := aPs_20 (ln := ln) ha hl (k := i + 1) (by omega)
    have eps := aPs_succ (ln := ln) (lt := lt) (A := A) l i
    have hS : nI (msk (gSt (aG ln lt A l)) (aPs ln lt A l i)) ||| (nI (msk (isS (aKd A (aFst A l + i)) (aSy ln lt A (aFst A l + i))) (aSy ln lt A (aFst A l + i))) <<< (nI (aPs ln lt A l i) &&& 31)) = nI (msk (gSt (aG ln lt A l)) (aPs ln lt A l (i + 1))) := by
      rw [eps]
      apply or_shl _ _ (by omega) (by omega)
      intro k hk
      unfold gSt isS
      rw [aG_in (by omega) hk]
    have hE : nI (msk (gEi (aG ln lt A l)) (aPs ln lt A l i)) ||| (nI (msk (isE (aKd A (aFst A l + i)) (aSy ln lt A (aFst A l + i))) (aSy ln lt A (aFst A l + i))) <<< (nI (aPs ln lt A l i) &&& 31)) = nI (msk (gEi (aG ln lt A l)) (aPs ln lt A l (i + 1))) := by
      rw [eps]
      apply or_shl _ _ (by omega) (by omega)
      intro k hk
      unfold gEi isE
      rw [aG_in (by omega) hk]
    have hor := or_one (sG ln lt A l) (s := i) (by omega) _ rfl
    have c1 : ¬ (20 : Int32) ≤ nI (aFst A l + i) := by simp (disch := omega) only [↓reduceIte, Nat.reduceAdd, Nat.reduceMul, Nat.reduceSub, Nat.zero_add, zn_0, zn_1, zn_2, zn_3, zn_4, zn_5, zn_6, zn_7, zn_8, zn_9, zn_10, zn_16, zn_20, zn_23, zn_24, zn_25, zn_26, zn_40, zn_207, zn_4761, zn_99, zn_130, zn_lt_t, zn_lt_f, zn_le_t, zn_le_f, zn_eq_t, zn_eq_f, zn_ix, zn_cl, zq_le_f, zq_le_t, zq_lt_f, zq_lt_t, zn_add, zn_mul, zn_sub, or_false, false_or, or_self, true_or, or_true, and_true, true_and, and_false, false_and, not_true_eq_false, not_false_eq_true, if_true, if_false, os1, os2, os3, os4, os5, os6, os7, os8, os9, os10, os11, os12, os13, os14, os15, os16, os17, os18, os19, os20, os21, os22, os23, os24]
    have c2 : ¬ (nI (aFst A l + i) < 0 ∨ 20 ≤ aFst A l + i) := by simp (disch := omega) only [↓reduceIte, Nat.reduceAdd, Nat.reduceMul, Nat.reduceSub, Nat.zero_add, zn_0, zn_1, zn_2, zn_3, zn_4, zn_5, zn_6, zn_7, zn_8, zn_9, zn_10, zn_16, zn_20, zn_23, zn_24, zn_25, zn_26, zn_40, zn_207, zn_4761, zn_99, zn_130, zn_lt_t, zn_lt_f, zn_le_t, zn_le_f, zn_eq_t, zn_eq_f, zn_ix, zn_cl, zq_le_f, zq_le_t, zq_lt_f, zq_lt_t, zn_add, zn_mul, zn_sub, or_false, false_or, or_self, true_or, or_true, and_true, true_and, and_false, false_and, not_true_eq_false, not_false_eq_true, if_true, if_false, os1, os2, os3, os4, os5, os6, os7, os8, os9, os10, os11, os12, os13, os14, os15, os16, os17, os18, os19, os20, os21, os22, os23, os24]
    have c3 : ¬ (nI i < 0 ∨ 5 ≤ i) := by simp (disch := omega) only [↓reduceIte, Nat.reduceAdd, Nat.reduceMul, Nat.reduceSub, Nat.zero_add, zn_0, zn_1, zn_2, zn_3, zn_4, zn_5, zn_6, zn_7, zn_8, zn_9, zn_10, zn_16, zn_20, zn_23, zn_24, zn_25, zn_26, zn_40, zn_207, zn_4761, zn_99, zn_130, zn_lt_t, zn_lt_f, zn_le_t, zn_le_f, zn_eq_t, zn_eq_f, zn_ix, zn_cl, zq_le_f, zq_le_t, zq_lt_f, zq_lt_t, zn_add, zn_mul, zn_sub, or_false, false_or, or_self, true_or, or_true, and_true, true_and, and_false, false_and, not_true_eq_false, not_false_eq_true, if_true, if_false, os1, os2, os3, os4, os5, os6, os7, os8, os9, os10, os11, os12, os13, os14, os15, os16, os17, os18, os19, os20, os21, os22, os23, os24]
    have e1 : nI (aPs ln lt A l i) + nI (aSy ln lt A (aFst A l + i)) = nI (aPs ln lt A l (i + 1)) := by rw [zn_add, eps]
    have e2 : nI (aPs ln lt A l (i + 1)) - 1 = nI (aPs ln lt A l (i + 1) - 1) := by rw [zn_1, zn_sub (by omega)]
    obtain ⟨la', ih, ih2⟩ := c_hear_loop hp ha hc hl ej p2 d (i + 1) (upd la i (nI (aPs ln lt A l (i + 1) - 1))) (by omega) (by
      intro k hk
      unfold upd
      by_cases e : k = i
      · rw [if_pos e, e]
      · rw [if_neg e]; exact hla k (by omega)) n (by omega)
    refine ⟨la', ?_, ih2⟩
    rw [mX1_hear_b52, if_neg (nI_ge (by omega) (by omega)), zn_add, if_neg c1, zn_cl (by omega), if_neg c2, es, if_neg (fun q => q hq), c_strong hp ha hc hw, os1, c_either hp ha hc hw, os1, hsy, hS, hE]
    by_cases h1 : aSy ln lt A (aFst A l + i) = 1
    · rw [if_pos (by rw [h1]; rfl), mX1_hear_b147, zn_cl (by omega), if_neg c3, e1, e2, nI_1]
      rw [show sG ln lt A l i = true by unfold sG; simp [h1]] at hor
      rw [if_pos rfl] at hor
      rw [hor]
      exact ih
    · rw [if_neg (show ¬ nI (aSy ln lt A (aFst A l + i)) = (1 : Int32) from fun q => h1 (zn_inj (b := 1) (by omega) (by omega) q)), mX1_hear_b147, zn_cl (by omega), if_neg c3, e1, e2, nI_1]
      rw [show sG ln lt A l i = false by unfold sG; simp [h1]] at hor
      rw [if_neg (by decide)] at hor
      rw [hor]
      exact ih
theorem c_hear (hp : POOL L ln sy sn lt st) (ha : AOK L ln lt A) (hc : CW A kinds spelled) (hz : CZ A sizes) {l : Nat} (hl : l < aL A) (w1 w2 w3 w4 w5 w6 : Int32) (la : Nat → Int32) : ∃ la', mX1_hear L ln sy sn lt sizes kinds spelled w1 w2 w3 w4 w5 w6 la (nI l) = some (nI (aSz A l), nI (aPs ln lt A l (aSz A l)), nI (msk (gSt (aG ln lt A l)) (aPs ln lt A l (aSz A l))), nI (msk (gEi (aG ln lt A l)) (aPs ln lt A l (aSz A l))), nI (msk (JN ln lt A l) (aSz A l)), nI (msk (sG ln lt A l) (aSz A l)), la') ∧ ∀ k, k < aSz A l → la' k = nI (aPs ln lt A l (k + 1) - 1) := by
  obtain ⟨g1, g2, g3, g4, g5, g6⟩ := aok_l ha hl
  obtain ⟨la', h, h2⟩ := c_hear_loop (sizes := sizes) hp ha hc hl (nI (msk (JN ln lt A l) (aSz A l))) (nI l) (aSz A l) 0 la (by omega) (fun k hk => absurd hk (by omega)) FU (zn_fu (by omega))
  refine ⟨la', ?_, h2⟩
  have c1 : ¬ (nI l < 0 ∨ 4 ≤ l) := by simp (disch := omega) only [↓reduceIte, Nat.reduceAdd, Nat.reduceMul, Nat.reduceSub, Nat.zero_add, zn_0, zn_1, zn_2, zn_3, zn_4, zn_5, zn_6, zn_7, zn_8, zn_9, zn_10, zn_16, zn_20, zn_23, zn_24, zn_25, zn_26, zn_40, zn_207, zn_4761, zn_99, zn_130, zn_lt_t, zn_lt_f, zn_le_t, zn_le_f, zn_eq_t, zn_eq_f, zn_ix, zn_cl, zq_le_f, zq_le_t, zq_lt_f, zq_lt_t, zn_add, zn_mul, zn_sub, or_false, false_or, or_self, true_or, or_true, and_true, true_and, and_false, false_and, not_true_eq_false, not_false_eq_true, if_true, if_false, os1, os2, os3, os4, os5, os6, os7, os8, os9, os10, os11, os12, os13, os14, os15, os16, os17, os18, os19, os20, os21, os22, os23, os24]
  have c2 : ¬ (5 : Int32) < nI (aSz A l) := by simp (disch := omega) only [↓reduceIte, Nat.reduceAdd, Nat.reduceMul, Nat.reduceSub, Nat.zero_add, zn_0, zn_1, zn_2, zn_3, zn_4, zn_5, zn_6, zn_7, zn_8, zn_9, zn_10, zn_16, zn_20, zn_23, zn_24, zn_25, zn_26, zn_40, zn_207, zn_4761, zn_99, zn_130, zn_lt_t, zn_lt_f, zn_le_t, zn_le_f, zn_eq_t, zn_eq_f, zn_ix, zn_cl, zq_le_f, zq_le_t, zq_lt_f, zq_lt_t, zn_add, zn_mul, zn_sub, or_false, false_or, or_self, true_or, or_true, and_true, true_and, and_false, false_and, not_true_eq_false, not_false_eq_true, if_true, if_false, os1, os2, os3, os4, os5, os6, os7, os8, os9, os10, os11, os12, os13, os14, os15, os16, os17, os18, os19, os20, os21, os22, os23, os24]
  unfold mX1_hear mX1_hear_b0
  rw [c_first ha hz hl, os1, zn_cl (by omega), if_neg c1, c_joins hp ha hc hz hl, os1, hz l hl, if_neg c2]
  exact h
/-- the strengths in force: those that are either by bits, or as they are -/
def SB (b : Int32) (g : Nat → Nat) (j : Nat) : Nat := if g j = 2 ∧ ¬ b < 0 then (if B b (cnt (gEi g) j) then 1 else 0) else g j
theorem r_lay_in (h : PR ln lt A row) (ha : AOK L ln lt A) {l i : Nat} (hl : l < aL A) (hi : i < aSz A l) (by_ : Int32) (k13 : (Nat → Int32) → (Nat → Int32) → Int32 → Int32 → Int32 → Option (Int32 × (Nat → Int32) × (Nat → Int32))) (g : Nat → Int32) (hg : g i = nI (aSy ln lt A (aFst A l + i))) (p2 : Int32) : ∀ (d k : Nat) (f : Nat → Int32), k + d = aSy ln lt A (aFst A l + i) → (∀ q, q < k → f (4 * i + q) = nI (SB by_ (aG ln lt A l) (aPs ln lt A l i + q))) → ∀ n, d < n → ∃ f', mX7_layLine_b42 row p2 by_ k13 n f g (nI (cnt (gEi (aG ln lt A l)) (aPs ln lt A l i + k))) (nI (aFst A l)) (nI i) (nI k) = k13 f' g (nI (cnt (gEi (aG ln lt A l)) (aPs ln lt A l (i + 1)))) (nI (aFst A l)) (nI (i + 1)) ∧ (∀ q, q < aSy ln lt A (aFst A l + i) → f' (4 * i + q) = nI (SB by_ (aG ln lt A l) (aPs ln lt A l i + q))) ∧ ∀ x, x < 4 * i → f' x = f x
  | _, _, _, _, _, 0, hn => absurd hn (by omega)
  | 0, k, f, hk, hf, n + 1, _ => by
    obtain ⟨g1, g2, g3, g4, g5, g6⟩ := aok_l ha hl
    have hw : aFst A l + i < aW A := by omega
    obtain ⟨s1, s4⟩ := aok_s ha hw
    have e : k = aSy ln lt A (aFst A l + i) := by omega
    subst e
    refine ⟨f, ?_, hf, fun _ _ => rfl⟩
    have c3 : ¬ (nI i < 0 ∨ 5 ≤ i) := by simp (disch := omega) only [↓reduceIte, Nat.reduceAdd, Nat.reduceMul, Nat.reduceSub, Nat.zero_add, zn_0, zn_1, zn_2, zn_3, zn_4, zn_5, zn_6, zn_7, zn_8, zn_9, zn_10, zn_16, zn_20, zn_23, zn_24, zn_25, zn_26, zn_40, zn_207, zn_4761, zn_99, zn_130, zn_lt_t, zn_lt_f, zn_le_t, zn_le_f, zn_eq_t, zn_eq_f, zn_ix, zn_cl, zq_le_f, zq_le_t, zq_lt_f, zq_lt_t, zn_add, zn_mul, zn_sub, or_false, false_or, or_self, true_or, or_true, and_true, true_and, and_false, false_and, not_true_eq_false, not_false_eq_true, if_true, if_false, os1, os2, os3, os4, os5, os6, os7, os8, os9, os10, os11, os12, os13, os14, os15, os16, os17, os18, os19, os20, os21, os22, os23, os24]
    rw [mX7_layLine_b42, zn_cl (by omega), if_neg c3, hg, if_pos (nI_le (Nat.le_refl _) (by omega)), nI_1]
    rfl
  | d + 1, k, f, hk, hf, n + 1, hn => by
    obtain ⟨g1, g2, g3, g4, g5, g6⟩ := aok_l ha hl
    have hw : aFst A l + i < aW A := by omega
    obtain ⟨s1, s4⟩ := aok_s ha hw
    have hps := aPs_20 (ln := ln) ha hl (k := i + 1) (by omega)
    have eps := aPs_succ (ln := ln) (lt := lt) (A := A) l i
    have hcn := cnt_le (gEi (aG ln lt A l)) (aPs ln lt A l i + k)
    have hag := aG_in (ln := ln) (lt := lt) (A := A) hi (by omega : k < aSy ln lt A (aFst A l + i))
    have hle := STR_le (aKd A (aFst A l + i)) (aSy ln lt A (aFst A l + i)) k
    have c3 : ¬ (nI i < 0 ∨ 5 ≤ i) := by simp (disch := omega) only [↓reduceIte, Nat.reduceAdd, Nat.reduceMul, Nat.reduceSub, Nat.zero_add, zn_0, zn_1, zn_2, zn_3, zn_4, zn_5, zn_6, zn_7, zn_8, zn_9, zn_10, zn_16, zn_20, zn_23, zn_24, zn_25, zn_26, zn_40, zn_207, zn_4761, zn_99, zn_130, zn_lt_t, zn_lt_f, zn_le_t, zn_le_f, zn_eq_t, zn_eq_f, zn_ix, zn_cl, zq_le_f, zq_le_t, zq_lt_f, zq_lt_t, zn_add, zn_mul, zn_sub, or_false, false_or, or_self, true_or, or_true, and_true, true_and, and_false, false_and, not_true_eq_false, not_false_eq_true, if_true, if_false, os1, os2, os3, os4, os5, os6, os7, os8, os9, os10, os11, os12, os13, os14, os15, os16, os17, os18, os19, os20, os21, os22, os23, os24]
    have c4 : ¬ (nI (4 * i + k) < 0 ∨ 20 ≤ 4 * i + k) := by simp (disch := omega) only [↓reduceIte, Nat.reduceAdd, Nat.reduceMul, Nat.reduceSub, Nat.zero_add, zn_0, zn_1, zn_2, zn_3, zn_4, zn_5, zn_6, zn_7, zn_8, zn_9, zn_10, zn_16, zn_20, zn_23, zn_24, zn_25, zn_26, zn_40, zn_207, zn_4761, zn_99, zn_130, zn_lt_t, zn_lt_f, zn_le_t, zn_le_f, zn_eq_t, zn_eq_f, zn_ix, zn_cl, zq_le_f, zq_le_t, zq_lt_f, zq_lt_t, zn_add, zn_mul, zn_sub, or_false, false_or, or_self, true_or, or_true, and_true, true_and, and_false, false_and, not_true_eq_false, not_false_eq_true, if_true, if_false, os1, os2, os3, os4, os5, os6, os7, os8, os9, os10, os11, os12, os13, os14, os15, os16, os17, os18, os19, os20, os21, os22, os23, os24]
    have e4 : (4 : Int32) * nI i + nI k = nI (4 * i + k) := by rw [zn_4, zn_mul, zn_add]
    have ecn : cnt (gEi (aG ln lt A l)) (aPs ln lt A l i + (k + 1)) = cnt (gEi (aG ln lt A l)) (aPs ln lt A l i + k) + (gEi (aG ln lt A l) (aPs ln lt A l i + k)).toNat := rfl
    have ih := fun v (hv : v = nI (SB by_ (aG ln lt A l) (aPs ln lt A l i + k))) => r_lay_in h ha hl hi by_ k13 g hg p2 d (k + 1) (upd f (4 * i + k) v) (by omega) (by
      intro q hq
      unfold upd
      by_cases e : q = k
      · rw [if_pos (by omega), e]; exact hv
      · rw [if_neg (by omega)]; exact hf q (by omega)) n (by omega)
    have fin : ∀ v, v = nI (SB by_ (aG ln lt A l) (aPs ln lt A l i + k)) → ∃ f', mX7_layLine_b42 row p2 by_ k13 n (upd f (4 * i + k) v) g (nI (cnt (gEi (aG ln lt A l)) (aPs ln lt A l i + (k + 1)))) (nI (aFst A l)) (nI i) (nI (k + 1)) = k13 f' g (nI (cnt (gEi (aG ln lt A l)) (aPs ln lt A l (i + 1)))) (nI (aFst A l)) (nI (i + 1)) ∧ (∀ q, q < aSy ln lt A (aFst A l + i) → f' (4 * i + q) = nI (SB by_ (aG ln lt A l) (aPs ln lt A l i + q))) ∧ ∀ x, x < 4 * i → f' x = f x := by
      intro v hv
      obtain ⟨f', q1, q2, q3⟩ := ih v hv
      refine ⟨f', q1, q2, fun x hx => ?_⟩
      rw [q3 x hx]; unfold upd; rw [if_neg (by omega)]
    rw [mX7_layLine_b42, zn_cl (by omega), if_neg c3, hg, if_neg (nI_ge (by omega) (by omega)), zn_add, r_strength h ha hw (by omega), os1]
    by_cases h2 : STR (aKd A (aFst A l + i)) (aSy ln lt A (aFst A l + i)) k = 2
    · have hb : gEi (aG ln lt A l) (aPs ln lt A l i + k) = true := by unfold gEi; rw [hag, h2]; rfl
      rw [hb] at ecn
      rw [h2, if_pos (by rfl)]
      by_cases hn : by_ < 0
      · have := fin (nI 2) (by unfold SB; rw [if_neg (fun q => q.2 hn), hag, h2])
        rw [ecn] at this
        rw [if_pos hn, mX7_layLine_b97, mX7_layLine_b99, e4, zn_cl (by omega), if_neg c4, if_pos (by rfl), nI_1, nI_1]
        exact this
      · have hv : (by_ >>> (nI (cnt (gEi (aG ln lt A l)) (aPs ln lt A l i + k)) &&& 31)) &&& (1 : Int32) = nI (SB by_ (aG ln lt A l) (aPs ln lt A l i + k)) := by
          rw [B_bit by_ (by omega)]
          unfold SB
          rw [if_pos ⟨by rw [hag, h2], hn⟩]
          cases B by_ (cnt (gEi (aG ln lt A l)) (aPs ln lt A l i + k)) <;> rfl
        have := fin _ hv
        rw [ecn] at this
        rw [if_neg hn, mX7_layLine_b99, e4, zn_cl (by omega), if_neg c4, if_pos (by rfl), nI_1, nI_1]
        exact this
    · have hb : gEi (aG ln lt A l) (aPs ln lt A l i + k) = false := by unfold gEi; rw [hag]; simp [h2]
      rw [hb] at ecn
      have hne : ¬ nI (STR (aKd A (aFst A l + i)) (aSy ln lt A (aFst A l + i)) k) = (2 : Int32) := fun q => h2 (zn_inj (b := 2) (by omega) (by omega) q)
      have := fin (nI (STR (aKd A (aFst A l + i)) (aSy ln lt A (aFst A l + i)) k)) (by unfold SB; rw [if_neg (fun q => h2 (by rw [← hag]; exact q.1)), hag])
      rw [ecn] at this
      rw [if_neg hne, mX7_layLine_b97, mX7_layLine_b99, e4, zn_cl (by omega), if_neg c4, if_neg hne, nI_1, Int32.add_zero]
      exact this
theorem r_lay_loop (h : PR ln lt A row) (ha : AOK L ln lt A) {l : Nat} (hl : l < aL A) (by_ : Int32) : ∀ (d i : Nat) (f g : Nat → Int32), i + d = aSz A l → (∀ p, p < i → g p = nI (aSy ln lt A (aFst A l + p))) → (∀ p, p < i → ∀ q, q < aSy ln lt A (aFst A l + p) → f (4 * p + q) = nI (SB by_ (aG ln lt A l) (aPs ln lt A l p + q))) → ∀ n, d < n → ∃ f' g', mX7_layLine_b13 row (nI l) by_ n f g (nI (cnt (gEi (aG ln lt A l)) (aPs ln lt A l i))) (nI (aFst A l)) (nI i) = some (nI (cnt (gEi (aG ln lt A l)) (aPs ln lt A l (aSz A l))), f', g') ∧ (∀ p, p < aSz A l → g' p = nI (aSy ln lt A (aFst A l + p))) ∧ ∀ p, p < aSz A l → ∀ q, q < aSy ln lt A (aFst A l + p) → f' (4 * p + q) = nI (SB by_ (aG ln lt A l) (aPs ln lt A l p + q))
  | _, _, _, _, _, _, _, 0, hn => absurd hn (by omega)
  | 0, i, f, g, hi, hg, hf, n + 1, _ => by
    obtain ⟨g1, g2, g3, g4, g5, g6⟩ := aok_l ha hl
    have hrow : row (3 + l) = nI (aSz A l) := h.2.2.2.1 l (by omega)
    have e : i = aSz A l := by omega
    subst e
    refine ⟨f, g, ?_, hg, hf⟩
    rw [mX7_layLine_b13, zn_3, zn_add, zn_cl (by omega), if_neg (by simp (disch := omega) only [↓reduceIte, Nat.reduceAdd, Nat.reduceMul, Nat.reduceSub, Nat.zero_add, zn_0, zn_1, zn_2, zn_3, zn_4, zn_5, zn_6, zn_7, zn_8, zn_9, zn_10, zn_16, zn_20, zn_23, zn_24, zn_25, zn_26, zn_40, zn_207, zn_4761, zn_99, zn_130, zn_lt_t, zn_lt_f, zn_le_t, zn_le_f, zn_eq_t, zn_eq_f, zn_ix, zn_cl, zq_le_f, zq_le_t, zq_lt_f, zq_lt_t, zn_add, zn_mul, zn_sub, or_false, false_or, or_self, true_or, or_true, and_true, true_and, and_false, false_and, not_true_eq_false, not_false_eq_true, if_true, if_false, os1, os2, os3, os4, os5, os6, os7, os8, os9, os10, os11, os12, os13, os14, os15, os16, os17, os18, os19, os20, os21, os22, os23, os24]), hrow, if_pos (nI_le (Nat.le_refl _) (by omega))]
  | d + 1, i, f, g, hi, hg, hf, n + 1, hn => by
    obtain ⟨g1, g2, g3, g4, g5, g6⟩ := aok_l ha hl
    have hrow : row (3 + l) = nI (aSz A l) := h.2.2.2.1 l (by omega)
    have hw : aFst A l + i < aW A := by omega
    obtain ⟨s1, s4⟩ := aok_s ha hw
    have c3 : ¬ (nI i < 0 ∨ 5 ≤ i) := by simp (disch := omega) only [↓reduceIte, Nat.reduceAdd, Nat.reduceMul, Nat.reduceSub, Nat.zero_add, zn_0, zn_1, zn_2, zn_3, zn_4, zn_5, zn_6, zn_7, zn_8, zn_9, zn_10, zn_16, zn_20, zn_23, zn_24, zn_25, zn_26, zn_40, zn_207, zn_4761, zn_99, zn_130, zn_lt_t, zn_lt_f, zn_le_t, zn_le_f, zn_eq_t, zn_eq_f, zn_ix, zn_cl, zq_le_f, zq_le_t, zq_lt_f, zq_lt_t, zn_add, zn_mul, zn_sub, or_false, false_or, or_self, true_or, or_true, and_true, true_and, and_false, false_and, not_true_eq_false, not_false_eq_true, if_true, if_false, os1, os2, os3, os4, os5, os6, os7, os8, os9, os10, os11, os12, os13, os14, os15, os16, os17, os18, os19, os20, os21, os22, os23, os24]
    obtain ⟨f', q1, q2, q3⟩ := r_lay_in h ha hl (i := i) (by omega) by_ (mX7_layLine_b13 row (nI l) by_ n) (upd g i (nI (aSy ln lt A (aFst A l + i)))) (by unfold upd; rw [if_pos rfl]) (nI l) (aSy ln lt A (aFst A l + i)) 0 f (by omega) (fun q hq => absurd hq (by omega)) FU (zn_fu (by omega))
    rw [mX7_layLine_b13, zn_3, zn_add, zn_cl (by omega), if_neg (by simp (disch := omega) only [↓reduceIte, Nat.reduceAdd, Nat.reduceMul, Nat.reduceSub, Nat.zero_add, zn_0, zn_1, zn_2, zn_3, zn_4, zn_5, zn_6, zn_7, zn_8, zn_9, zn_10, zn_16, zn_20, zn_23, zn_24, zn_25, zn_26, zn_40, zn_207, zn_4761, zn_99, zn_130, zn_lt_t, zn_lt_f, zn_le_t, zn_le_f, zn_eq_t, zn_eq_f, zn_ix, zn_cl, zq_le_f, zq_le_t, zq_lt_f, zq_lt_t, zn_add, zn_mul, zn_sub, or_false, false_or, or_self, true_or, or_true, and_true, true_and, and_false, false_and, not_true_eq_false, not_false_eq_true, if_true, if_false, os1, os2, os3, os4, os5, os6, os7, os8, os9, os10, os11, os12, os13, os14, os15, os16, os17, os18, os19, os20, os21, os22, os23, os24]), hrow, if_neg (nI_ge (by omega) (by omega)), zn_add, r_syll h ha hw, os1, zn_cl (by omega), if_neg c3]
    have q1' : mX7_layLine_b42 row (nI l) by_ (mX7_layLine_b13 row (nI l) by_ n) FU f (upd g i (nI (aSy ln lt A (aFst A l + i)))) (nI (cnt (gEi (aG ln lt A l)) (aPs ln lt A l i))) (nI (aFst A l)) (nI i) 0 = _ := q1
    rw [q1']
    apply r_lay_loop h ha hl by_ d (i + 1) f' (upd g i (nI (aSy ln lt A (aFst A l + i)))) (by omega) ?_ ?_ n (by omega)
    · intro p hp
      unfold upd
      by_cases e : p = i
      · rw [if_pos e, e]
      · rw [if_neg e]; exact hg p (by omega)
    · intro p hp q hq
      by_cases e : p = i
      · subst e; exact q2 q hq
      · have hs := aok_s ha (w := aFst A l + p) (by omega)
        rw [q3 _ (by omega)]
        exact hf p (by omega) q hq
theorem r_layLine (h : PR ln lt A row) (ha : AOK L ln lt A) {l : Nat} (hl : l < aL A) (by_ : Int32) (f g : Nat → Int32) : ∃ f' g', mX7_layLine row f g (nI l) by_ = some (nI (cnt (gEi (aG ln lt A l)) (aPs ln lt A l (aSz A l))), f', g') ∧ (∀ p, p < aSz A l → g' p = nI (aSy ln lt A (aFst A l + p))) ∧ ∀ p, p < aSz A l → ∀ q, q < aSy ln lt A (aFst A l + p) → f' (4 * p + q) = nI (SB by_ (aG ln lt A l) (aPs ln lt A l p + q)) := by
  obtain ⟨g1, g2, g3, g4, g5, g6⟩ := aok_l ha hl
  have := r_lay_loop h ha hl by_ (aSz A l) 0 f g (by omega) (fun p hp => absurd hp (by omega)) (fun p hp => absurd hp (by omega)) FU (zn_fu (by omega))
  unfold mX7_layLine mX7_layLine_b0
  rw [r_firstOf h ha (by omega), os1]
  exact this
end
