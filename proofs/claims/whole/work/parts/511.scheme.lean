-- uses: 501.auto 502.abs 503.line 504.word 505.bits 507.tail 508.alike 509.lines
/-! the scheme, by both -/
section
variable {L : List Nat} {ln sy sn : Nat → Int32} {lt st : Nat → Nat → Int32} {A : AP} {row : Nat → Int32} {kinds sizes : Nat → Int32} {spelled : Nat → Nat}
def aE (A : AP) (l : Nat) : Nat := aFst A (l + 1) - 1
def RH (ln : Nat → Int32) (lt : Nat → Nat → Int32) (A : AP) (l k : Nat) : Bool := ALK ln lt A (aE A l) (aE A k)
def gg (R : Nat → Nat → Bool) (l : Nat) : Nat → Nat → Nat
  | f, 0 => f
  | f, e + 1 => gg R l (if R l e then e else f) e
theorem gg_le (R : Nat → Nat → Bool) (l : Nat) : ∀ e f, e ≤ l → f ≤ l → gg R l f e ≤ l
  | 0, f, _, h => h
  | e + 1, f, h1, h2 => by
    unfold gg
    exact gg_le R l e _ (by omega) (by split <;> omega)
def SS (R : Nat → Nat → Bool) : Nat → (Nat → Nat) × Nat
  | 0 => (fun _ => 0, 0)
  | l + 1 => if gg R l l l = l then (fun j => if j = l then (SS R l).2 else (SS R l).1 j, (SS R l).2 + 1) else (fun j => if j = l then (SS R l).1 (gg R l l l) else (SS R l).1 j, (SS R l).2)
theorem SS_lt (R : Nat → Nat → Bool) : ∀ l, (SS R l).2 ≤ l ∧ (∀ j, j < l → (SS R l).1 j < (SS R l).2) ∧ (0 < l → 0 < (SS R l).2)
  | 0 => ⟨Nat.le_refl _, fun j h => absurd h (by omega), fun h => absurd h (by omega)⟩
  | l + 1 => by
    obtain ⟨h1, h2, h3⟩ := SS_lt R l
    have hg := gg_le R l l l (Nat.le_refl _) (Nat.le_refl _)
    unfold SS
    by_cases h : gg R l l l = l
    · rw [if_pos h]
      refine ⟨by dsimp only; omega, fun j hj => ?_, fun _ => by dsimp only; omega⟩
      dsimp only
      by_cases e : j = l
      · rw [if_pos e]; omega
      · rw [if_neg e]; have := h2 j (by omega); omega
    · rw [if_neg h]
      have hl : gg R l l l < l := by omega
      refine ⟨by dsimp only; omega, fun j hj => ?_, fun _ => by dsimp only; exact h3 (by omega)⟩
      dsimp only
      by_cases e : j = l
      · rw [if_pos e]; exact h2 _ hl
      · rw [if_neg e]; exact h2 j (by omega)
theorem aE_lt (ha : AOK L ln lt A) {l : Nat} (hl : l < aL A) : aE A l < aW A := aEnd_lt ha hl
theorem c_inner (hp : POOL L ln sy sn lt st) (ha : AOK L ln lt A) (hc : CW A kinds spelled) (hz : CZ A sizes) {l : Nat} (hl : l < aL A) (ls : Int32) (k4 : (Nat → Int32) → Int32 → Int32 → Option (Int32 × (Nat → Int32))) (s : Nat → Int32) (x1 : Int32) : ∀ (e f : Nat), e ≤ l → f ≤ l → ∀ n, e < n → mX2_tellScheme_b19 L ln sy sn lt st ls sizes kinds spelled k4 n s x1 (nI l) (nI f) (nI e - 1) = (if gg (RH ln lt A) l f e = l then k4 (upd s l x1) (x1 + 1) (nI (l + 1)) else k4 (upd s l (s (gg (RH ln lt A) l f e))) x1 (nI (l + 1)))
  | _, _, _, _, 0, hn => absurd hn (by omega)
  | 0, f, he, hf, n + 1, _ => by
    obtain ⟨g1, g2, g3, g4, g5, g6⟩ := aok_l ha hl
    rw [mX2_tellScheme_b19, if_pos (by decide)]
    show _ = if f = l then _ else _
    by_cases h : f = l
    · subst h
      simp (disch := omega) only [↓reduceIte, Nat.reduceAdd, Nat.reduceMul, Nat.reduceSub, Nat.zero_add, zn_0, zn_1, zn_2, zn_3, zn_4, zn_5, zn_6, zn_7, zn_8, zn_9, zn_10, zn_16, zn_20, zn_23, zn_24, zn_25, zn_26, zn_40, zn_207, zn_4761, zn_99, zn_130, zn_lt_t, zn_lt_f, zn_le_t, zn_le_f, zn_eq_t, zn_eq_f, zn_ix, zn_cl, zq_le_f, zq_le_t, zq_lt_f, zq_lt_t, zn_add, zn_mul, zn_sub, or_false, false_or, or_self, true_or, or_true, and_true, true_and, and_false, false_and, not_true_eq_false, not_false_eq_true, if_true, if_false, os1, os2, os3, os4, os5, os6, os7, os8, os9, os10, os11, os12, os13, os14, os15, os16, os17, os18, os19, os20, os21, os22, os23, os24]
    · rw [if_neg h, if_neg (fun q => h (zn_inj (by omega) (by omega) q))]
      simp (disch := omega) only [↓reduceIte, Nat.reduceAdd, Nat.reduceMul, Nat.reduceSub, Nat.zero_add, zn_0, zn_1, zn_2, zn_3, zn_4, zn_5, zn_6, zn_7, zn_8, zn_9, zn_10, zn_16, zn_20, zn_23, zn_24, zn_25, zn_26, zn_40, zn_207, zn_4761, zn_99, zn_130, zn_lt_t, zn_lt_f, zn_le_t, zn_le_f, zn_eq_t, zn_eq_f, zn_ix, zn_cl, zq_le_f, zq_le_t, zq_lt_f, zq_lt_t, zn_add, zn_mul, zn_sub, or_false, false_or, or_self, true_or, or_true, and_true, true_and, and_false, false_and, not_true_eq_false, not_false_eq_true, if_true, if_false, os1, os2, os3, os4, os5, os6, os7, os8, os9, os10, os11, os12, os13, os14, os15, os16, os17, os18, os19, os20, os21, os22, os23, os24]
      rfl
  | e + 1, f, he, hf, n + 1, hn => by
    obtain ⟨g1, g2, g3, g4, g5, g6⟩ := aok_l ha hl
    have hle : e < aL A := by omega
    rw [mX2_tellScheme_b19, nI_pred, if_neg (by simp (disch := omega) only [↓reduceIte, Nat.reduceAdd, Nat.reduceMul, Nat.reduceSub, Nat.zero_add, zn_0, zn_1, zn_2, zn_3, zn_4, zn_5, zn_6, zn_7, zn_8, zn_9, zn_10, zn_16, zn_20, zn_23, zn_24, zn_25, zn_26, zn_40, zn_207, zn_4761, zn_99, zn_130, zn_lt_t, zn_lt_f, zn_le_t, zn_le_f, zn_eq_t, zn_eq_f, zn_ix, zn_cl, zq_le_f, zq_le_t, zq_lt_f, zq_lt_t, zn_add, zn_mul, zn_sub, or_false, false_or, or_self, true_or, or_true, and_true, true_and, and_false, false_and, not_true_eq_false, not_false_eq_true, if_true, if_false, os1, os2, os3, os4, os5, os6, os7, os8, os9, os10, os11, os12, os13, os14, os15, os16, os17, os18, os19, os20, os21, os22, os23, os24]), c_last ha hz hle, os1, c_last ha hz hl, os1, c_alike hp ha hc (aEnd_lt ha hle) (aEnd_lt ha hl), os1, ALK_symm]
    have e1 : nI e + (-1) = nI e - 1 := by rw [Int32.sub_eq_add_neg]
    have hr : ALK ln lt A (aFst A (l + 1) - 1) (aFst A (e + 1) - 1) = RH ln lt A l e := rfl
    rw [hr, gg, e1]
    cases hb : RH ln lt A l e
    · rw [b2i_f, if_pos (by rfl)]
      have := c_inner hp ha hc hz hl ls k4 s x1 e f (by omega) hf n (by omega)
      simp only [Bool.false_eq_true, if_false]
      exact this
    · rw [b2i_t, if_neg (by decide)]
      have := c_inner hp ha hc hz hl ls k4 s x1 e e (by omega) (by omega) n (by omega)
      simp only [if_true]
      exact this
theorem c_outer (hp : POOL L ln sy sn lt st) (ha : AOK L ln lt A) (hc : CW A kinds spelled) (hz : CZ A sizes) : ∀ (d l : Nat) (s : Nat → Int32), l + d = aL A → (∀ j, j < l → s j = nI ((SS (RH ln lt A) l).1 j)) → ∀ n, d < n → ∃ s', mX2_tellScheme_b4 L ln sy sn lt st (nI (aL A)) sizes kinds spelled n s (nI (SS (RH ln lt A) l).2) (nI l) = some (nI (SS (RH ln lt A) (aL A)).2, s') ∧ ∀ j, j < aL A → s' j = nI ((SS (RH ln lt A) (aL A)).1 j)
  | _, _, _, _, _, 0, hn => absurd hn (by omega)
  | 0, l, s, hl, hs, n + 1, _ => by
    obtain ⟨-, -, w20, l4⟩ := aok_sz ha
    have e : l = aL A := by omega
    subst e
    refine ⟨s, ?_, hs⟩
    rw [mX2_tellScheme_b4, if_pos (nI_le (Nat.le_refl _) (by omega))]
  | d + 1, l, s, hl, hs, n + 1, hn => by
    obtain ⟨-, -, w20, l4⟩ := aok_sz ha
    have hg := gg_le (RH ln lt A) l l l (Nat.le_refl _) (Nat.le_refl _)
    rw [mX2_tellScheme_b4, if_neg (nI_ge (by omega) (by omega)), c_inner hp ha hc hz (by omega) _ _ s _ l l (Nat.le_refl _) (Nat.le_refl _) FU (zn_fu (by omega))]
    have hss : SS (RH ln lt A) (l + 1) = if gg (RH ln lt A) l l l = l then (fun j => if j = l then (SS (RH ln lt A) l).2 else (SS (RH ln lt A) l).1 j, (SS (RH ln lt A) l).2 + 1) else (fun j => if j = l then (SS (RH ln lt A) l).1 (gg (RH ln lt A) l l l) else (SS (RH ln lt A) l).1 j, (SS (RH ln lt A) l).2) := rfl
    by_cases h : gg (RH ln lt A) l l l = l
    · rw [if_pos h] at hss ⊢
      have ih := c_outer hp ha hc hz d (l + 1) (upd s l (nI (SS (RH ln lt A) l).2)) (by omega) (by
        intro j hj
        rw [hss]
        unfold upd
        by_cases e : j = l
        · simp [e]
        · simp only [if_neg e]; exact hs j (by omega)) n (by omega)
      rw [hss] at ih
      rw [nI_1]
      exact ih
    · rw [if_neg h] at hss ⊢
      have ih := c_outer hp ha hc hz d (l + 1) (upd s l (s (gg (RH ln lt A) l l l))) (by omega) (by
        intro j hj
        rw [hss]
        unfold upd
        by_cases e : j = l
        · simp only [if_pos e]; exact hs _ (by omega)
        · simp only [if_neg e]; exact hs j (by omega)) n (by omega)
      rw [hss] at ih
      exact ih
theorem c_scheme (hp : POOL L ln sy sn lt st) (ha : AOK L ln lt A) (hc : CW A kinds spelled) (hz : CZ A sizes) (s : Nat → Int32) : ∃ s', mX2_tellScheme L ln sy sn lt st (nI (aL A)) sizes kinds spelled s = some (nI (SS (RH ln lt A) (aL A)).2, s') ∧ ∀ j, j < aL A → s' j = nI ((SS (RH ln lt A) (aL A)).1 j) := by
  obtain ⟨-, -, w20, l4⟩ := aok_sz ha
  exact c_outer hp ha hc hz (aL A) 0 s (by omega) (fun j hj => absurd hj (by omega)) FU (zn_fu (by omega))
theorem r_inner (h : PR ln lt A row) (ha : AOK L ln lt A) {l : Nat} (hl : l < aL A) (k4 : (Nat → Int32) → Int32 → Int32 → Option (Int32 × (Nat → Int32))) (f : Nat → Nat) (m : Nat) (hm : m ≤ 4) (hf : ∀ j, j < l → f j < m) : ∀ (e fi : Nat) (s : Nat → Int32), e ≤ l → fi ≤ l → (∀ j, j < l → s j = nI (f j)) → s l = nI (if fi = l then m else f fi) → ∀ n, e < n → ∃ s', mX7_layScheme_b25 row k4 n s (nI m) (nI l) (nI e - 1) = k4 s' (if gg (RH ln lt A) l fi e = l then nI (m + 1) else nI m) (nI (l + 1)) ∧ (∀ j, j < l → s' j = nI (f j)) ∧ s' l = nI (if gg (RH ln lt A) l fi e = l then m else f (gg (RH ln lt A) l fi e))
  | _, _, _, _, _, _, _, 0, hn => absurd hn (by omega)
  | 0, fi, s, he, hfi, hs, hsl, n + 1, _ => by
    obtain ⟨g1, g2, g3, g4, g5, g6⟩ := aok_l ha hl
    refine ⟨s, ?_, hs, hsl⟩
    rw [mX7_layScheme_b25, if_pos (by decide), if_neg (by simp (disch := omega) only [↓reduceIte, Nat.reduceAdd, Nat.reduceMul, Nat.reduceSub, Nat.zero_add, zn_0, zn_1, zn_2, zn_3, zn_4, zn_5, zn_6, zn_7, zn_8, zn_9, zn_10, zn_16, zn_20, zn_23, zn_24, zn_25, zn_26, zn_40, zn_207, zn_4761, zn_99, zn_130, zn_lt_t, zn_lt_f, zn_le_t, zn_le_f, zn_eq_t, zn_eq_f, zn_ix, zn_cl, zq_le_f, zq_le_t, zq_lt_f, zq_lt_t, zn_add, zn_mul, zn_sub, or_false, false_or, or_self, true_or, or_true, and_true, true_and, and_false, false_and, not_true_eq_false, not_false_eq_true, if_true, if_false, os1, os2, os3, os4, os5, os6, os7, os8, os9, os10, os11, os12, os13, os14, os15, os16, os17, os18, os19, os20, os21, os22, os23, os24]), zn_cl (by omega), hsl]
    show _ = k4 s (if fi = l then _ else _) _
    by_cases h2 : fi = l
    · rw [if_pos h2, if_pos h2, if_pos rfl]
      rw [nI_1, nI_1]
    · have := hf fi (by omega)
      rw [if_neg h2, if_neg h2, if_neg (fun q => absurd (zn_inj (by omega) (by omega) q) (by omega))]
      rw [Int32.add_zero, nI_1]
  | e + 1, fi, s, he, hfi, hs, hsl, n + 1, hn => by
    obtain ⟨g1, g2, g3, g4, g5, g6⟩ := aok_l ha hl
    have hle : e < aL A := by omega
    have e1 : nI e + (-1) = nI e - 1 := by rw [Int32.sub_eq_add_neg]
    have c1 : ¬ (nI l < 0 ∨ 4 ≤ l) := by simp (disch := omega) only [↓reduceIte, Nat.reduceAdd, Nat.reduceMul, Nat.reduceSub, Nat.zero_add, zn_0, zn_1, zn_2, zn_3, zn_4, zn_5, zn_6, zn_7, zn_8, zn_9, zn_10, zn_16, zn_20, zn_23, zn_24, zn_25, zn_26, zn_40, zn_207, zn_4761, zn_99, zn_130, zn_lt_t, zn_lt_f, zn_le_t, zn_le_f, zn_eq_t, zn_eq_f, zn_ix, zn_cl, zq_le_f, zq_le_t, zq_lt_f, zq_lt_t, zn_add, zn_mul, zn_sub, or_false, false_or, or_self, true_or, or_true, and_true, true_and, and_false, false_and, not_true_eq_false, not_false_eq_true, if_true, if_false, os1, os2, os3, os4, os5, os6, os7, os8, os9, os10, os11, os12, os13, os14, os15, os16, os17, os18, os19, os20, os21, os22, os23, os24]
    have c2 : ¬ (nI e < 0 ∨ 4 ≤ e) := by simp (disch := omega) only [↓reduceIte, Nat.reduceAdd, Nat.reduceMul, Nat.reduceSub, Nat.zero_add, zn_0, zn_1, zn_2, zn_3, zn_4, zn_5, zn_6, zn_7, zn_8, zn_9, zn_10, zn_16, zn_20, zn_23, zn_24, zn_25, zn_26, zn_40, zn_207, zn_4761, zn_99, zn_130, zn_lt_t, zn_lt_f, zn_le_t, zn_le_f, zn_eq_t, zn_eq_f, zn_ix, zn_cl, zq_le_f, zq_le_t, zq_lt_f, zq_lt_t, zn_add, zn_mul, zn_sub, or_false, false_or, or_self, true_or, or_true, and_true, true_and, and_false, false_and, not_true_eq_false, not_false_eq_true, if_true, if_false, os1, os2, os3, os4, os5, os6, os7, os8, os9, os10, os11, os12, os13, os14, os15, os16, os17, os18, os19, os20, os21, os22, os23, os24]
    rw [mX7_layScheme_b25, nI_pred, if_neg (by simp (disch := omega) only [↓reduceIte, Nat.reduceAdd, Nat.reduceMul, Nat.reduceSub, Nat.zero_add, zn_0, zn_1, zn_2, zn_3, zn_4, zn_5, zn_6, zn_7, zn_8, zn_9, zn_10, zn_16, zn_20, zn_23, zn_24, zn_25, zn_26, zn_40, zn_207, zn_4761, zn_99, zn_130, zn_lt_t, zn_lt_f, zn_le_t, zn_le_f, zn_eq_t, zn_eq_f, zn_ix, zn_cl, zq_le_f, zq_le_t, zq_lt_f, zq_lt_t, zn_add, zn_mul, zn_sub, or_false, false_or, or_self, true_or, or_true, and_true, true_and, and_false, false_and, not_true_eq_false, not_false_eq_true, if_true, if_false, os1, os2, os3, os4, os5, os6, os7, os8, os9, os10, os11, os12, os13, os14, os15, os16, os17, os18, os19, os20, os21, os22, os23, os24]), r_endOf h ha hl, os1, r_endOf h ha hle, os1, r_alike h ha (aEnd_lt ha hl) (aEnd_lt ha hle), os1]
    have hr : ALK ln lt A (aFst A (l + 1) - 1) (aFst A (e + 1) - 1) = RH ln lt A l e := rfl
    rw [hr, gg, zn_cl (by omega), zn_cl (by omega), e1]
    cases hb : RH ln lt A l e
    · rw [b2i_f, if_pos (by rfl), if_neg c1, if_neg c1]
      have ih := r_inner h ha hl k4 f m hm hf e fi (upd s l (s l)) (by omega) hfi (by
        intro j hj; unfold upd; rw [if_neg (by omega)]; exact hs j hj) (by unfold upd; rw [if_pos rfl]; exact hsl) n (by omega)
      simp only [Bool.false_eq_true, if_false]
      exact ih
    · rw [b2i_t, if_neg (by decide), if_neg c2, if_neg c1]
      have ih := r_inner h ha hl k4 f m hm hf e e (upd s l (s e)) (by omega) (by omega) (by
        intro j hj; unfold upd; rw [if_neg (by omega)]; exact hs j hj) (by unfold upd; rw [if_pos rfl, if_neg (by omega)]; exact hs e (by omega)) n (by omega)
      simp only [if_true]
      exact ih
theorem r_outer (h : PR ln lt A row) (ha : AOK L ln lt A) : ∀ (d l : Nat) (s : Nat → Int32), l + d = aL A → (∀ j, j < l → s j = nI ((SS (RH ln lt A) l).1 j)) → ∀ n, d < n → ∃ s', mX7_layScheme_b4 row n s (nI (SS (RH ln lt A) l).2) (nI l) = some (nI (SS (RH ln lt A) (aL A)).2, s') ∧ ∀ j, j < aL A → s' j = nI ((SS (RH ln lt A) (aL A)).1 j)
  | _, _, _, _, _, 0, hn => absurd hn (by omega)
  | 0, l, s, hl, hs, n + 1, _ => by
    obtain ⟨-, -, w20, l4⟩ := aok_sz ha
    have e : l = aL A := by omega
    subst e
    refine ⟨s, ?_, hs⟩
    have e0 : row (0 : Int32).toNatClampNeg = nI (aL A) := h.1
    rw [mX7_layScheme_b4, e0, if_pos (nI_le (Nat.le_refl _) (by omega))]
  | d + 1, l, s, hl, hs, n + 1, hn => by
    obtain ⟨-, -, w20, l4⟩ := aok_sz ha
    have e0 : row (0 : Int32).toNatClampNeg = nI (aL A) := h.1
    obtain ⟨q1, q2, q3⟩ := SS_lt (RH ln lt A) l
    obtain ⟨s', k1, k2, k3⟩ := r_inner h ha (l := l) (by omega) (mX7_layScheme_b4 row n) (SS (RH ln lt A) l).1 (SS (RH ln lt A) l).2 (by omega) q2 l l (upd s l (nI (SS (RH ln lt A) l).2)) (Nat.le_refl _) (Nat.le_refl _) (by
        intro j hj; unfold upd; rw [if_neg (by omega)]; exact hs j hj) (by unfold upd; rw [if_pos rfl, if_pos rfl]) FU (zn_fu (by omega))
    rw [mX7_layScheme_b4, e0, if_neg (nI_ge (by omega) (by omega)), if_neg (by simp (disch := omega) only [↓reduceIte, Nat.reduceAdd, Nat.reduceMul, Nat.reduceSub, Nat.zero_add, zn_0, zn_1, zn_2, zn_3, zn_4, zn_5, zn_6, zn_7, zn_8, zn_9, zn_10, zn_16, zn_20, zn_23, zn_24, zn_25, zn_26, zn_40, zn_207, zn_4761, zn_99, zn_130, zn_lt_t, zn_lt_f, zn_le_t, zn_le_f, zn_eq_t, zn_eq_f, zn_ix, zn_cl, zq_le_f, zq_le_t, zq_lt_f, zq_lt_t, zn_add, zn_mul, zn_sub, or_false, false_or, or_self, true_or, or_true, and_true, true_and, and_false, false_and, not_true_eq_false, not_false_eq_true, if_true, if_false, os1, os2, os3, os4, os5, os6, os7, os8, os9, os10, os11, os12, os13, os14, os15, os16, os17, os18, os19, os20, os21, os22, os23, os24]), zn_cl (by omega), k1]
    have hss : SS (RH ln lt A) (l + 1) = if gg (RH ln lt A) l l l = l then (fun j => if j = l then (SS (RH ln lt A) l).2 else (SS (RH ln lt A) l).1 j, (SS (RH ln lt A) l).2 + 1) else (fun j => if j = l then (SS (RH ln lt A) l).1 (gg (RH ln lt A) l l l) else (SS (RH ln lt A) l).1 j, (SS (RH ln lt A) l).2) := rfl
    have hs' : ∀ j, j < l + 1 → s' j = nI ((SS (RH ln lt A) (l + 1)).1 j) := by
      intro j hj
      rw [hss]
      by_cases h2 : gg (RH ln lt A) l l l = l
      · rw [if_pos h2] at k3 ⊢
        by_cases e : j = l
        · simp only [if_pos e]; rw [e]; exact k3
        · simp only [if_neg e]; exact k2 j (by omega)
      · rw [if_neg h2] at k3 ⊢
        by_cases e : j = l
        · simp only [if_pos e]; rw [e]; exact k3
        · simp only [if_neg e]; exact k2 j (by omega)
    have ih := r_outer h ha d (l + 1) s' (by omega) hs' n (by omega)
    have e2 : (if gg (RH ln lt A) l l l = l then nI ((SS (RH ln lt A) l).2 + 1) else nI (SS (RH ln lt A) l).2) = nI (SS (RH ln lt A) (l + 1)).2 := by
      rw [hss]
      by_cases h2 : gg (RH ln lt A) l l l = l
      · rw [if_pos h2, if_pos h2]
      · rw [if_neg h2, if_neg h2]
    rw [e2]
    exact ih
theorem r_scheme (h : PR ln lt A row) (ha : AOK L ln lt A) (s : Nat → Int32) : ∃ s', mX7_layScheme row s = some (nI (SS (RH ln lt A) (aL A)).2, s') ∧ ∀ j, j < aL A → s' j = nI ((SS (RH ln lt A) (aL A)).1 j) := by
  obtain ⟨-, -, w20, l4⟩ := aok_sz ha
  exact r_outer h ha (aL A) 0 s (by omega) (fun j hj => absurd hj (by omega)) FU (zn_fu (by omega))
end
