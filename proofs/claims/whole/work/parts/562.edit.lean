-- uses: 561.ops
/-! words put in, taken out -/
section
variable {L : List Nat} {ln sy sn : Nat → Int32} {lt st : Nat → Nat → Int32} {A : AP} {row : Nat → Int32} {kinds sizes : Nat → Int32} {spelled : Nat → Nat}
def delA (A : AP) (l w : Nat) : AP := (A.1, A.2.1, A.2.2.1.set l (aSz A l - 1), A.2.2.2.eraseIdx w)
def insA (A : AP) (l w k q : Nat) : AP := (A.1, A.2.1, A.2.2.1.set l (aSz A l + 1), A.2.2.2.insertIdx w (k, q))
theorem setN_getD (s : List Nat) {l : Nat} (hl : l < s.length) (x v : Nat) : (s.set l x).getD v 0 = if v = l then x else s.getD v 0 := by
  rw [List.getD_eq_getElem?_getD, List.getElem?_set]
  by_cases h : v = l
  · subst h; simp [hl]
  · have : ¬ l = v := fun q => h q.symm
    simp [h, this]
theorem sum_set : ∀ (s : List Nat) (l x : Nat), l < s.length → (s.set l x).sum + s.getD l 0 = s.sum + x
  | [], l, x, h => absurd h (by simp)
  | a :: s, 0, x, _ => by simp; omega
  | a :: s, l + 1, x, h => by
    have ih := sum_set s l x (by simpa using h)
    simp only [List.set_cons_succ, List.sum_cons, List.getD_cons_succ]
    omega
theorem delA_W {w : Nat} (hw : w < aW A) (l : Nat) : aW (delA A l w) = aW A - 1 := List.length_eraseIdx_of_lt hw
theorem delA_L (l w : Nat) : aL (delA A l w) = aL A := List.length_set
theorem delA_sz {l : Nat} (hl : l < aL A) (w v : Nat) : aSz (delA A l w) v = if v = l then aSz A l - 1 else aSz A v := setN_getD _ hl _ _
theorem delA_p (l w v : Nat) : (delA A l w).2.2.2.getD v (0, 0) = A.2.2.2.getD (if v < w then v else v + 1) (0, 0) := by
  show (A.2.2.2.eraseIdx w).getD v (0, 0) = _
  rw [List.getD_eq_getElem?_getD, List.getElem?_eraseIdx, List.getD_eq_getElem?_getD]
  split <;> rfl
theorem delA_kd (l w v : Nat) : aKd (delA A l w) v = aKd A (if v < w then v else v + 1) := by
  unfold aKd; rw [delA_p]
theorem delA_q (l w v : Nat) : aQ (delA A l w) v = aQ A (if v < w then v else v + 1) := by
  unfold aQ; rw [delA_p]
theorem insA_W {w : Nat} (hw : w ≤ aW A) (l k q : Nat) : aW (insA A l w k q) = aW A + 1 := List.length_insertIdx_of_le_length hw _
theorem insA_L (l w k q : Nat) : aL (insA A l w k q) = aL A := List.length_set
theorem insA_sz {l : Nat} (hl : l < aL A) (w k q v : Nat) : aSz (insA A l w k q) v = if v = l then aSz A l + 1 else aSz A v := setN_getD _ hl _ _
theorem insA_p {w : Nat} (hw : w ≤ aW A) (l k q v : Nat) : (insA A l w k q).2.2.2.getD v (0, 0) = if v < w then A.2.2.2.getD v (0, 0) else if v = w then (k, q) else A.2.2.2.getD (v - 1) (0, 0) := by
  show (A.2.2.2.insertIdx w (k, q)).getD v (0, 0) = _
  have hw' : w ≤ A.2.2.2.length := hw
  rw [List.getD_eq_getElem?_getD, List.getElem?_insertIdx, List.getD_eq_getElem?_getD, List.getD_eq_getElem?_getD]
  by_cases h1 : v < w
  · rw [if_pos h1, if_pos h1]
  · rw [if_neg h1, if_neg h1]
    by_cases h2 : v = w
    · subst h2; simp [hw']
    · simp [h2]
theorem insA_kd {w : Nat} (hw : w ≤ aW A) (l k q v : Nat) : aKd (insA A l w k q) v = if v < w then aKd A v else if v = w then k else aKd A (v - 1) := by
  unfold aKd; rw [insA_p hw]; (repeat' split) <;> rfl
theorem insA_q {w : Nat} (hw : w ≤ aW A) (l k q v : Nat) : aQ (insA A l w k q) v = if v < w then aQ A v else if v = w then q else aQ A (v - 1) := by
  unfold aQ; rw [insA_p hw]; (repeat' split) <;> rfl
theorem undo_take {w l : Nat} (hw : w < aW A) (hl : l < aL A) (h1 : 1 ≤ aSz A l) : undoA 2 w l (aKd A w) (aQ A w) (delA A l w) = A := by
  have e : undoA 2 w l (aKd A w) (aQ A w) (delA A l w) = insA (delA A l w) l w (aKd A w) (aQ A w) := rfl
  rw [e]
  unfold insA
  rw [delA_sz hl, if_pos rfl]
  show (A.1, A.2.1, (A.2.2.1.set l (aSz A l - 1)).set l (aSz A l - 1 + 1), (A.2.2.2.eraseIdx w).insertIdx w (aKd A w, aQ A w)) = A
  rw [List.set_set, show aSz A l - 1 + 1 = aSz A l by omega, show A.2.2.1.set l (aSz A l) = A.2.2.1 from set_same _ _ _]
  have hw' : w < A.2.2.2.length := hw
  have hl2 : (A.2.2.2.eraseIdx w).insertIdx w (aKd A w, aQ A w) = A.2.2.2 := by
    apply List.ext_getElem?
    intro v
    rw [List.getElem?_insertIdx, List.getElem?_eraseIdx, List.getElem?_eraseIdx, List.length_eraseIdx_of_lt hw']
    by_cases h1 : v < w
    · rw [if_pos h1, if_pos h1]
    · rw [if_neg h1]
      by_cases h2 : v = w
      · subst h2
        rw [if_pos rfl, if_pos (by omega), aword, List.getD_eq_getElem?_getD, List.getElem?_eq_getElem hw']
        rfl
      · rw [if_neg h2, if_neg (by omega), show v - 1 + 1 = v by omega]
  rw [hl2]
theorem undo_put {w l : Nat} (hl : l < aL A) (k q x y : Nat) : undoA 1 w l x y (insA A l w k q) = A := by
  have e : undoA 1 w l x y (insA A l w k q) = delA (insA A l w k q) l w := rfl
  rw [e]
  unfold delA
  rw [insA_sz hl, if_pos rfl]
  show (A.1, A.2.1, (A.2.2.1.set l (aSz A l + 1)).set l (aSz A l + 1 - 1), (A.2.2.2.insertIdx w (k, q)).eraseIdx w) = A
  rw [List.set_set, show aSz A l + 1 - 1 = aSz A l by omega, show A.2.2.1.set l (aSz A l) = A.2.2.1 from set_same _ _ _, List.eraseIdx_insertIdx_self]
theorem AOK_del (ha : AOK L ln lt A) {w l : Nat} (hw : w < aW A) (hl : l < aL A) (h2 : 2 ≤ aSz A l) : AOK L ln lt (delA A l w) := by
  obtain ⟨k1, k2, k3, k4, k5, k6, k7⟩ := ha
  refine ⟨k1, k2, fun h => k3 (by rw [delA_L] at h; exact h), by rw [delA_L]; exact k4, fun v hv => ?_, ?_, fun v hv => ?_⟩
  · rw [delA_L] at hv
    rw [delA_sz hl]
    have := k5 v hv
    have := k5 l hl
    split <;> omega
  · rw [delA_W hw]
    have := sum_set A.2.2.1 l (aSz A l - 1) hl
    show aW A - 1 = (A.2.2.1.set l (aSz A l - 1)).sum
    have e : A.2.2.1.getD l 0 = aSz A l := rfl
    omega
  · rw [delA_W hw] at hv
    rw [delA_kd, delA_q]
    apply k7
    split <;> omega
theorem c_rem_loop {w : Nat} (lines : Int32) {W l : Nat} (hW : W ≤ 20) (hw : w < W) (hl : l < 4) (kd0 : Nat → Int32) (sp0 : Nat → Nat) (hsp : ∀ j, j < 20 → sp0 j ∈ L) (p2 : Int32) : ∀ (d k : Nat) (kd : Nat → Int32) (sp : Nat → Nat), k + d = W - 1 → w ≤ k → (∀ v, kd v = if w ≤ v ∧ v < k then kd0 (v + 1) else kd0 v) → (∀ v, sp v = if w ≤ v ∧ v < k then sp0 (v + 1) else sp0 v) → ∀ n, d < n → ∃ kd' sp', mX2_remove_b19 L lines (nI l) p2 n (nI W) sizes kd sp (nI k) = some (nI (W - 1), upd sizes l (sizes l - 1), kd', sp') ∧ (∀ v, kd' v = if w ≤ v ∧ v < W - 1 then kd0 (v + 1) else kd0 v) ∧ ∀ v, sp' v = if w ≤ v ∧ v < W - 1 then sp0 (v + 1) else sp0 v
  | _, _, _, _, _, _, _, _, 0, hn => absurd hn (by omega)
  | 0, k, kd, sp, hk, hwk, h1, h2, n + 1, _ => by
    have q : k = W - 1 := by omega
    subst q
    have c1 : ¬ (nI l < 0 ∨ 4 ≤ l) := by simp (disch := omega) only [↓reduceIte, Nat.reduceAdd, Nat.reduceMul, Nat.reduceSub, Nat.zero_add, zn_0, zn_1, zn_2, zn_3, zn_4, zn_5, zn_6, zn_7, zn_8, zn_9, zn_10, zn_16, zn_20, zn_23, zn_24, zn_25, zn_26, zn_40, zn_207, zn_4761, zn_99, zn_130, zn_lt_t, zn_lt_f, zn_le_t, zn_le_f, zn_eq_t, zn_eq_f, zn_ix, zn_cl, zq_le_f, zq_le_t, zq_lt_f, zq_lt_t, zn_add, zn_mul, zn_sub, or_false, false_or, or_self, true_or, or_true, and_true, true_and, and_false, false_and, not_true_eq_false, not_false_eq_true, if_true, if_false, os1, os2, os3, os4, os5, os6, os7, os8, os9, os10, os11, os12, os13, os14, os15, os16, os17, os18, os19, os20, os21, os22, os23, os24]
    refine ⟨kd, sp, ?_, h1, h2⟩
    rw [mX2_remove_b19, zn_cl (by omega)]
    have e : nI W - 1 = nI (W - 1) := by rw [zn_1, zn_sub (by omega)]
    rw [e, if_pos (nI_le (Nat.le_refl _) (by omega)), if_neg c1, if_neg c1]
  | d + 1, k, kd, sp, hk, hwk, h1, h2, n + 1, hn => by
    have e : nI W - 1 = nI (W - 1) := by rw [zn_1, zn_sub (by omega)]
    have c1 : ¬ (nI k < 0 ∨ 20 ≤ k) := by simp (disch := omega) only [↓reduceIte, Nat.reduceAdd, Nat.reduceMul, Nat.reduceSub, Nat.zero_add, zn_0, zn_1, zn_2, zn_3, zn_4, zn_5, zn_6, zn_7, zn_8, zn_9, zn_10, zn_16, zn_20, zn_23, zn_24, zn_25, zn_26, zn_40, zn_207, zn_4761, zn_99, zn_130, zn_lt_t, zn_lt_f, zn_le_t, zn_le_f, zn_eq_t, zn_eq_f, zn_ix, zn_cl, zq_le_f, zq_le_t, zq_lt_f, zq_lt_t, zn_add, zn_mul, zn_sub, or_false, false_or, or_self, true_or, or_true, and_true, true_and, and_false, false_and, not_true_eq_false, not_false_eq_true, if_true, if_false, os1, os2, os3, os4, os5, os6, os7, os8, os9, os10, os11, os12, os13, os14, os15, os16, os17, os18, os19, os20, os21, os22, os23, os24]
    have c2 : ¬ (nI (k + 1) < 0 ∨ 20 ≤ k + 1) := by simp (disch := omega) only [↓reduceIte, Nat.reduceAdd, Nat.reduceMul, Nat.reduceSub, Nat.zero_add, zn_0, zn_1, zn_2, zn_3, zn_4, zn_5, zn_6, zn_7, zn_8, zn_9, zn_10, zn_16, zn_20, zn_23, zn_24, zn_25, zn_26, zn_40, zn_207, zn_4761, zn_99, zn_130, zn_lt_t, zn_lt_f, zn_le_t, zn_le_f, zn_eq_t, zn_eq_f, zn_ix, zn_cl, zq_le_f, zq_le_t, zq_lt_f, zq_lt_t, zn_add, zn_mul, zn_sub, or_false, false_or, or_self, true_or, or_true, and_true, true_and, and_false, false_and, not_true_eq_false, not_false_eq_true, if_true, if_false, os1, os2, os3, os4, os5, os6, os7, os8, os9, os10, os11, os12, os13, os14, os15, os16, os17, os18, os19, os20, os21, os22, os23, os24]
    have hsk : sp (k + 1) ∈ L := by
      rw [h2, if_neg (by omega)]; exact hsp _ (by omega)
    rw [mX2_remove_b19, e, if_neg (nI_ge (by omega) (by omega)), nI_1, zn_cl (a := k + 1) (by omega), zn_cl (a := k) (by omega), if_neg c2, if_neg c1, if_neg c2, if_neg (fun q => q hsk), if_neg c1]
    apply c_rem_loop lines hW hw hl kd0 sp0 hsp p2 d (k + 1) _ _ (by omega) (by omega) ?_ ?_ n (by omega)
    · intro v
      rw [zn_up]
      by_cases q : v = k
      · rw [if_pos q, if_pos (by omega), h1, if_neg (by omega), q]
      · rw [if_neg q, h1]
        by_cases g : w ≤ v ∧ v < k
        · rw [if_pos g, if_pos (by omega)]
        · rw [if_neg g, if_neg (by omega)]
    · intro v
      rw [zn_vup]
      by_cases q : v = k
      · rw [if_pos q, if_pos (by omega), h2, if_neg (by omega), q]
      · rw [if_neg q, h2]
        by_cases g : w ≤ v ∧ v < k
        · rw [if_pos g, if_pos (by omega)]
        · rw [if_neg g, if_neg (by omega)]
theorem c_remove {f e : Int32} (hpc : PC L A f e (nI (aL A)) (nI (aW A)) sizes kinds spelled) (ha : AOK L ln lt A) {w l : Nat} (hw : w < aW A) (hl : l < aL A) : ∃ kd sp, mX2_remove L (nI (aL A)) (nI (aW A)) sizes kinds spelled (nI l) (nI w) = some (nI (aW A - 1), upd sizes l (nI (aSz A l) - 1), kd, sp) ∧ (1 ≤ aSz A l → PC L (delA A l w) f e (nI (aL A)) (nI (aW A - 1)) (upd sizes l (nI (aSz A l) - 1)) kd sp) := by
  obtain ⟨-, -, w20, l4⟩ := aok_sz ha
  obtain ⟨p1, p2, p3, p4, p5, p6, p7⟩ := hpc
  obtain ⟨kd, sp, x1, x2, x3⟩ := c_rem_loop (sizes := sizes) (nI (aL A)) w20 hw (by omega : l < 4) kinds spelled p7 (nI w) (aW A - 1 - w) w kinds spelled (by omega) (Nat.le_refl _) (fun v => by rw [if_neg (by omega)]) (fun v => by rw [if_neg (by omega)]) FU (zn_fu (by omega))
  rw [p5 l hl] at x1
  refine ⟨kd, sp, ?_, fun hs => ⟨p1, p2, by rw [delA_L], by rw [delA_W hw], fun v hv => ?_, fun v hv => ?_, fun j hj => ?_⟩⟩
  · unfold mX2_remove mX2_remove_b0
    rw [c_hw_t hw (by omega), os1, if_neg (by decide), c_hl_t hl (by omega), os1, if_neg (by decide)]
    exact x1
  · rw [delA_L] at hv
    rw [zn_up, delA_sz hl]
    by_cases q : v = l
    · rw [if_pos q, if_pos q, zn_1, zn_sub hs]
    · rw [if_neg q, if_neg q]; exact p5 v hv
  · rw [delA_W hw] at hv
    rw [x2, x3, delA_kd, delA_q]
    by_cases q : v < w
    · have g1 : ¬ (w ≤ v ∧ v < aW A - 1) := by omega
      simp only [if_neg g1, if_pos q]; exact p6 v (by omega)
    · have g1 : w ≤ v ∧ v < aW A - 1 := by omega
      simp only [if_pos g1, if_neg q]; exact p6 (v + 1) (by omega)
  · rw [x3]
    split
    · exact p7 _ (by omega)
    · exact p7 _ hj
theorem c_ins_loop {w : Nat} (lines : Int32) {W l : Nat} (hW : W < 20) (hw : w ≤ W) (hl : l < 4) (kd0 : Nat → Int32) (sp0 : Nat → Nat) (hsp : ∀ j, j < 20 → sp0 j ∈ L) (kk : Int32) {q : Nat} (hq : q ∈ L) : ∀ (d k : Nat) (kd : Nat → Int32) (sp : Nat → Nat), w + d = k → k ≤ W → (∀ v, kd v = if k < v ∧ v ≤ W then kd0 (v - 1) else kd0 v) → (∀ v, sp v = if k < v ∧ v ≤ W then sp0 (v - 1) else sp0 v) → ∀ n, d < n → ∃ kd' sp', mX2_insert_b36 L lines (nI l) (nI w) kk q n (nI W) sizes kd sp (nI k) = some (nI (W + 1), upd sizes l (sizes l + 1), kd', sp') ∧ (∀ v, kd' v = if v = w then kk else if w < v ∧ v ≤ W then kd0 (v - 1) else kd0 v) ∧ ∀ v, sp' v = if v = w then q else if w < v ∧ v ≤ W then sp0 (v - 1) else sp0 v
  | _, _, _, _, _, _, _, _, 0, hn => absurd hn (by omega)
  | 0, k, kd, sp, hk, hkW, h1, h2, n + 1, _ => by
    have e : k = w := by omega
    subst e
    have c1 : ¬ (nI l < 0 ∨ 4 ≤ l) := by simp (disch := omega) only [↓reduceIte, Nat.reduceAdd, Nat.reduceMul, Nat.reduceSub, Nat.zero_add, zn_0, zn_1, zn_2, zn_3, zn_4, zn_5, zn_6, zn_7, zn_8, zn_9, zn_10, zn_16, zn_20, zn_23, zn_24, zn_25, zn_26, zn_40, zn_207, zn_4761, zn_99, zn_130, zn_lt_t, zn_lt_f, zn_le_t, zn_le_f, zn_eq_t, zn_eq_f, zn_ix, zn_cl, zq_le_f, zq_le_t, zq_lt_f, zq_lt_t, zn_add, zn_mul, zn_sub, or_false, false_or, or_self, true_or, or_true, and_true, true_and, and_false, false_and, not_true_eq_false, not_false_eq_true, if_true, if_false, os1, os2, os3, os4, os5, os6, os7, os8, os9, os10, os11, os12, os13, os14, os15, os16, os17, os18, os19, os20, os21, os22, os23, os24]
    have c2 : ¬ (nI k < 0 ∨ 20 ≤ k) := by simp (disch := omega) only [↓reduceIte, Nat.reduceAdd, Nat.reduceMul, Nat.reduceSub, Nat.zero_add, zn_0, zn_1, zn_2, zn_3, zn_4, zn_5, zn_6, zn_7, zn_8, zn_9, zn_10, zn_16, zn_20, zn_23, zn_24, zn_25, zn_26, zn_40, zn_207, zn_4761, zn_99, zn_130, zn_lt_t, zn_lt_f, zn_le_t, zn_le_f, zn_eq_t, zn_eq_f, zn_ix, zn_cl, zq_le_f, zq_le_t, zq_lt_f, zq_lt_t, zn_add, zn_mul, zn_sub, or_false, false_or, or_self, true_or, or_true, and_true, true_and, and_false, false_and, not_true_eq_false, not_false_eq_true, if_true, if_false, os1, os2, os3, os4, os5, os6, os7, os8, os9, os10, os11, os12, os13, os14, os15, os16, os17, os18, os19, os20, os21, os22, os23, os24]
    refine ⟨upd kd k kk, va_up sp k q, ?_, fun v => ?_, fun v => ?_⟩
    · rw [mX2_insert_b36, if_pos (nI_le (Nat.le_refl _) (by omega)), zn_cl (a := k) (by omega), zn_cl (a := l) (by omega), if_neg c2, if_neg (fun z => z hq), if_neg c2, if_neg c1, if_neg c1, nI_1]
    · rw [zn_up, h1]
    · rw [zn_vup, h2]
  | d + 1, k, kd, sp, hk, hkW, h1, h2, n + 1, hn => by
    have e : nI k - 1 = nI (k - 1) := by rw [zn_1, zn_sub (by omega)]
    have e' : nI k + (-1) = nI (k - 1) := by
      obtain ⟨j, rfl⟩ : ∃ j, k = j + 1 := ⟨k - 1, by omega⟩
      rw [pk_m1]; rfl
    have c1 : ¬ (nI k < 0 ∨ 20 ≤ k) := by simp (disch := omega) only [↓reduceIte, Nat.reduceAdd, Nat.reduceMul, Nat.reduceSub, Nat.zero_add, zn_0, zn_1, zn_2, zn_3, zn_4, zn_5, zn_6, zn_7, zn_8, zn_9, zn_10, zn_16, zn_20, zn_23, zn_24, zn_25, zn_26, zn_40, zn_207, zn_4761, zn_99, zn_130, zn_lt_t, zn_lt_f, zn_le_t, zn_le_f, zn_eq_t, zn_eq_f, zn_ix, zn_cl, zq_le_f, zq_le_t, zq_lt_f, zq_lt_t, zn_add, zn_mul, zn_sub, or_false, false_or, or_self, true_or, or_true, and_true, true_and, and_false, false_and, not_true_eq_false, not_false_eq_true, if_true, if_false, os1, os2, os3, os4, os5, os6, os7, os8, os9, os10, os11, os12, os13, os14, os15, os16, os17, os18, os19, os20, os21, os22, os23, os24]
    have c2 : ¬ (nI (k - 1) < 0 ∨ 20 ≤ k - 1) := by simp (disch := omega) only [↓reduceIte, Nat.reduceAdd, Nat.reduceMul, Nat.reduceSub, Nat.zero_add, zn_0, zn_1, zn_2, zn_3, zn_4, zn_5, zn_6, zn_7, zn_8, zn_9, zn_10, zn_16, zn_20, zn_23, zn_24, zn_25, zn_26, zn_40, zn_207, zn_4761, zn_99, zn_130, zn_lt_t, zn_lt_f, zn_le_t, zn_le_f, zn_eq_t, zn_eq_f, zn_ix, zn_cl, zq_le_f, zq_le_t, zq_lt_f, zq_lt_t, zn_add, zn_mul, zn_sub, or_false, false_or, or_self, true_or, or_true, and_true, true_and, and_false, false_and, not_true_eq_false, not_false_eq_true, if_true, if_false, os1, os2, os3, os4, os5, os6, os7, os8, os9, os10, os11, os12, os13, os14, os15, os16, os17, os18, os19, os20, os21, os22, os23, os24]
    have hsk : sp (k - 1) ∈ L := by
      rw [h2, if_neg (by omega)]; exact hsp _ (by omega)
    rw [mX2_insert_b36, if_neg (nI_ge (by omega) (by omega)), e, e', zn_cl (a := k - 1) (by omega), zn_cl (a := k) (by omega), if_neg c2, if_neg c1, if_neg c2, if_neg (fun z => z hsk), if_neg c1]
    apply c_ins_loop lines hW hw hl kd0 sp0 hsp kk hq d (k - 1) _ _ (by omega) (by omega) ?_ ?_ n (by omega)
    · intro v
      rw [zn_up]
      by_cases g : v = k
      · rw [if_pos g, if_pos (by omega), h1, if_neg (by omega), g]
      · rw [if_neg g, h1]
        by_cases g2 : k < v ∧ v ≤ W
        · rw [if_pos g2, if_pos (by omega)]
        · rw [if_neg g2, if_neg (by omega)]
    · intro v
      rw [zn_vup]
      by_cases g : v = k
      · rw [if_pos g, if_pos (by omega), h2, if_neg (by omega), g]
      · rw [if_neg g, h2]
        by_cases g2 : k < v ∧ v ≤ W
        · rw [if_pos g2, if_pos (by omega)]
        · rw [if_neg g2, if_neg (by omega)]
/-- only what the class's poem needs: its own components as they are told -/
theorem c_insert0 {A : AP} {sizes kinds : Nat → Int32} {spelled : Nat → Nat} {f e : Int32} (hpc : PC L A f e (nI (aL A)) (nI (aW A)) sizes kinds spelled) (hL4 : aL A ≤ 4) (hW20 : aW A < 20) {w l k q : Nat} (hw : w ≤ aW A) (hl : l < aL A) (hq : q ∈ L) : ∃ kd sp, mX2_insert L (nI (aL A)) (nI (aW A)) sizes kinds spelled (nI l) (nI w) (nI k) q = some (nI (aW A + 1), upd sizes l (nI (aSz A l + 1)), kd, sp) ∧ PC L (insA A l w k q) f e (nI (aL A)) (nI (aW A + 1)) (upd sizes l (nI (aSz A l + 1))) kd sp := by
  obtain ⟨p1, p2, p3, p4, p5, p6, p7⟩ := hpc
  obtain ⟨kd, sp, x1, x2, x3⟩ := c_ins_loop (sizes := sizes) (nI (aL A)) hW20 hw (by omega : l < 4) kinds spelled p7 (nI k) hq (aW A - w) (aW A) kinds spelled (by omega) (Nat.le_refl _) (fun v => by rw [if_neg (by omega)]) (fun v => by rw [if_neg (by omega)]) FU (zn_fu (by omega))
  rw [p5 l hl, nI_1] at x1
  refine ⟨kd, sp, ?_, p1, p2, by rw [insA_L], by rw [insA_W hw], fun v hv => ?_, fun v hv => ?_, fun j hj => ?_⟩
  · unfold mX2_insert mX2_insert_b0
    rw [if_neg (show ¬ (20 : Int32) ≤ nI (aW A) from nI_ge (b := 20) hW20 (by omega)), c_hl_t hl (by omega), os1, if_neg (by decide), if_neg (nI_pos (by omega)), if_pos (nI_le hw (by omega))]
    exact x1
  · rw [insA_L] at hv
    rw [zn_up, insA_sz hl]
    by_cases g : v = l
    · rw [if_pos g, if_pos g]
    · rw [if_neg g, if_neg g]; exact p5 v hv
  · rw [insA_W hw] at hv
    rw [x2, x3, insA_kd hw, insA_q hw]
    by_cases g : v < w
    · have g1 : ¬ v = w := by omega
      have g2 : ¬ (w < v ∧ v ≤ aW A) := by omega
      simp only [if_neg g1, if_neg g2, if_pos g]; exact p6 v (by omega)
    · by_cases g2 : v = w
      · simp only [if_pos g2, if_neg g]; exact ⟨trivial, trivial⟩
      · have g3 : w < v ∧ v ≤ aW A := by omega
        simp only [if_neg g2, if_neg g, if_pos g3]
        exact p6 (v - 1) (by omega)
  · rw [x3]
    (repeat' split)
    · exact hq
    · exact p7 _ (by omega)
    · exact p7 _ hj
theorem r_take_0 {last l : Nat} (hla : last < 20) (hl : l < 4) (p1 ac : Int32) (was row0 : Nat → Int32) : ∀ (d k : Nat) (row : Nat → Int32), k + d = 10 → (∀ x, x < 7 + 10 * last → row x = row0 x) → ∀ n, d < n → ∃ row', mX7_take_b102 p1 n 0 ac row was (nI l) (nI last) (nI k) = some (row0 (3 + l) - 1, 0, ac, row', was) ∧ ∀ x, x < 7 + 10 * last → row' x = if x = 3 + l then row0 (3 + l) - 1 else row0 x
  | _, _, _, _, _, 0, hn => absurd hn (by omega)
  | 0, k, row, hk, h, n + 1, _ => by
    have q : k = 10 := by omega
    subst q
    have c1 : ¬ (nI (3 + l) < 0 ∨ 207 ≤ 3 + l) := by simp (disch := omega) only [↓reduceIte, Nat.reduceAdd, Nat.reduceMul, Nat.reduceSub, Nat.zero_add, zn_0, zn_1, zn_2, zn_3, zn_4, zn_5, zn_6, zn_7, zn_8, zn_9, zn_10, zn_16, zn_20, zn_23, zn_24, zn_25, zn_26, zn_40, zn_207, zn_4761, zn_99, zn_130, zn_lt_t, zn_lt_f, zn_le_t, zn_le_f, zn_eq_t, zn_eq_f, zn_ix, zn_cl, zq_le_f, zq_le_t, zq_lt_f, zq_lt_t, zn_add, zn_mul, zn_sub, or_false, false_or, or_self, true_or, or_true, and_true, true_and, and_false, false_and, not_true_eq_false, not_false_eq_true, if_true, if_false, os1, os2, os3, os4, os5, os6, os7, os8, os9, os10, os11, os12, os13, os14, os15, os16, os17, os18, os19, os20, os21, os22, os23, os24]
    refine ⟨upd row (3 + l) (row (3 + l) - 1), ?_, fun x hx => ?_⟩
    · rw [mX7_take_b102, if_pos (by decide), zn_3, zn_add, zn_cl (by omega), if_neg c1, if_neg c1, if_neg c1, zn_up, if_pos rfl, h _ (by omega)]
    · rw [zn_up, h _ (by omega)]
      split
      · rfl
      · exact h x hx
  | d + 1, k, row, hk, h, n + 1, hn => by
    have c1 : ¬ (10 : Int32) ≤ nI k := nI_ge (b := 10) (by omega) (by omega)
    have ea : (7 : Int32) + (10 : Int32) * nI last + nI k = nI (7 + 10 * last + k) := by rw [zn_7, zn_10, zn_mul, zn_add, zn_add]
    have ca : ¬ (nI (7 + 10 * last + k) < 0 ∨ 207 ≤ 7 + 10 * last + k) := by simp (disch := omega) only [↓reduceIte, Nat.reduceAdd, Nat.reduceMul, Nat.reduceSub, Nat.zero_add, zn_0, zn_1, zn_2, zn_3, zn_4, zn_5, zn_6, zn_7, zn_8, zn_9, zn_10, zn_16, zn_20, zn_23, zn_24, zn_25, zn_26, zn_40, zn_207, zn_4761, zn_99, zn_130, zn_lt_t, zn_lt_f, zn_le_t, zn_le_f, zn_eq_t, zn_eq_f, zn_ix, zn_cl, zq_le_f, zq_le_t, zq_lt_f, zq_lt_t, zn_add, zn_mul, zn_sub, or_false, false_or, or_self, true_or, or_true, and_true, true_and, and_false, false_and, not_true_eq_false, not_false_eq_true, if_true, if_false, os1, os2, os3, os4, os5, os6, os7, os8, os9, os10, os11, os12, os13, os14, os15, os16, os17, os18, os19, os20, os21, os22, os23, os24]
    rw [mX7_take_b102, if_neg c1, ea, zn_cl (by omega), if_neg ca, nI_1]
    apply r_take_0 hla hl p1 ac was row0 d (k + 1) _ (by omega) ?_ n (by omega)
    intro x hx
    rw [zn_up, if_neg (by omega)]; exact h x hx
theorem r_take_1 {w last l : Nat} (hwl : w ≤ last) (hla : last < 20) (hl : l < 4) (p1 ac : Int32) (was row0 : Nat → Int32) : ∀ (d k : Nat) (row : Nat → Int32), k + d = 7 + 10 * last → 7 + 10 * w ≤ k → (∀ x, row x = if 7 + 10 * w ≤ x ∧ x < k then row0 (x + 10) else row0 x) → ∀ n, d < n → ∃ row', mX7_take_b64 p1 n 0 ac row was (nI l) (nI last) (nI k) = some (row0 (3 + l) - 1, 0, ac, row', was) ∧ ∀ x, x < 7 + 10 * last → row' x = if x = 3 + l then row0 (3 + l) - 1 else if 7 + 10 * w ≤ x then row0 (x + 10) else row0 x
  | _, _, _, _, _, _, 0, hn => absurd hn (by omega)
  | 0, k, row, hk, hwk, h, n + 1, _ => by
    have q : k = 7 + 10 * last := by omega
    have ea : (7 : Int32) + (10 : Int32) * nI last = nI (7 + 10 * last) := by rw [zn_7, zn_10, zn_mul, zn_add]
    obtain ⟨row', x1, x2⟩ := r_take_0 hla hl p1 ac was row 10 0 row (by omega) (fun _ _ => rfl) FU (zn_fu (by omega))
    have e3 : row (3 + l) = row0 (3 + l) := by rw [h, if_neg (by omega)]
    rw [e3] at x1
    refine ⟨row', ?_, fun x hx => ?_⟩
    · rw [mX7_take_b64, ea, if_pos (nI_le (by omega) (by omega))]
      exact x1
    · rw [x2 x hx, e3]
      by_cases g : x = 3 + l
      · rw [if_pos g, if_pos g]
      · rw [if_neg g, if_neg g, h]
        by_cases g2 : 7 + 10 * w ≤ x
        · rw [if_pos (by omega), if_pos g2]
        · rw [if_neg (by omega), if_neg g2]
  | d + 1, k, row, hk, hwk, h, n + 1, hn => by
    have ea : (7 : Int32) + (10 : Int32) * nI last = nI (7 + 10 * last) := by rw [zn_7, zn_10, zn_mul, zn_add]
    have c1 : ¬ (nI k < 0 ∨ 207 ≤ k) := by simp (disch := omega) only [↓reduceIte, Nat.reduceAdd, Nat.reduceMul, Nat.reduceSub, Nat.zero_add, zn_0, zn_1, zn_2, zn_3, zn_4, zn_5, zn_6, zn_7, zn_8, zn_9, zn_10, zn_16, zn_20, zn_23, zn_24, zn_25, zn_26, zn_40, zn_207, zn_4761, zn_99, zn_130, zn_lt_t, zn_lt_f, zn_le_t, zn_le_f, zn_eq_t, zn_eq_f, zn_ix, zn_cl, zq_le_f, zq_le_t, zq_lt_f, zq_lt_t, zn_add, zn_mul, zn_sub, or_false, false_or, or_self, true_or, or_true, and_true, true_and, and_false, false_and, not_true_eq_false, not_false_eq_true, if_true, if_false, os1, os2, os3, os4, os5, os6, os7, os8, os9, os10, os11, os12, os13, os14, os15, os16, os17, os18, os19, os20, os21, os22, os23, os24]
    have c2 : ¬ (nI (k + 10) < 0 ∨ 207 ≤ k + 10) := by simp (disch := omega) only [↓reduceIte, Nat.reduceAdd, Nat.reduceMul, Nat.reduceSub, Nat.zero_add, zn_0, zn_1, zn_2, zn_3, zn_4, zn_5, zn_6, zn_7, zn_8, zn_9, zn_10, zn_16, zn_20, zn_23, zn_24, zn_25, zn_26, zn_40, zn_207, zn_4761, zn_99, zn_130, zn_lt_t, zn_lt_f, zn_le_t, zn_le_f, zn_eq_t, zn_eq_f, zn_ix, zn_cl, zq_le_f, zq_le_t, zq_lt_f, zq_lt_t, zn_add, zn_mul, zn_sub, or_false, false_or, or_self, true_or, or_true, and_true, true_and, and_false, false_and, not_true_eq_false, not_false_eq_true, if_true, if_false, os1, os2, os3, os4, os5, os6, os7, os8, os9, os10, os11, os12, os13, os14, os15, os16, os17, os18, os19, os20, os21, os22, os23, os24]
    have e10 : nI k + (10 : Int32) = nI (k + 10) := by rw [zn_10, zn_add]
    rw [mX7_take_b64, ea, if_neg (nI_ge (by omega) (by omega)), e10, zn_cl (a := k + 10) (by omega), zn_cl (a := k) (by omega), if_neg c2, if_neg c1, nI_1]
    apply r_take_1 hwl hla hl p1 ac was row0 d (k + 1) _ (by omega) (by omega) ?_ n (by omega)
    intro x
    rw [zn_up]
    by_cases g : x = k
    · rw [if_pos g, if_pos (by omega), h, if_neg (by omega), g]
    · rw [if_neg g, h]
      by_cases g2 : 7 + 10 * w ≤ x ∧ x < k
      · rw [if_pos g2, if_pos (by omega)]
      · rw [if_neg g2, if_neg (by omega)]
theorem PR_del (h : PR ln lt A row) (ha : AOK L ln lt A) {w l : Nat} (hw : w < aW A) (hl : l < aL A) (hs : 1 ≤ aSz A l) {row' : Nat → Int32} (hr : ∀ x, x < 7 + 10 * (aW A - 1) → row' x = if x = 3 + l then row (3 + l) - 1 else if 7 + 10 * w ≤ x then row (x + 10) else row x) : PR ln lt (delA A l w) row' := by
  obtain ⟨-, -, w20, l4⟩ := aok_sz ha
  obtain ⟨k1, k2, k3, k4, k5⟩ := h
  refine ⟨?_, ?_, ?_, fun v hv => ?_, fun v hv => ?_⟩
  · rw [hr _ (by omega), if_neg (by omega), if_neg (by omega), delA_L]; exact k1
  · rw [hr _ (by omega), if_neg (by omega), if_neg (by omega)]; exact k2
  · rw [hr _ (by omega), if_neg (by omega), if_neg (by omega)]; exact k3
  · rw [hr _ (by omega), delA_sz hl]
    by_cases g : v = l
    · rw [if_pos (by omega), if_pos g, k4 l (by omega), zn_1, zn_sub hs]
    · rw [if_neg (by omega), if_neg (by omega), if_neg g]; exact k4 v hv
  · rw [delA_W hw] at hv
    rw [delA_kd, delA_q]
    by_cases g : v < w
    · rw [if_pos g]
      obtain ⟨m1, m2, m3⟩ := k5 v (by omega)
      refine ⟨?_, ?_, fun i hi q => ?_⟩
      · rw [hr _ (by omega), if_neg (by omega), if_neg (by omega)]; exact m1
      · rw [hr _ (by omega), if_neg (by omega), if_neg (by omega)]; exact m2
      · rw [hr _ (by omega), if_neg (by omega), if_neg (by omega)]; exact m3 i hi q
    · rw [if_neg g]
      obtain ⟨m1, m2, m3⟩ := k5 (v + 1) (by omega)
      refine ⟨?_, ?_, fun i hi q => ?_⟩
      · rw [hr _ (by omega), if_neg (by omega), if_pos (by omega), ← m1, show 7 + 10 * v + 10 = 7 + 10 * (v + 1) by omega]
      · rw [hr _ (by omega), if_neg (by omega), if_pos (by omega), ← m2, show 8 + 10 * v + 10 = 8 + 10 * (v + 1) by omega]
      · rw [hr _ (by omega), if_neg (by omega), if_pos (by omega), ← m3 i hi q, show 9 + 10 * v + i + 10 = 9 + 10 * (v + 1) + i by omega]
end
theorem st10 : Step10 RelW := by
  intro x_begun x_latestFault x_latestFinding rd_length rd_tape v_foot v_feet v_lines v_words v_sizes v_kinds v_spelled d_spelled i0_foot i0_feet i0_lines i0_words i0_sizes i0_kinds i0_spelled i1_foot i1_feet i1_lines i1_words i1_sizes i1_kinds i1_spelled ac_next ac_kept ac_sorts ac_firsts ac_seconds ac_takenKinds ac_takenSpellings x_bodies m_thrown m_status m_acts m_taped m_latest m_traced m_lane m_many m_item m_poem m_was m_tape m_isKept m_kept m_trace x_lane x_rsz x_item L la sa ln sy sn lt st a1 hR
  obtain ⟨hF, hG, hT, hW, hC, hZ⟩ := hR
  have hZ0 := hZ
  obtain ⟨hP, hD, hI0, hI1, A, ha, hpc, hpr, hA⟩ := hZ
  have hpc0 := hpc
  obtain ⟨p1, p2, p3, p4, hz, hc, hsp⟩ := hpc
  subst p1 p2 p3 p4
  replace hz : CZ A v_sizes := hz
  replace hc : CW A v_kinds v_spelled := hc
  obtain ⟨-, -, w20, l4⟩ := aok_sz ha
  rcases rng a1 (aW A) (by omega) with ⟨w, hw, rfl⟩ | hn
  · obtain ⟨hN, l1, -, hkd, hq, h20⟩ := aok_w ha hw
    have hw6 : mX2_hasWord (nI (aW A)) (nI w) = some (nI 1) := c_hw_t hw (by omega)
    have hw7 : mX7_isWord m_poem (nI w) = some (nI 1) := r_iw_t hpr ha hw
    obtain ⟨hln, -, -⟩ := aLn_in ha hw
    obtain ⟨g1, g2, g3, g4, g5, g6⟩ := aok_l ha hln
    have c1 : ¬ (nI (aLn A w) < 0 ∨ 4 ≤ aLn A w) := by simp (disch := omega) only [↓reduceIte, Nat.reduceAdd, Nat.reduceMul, Nat.reduceSub, Nat.zero_add, zn_0, zn_1, zn_2, zn_3, zn_4, zn_5, zn_6, zn_7, zn_8, zn_9, zn_10, zn_16, zn_20, zn_23, zn_24, zn_25, zn_26, zn_40, zn_207, zn_4761, zn_99, zn_130, zn_lt_t, zn_lt_f, zn_le_t, zn_le_f, zn_eq_t, zn_eq_f, zn_ix, zn_cl, zq_le_f, zq_le_t, zq_lt_f, zq_lt_t, zn_add, zn_mul, zn_sub, or_false, false_or, or_self, true_or, or_true, and_true, true_and, and_false, false_and, not_true_eq_false, not_false_eq_true, if_true, if_false, os1, os2, os3, os4, os5, os6, os7, os8, os9, os10, os11, os12, os13, os14, os15, os16, os17, os18, os19, os20, os21, os22, os23, os24]
    have c2 : ¬ (nI w < 0 ∨ 20 ≤ w) := by simp (disch := omega) only [↓reduceIte, Nat.reduceAdd, Nat.reduceMul, Nat.reduceSub, Nat.zero_add, zn_0, zn_1, zn_2, zn_3, zn_4, zn_5, zn_6, zn_7, zn_8, zn_9, zn_10, zn_16, zn_20, zn_23, zn_24, zn_25, zn_26, zn_40, zn_207, zn_4761, zn_99, zn_130, zn_lt_t, zn_lt_f, zn_le_t, zn_le_f, zn_eq_t, zn_eq_f, zn_ix, zn_cl, zq_le_f, zq_le_t, zq_lt_f, zq_lt_t, zn_add, zn_mul, zn_sub, or_false, false_or, or_self, true_or, or_true, and_true, true_and, and_false, false_and, not_true_eq_false, not_false_eq_true, if_true, if_false, os1, os2, os3, os4, os5, os6, os7, os8, os9, os10, os11, os12, os13, os14, os15, os16, os17, os18, os19, os20, os21, os22, os23, os24]
    have c3 : ¬ (nI (3 + aLn A w) < 0 ∨ 207 ≤ 3 + aLn A w) := by simp (disch := omega) only [↓reduceIte, Nat.reduceAdd, Nat.reduceMul, Nat.reduceSub, Nat.zero_add, zn_0, zn_1, zn_2, zn_3, zn_4, zn_5, zn_6, zn_7, zn_8, zn_9, zn_10, zn_16, zn_20, zn_23, zn_24, zn_25, zn_26, zn_40, zn_207, zn_4761, zn_99, zn_130, zn_lt_t, zn_lt_f, zn_le_t, zn_le_f, zn_eq_t, zn_eq_f, zn_ix, zn_cl, zq_le_f, zq_le_t, zq_lt_f, zq_lt_t, zn_add, zn_mul, zn_sub, or_false, false_or, or_self, true_or, or_true, and_true, true_and, and_false, false_and, not_true_eq_false, not_false_eq_true, if_true, if_false, os1, os2, os3, os4, os5, os6, os7, os8, os9, os10, os11, os12, os13, os14, os15, os16, os17, os18, os19, os20, os21, os22, os23, os24]
    have hrow : m_poem (3 + aLn A w) = nI (aSz A (aLn A w)) := hpr.2.2.2.1 _ (by omega)
    by_cases h1 : aSz A (aLn A w) = 1
    · refine ⟨-1000002, nI (aW A), v_sizes, v_kinds, v_spelled, ac_next, ac_kept, ac_sorts, ac_firsts, ac_seconds, ac_takenKinds, ac_takenSpellings, 0, m_acts, m_poem, m_was, ?_, ?_, hF, hG, hT, hW, hC, hZ0⟩
      · unfold mX6_take mX6_take_b0
        rw [hw6, os1, if_neg (by decide), c_lineOf ha hz hw, os1, zn_cl (by omega), if_neg c1, hz _ hln, h1, if_neg (by decide)]
      · unfold mX7_take mX7_take_b0
        rw [hw7, os1, if_neg (by decide), r_lineOf hpr ha hw, os1, zn_3, zn_add, zn_cl (by omega), if_neg c3, hrow, h1, if_pos (by rfl)]
    · obtain ⟨kd, sp, x1, x2⟩ := c_remove hpc0 ha hw hln
      have hpc' := x2 (by omega)
      obtain ⟨p, hp, en, next', kept', acts', was', q1, q2, q3⟩ := RActs_new (s := 2) (a := w) (b := aLn A w) (k := aKd A w) (q := aQ A w) (A' := delA A (aLn A w) w) hA ha (by omega) hpr (Or.inr (Or.inr (Or.inl ⟨rfl, by rw [delA_W hw]; omega, by rw [delA_L]; exact hln, by rw [delA_W hw]; omega⟩))) (undo_take hw hln g1) (delA_L _ _).symm
      have hact := q3 (upd ac_takenKinds p (nI (aKd A w))) (va_up ac_takenSpellings p (aQ A w)) (fun j hj => by rw [zn_up, zn_vup, if_neg hj, if_neg hj]; exact ⟨rfl, rfl⟩) (fun _ => by rw [zn_up, zn_vup, if_pos rfl, if_pos rfl]; exact ⟨rfl, rfl⟩) (fun j hj => by
        rw [zn_vup]
        split
        · exact hq
        · exact hA.1 j hj)
      obtain ⟨row', y1, y2⟩ := r_take_1 (w := w) (last := aW A - 1) (l := aLn A w) (by omega) (by omega) (by omega) (nI w) acts' was' m_poem (10 * (aW A - 1 - w)) (7 + 10 * w) m_poem (by omega) (by omega) (fun x => by rw [if_neg (by omega)]) FU (zn_fu (by omega))
      rw [hrow] at y1
      have c4 : ¬ (nI p < 0 ∨ 24 ≤ p) := by simp (disch := omega) only [↓reduceIte, Nat.reduceAdd, Nat.reduceMul, Nat.reduceSub, Nat.zero_add, zn_0, zn_1, zn_2, zn_3, zn_4, zn_5, zn_6, zn_7, zn_8, zn_9, zn_10, zn_16, zn_20, zn_23, zn_24, zn_25, zn_26, zn_40, zn_207, zn_4761, zn_99, zn_130, zn_lt_t, zn_lt_f, zn_le_t, zn_le_f, zn_eq_t, zn_eq_f, zn_ix, zn_cl, zq_le_f, zq_le_t, zq_lt_f, zq_lt_t, zn_add, zn_mul, zn_sub, or_false, false_or, or_self, true_or, or_true, and_true, true_and, and_false, false_and, not_true_eq_false, not_false_eq_true, if_true, if_false, os1, os2, os3, os4, os5, os6, os7, os8, os9, os10, os11, os12, os13, os14, os15, os16, os17, os18, os19, os20, os21, os22, os23, os24]
      refine ⟨nI (aSz A (aLn A w)) - 1, nI (aW A - 1), upd v_sizes (aLn A w) (nI (aSz A (aLn A w)) - 1), kd, sp, next', kept', upd ac_sorts p (nI 2), upd ac_firsts p (nI w), upd ac_seconds p (nI (aLn A w)), upd ac_takenKinds p (nI (aKd A w)), va_up ac_takenSpellings p (aQ A w), 0, acts', row', was', ?_, ?_, hF, hG, hT, hW, hC, hP, hD, hI0, hI1, delA A (aLn A w) w, AOK_del ha hw hln (by omega), hpc', PR_del hpr ha hw hln g1 y2, hact⟩
      · unfold mX6_take mX6_take_b0 mX0_keepTaken mX0_keepTaken_b0
        have q1' : mX0_keep ac_next ac_kept ac_sorts ac_firsts ac_seconds 2 (nI w) (nI (aLn A w)) = _ := q1
        rw [en] at q1' ⊢
        rw [hw6, os1, if_neg (by decide), c_lineOf ha hz hw, os1, zn_cl (a := aLn A w) (by omega), zn_cl (a := w) (by omega), zn_cl (a := p) (by omega), if_neg c1, hz _ hln, if_pos (show (1 : Int32) < nI (aSz A (aLn A w)) from nI_lt (a := 1) (by omega) (by omega)), if_neg c2, if_neg c2, (hc w hw).1, (hc w hw).2, if_neg c4, if_neg (fun z => z hq), if_neg c4, q1', os5, os7, x1, os4, if_neg c1, zn_up, if_pos rfl]
      · unfold mX7_take mX7_take_b0
        have e7 : (7 : Int32) + (10 : Int32) * nI w = nI (7 + 10 * w) := by rw [zn_7, zn_10, zn_mul, zn_add]
        have eW : nI (aW A) - 1 = nI (aW A - 1) := by rw [zn_1, zn_sub (by omega)]
        have e3 : (3 : Int32) + nI (aLn A w) = nI (3 + aLn A w) := by rw [zn_3, zn_add]
        rw [hw7, os1, if_neg (by decide), r_lineOf hpr ha hw, os1, e3, zn_cl (by omega), if_neg c3, hrow, if_neg (show ¬ nI (aSz A (aLn A w)) = (1 : Int32) from fun z => h1 (zn_inj (b := 1) (by omega) (by omega) z)), q2, os2, r_wordsOf hpr ha, os1, e7, eW]
        exact y1
  · refine ⟨-1000001, nI (aW A), v_sizes, v_kinds, v_spelled, ac_next, ac_kept, ac_sorts, ac_firsts, ac_seconds, ac_takenKinds, ac_takenSpellings, 0, m_acts, m_poem, m_was, ?_, ?_, hF, hG, hT, hW, hC, hZ0⟩
    · unfold mX6_take mX6_take_b0
      rw [c_hw_f hn (by omega)]; rfl
    · unfold mX7_take mX7_take_b0
      rw [r_iw_f hpr ha hn]; rfl
