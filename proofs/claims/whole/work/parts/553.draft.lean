-- uses: 551.near
/-! drafts: poems as others, words of other kinds -/
section
variable {L : List Nat} {ln sy sn : Nat → Int32} {lt st : Nat → Nat → Int32} {A : AP} {row : Nat → Int32} {kinds sizes : Nat → Int32} {spelled : Nat → Nat}
theorem c_become_2 (hsp : ∀ j, j < 20 → spelled j ∈ L) (f e li w : Int32) (a b c x : Int32) (z : Nat → Int32) : ∀ (d k : Nat) (kd : Nat → Int32) (sp : Nat → Nat), k + d = 20 → (∀ j, j < k → kd j = kinds j ∧ sp j = spelled j) → ∀ n, d < n → ∃ kd' sp', mX2_becomeAs_b59 L f e li w sizes kinds spelled n a b c x z kd sp (nI k) = some (a, b, c, x, z, kd', sp') ∧ ∀ j, j < 20 → kd' j = kinds j ∧ sp' j = spelled j
  | _, _, _, _, _, _, 0, hn => absurd hn (by omega)
  | 0, k, kd, sp, hk, h, n + 1, _ => by
    have e : k = 20 := by omega
    subst e
    exact ⟨kd, sp, by rw [mX2_becomeAs_b59, if_pos (by decide)], h⟩
  | d + 1, k, kd, sp, hk, h, n + 1, hn => by
    have c1 : ¬ (20 : Int32) ≤ nI k := nI_ge (b := 20) (by omega) (by omega)
    have c2 : ¬ (nI k < 0 ∨ 20 ≤ k) := by simp (disch := omega) only [↓reduceIte, Nat.reduceAdd, Nat.reduceMul, Nat.reduceSub, Nat.zero_add, zn_0, zn_1, zn_2, zn_3, zn_4, zn_5, zn_6, zn_7, zn_8, zn_9, zn_10, zn_16, zn_20, zn_23, zn_24, zn_25, zn_26, zn_40, zn_207, zn_4761, zn_99, zn_130, zn_lt_t, zn_lt_f, zn_le_t, zn_le_f, zn_eq_t, zn_eq_f, zn_ix, zn_cl, zq_le_f, zq_le_t, zq_lt_f, zq_lt_t, zn_add, zn_mul, zn_sub, or_false, false_or, or_self, true_or, or_true, and_true, true_and, and_false, false_and, not_true_eq_false, not_false_eq_true, if_true, if_false, os1, os2, os3, os4, os5, os6, os7, os8, os9, os10, os11, os12, os13, os14, os15, os16, os17, os18, os19, os20, os21, os22, os23, os24]
    rw [mX2_becomeAs_b59, if_neg c1, zn_cl (by omega), if_neg c2, if_neg c2, if_neg c2, if_neg (fun q => q (hsp k (by omega))), if_neg c2, nI_1]
    apply c_become_2 hsp f e li w a b c x z d (k + 1) _ _ (by omega) ?_ n (by omega)
    intro j hj
    rw [zn_up, zn_vup]
    by_cases e : j = k
    · rw [if_pos e, if_pos e, e]; exact ⟨rfl, rfl⟩
    · rw [if_neg e, if_neg e]; exact h j (by omega)
theorem c_become_1 (hsp : ∀ j, j < 20 → spelled j ∈ L) (f e li w : Int32) (a b c x : Int32) (kd : Nat → Int32) (sp : Nat → Nat) : ∀ (d k : Nat) (z : Nat → Int32), k + d = 4 → (∀ j, j < k → z j = sizes j) → ∀ n, d < n → ∃ z' kd' sp', mX2_becomeAs_b34 L f e li w sizes kinds spelled n a b c x z kd sp (nI k) = some (a, b, c, x, z', kd', sp') ∧ (∀ j, j < 4 → z' j = sizes j) ∧ ∀ j, j < 20 → kd' j = kinds j ∧ sp' j = spelled j
  | _, _, _, _, _, 0, hn => absurd hn (by omega)
  | 0, k, z, hk, h, n + 1, _ => by
    have q : k = 4 := by omega
    subst q
    obtain ⟨kd', sp', h1, h2⟩ := c_become_2 (sizes := sizes) (kinds := kinds) hsp f e li w a b c x z 20 0 kd sp (by omega) (fun j hj => absurd hj (by omega)) FU (zn_fu (by omega))
    exact ⟨z, kd', sp', by rw [mX2_becomeAs_b34, if_pos (by decide)]; exact h1, h, h2⟩
  | d + 1, k, z, hk, h, n + 1, hn => by
    have c1 : ¬ (4 : Int32) ≤ nI k := nI_ge (b := 4) (by omega) (by omega)
    have c2 : ¬ (nI k < 0 ∨ 4 ≤ k) := by simp (disch := omega) only [↓reduceIte, Nat.reduceAdd, Nat.reduceMul, Nat.reduceSub, Nat.zero_add, zn_0, zn_1, zn_2, zn_3, zn_4, zn_5, zn_6, zn_7, zn_8, zn_9, zn_10, zn_16, zn_20, zn_23, zn_24, zn_25, zn_26, zn_40, zn_207, zn_4761, zn_99, zn_130, zn_lt_t, zn_lt_f, zn_le_t, zn_le_f, zn_eq_t, zn_eq_f, zn_ix, zn_cl, zq_le_f, zq_le_t, zq_lt_f, zq_lt_t, zn_add, zn_mul, zn_sub, or_false, false_or, or_self, true_or, or_true, and_true, true_and, and_false, false_and, not_true_eq_false, not_false_eq_true, if_true, if_false, os1, os2, os3, os4, os5, os6, os7, os8, os9, os10, os11, os12, os13, os14, os15, os16, os17, os18, os19, os20, os21, os22, os23, os24]
    rw [mX2_becomeAs_b34, if_neg c1, zn_cl (by omega), if_neg c2, if_neg c2, nI_1]
    apply c_become_1 hsp f e li w a b c x kd sp d (k + 1) _ (by omega) ?_ n (by omega)
    intro j hj
    rw [zn_up]
    by_cases q : j = k
    · rw [if_pos q, q]
    · rw [if_neg q]; exact h j (by omega)
theorem c_becomeAs (hsp : ∀ j, j < 20 → spelled j ∈ L) (f e li w a b c x : Int32) (z kd : Nat → Int32) (sp : Nat → Nat) : ∃ z' kd' sp', mX2_becomeAs L f e li w sizes kinds spelled a b c x z kd sp = some (f, e, li, w, z', kd', sp') ∧ (∀ j, j < 4 → z' j = sizes j) ∧ ∀ j, j < 20 → kd' j = kinds j ∧ sp' j = spelled j :=
  c_become_1 hsp f e li w f e li w kd sp 4 0 z (by omega) (fun j hj => absurd hj (by omega)) FU (zn_fu (by omega))
theorem r_then_loop : ∀ (d k : Nat) (th : Nat → Int32), k + d = 207 → (∀ j, j < k → th j = row j) → ∀ n, d < n → ∃ th', mX7_layThen_b2 row n th (nI k) = some th' ∧ ∀ j, j < 207 → th' j = row j
  | _, _, _, _, _, 0, hn => absurd hn (by omega)
  | 0, k, th, hk, h, n + 1, _ => by
    have q : k = 207 := by omega
    subst q
    exact ⟨th, by rw [mX7_layThen_b2, if_pos (by decide)], h⟩
  | d + 1, k, th, hk, h, n + 1, hn => by
    have c1 : ¬ (207 : Int32) ≤ nI k := nI_ge (b := 207) (by omega) (by omega)
    have c2 : ¬ (nI k < 0 ∨ 207 ≤ k) := by simp (disch := omega) only [↓reduceIte, Nat.reduceAdd, Nat.reduceMul, Nat.reduceSub, Nat.zero_add, zn_0, zn_1, zn_2, zn_3, zn_4, zn_5, zn_6, zn_7, zn_8, zn_9, zn_10, zn_16, zn_20, zn_23, zn_24, zn_25, zn_26, zn_40, zn_207, zn_4761, zn_99, zn_130, zn_lt_t, zn_lt_f, zn_le_t, zn_le_f, zn_eq_t, zn_eq_f, zn_ix, zn_cl, zq_le_f, zq_le_t, zq_lt_f, zq_lt_t, zn_add, zn_mul, zn_sub, or_false, false_or, or_self, true_or, or_true, and_true, true_and, and_false, false_and, not_true_eq_false, not_false_eq_true, if_true, if_false, os1, os2, os3, os4, os5, os6, os7, os8, os9, os10, os11, os12, os13, os14, os15, os16, os17, os18, os19, os20, os21, os22, os23, os24]
    rw [mX7_layThen_b2, if_neg c1, zn_cl (by omega), if_neg c2, if_neg c2, nI_1]
    apply r_then_loop d (k + 1) _ (by omega) ?_ n (by omega)
    intro j hj
    rw [zn_up]
    by_cases q : j = k
    · rw [if_pos q, q]
    · rw [if_neg q]; exact h j (by omega)
theorem r_layThen (th : Nat → Int32) : ∃ th', mX7_layThen row th = some th' ∧ ∀ j, j < 207 → th' j = row j := by
  obtain ⟨th', h1, h2⟩ := r_then_loop (row := row) 207 0 th (Nat.zero_add 207) (fun j hj => absurd hj (Nat.not_lt_zero j)) FU (zn_fu (by omega))
  unfold mX7_layThen mX7_layThen_b0
  exact ⟨th', h1, h2⟩
theorem PR_congr {row' : Nat → Int32} (h : PR ln lt A row) (ha : AOK L ln lt A) (he : ∀ j, j < 207 → row' j = row j) : PR ln lt A row' := by
  obtain ⟨-, -, w20, l4⟩ := aok_sz ha
  obtain ⟨h1, h2, h3, h4, h5⟩ := h
  refine ⟨by rw [he 0 (by omega)]; exact h1, by rw [he 1 (by omega)]; exact h2, by rw [he 2 (by omega)]; exact h3, fun l hl => by rw [he _ (by omega)]; exact h4 l hl, fun w hw => ?_⟩
  obtain ⟨k1, k2, k3⟩ := h5 w hw
  exact ⟨by rw [he _ (by omega)]; exact k1, by rw [he _ (by omega)]; exact k2, fun i hi q => by rw [he _ (by omega)]; exact k3 i hi q⟩
theorem PC_congr {f e li w : Int32} {z' kd' : Nat → Int32} {sp' : Nat → Nat} (h : PC L A f e li w sizes kinds spelled) (ha : AOK L ln lt A) (h1 : ∀ j, j < 4 → z' j = sizes j) (h2 : ∀ j, j < 20 → kd' j = kinds j ∧ sp' j = spelled j) : PC L A f e li w z' kd' sp' := by
  obtain ⟨-, -, w20, l4⟩ := aok_sz ha
  obtain ⟨p1, p2, p3, p4, p5, p6, p7⟩ := h
  refine ⟨p1, p2, p3, p4, fun l hl => by rw [h1 l (by omega)]; exact p5 l hl, fun w hw => ?_, fun j hj => by rw [(h2 j hj).2]; exact p7 j hj⟩
  obtain ⟨k1, k2⟩ := h2 w (by omega)
  rw [k1, k2]; exact p6 w hw
/-- a word of another kind -/
def setK (A : AP) (w k : Nat) : AP := (A.1, A.2.1, A.2.2.1, A.2.2.2.set w (k, aQ A w))
theorem setK_W (w k : Nat) : aW (setK A w k) = aW A := List.length_set
theorem setK_p {w : Nat} (hw : w < aW A) (k v : Nat) : (setK A w k).2.2.2.getD v (0, 0) = if v = w then (k, aQ A w) else A.2.2.2.getD v (0, 0) := by
  show (A.2.2.2.set w (k, aQ A w)).getD v (0, 0) = _
  rw [List.getD_eq_getElem?_getD, List.getElem?_set]
  by_cases h : v = w
  · subst h
    have hw' : v < A.2.2.2.length := hw
    simp [hw']
  · have : ¬ w = v := fun q => h q.symm
    simp [h, this]
theorem setK_kd {w : Nat} (hw : w < aW A) (k v : Nat) : aKd (setK A w k) v = if v = w then k else aKd A v := by
  unfold aKd
  rw [setK_p hw]
  split <;> rfl
theorem setK_q {w : Nat} (hw : w < aW A) (k v : Nat) : aQ (setK A w k) v = aQ A v := by
  unfold aQ
  rw [setK_p hw]
  split
  · rename_i h; rw [h]; rfl
  · rfl
theorem AOK_setK (ha : AOK L ln lt A) {w k : Nat} (hw : w < aW A) (hk : 1 ≤ k ∧ k ≤ 5) : AOK L ln lt (setK A w k) := by
  obtain ⟨h1, h2, h3, h4, h5, h6, h7⟩ := ha
  refine ⟨h1, h2, h3, h4, h5, ?_, fun v hv => ?_⟩
  · rw [setK_W]; exact h6
  · rw [setK_W] at hv
    rw [setK_kd hw, setK_q hw]
    obtain ⟨q1, q2⟩ := h7 v hv
    refine ⟨?_, q2⟩
    split
    · exact hk
    · exact q1
theorem CW_setK {w k : Nat} (hw : w < aW A) (h : ∀ v, v < aW A → (¬ v = w → kinds v = nI (aKd A v)) ∧ spelled v = aQ A v) : CW (setK A w k) (upd kinds w (nI k)) spelled := by
  intro v hv
  rw [setK_W] at hv
  rw [setK_kd hw, setK_q hw, zn_up]
  refine ⟨?_, (h v hv).2⟩
  by_cases e : v = w
  · rw [if_pos e, if_pos e]
  · rw [if_neg e, if_neg e]; exact (h v hv).1 e
theorem PR_setK (h : PR ln lt A row) {w k : Nat} (hw : w < aW A) : PR ln lt (setK A w k) (upd row (7 + 10 * w) (nI k)) := by
  obtain ⟨h1, h2, h3, h4, h5⟩ := h
  refine ⟨?_, ?_, ?_, fun l hl => ?_, fun v hv => ?_⟩
  · rw [zn_up, if_neg (by omega)]; exact h1
  · rw [zn_up, if_neg (by omega)]; exact h2
  · rw [zn_up, if_neg (by omega)]; exact h3
  · rw [zn_up, if_neg (by omega)]; exact h4 l hl
  · rw [setK_W] at hv
    obtain ⟨k1, k2, k3⟩ := h5 v hv
    rw [setK_kd hw, setK_q hw]
    refine ⟨?_, ?_, fun i hi q => ?_⟩
    · rw [zn_up]
      by_cases e : v = w
      · rw [if_pos (by omega), if_pos e]
      · rw [if_neg (by omega), if_neg e]; exact k1
    · rw [zn_up, if_neg (by omega)]; exact k2
    · rw [zn_up, if_neg (by omega)]; exact k3 i hi q
theorem r_byMetre (h : PR ln lt A row) (ha : AOK L ln lt A) {l : Nat} (hl : l < aL A) (z1 z2 z3 : Int32) (b1 b2 b3 : Nat → Int32) : ∃ u1 u2 u3 v1 v2 v3, mX7_byMetre row z1 z2 z3 b1 b2 b3 (nI l) = some (eC (lst ln lt A A.1 A.2.1 l), u1, u2, u3, v1, v2, v3) := by
  have hf3 := ha.1
  have hf1 := ha.2.2.1 (by omega)
  obtain ⟨sts', f', g', sd', r1⟩ := r_scanOf h ha hl (by omega : A.1 < 4) hf1 ha.2.1 (-1) z1 z2 z3 b1 b2 b3
  rw [SB_as] at r1
  have hel : eL (aSC ln lt A l A.1 A.2.1 (aG ln lt A l)) = eC (lst ln lt A A.1 A.2.1 l) := eL_eC _
  refine ⟨sts', eL (aSC ln lt A l A.1 A.2.1 (aG ln lt A l)), eW (aSC ln lt A l A.1 A.2.1 (aG ln lt A l)), f', g', sd', ?_⟩
  unfold mX7_byMetre mX7_byMetre_b0
  rw [show row (1 : Int32).toNatClampNeg = nI A.1 from h.2.1, show row (2 : Int32).toNatClampNeg = nI A.2.1 from h.2.2.1, r1, os7, hel]
end
