-- uses: 553.draft
/-! acts that are kept -/
section
variable {L : List Nat} {ln sy sn : Nat → Int32} {lt st : Nat → Nat → Int32} {A : AP} {row : Nat → Int32} {kinds sizes : Nat → Int32} {spelled : Nat → Nat} {so fi se tk : Nat → Int32} {ts : Nat → Nat}
theorem r_keep_2 {t : Nat} (ht : t < 24) (was0 : Nat → Int32) : ∀ (d j : Nat) (was : Nat → Int32), j + d = 207 → (∀ i, i < j → was (207 * t + i) = row i) → (∀ x, x < 207 * t → was x = was0 x) → ∀ n, d < n → ∃ was', mX7_keep_b52 row n (nI t) was (nI j) = some (nI (t + 1), was') ∧ (∀ i, i < 207 → was' (207 * t + i) = row i) ∧ ∀ x, x < 207 * t → was' x = was0 x
  | _, _, _, _, _, _, 0, hn => absurd hn (by omega)
  | 0, j, was, hj, h1, h2, n + 1, _ => by
    have q : j = 207 := by omega
    subst q
    refine ⟨was, ?_, h1, h2⟩
    rw [mX7_keep_b52, if_pos (by decide), nI_1]
  | d + 1, j, was, hj, h1, h2, n + 1, hn => by
    have c1 : ¬ (207 : Int32) ≤ nI j := nI_ge (b := 207) (by omega) (by omega)
    have c2 : ¬ (nI j < 0 ∨ 207 ≤ j) := by simp (disch := omega) only [↓reduceIte, Nat.reduceAdd, Nat.reduceMul, Nat.reduceSub, Nat.zero_add, zn_0, zn_1, zn_2, zn_3, zn_4, zn_5, zn_6, zn_7, zn_8, zn_9, zn_10, zn_16, zn_20, zn_23, zn_24, zn_25, zn_26, zn_40, zn_207, zn_4761, zn_99, zn_130, zn_lt_t, zn_lt_f, zn_le_t, zn_le_f, zn_eq_t, zn_eq_f, zn_ix, zn_cl, zq_le_f, zq_le_t, zq_lt_f, zq_lt_t, zn_add, zn_mul, zn_sub, or_false, false_or, or_self, true_or, or_true, and_true, true_and, and_false, false_and, not_true_eq_false, not_false_eq_true, if_true, if_false, os1, os2, os3, os4, os5, os6, os7, os8, os9, os10, os11, os12, os13, os14, os15, os16, os17, os18, os19, os20, os21, os22, os23, os24]
    have e7 : (207 : Int32) * nI t + nI j = nI (207 * t + j) := by rw [zn_207, zn_mul, zn_add]
    have c3 : ¬ (nI (207 * t + j) < 0 ∨ 4968 ≤ 207 * t + j) := by simp (disch := omega) only [↓reduceIte, Nat.reduceAdd, Nat.reduceMul, Nat.reduceSub, Nat.zero_add, zn_0, zn_1, zn_2, zn_3, zn_4, zn_5, zn_6, zn_7, zn_8, zn_9, zn_10, zn_16, zn_20, zn_23, zn_24, zn_25, zn_26, zn_40, zn_207, zn_4761, zn_99, zn_130, zn_lt_t, zn_lt_f, zn_le_t, zn_le_f, zn_eq_t, zn_eq_f, zn_ix, zn_cl, zq_le_f, zq_le_t, zq_lt_f, zq_lt_t, zn_add, zn_mul, zn_sub, or_false, false_or, or_self, true_or, or_true, and_true, true_and, and_false, false_and, not_true_eq_false, not_false_eq_true, if_true, if_false, os1, os2, os3, os4, os5, os6, os7, os8, os9, os10, os11, os12, os13, os14, os15, os16, os17, os18, os19, os20, os21, os22, os23, os24]
    rw [mX7_keep_b52, if_neg c1, e7, zn_cl (by omega), if_neg c2, zn_cl (by omega), if_neg c3, nI_1]
    apply r_keep_2 ht was0 d (j + 1) _ (by omega) ?_ ?_ n (by omega)
    · intro i hi
      rw [zn_up]
      by_cases q : i = j
      · rw [if_pos (by omega), q]
      · rw [if_neg (by omega)]; exact h1 i (by omega)
    · intro x hx
      rw [zn_up, if_neg (by omega)]; exact h2 x hx
theorem r_keep_1 (was0 : Nat → Int32) : ∀ (d j : Nat) (was : Nat → Int32), j + d = 4761 → (∀ i, i < j → was i = was0 (i + 207)) → (∀ i, j ≤ i → was i = was0 i) → ∀ n, d < n → ∃ was', mX7_keep_b11 row n (nI 24) was (nI j) = mX7_keep_b52 row FU (nI 23) was' (nI 0) ∧ ∀ i, i < 4761 → was' i = was0 (i + 207)
  | _, _, _, _, _, _, 0, hn => absurd hn (by omega)
  | 0, j, was, hj, h1, h2, n + 1, _ => by
    have q : j = 4761 := by omega
    refine ⟨was, ?_, fun i hi => h1 i (by omega)⟩
    rw [mX7_keep_b11, if_pos (show (4761 : Int32) ≤ nI j from nI_le (a := 4761) (by omega) (by omega))]
    rfl
  | d + 1, j, was, hj, h1, h2, n + 1, hn => by
    have c1 : ¬ (4761 : Int32) ≤ nI j := nI_ge (b := 4761) (by omega) (by omega)
    have c2 : ¬ (nI j < 0 ∨ 4968 ≤ j) := by simp (disch := omega) only [↓reduceIte, Nat.reduceAdd, Nat.reduceMul, Nat.reduceSub, Nat.zero_add, zn_0, zn_1, zn_2, zn_3, zn_4, zn_5, zn_6, zn_7, zn_8, zn_9, zn_10, zn_16, zn_20, zn_23, zn_24, zn_25, zn_26, zn_40, zn_207, zn_4761, zn_99, zn_130, zn_lt_t, zn_lt_f, zn_le_t, zn_le_f, zn_eq_t, zn_eq_f, zn_ix, zn_cl, zq_le_f, zq_le_t, zq_lt_f, zq_lt_t, zn_add, zn_mul, zn_sub, or_false, false_or, or_self, true_or, or_true, and_true, true_and, and_false, false_and, not_true_eq_false, not_false_eq_true, if_true, if_false, os1, os2, os3, os4, os5, os6, os7, os8, os9, os10, os11, os12, os13, os14, os15, os16, os17, os18, os19, os20, os21, os22, os23, os24]
    have c3 : ¬ (nI (j + 207) < 0 ∨ 4968 ≤ j + 207) := by simp (disch := omega) only [↓reduceIte, Nat.reduceAdd, Nat.reduceMul, Nat.reduceSub, Nat.zero_add, zn_0, zn_1, zn_2, zn_3, zn_4, zn_5, zn_6, zn_7, zn_8, zn_9, zn_10, zn_16, zn_20, zn_23, zn_24, zn_25, zn_26, zn_40, zn_207, zn_4761, zn_99, zn_130, zn_lt_t, zn_lt_f, zn_le_t, zn_le_f, zn_eq_t, zn_eq_f, zn_ix, zn_cl, zq_le_f, zq_le_t, zq_lt_f, zq_lt_t, zn_add, zn_mul, zn_sub, or_false, false_or, or_self, true_or, or_true, and_true, true_and, and_false, false_and, not_true_eq_false, not_false_eq_true, if_true, if_false, os1, os2, os3, os4, os5, os6, os7, os8, os9, os10, os11, os12, os13, os14, os15, os16, os17, os18, os19, os20, os21, os22, os23, os24]
    rw [mX7_keep_b11, if_neg c1, zn_207, zn_add, zn_cl (by omega), if_neg c3, zn_cl (by omega), if_neg c2, nI_1]
    apply r_keep_1 was0 d (j + 1) _ (by omega) ?_ ?_ n (by omega)
    · intro i hi
      rw [zn_up]
      by_cases q : i = j
      · rw [if_pos q, q]; exact h2 _ (by omega)
      · rw [if_neg q]; exact h1 i (by omega)
    · intro i hi
      rw [zn_up, if_neg (by omega)]; exact h2 i (by omega)
theorem r_keep {t : Nat} (ht : t < 24) (was : Nat → Int32) : ∃ was', mX7_keep row (nI t) was = some (nI (t + 1), was') ∧ (∀ i, i < 207 → was' (207 * t + i) = row i) ∧ ∀ x, x < 207 * t → was' x = was x := by
  obtain ⟨w', h1, h2, h3⟩ := r_keep_2 (row := row) ht was 207 0 was (Nat.zero_add 207) (fun i hi => absurd hi (Nat.not_lt_zero i)) (fun x _ => rfl) FU (zn_fu (by omega))
  refine ⟨w', ?_, h2, h3⟩
  unfold mX7_keep mX7_keep_b0
  rw [if_neg (show ¬ nI t = (24 : Int32) from fun q => absurd (zn_inj (b := 24) (by omega) (by omega) q) (by omega))]
  exact h1
theorem r_keep_full (was : Nat → Int32) : ∃ was', mX7_keep row (nI 24) was = some (nI 24, was') ∧ (∀ i, i < 207 → was' (207 * 23 + i) = row i) ∧ ∀ x, x < 207 * 23 → was' x = was (x + 207) := by
  obtain ⟨w1, h1, h2⟩ := r_keep_1 (row := row) was 4761 0 was (Nat.zero_add 4761) (fun i hi => absurd hi (Nat.not_lt_zero i)) (fun x _ => rfl) FU (zn_fu (by omega))
  obtain ⟨w', k1, k2, k3⟩ := r_keep_2 (row := row) (t := 23) (by omega) w1 207 0 w1 (Nat.zero_add 207) (fun i hi => absurd hi (Nat.not_lt_zero i)) (fun x _ => rfl) FU (zn_fu (by omega))
  refine ⟨w', ?_, k2, fun x hx => ?_⟩
  · unfold mX7_keep mX7_keep_b0
    rw [if_pos (show nI 24 = (24 : Int32) from rfl)]
    exact h1.trans k1
  · rw [k3 x hx, h2 x (by omega)]
theorem c_keep {p t : Nat} (hp : p < 24) (ht : t ≤ 24) (a b c : Int32) : mX0_keep (nI p) (nI t) so fi se a b c = some (nI ((p + 1) % 24), nI (if t < 24 then t + 1 else 24), upd so p a, upd fi p b, upd se p c) := by
  have c1 : ¬ (nI p < 0 ∨ 24 ≤ p) := by simp (disch := omega) only [↓reduceIte, Nat.reduceAdd, Nat.reduceMul, Nat.reduceSub, Nat.zero_add, zn_0, zn_1, zn_2, zn_3, zn_4, zn_5, zn_6, zn_7, zn_8, zn_9, zn_10, zn_16, zn_20, zn_23, zn_24, zn_25, zn_26, zn_40, zn_207, zn_4761, zn_99, zn_130, zn_lt_t, zn_lt_f, zn_le_t, zn_le_f, zn_eq_t, zn_eq_f, zn_ix, zn_cl, zq_le_f, zq_le_t, zq_lt_f, zq_lt_t, zn_add, zn_mul, zn_sub, or_false, false_or, or_self, true_or, or_true, and_true, true_and, and_false, false_and, not_true_eq_false, not_false_eq_true, if_true, if_false, os1, os2, os3, os4, os5, os6, os7, os8, os9, os10, os11, os12, os13, os14, os15, os16, os17, os18, os19, os20, os21, os22, os23, os24]
  have ek : (if (24 : Int32) < nI t + 1 then (24 : Int32) else nI t + 1) = nI (if t < 24 then t + 1 else 24) := by
    rw [nI_1]
    by_cases h : t < 24
    · rw [if_pos h, if_neg (show ¬ (24 : Int32) < nI (t + 1) from nI_nlt (a := 24) (by omega) (by omega))]
    · rw [if_neg h, if_pos (show (24 : Int32) < nI (t + 1) from nI_lt (a := 24) (by omega) (by omega))]
      rfl
  unfold mX0_keep mX0_keep_b0
  rw [zn_cl (by omega), if_neg c1, if_neg c1, if_neg c1, nI_1]
  by_cases h : p + 1 < 24
  · rw [if_neg (show ¬ (24 : Int32) ≤ nI (p + 1) from nI_ge (b := 24) h (by omega)), mX0_keep_b52, ek, Nat.mod_eq_of_lt h]
  · rw [if_pos (show (24 : Int32) ≤ nI (p + 1) from nI_le (a := 24) (by omega) (by omega)), mX0_keep_b52, ek, show (p + 1) % 24 = 0 by omega]
    rfl
theorem AR_congr {so' fi' se' tk' : Nat → Int32} {ts' : Nat → Nat} {x : Nat} (hx : ∀ j, ¬ j = x → so' j = so j ∧ fi' j = fi j ∧ se' j = se j ∧ tk' j = tk j ∧ ts' j = ts j) : ∀ (hs : List AP) (A : AP) (p : Nat), p < 24 → hs.length ≤ 23 → (∀ j, 1 ≤ j → j ≤ hs.length → ¬ (p + 24 - j) % 24 = x) → AR L ln lt so fi se tk ts hs A p → AR L ln lt so' fi' se' tk' ts' hs A p
  | [], _, _, _, _, _, _ => trivial
  | B :: hs, A, p, hp, hle, hj, h => by
    have hle' : hs.length + 1 ≤ 23 := hle
    obtain ⟨⟨s, a, b, k, q, h1, h2, h3, h4, h5, h6⟩, h7, h8, h9, h10⟩ := h
    have h0 := hj 1 (by omega) (by simp)
    rw [show (p + 24 - 1) % 24 = (p + 23) % 24 by omega] at h0
    obtain ⟨e1, e2, e3, e4, e5⟩ := hx _ h0
    refine ⟨⟨s, a, b, k, q, by rw [e1]; exact h1, by rw [e2]; exact h2, by rw [e3]; exact h3, fun hs => by rw [e4, e5]; exact h4 hs, h5, h6⟩, h7, h8, h9, ?_⟩
    refine AR_congr hx hs B ((p + 23) % 24) (by omega) (by omega) (fun j j1 j2 => ?_) h10
    have := hj (j + 1) (by omega) (by simp; exact j2)
    rw [show (p + 24 - (j + 1)) % 24 = ((p + 23) % 24 + 24 - j) % 24 by
      by_cases hp0 : p = 0
      · subst hp0; omega
      · rw [show (p + 23) % 24 = p - 1 by omega]; congr 1; omega] at this
    exact this
theorem AR_take : ∀ (n : Nat) (hs : List AP) (A : AP) (p : Nat), AR L ln lt so fi se tk ts hs A p → AR L ln lt so fi se tk ts (hs.take n) A p
  | 0, _, _, _, _ => by rw [List.take_zero]; trivial
  | n + 1, [], _, _, _ => trivial
  | n + 1, B :: hs, A, p, h => by
    obtain ⟨h1, h7, h8, h9, h10⟩ := h
    exact ⟨h1, h7, h8, h9, AR_take n hs B _ h10⟩
/-- one act more -/
theorem RActs_new {next kept acts : Int32} {was : Nat → Int32} (hR : RActs L ln lt A next kept so fi se tk ts acts was) (ha : AOK L ln lt A) (h0 : 0 < aL A) (hpr : PR ln lt A row) {s a b k q : Nat} {A' : AP} (hg : goodA s a b k q A') (hu : undoA s a b k q A' = A) (hl : aL A = aL A') : ∃ p, p < 24 ∧ next = nI p ∧ ∃ next' kept' acts' was', mX0_keep next kept so fi se (nI s) (nI a) (nI b) = some (next', kept', upd so p (nI s), upd fi p (nI a), upd se p (nI b)) ∧ mX7_keep row acts was = some (acts', was') ∧ ∀ (tk' : Nat → Int32) (ts' : Nat → Nat), (∀ j, ¬ j = p → tk' j = tk j ∧ ts' j = ts j) → (s = 2 → tk' p = nI k ∧ ts' p = q) → (∀ j, j < 24 → ts' j ∈ L) → RActs L ln lt A' next' kept' (upd so p (nI s)) (upd fi p (nI a)) (upd se p (nI b)) tk' ts' acts' was' := by
  obtain ⟨hts, p, hs, hp, hlen, hn, hk, hac, har, hwas⟩ := hR
  refine ⟨p, hp, hn, ?_⟩
  have hck := c_keep (so := so) (fi := fi) (se := se) hp hlen (nI s) (nI a) (nI b)
  rw [hn, hk, hac]
  have key : ∀ (gs : List AP) (tk' : Nat → Int32) (ts' : Nat → Nat), gs.length ≤ 23 → AR L ln lt so fi se tk ts gs A p → (∀ j, ¬ j = p → tk' j = tk j ∧ ts' j = ts j) → (s = 2 → tk' p = nI k ∧ ts' p = q) → AR L ln lt (upd so p (nI s)) (upd fi p (nI a)) (upd se p (nI b)) tk' ts' (A :: gs) A' ((p + 1) % 24) := by
    intro gs tk' ts' hgs hg2 ht hs2
    have e : ((p + 1) % 24 + 23) % 24 = p := by omega
    refine ⟨⟨s, a, b, k, q, ?_, ?_, ?_, ?_, hg, hu⟩, ha, h0, hl, ?_⟩
    · rw [e, zn_up, if_pos rfl]
    · rw [e, zn_up, if_pos rfl]
    · rw [e, zn_up, if_pos rfl]
    · rw [e]; exact hs2
    · rw [e]
      refine AR_congr (x := p) ?_ gs A p hp (by omega) ?_ hg2
      · intro j hj
        rw [zn_up, zn_up, zn_up, if_neg hj, if_neg hj, if_neg hj]
        exact ⟨rfl, rfl, rfl, ht j hj⟩
      · intro j j1 j2
        omega
  by_cases hlt : hs.length < 24
  · obtain ⟨was', r1, r2, r3⟩ := r_keep (row := row) hlt was
    rw [if_pos hlt] at hck
    refine ⟨_, _, _, was', hck, r1, fun tk' ts' ht hs2 htl => ⟨htl, (p + 1) % 24, A :: hs, by omega, by simp; omega, rfl, by simp, by simp, key hs tk' ts' (by omega) har ht hs2, ?_⟩⟩
    intro j hj
    have hj' : j < hs.length + 1 := by simpa using hj
    cases j with
    | zero =>
      have : (A :: hs).length - 1 - 0 = hs.length := by simp
      rw [this]
      exact PR_congr hpr ha (fun i hi => r2 i hi)
    | succ j =>
      have e2 : (A :: hs).length - 1 - (j + 1) = hs.length - 1 - j := by simp; omega
      rw [e2]
      have h := hwas j (by omega)
      obtain ⟨-, hb⟩ : True ∧ ∃ M, AOK L ln lt M ∧ hs.getD j (0, 0, [], []) = M := by
        refine ⟨trivial, ?_⟩
        have : ∀ (hs : List AP) (A : AP) (p j : Nat), j < hs.length → AR L ln lt so fi se tk ts hs A p → AOK L ln lt (hs.getD j (0, 0, [], [])) := by
          intro hs
          induction hs with
          | nil => intro A p j hj; exact absurd hj (by simp)
          | cons B hs ih =>
            intro A p j hj h
            cases j with
            | zero => exact h.2.1
            | succ j => exact ih B _ j (by simpa using hj) h.2.2.2.2
        exact ⟨_, this hs A p j (by omega) har, rfl⟩
      obtain ⟨M, hM, eM⟩ := hb
      show PR ln lt (hs.getD j (0, 0, [], [])) _
      rw [eM] at h ⊢
      refine PR_congr h hM (fun i hi => r3 _ ?_)
      have : 207 * (hs.length - 1 - j) + 207 ≤ 207 * hs.length := by omega
      omega
  · have e24 : hs.length = 24 := by omega
    obtain ⟨was', r1, r2, r3⟩ := r_keep_full (row := row) was
    rw [if_neg hlt] at hck
    rw [e24] at hck ⊢
    have hl23 : (hs.take 23).length = 23 := by rw [List.length_take]; omega
    refine ⟨_, _, _, was', hck, r1, fun tk' ts' ht hs2 htl => ⟨htl, (p + 1) % 24, A :: hs.take 23, by omega, by simp; omega, rfl, ?_, ?_, key (hs.take 23) tk' ts' (by omega) (AR_take 23 hs A p har) ht hs2, ?_⟩⟩
    · rw [List.length_cons, hl23]
    · rw [List.length_cons, hl23]
    intro j hj
    rw [List.length_cons, hl23] at hj ⊢
    cases j with
    | zero => exact PR_congr hpr ha (fun i hi => r2 i hi)
    | succ j =>
      have h := hwas j (by omega)
      rw [e24] at h
      have hgd : (A :: hs.take 23).getD (j + 1) (0, 0, [], []) = hs.getD j (0, 0, [], []) := by
        show (hs.take 23).getD j (0, 0, [], []) = _
        rw [List.getD_eq_getElem?_getD, List.getD_eq_getElem?_getD, List.getElem?_take, if_pos (by omega)]
      rw [hgd]
      have hM : AOK L ln lt (hs.getD j (0, 0, [], [])) := by
        have : ∀ (hs : List AP) (A : AP) (p j : Nat), j < hs.length → AR L ln lt so fi se tk ts hs A p → AOK L ln lt (hs.getD j (0, 0, [], [])) := by
          intro hs
          induction hs with
          | nil => intro A p j hj; exact absurd hj (by simp)
          | cons B hs ih =>
            intro A p j hj h
            cases j with
            | zero => exact h.2.1
            | succ j => exact ih B _ j (by simpa using hj) h.2.2.2.2
        exact this hs A p j (by omega) har
      refine PR_congr h hM (fun i hi => ?_)
      show was' (207 * (23 + 1 - 1 - (j + 1)) + i) = was (207 * (24 - 1 - j) + i)
      rw [r3 _ (by omega), show 207 * (23 + 1 - 1 - (j + 1)) + i + 207 = 207 * (24 - 1 - j) + i by omega]
end
