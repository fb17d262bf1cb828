-- uses: 562.edit
/-! undo -/
section
variable {L : List Nat} {ln sy sn : Nat → Int32} {lt st : Nat → Nat → Int32} {A : AP} {row : Nat → Int32} {kinds sizes : Nat → Int32} {spelled : Nat → Nat}
theorem r_undo_loop {t : Nat} (ht : t < 24) (was : Nat → Int32) : ∀ (d j : Nat) (po : Nat → Int32), j + d = 207 → (∀ i, i < j → po i = was (207 * t + i)) → ∀ n, d < n → ∃ po', mX7_undo_b28 was n 0 (nI t) po (nI j) = some (nI t, 0, nI t, po') ∧ ∀ i, i < 207 → po' i = was (207 * t + i)
  | _, _, _, _, _, 0, hn => absurd hn (by omega)
  | 0, j, po, hj, h1, n + 1, _ => by
    have q : j = 207 := by omega
    subst q
    exact ⟨po, by rw [mX7_undo_b28, if_pos (by decide)], h1⟩
  | d + 1, j, po, hj, h1, n + 1, hn => by
    have c1 : ¬ (207 : Int32) ≤ nI j := nI_ge (b := 207) (by omega) (by omega)
    have c2 : ¬ (nI j < 0 ∨ 207 ≤ j) := by simp (disch := omega) only [↓reduceIte, Nat.reduceAdd, Nat.reduceMul, Nat.reduceSub, Nat.zero_add, zn_0, zn_1, zn_2, zn_3, zn_4, zn_5, zn_6, zn_7, zn_8, zn_9, zn_10, zn_16, zn_20, zn_23, zn_24, zn_25, zn_26, zn_40, zn_207, zn_4761, zn_99, zn_130, zn_lt_t, zn_lt_f, zn_le_t, zn_le_f, zn_eq_t, zn_eq_f, zn_ix, zn_cl, zq_le_f, zq_le_t, zq_lt_f, zq_lt_t, zn_add, zn_mul, zn_sub, or_false, false_or, or_self, true_or, or_true, and_true, true_and, and_false, false_and, not_true_eq_false, not_false_eq_true, if_true, if_false, os1, os2, os3, os4, os5, os6, os7, os8, os9, os10, os11, os12, os13, os14, os15, os16, os17, os18, os19, os20, os21, os22, os23, os24]
    have e7 : (207 : Int32) * nI t + nI j = nI (207 * t + j) := by rw [zn_207, zn_mul, zn_add]
    have c3 : ¬ (nI (207 * t + j) < 0 ∨ 4968 ≤ 207 * t + j) := by simp (disch := omega) only [↓reduceIte, Nat.reduceAdd, Nat.reduceMul, Nat.reduceSub, Nat.zero_add, zn_0, zn_1, zn_2, zn_3, zn_4, zn_5, zn_6, zn_7, zn_8, zn_9, zn_10, zn_16, zn_20, zn_23, zn_24, zn_25, zn_26, zn_40, zn_207, zn_4761, zn_99, zn_130, zn_lt_t, zn_lt_f, zn_le_t, zn_le_f, zn_eq_t, zn_eq_f, zn_ix, zn_cl, zq_le_f, zq_le_t, zq_lt_f, zq_lt_t, zn_add, zn_mul, zn_sub, or_false, false_or, or_self, true_or, or_true, and_true, true_and, and_false, false_and, not_true_eq_false, not_false_eq_true, if_true, if_false, os1, os2, os3, os4, os5, os6, os7, os8, os9, os10, os11, os12, os13, os14, os15, os16, os17, os18, os19, os20, os21, os22, os23, os24]
    rw [mX7_undo_b28, if_neg c1, e7, zn_cl (by omega), if_neg c3, zn_cl (by omega), if_neg c2, nI_1]
    apply r_undo_loop ht was d (j + 1) _ (by omega) ?_ n (by omega)
    intro i hi
    rw [zn_up]
    by_cases q : i = j
    · rw [if_pos q, q]
    · rw [if_neg q]; exact h1 i (by omega)
theorem c_undoLatest {so fi se tk : Nat → Int32} {ts : Nat → Nat} {kept f e : Int32} {p s a b k q : Nat} (hp : p < 24) (hts : ∀ j, j < 24 → ts j ∈ L) (h1 : so ((p + 23) % 24) = nI s) (h2 : fi ((p + 23) % 24) = nI a) (h3 : se ((p + 23) % 24) = nI b) (h4 : s = 2 → tk ((p + 23) % 24) = nI k ∧ ts ((p + 23) % 24) = q) (hg : goodA s a b k q A) (hpc : PC L A f e (nI (aL A)) (nI (aW A)) sizes kinds spelled) (ha : AOK L ln lt A) (hb : AOK L ln lt (undoA s a b k q A)) (hbl : aL (undoA s a b k q A) = aL A) : ∃ f' e' w' z' kd' sp', mX0_undoLatest L so fi se tk ts (nI (aL A)) (nI p) kept f e (nI (aW A)) sizes kinds spelled = some (nI ((p + 23) % 24), kept - 1, f', e', w', z', kd', sp') ∧ PC L (undoA s a b k q A) f' e' (nI (aL A)) w' z' kd' sp' := by
  obtain ⟨-, -, w20, l4⟩ := aok_sz ha
  have hpc0 := hpc
  obtain ⟨p1, p2, p3, p4, p5, p6, p7⟩ := hpc
  have c1 : ¬ (nI ((p + 23) % 24) < 0 ∨ 24 ≤ (p + 23) % 24) := by simp (disch := omega) only [↓reduceIte, Nat.reduceAdd, Nat.reduceMul, Nat.reduceSub, Nat.zero_add, zn_0, zn_1, zn_2, zn_3, zn_4, zn_5, zn_6, zn_7, zn_8, zn_9, zn_10, zn_16, zn_20, zn_23, zn_24, zn_25, zn_26, zn_40, zn_207, zn_4761, zn_99, zn_130, zn_lt_t, zn_lt_f, zn_le_t, zn_le_f, zn_eq_t, zn_eq_f, zn_ix, zn_cl, zq_le_f, zq_le_t, zq_lt_f, zq_lt_t, zn_add, zn_mul, zn_sub, or_false, false_or, or_self, true_or, or_true, and_true, true_and, and_false, false_and, not_true_eq_false, not_false_eq_true, if_true, if_false, os1, os2, os3, os4, os5, os6, os7, os8, os9, os10, os11, os12, os13, os14, os15, os16, os17, os18, os19, os20, os21, os22, os23, os24]
  have start : mX0_undoLatest L so fi se tk ts (nI (aL A)) (nI p) kept f e (nI (aW A)) sizes kinds spelled = mX0_undoLatest_b19 L so fi se tk ts (nI (aL A)) (nI p) kept f e (nI (aW A)) sizes kinds spelled (nI ((p + 23) % 24)) := by
    unfold mX0_undoLatest mX0_undoLatest_b0
    by_cases h0 : p = 0
    · subst h0; rw [if_pos (by decide)]; rfl
    · rw [if_neg (nI_nle (by omega) (by omega)), zn_1, zn_sub (by omega), show (p + 23) % 24 = p - 1 by omega]
  rw [start, mX0_undoLatest_b19, zn_cl (a := (p + 23) % 24) (by omega), if_neg c1, if_neg c1, if_neg c1, h1, h2, h3]
  rcases hg with ⟨rfl, g1, g2⟩ | ⟨rfl, g1, g2⟩ | ⟨rfl, g1, g2, g3⟩ | ⟨rfl, g1, g2⟩ | ⟨rfl, g1, g2⟩
  · have c2 : ¬ (nI a < 0 ∨ 20 ≤ a) := by simp (disch := omega) only [↓reduceIte, Nat.reduceAdd, Nat.reduceMul, Nat.reduceSub, Nat.zero_add, zn_0, zn_1, zn_2, zn_3, zn_4, zn_5, zn_6, zn_7, zn_8, zn_9, zn_10, zn_16, zn_20, zn_23, zn_24, zn_25, zn_26, zn_40, zn_207, zn_4761, zn_99, zn_130, zn_lt_t, zn_lt_f, zn_le_t, zn_le_f, zn_eq_t, zn_eq_f, zn_ix, zn_cl, zq_le_f, zq_le_t, zq_lt_f, zq_lt_t, zn_add, zn_mul, zn_sub, or_false, false_or, or_self, true_or, or_true, and_true, true_and, and_false, false_and, not_true_eq_false, not_false_eq_true, if_true, if_false, os1, os2, os3, os4, os5, os6, os7, os8, os9, os10, os11, os12, os13, os14, os15, os16, os17, os18, os19, os20, os21, os22, os23, os24]
    have hc' := CW_setK (k := b) (spelled := spelled) (kinds := kinds) g1 (fun v hv => ⟨fun _ => (p6 v hv).1, (p6 v hv).2⟩)
    refine ⟨f, e, nI (aW A), sizes, upd kinds a (nI b), spelled, ?_, p1, p2, p3, ?_, p5, hc', p7⟩
    · rw [if_pos (by rfl), c_hw_t g1 (by omega), os1, if_neg (by decide), zn_cl (by omega), if_neg c2]
    · show nI (aW A) = nI (aW (setK A a b))
      rw [setK_W]
  · obtain ⟨kd, sp, x1, x2⟩ := c_remove hpc0 ha g1 g2
    have h5 := (ha.2.2.2.2.1 b g2).1
    refine ⟨f, e, nI (aW A - 1), upd sizes b (nI (aSz A b) - 1), kd, sp, ?_, x2 h5⟩
    rw [if_neg (by decide), if_pos (by rfl), x1, os4]
  · obtain ⟨t1, t2⟩ := h4 rfl
    have hq : q ∈ L := by rw [← t2]; exact hts _ (by omega)
    obtain ⟨kd, sp, x1, x2⟩ := c_insert0 (k := k) hpc0 l4 g3 g1 g2 hq
    refine ⟨f, e, nI (aW A + 1), upd sizes b (nI (aSz A b + 1)), kd, sp, ?_, x2⟩
    rw [if_neg (by decide), if_neg (by decide), if_pos (by rfl), if_neg c1, if_neg c1, t1, t2, x1, os4]
  · obtain ⟨kd, sp, x1, x2⟩ := c_exchange hpc0 ha g1 g2
    refine ⟨f, e, nI (aW A), sizes, kd, sp, ?_, x2⟩
    rw [if_neg (by decide), if_neg (by decide), if_neg (by decide), if_pos (by rfl), x1, os2]
  · refine ⟨nI a, nI b, nI (aW A), sizes, kinds, spelled, ?_, rfl, rfl, p3, p4, p5, p6, p7⟩
    rw [if_neg (by decide), if_neg (by decide), if_neg (by decide), if_neg (by decide)]
end
theorem st7 : Step7 RelW := by
  intro x_begun x_latestFault x_latestFinding rd_length rd_tape v_foot v_feet v_lines v_words v_sizes v_kinds v_spelled d_spelled i0_foot i0_feet i0_lines i0_words i0_sizes i0_kinds i0_spelled i1_foot i1_feet i1_lines i1_words i1_sizes i1_kinds i1_spelled ac_next ac_kept ac_sorts ac_firsts ac_seconds ac_takenKinds ac_takenSpellings x_bodies m_thrown m_status m_acts m_taped m_latest m_traced m_lane m_many m_item m_poem m_was m_tape m_isKept m_kept m_trace x_lane x_rsz x_item L la sa ln sy sn lt st hR
  obtain ⟨hF, hG, hT, hW, hC, hZ⟩ := hR
  have hZ0 := hZ
  obtain ⟨hP, hD, hI0, hI1, A, ha, hpc, hpr, hA⟩ := hZ
  have hpc0 := hpc
  obtain ⟨p1, p2, p3, p4, hz, hc, hsp⟩ := hpc
  subst p1 p2 p3 p4
  replace hz : CZ A v_sizes := hz
  replace hc : CW A v_kinds v_spelled := hc
  obtain ⟨-, -, w20, l4⟩ := aok_sz ha
  obtain ⟨hts, p, hs, hp, hlen, hn, hk, hac, har, hwas⟩ := hA
  cases hs with
  | nil =>
    have hk' : ac_kept = nI 0 := hk
    have hac' : m_acts = nI 0 := hac
    refine ⟨-1000002, nI A.1, nI A.2.1, nI (aW A), v_sizes, v_kinds, v_spelled, ac_next, ac_kept, 0, m_acts, m_poem, ?_, ?_, hF, hG, hT, hW, hC, hZ0⟩
    · unfold mX6_undo mX6_undo_b0
      rw [hk', if_neg (by decide)]
    · unfold mX7_undo mX7_undo_b0
      rw [hac', if_pos (by rfl)]
  | cons B hs =>
    obtain ⟨⟨s, a, b, k, q, h1, h2, h3, h4, h5, h6⟩, h7, h8, h9, h10⟩ := har
    have hlen' : hs.length + 1 ≤ 24 := hlen
    have hk' : ac_kept = nI (hs.length + 1) := hk
    have hac' : m_acts = nI (hs.length + 1) := hac
    have ekp : nI (hs.length + 1) - 1 = nI hs.length := by rw [zn_1, zn_sub (by omega)]; rfl
    obtain ⟨f', e', w', z', kd', sp', x1, x2⟩ := c_undoLatest (kept := ac_kept) hp hts h1 h2 h3 h4 h5 hpc0 ha (by rw [h6]; exact h7) (by rw [h6]; exact h9)
    rw [h6] at x2
    obtain ⟨po', y1, y2⟩ := r_undo_loop (t := hs.length) (by omega) m_was 207 0 m_poem (Nat.zero_add 207) (fun i hi => absurd hi (Nat.not_lt_zero i)) FU (zn_fu (by omega))
    have hb0 := hwas 0 (by simp)
    have hb1 : PR ln lt B (fun i => m_was (207 * hs.length + i)) := hb0
    refine ⟨nI hs.length, f', e', w', z', kd', sp', nI ((p + 23) % 24), nI hs.length, 0, nI hs.length, po', ?_, ?_, hF, hG, hT, hW, hC, hP, hD, hI0, hI1, B, h7, ?_, PR_congr hb1 h7 y2, hts, (p + 23) % 24, hs, by omega, by omega, rfl, rfl, rfl, h10, ?_⟩
    · unfold mX6_undo mX6_undo_b0
      rw [hn, hk'] at *
      rw [if_pos (show (0 : Int32) < nI (hs.length + 1) from nI_lt (a := 0) (by omega) (by omega)), x1, os8, ekp]
    · unfold mX7_undo mX7_undo_b0
      rw [hac', if_neg (nI_ne0 (by omega) (by omega)), ekp]
      exact y1
    · obtain ⟨t1, t2, t3, t4, t5, t6, t7⟩ := x2
      exact ⟨t1, t2, by rw [h9], t4, t5, t6, t7⟩
    · intro j hj
      have := hwas (j + 1) (by simp; exact hj)
      have e : (B :: hs).length - 1 - (j + 1) = hs.length - 1 - j := by simp; omega
      rw [e] at this
      exact this
