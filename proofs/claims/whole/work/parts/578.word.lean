-- uses: 577.both
/-! a word read on both sides -/
theorem c_letters {n : Nat} {t : Nat → Nat} {tape : Nat → Int32} (hn : n ≤ 130) (hta : ∀ j, tape j = nI (t j)) (ht : ∀ j, t j < 256) (Po : Int32 → Int32 → Int32 → Int32 → (Nat → Int32) → Int32 → (Nat → Int32) → (Nat → Int32) → (Nat → Nat) → List Nat → (Nat → Nat) → (Nat → Nat) → (Nat → Int32) → (Nat → Int32) → (Nat → Int32) → (Nat → Nat → Int32) → (Nat → Nat → Int32) → Prop) {e m : Nat} (he : e ≤ n) (hm : LE8 n t e m) (p : Int32) (lf : Nat → Int32) {A : AP} {f0 e0 : Int32} {sz kd : Nat → Int32} {sp : Nat → Nat} {L : List Nat} {la sa : Nat → Nat} {ln sy sn : Nat → Int32} {lt st : Nat → Nat → Int32} (hpc : PC L A f0 e0 (nI (aL A)) (nI (aW A)) sz kd sp) (hP : POOL L ln sy sn lt st) (h1 : 1 ≤ aL A) (h4 : aL A ≤ 4) (hW : aW A < 20) {k : Nat}
    (hF : ∀ at' lf' f p', ((m = 0 ∧ f = 1 ∧ p' = e) ∨ (1 ≤ m ∧ anyB (fun i => VW (LF t e i)) m = false ∧ f = 4 ∧ p' = e) ∨ (1 ≤ m ∧ anyB (fun i => VW (LF t e i)) m = true ∧ LTR n t (e + m) ∧ f = 1 ∧ p' = e + m)) → Po 0 at' (nI f) (nI p') lf' (nI (aW A)) sz kd sp L la sa ln sy sn lt st)
    (hS : 1 ≤ m → anyB (fun i => VW (LF t e i)) m = true → ¬ LTR n t (e + m) → ∀ lf' q L' la' sa' ln' sy' sn' lt' st' kd' sp', EXT L ln lt L' ln' lt' → POOL L' ln' sy' sn' lt' st' → q ∈ L' → ln' q = nI m → lt' q = cutF m (LF t e) → PC L' (insA A (aL A - 1) (aW A) k q) f0 e0 (nI (aL A)) (nI (aW A + 1)) (upd sz (aL A - 1) (nI (aSz A (aL A - 1) + 1))) kd' sp' → Po 1 (nI (e + m)) 0 p lf' (nI (aW A + 1)) (upd sz (aL A - 1) (nI (aSz A (aL A - 1) + 1))) kd' sp' L' la' sa' ln' sy' sn' lt' st') :
    qX3_readLetters (nI n) tape (nI (aL A)) (nI e) 0 p lf (nI (aW A)) sz kd sp L la sa ln sy sn lt st (nI k) Po := by
  refine c_let_loop hn hta ht Po he hm (nI (aL A)) (nI k) p (nI (aW A)) sz kd sp L la sa ln sy sn lt st ?_ m 0 lf (by omega) (fun i hi => absurd hi (by omega)) FU (zn_fu (by have := hm.1; omega))
  intro lf' hlf
  obtain ⟨m8, hl, hz⟩ := hm
  have ev : anyB (fun i => VW (lf' i)) m = anyB (fun i => VW (LF t e i)) m := anyB_cg (fun i hi => by rw [hlf i hi])
  refine ⟨fun h0 => ⟨0, 1, nI e, rfl, fun q => q (Or.inl rfl), ?_⟩, fun h0 => ⟨_, c_hasV m8 (by omega) lf', fun hv => ⟨0, 4, nI e, rfl, fun q => q (Or.inl rfl), ?_⟩, fun hv => ?_⟩⟩
  · have : m = 0 := zn_inj (b := 0) (by omega) (by omega) h0
    exact hF _ lf' 1 e (Or.inl ⟨this, rfl, rfl⟩)
  · have m1 : 1 ≤ m := by
      apply Nat.lt_of_not_le; intro q
      exact h0 (by rw [show m = 0 by omega]; rfl)
    rw [ev] at hv
    have hb : anyB (fun i => VW (LF t e i)) m = false := by
      cases hb : anyB (fun i => VW (LF t e i)) m
      · rfl
      · rw [hb] at hv; exact absurd hv (by decide)
    exact hF _ lf' 4 e (Or.inr (Or.inl ⟨m1, hb, rfl, rfl⟩))
  · have m1 : 1 ≤ m := by
      apply Nat.lt_of_not_le; intro q
      exact h0 (by rw [show m = 0 by omega]; rfl)
    rw [ev] at hv
    have hb : anyB (fun i => VW (LF t e i)) m = true := by
      cases hb : anyB (fun i => VW (LF t e i)) m
      · rw [hb] at hv; exact absurd rfl hv
      · rfl
    by_cases g : LTR n t (e + m)
    · exact ⟨1, c_let_t hn hta ht g, fun q => absurd q (by decide), fun _ => ⟨0, 1, nI (e + m), rfl, fun q => q (Or.inl rfl), hF _ lf' 1 (e + m) (Or.inr (Or.inr ⟨m1, hb, g, rfl, rfl⟩))⟩⟩
    · refine ⟨0, c_let_f hn hta ht (by omega) g, fun _ => ?_, fun q => absurd rfl q⟩
      have hsl := (spl_k m (by omega) m1).2
      obtain ⟨sa9, y1, y2⟩ := c_spell (n := m) (n1 := 8) ⟨m1, m8⟩ m8 (by omega) lf' (nI m)
      rw [hsl, nI_clamp (n := m) (by omega)]
      refine ⟨_, _, sa9, _, y1, fun q qa qs hq => ?_⟩
      have hqL : q ∈ L ++ [q] := List.mem_append_right _ (List.mem_singleton.mpr rfl)
      have hex := EXT_one (ln := ln) (lt := lt) hq (nI m) (cutF m lf')
      have e1 : nI (aL A) - (1 : Int32) = nI (aL A - 1) := by rw [zn_1, zn_sub h1]
      obtain ⟨kd', sp', x1, x2⟩ := c_insert0 (k := k) (w := aW A) (l := aL A - 1) (PC_ext hex hpc) h4 hW (Nat.le_refl _) (by omega) hqL
      rw [e1]
      refine ⟨_, _, kd', sp', x1, ?_⟩
      exact hS m1 hb g lf' q _ _ _ _ _ _ _ _ kd' sp' hex (POOL_one hP hq m8 y2) hqL (by rw [zn_vup, if_pos rfl]) (by rw [zn_vup, if_pos rfl]; exact cut_cg hlf) x2
theorem r_let_loop {n : Nat} {t : Nat → Nat} {tape : Nat → Int32} (hn : n ≤ 130) (hta : ∀ j, tape j = nI (t j)) (ht : ∀ j, t j < 256) {e m W : Nat} (he : e ≤ n) (hm : LE8 n t e m) (hW : W < 20) (p1 fa : Int32) (row0 : Nat → Int32) : ∀ (d k : Nat) (row : Nat → Int32) (cur tok val : Int32), k + d = m → TOK n t (e + k) cur tok val → (∀ x, row x = if 9 + 10 * W ≤ x ∧ x < 9 + 10 * W + k then LF t e (x - (9 + 10 * W)) else row0 x) → ∀ N, d < N → ∃ cur' tok' val' row', mX7_readWord_b65 (nI n) tape p1 N cur (nI (e + k)) tok val 0 fa row (nI (7 + 10 * W)) (nI e) (nI k) (b2i (anyB (fun i => VW (LF t e i)) k)) = mX7_readWord_b140 (nI n) tape p1 cur' (nI (e + m)) tok' val' 0 fa row' (nI (7 + 10 * W)) (nI e) (nI m) (b2i (anyB (fun i => VW (LF t e i)) m)) ∧ TOK n t (e + m) cur' tok' val' ∧ ∀ x, row' x = if 9 + 10 * W ≤ x ∧ x < 9 + 10 * W + m then LF t e (x - (9 + 10 * W)) else row0 x
  | _, _, _, _, _, _, _, _, _, 0, hN => absurd hN (by omega)
  | 0, k, row, cur, tok, val, hk, hT, h, N + 1, _ => by
    have ek : k = m := by omega
    subst ek
    obtain ⟨m8, -, hl⟩ := hm
    refine ⟨cur, tok, val, row, ?_, hT, h⟩
    rw [mX7_readWord_b65, if_pos rfl]
    by_cases g : tok = 2
    · rw [if_pos g]
      have : k = 8 := by
        rcases hl with q | q
        · exact q
        · rcases tok_let hT with ⟨z, -⟩ | ⟨-, z⟩
          · exact absurd z q
          · exact absurd g z
      rw [if_pos (show (8 : Int32) ≤ nI k from nI_le (a := 8) (by omega) (by omega))]
    · rw [if_neg g]
  | d + 1, k, row, cur, tok, val, hk, hT, h, N + 1, hN => by
    have hm' := hm
    obtain ⟨m8, hl, hz⟩ := hm
    have hlk := hl k (by omega)
    have hb := ht (e + k)
    have hlk1 := hlk.1
    have hlk2 := hlk.2.1
    rcases tok_let hT with ⟨-, g1, g2, g3⟩ | ⟨z, -⟩
    · obtain ⟨cur2, tok2, val2, x1, x2⟩ := r_next hn hta ht (by omega : e + (k + 1) ≤ n) (nI (e + k)) tok (nI (t (e + k)))
      have e9 : nI (7 + 10 * W) + (2 : Int32) + nI k = nI (9 + 10 * W + k) := by
        rw [zn_2, zn_add, zn_add]; congr 1; omega
      have ev : anyB (fun i => VW (LF t e i)) (k + 1) = (anyB (fun i => VW (LF t e i)) k || VW (LF t e k)) := rfl
      have el : nI (t (e + k)) - (97 : Int32) = LF t e k := by rw [zn_97, zn_sub hlk2]; rfl
      have ih := r_let_loop hn hta ht he hm' hW p1 fa row0 d (k + 1) (upd row (9 + 10 * W + k) (LF t e k)) cur2 tok2 val2 (by omega) x2 (by
        intro x
        rw [zn_up]
        by_cases g : x = 9 + 10 * W + k
        · rw [if_pos g, if_pos (by omega), show x - (9 + 10 * W) = k by omega]
        · rw [if_neg g, h]
          by_cases q : 9 + 10 * W ≤ x ∧ x < 9 + 10 * W + k
          · rw [if_pos q, if_pos (by omega)]
          · rw [if_neg q, if_neg (by omega)]) N (by omega)
      rw [ev] at ih
      have c1 : ¬ (nI (9 + 10 * W + k) < 0 ∨ 207 ≤ 9 + 10 * W + k) := by simp (disch := omega) only [↓reduceIte, Nat.reduceAdd, Nat.reduceMul, Nat.reduceSub, Nat.zero_add, zn_0, zn_1, zn_2, zn_3, zn_4, zn_5, zn_6, zn_7, zn_8, zn_9, zn_10, zn_16, zn_20, zn_23, zn_24, zn_25, zn_26, zn_40, zn_207, zn_4761, zn_99, zn_130, zn_lt_t, zn_lt_f, zn_le_t, zn_le_f, zn_eq_t, zn_eq_f, zn_ix, zn_cl, zq_le_f, zq_le_t, zq_lt_f, zq_lt_t, zn_add, zn_mul, zn_sub, or_false, false_or, or_self, true_or, or_true, and_true, true_and, and_false, false_and, not_true_eq_false, not_false_eq_true, if_true, if_false, os1, os2, os3, os4, os5, os6, os7, os8, os9, os10, os11, os12, os13, os14, os15, os16, os17, os18, os19, os20, os21, os22, os23, os24]
      rw [mX7_readWord_b65, if_pos rfl, if_pos g1, if_neg (show ¬ (8 : Int32) ≤ nI k from nI_ge (b := 8) (by omega) (by omega)), e9, zn_cl (a := 9 + 10 * W + k) (by omega), if_neg c1, g2, el, g3, r_vowel, os1]
      unfold mX7_readWord_b123 mX7_readWord_b128
      rw [show e + k + 1 = e + (k + 1) by omega, x1, os4, nI_1]
      cases hv : anyB (fun i => VW (LF t e i)) k
      · rw [hv, Bool.false_or] at ih
        rw [b2i_f, if_pos (show nI 0 = (0 : Int32) from rfl)]
        cases hw : VW (LF t e k)
        · rw [hw] at ih
          rw [b2i_f, if_pos (show nI 0 = (0 : Int32) from rfl)]; exact ih
        · rw [hw] at ih
          rw [b2i_t, if_neg (by decide)]; exact ih
      · rw [hv, Bool.true_or] at ih
        rw [b2i_t, if_neg (by decide)]; exact ih
    · exact absurd hlk z
theorem r_156 (taped : Int32) (tape : Nat → Int32) (cur st tok val f fa : Int32) (row : Nat → Int32) {W l : Nat} (hW : W < 20) (hl : l < 4) (x4 : Int32) : ∃ row', mX7_readWord_b156 taped tape (nI l) cur st tok val f fa row (nI (7 + 10 * W)) x4 = some (cur, st, tok, val, f, fa, row') ∧ ∀ x, row' x = if x = 3 + l then row (3 + l) + 1 else if x = 8 + 10 * W then x4 else row x := by
  have e8 : nI (7 + 10 * W) + (1 : Int32) = nI (8 + 10 * W) := by rw [nI_1]; congr 1; omega
  have e3 : (3 : Int32) + nI l = nI (3 + l) := by rw [zn_3, zn_add]
  have c1 : ¬ (nI (8 + 10 * W) < 0 ∨ 207 ≤ 8 + 10 * W) := by simp (disch := omega) only [↓reduceIte, Nat.reduceAdd, Nat.reduceMul, Nat.reduceSub, Nat.zero_add, zn_0, zn_1, zn_2, zn_3, zn_4, zn_5, zn_6, zn_7, zn_8, zn_9, zn_10, zn_16, zn_20, zn_23, zn_24, zn_25, zn_26, zn_40, zn_207, zn_4761, zn_99, zn_130, zn_lt_t, zn_lt_f, zn_le_t, zn_le_f, zn_eq_t, zn_eq_f, zn_ix, zn_cl, zq_le_f, zq_le_t, zq_lt_f, zq_lt_t, zn_add, zn_mul, zn_sub, or_false, false_or, or_self, true_or, or_true, and_true, true_and, and_false, false_and, not_true_eq_false, not_false_eq_true, if_true, if_false, os1, os2, os3, os4, os5, os6, os7, os8, os9, os10, os11, os12, os13, os14, os15, os16, os17, os18, os19, os20, os21, os22, os23, os24]
  have c2 : ¬ (nI (3 + l) < 0 ∨ 207 ≤ 3 + l) := by simp (disch := omega) only [↓reduceIte, Nat.reduceAdd, Nat.reduceMul, Nat.reduceSub, Nat.zero_add, zn_0, zn_1, zn_2, zn_3, zn_4, zn_5, zn_6, zn_7, zn_8, zn_9, zn_10, zn_16, zn_20, zn_23, zn_24, zn_25, zn_26, zn_40, zn_207, zn_4761, zn_99, zn_130, zn_lt_t, zn_lt_f, zn_le_t, zn_le_f, zn_eq_t, zn_eq_f, zn_ix, zn_cl, zq_le_f, zq_le_t, zq_lt_f, zq_lt_t, zn_add, zn_mul, zn_sub, or_false, false_or, or_self, true_or, or_true, and_true, true_and, and_false, false_and, not_true_eq_false, not_false_eq_true, if_true, if_false, os1, os2, os3, os4, os5, os6, os7, os8, os9, os10, os11, os12, os13, os14, os15, os16, os17, os18, os19, os20, os21, os22, os23, os24]
  refine ⟨upd (upd row (8 + 10 * W) x4) (3 + l) (row (3 + l) + 1), ?_, fun x => by rw [zn_up, zn_up]⟩
  unfold mX7_readWord_b156
  rw [e8, e3, zn_cl (by omega), zn_cl (by omega), if_neg c1, if_neg c2, if_neg c2, zn_up, if_neg (by omega)]
theorem r_word {n : Nat} {t : Nat → Nat} {tape : Nat → Int32} (hn : n ≤ 130) (hta : ∀ j, tape j = nI (t j)) (ht : ∀ j, t j < 256) {row : Nat → Int32} {cur st tok val fa v cur1 tok1 val1 : Int32} {e m W l : Nat} (he : e ≤ n) (hm : LE8 n t e m) (hW : W < 20) (hl : l < 4) (hws : mX7_wordsOf row = some (nI W)) (hnum : mX7_number (nI n) tape cur st tok val 0 fa 1 5 = some (v, cur1, nI e, tok1, val1, 0, fa)) (hk : TOK n t e cur1 tok1 val1) :
    (m = 0 → ∃ row', mX7_readWord (nI n) tape cur st tok val 0 fa row (nI l) = some (cur1, nI e, tok1, val1, 1, nI e, row')) ∧
    (1 ≤ m → anyB (fun i => VW (LF t e i)) m = false → ∃ cur' st' tok' val' row', mX7_readWord (nI n) tape cur st tok val 0 fa row (nI l) = some (cur', st', tok', val', 4, nI e, row')) ∧
    (1 ≤ m → anyB (fun i => VW (LF t e i)) m = true → ∃ cur' tok' val' row', mX7_readWord (nI n) tape cur st tok val 0 fa row (nI l) = some (cur', nI (e + m), tok', val', 0, fa, row') ∧ TOK n t (e + m) cur' tok' val' ∧ ∀ x, row' x = if x = 3 + l then row (3 + l) + 1 else if x = 8 + 10 * W then nI m else if 9 + 10 * W ≤ x ∧ x < 9 + 10 * W + m then LF t e (x - (9 + 10 * W)) else if x = 7 + 10 * W then v else row x) := by
  have m8 := hm.1
  have e7 : (7 : Int32) + (10 : Int32) * nI W = nI (7 + 10 * W) := by rw [zn_7, zn_10, zn_mul, zn_add]
  have c1 : ¬ (nI (7 + 10 * W) < 0 ∨ 207 ≤ 7 + 10 * W) := by simp (disch := omega) only [↓reduceIte, Nat.reduceAdd, Nat.reduceMul, Nat.reduceSub, Nat.zero_add, zn_0, zn_1, zn_2, zn_3, zn_4, zn_5, zn_6, zn_7, zn_8, zn_9, zn_10, zn_16, zn_20, zn_23, zn_24, zn_25, zn_26, zn_40, zn_207, zn_4761, zn_99, zn_130, zn_lt_t, zn_lt_f, zn_le_t, zn_le_f, zn_eq_t, zn_eq_f, zn_ix, zn_cl, zq_le_f, zq_le_t, zq_lt_f, zq_lt_t, zn_add, zn_mul, zn_sub, or_false, false_or, or_self, true_or, or_true, and_true, true_and, and_false, false_and, not_true_eq_false, not_false_eq_true, if_true, if_false, os1, os2, os3, os4, os5, os6, os7, os8, os9, os10, os11, os12, os13, os14, os15, os16, os17, os18, os19, os20, os21, os22, os23, os24]
  have pre : mX7_readWord (nI n) tape cur st tok val 0 fa row (nI l) = if tok1 = 2 then mX7_readWord_b65 (nI n) tape (nI l) FU cur1 (nI e) tok1 val1 0 fa (upd row (7 + 10 * W) v) (nI (7 + 10 * W)) (nI e) 0 0 else mX7_readWord_b65 (nI n) tape (nI l) FU cur1 (nI e) tok1 val1 1 (nI e) (upd row (7 + 10 * W) v) (nI (7 + 10 * W)) (nI e) 0 0 := by
    unfold mX7_readWord mX7_readWord_b0
    rw [if_pos (by decide), hws, os1, hnum, os7, e7, zn_cl (by omega), if_neg c1, if_pos rfl]
    rfl
  have lp : ∀ q : 1 ≤ m, _ := fun q => r_let_loop hn hta ht he hm hW (nI l) fa (upd row (7 + 10 * W) v) m 0 (upd row (7 + 10 * W) v) cur1 tok1 val1 (by omega) hk (fun x => by rw [if_neg (by omega)]) FU (zn_fu (by omega))
  have t2 : 1 ≤ m → tok1 = 2 := by
    intro q
    rcases tok_let hk with ⟨-, g, -⟩ | ⟨z, -⟩
    · exact g
    · exact absurd (hm.2.1 0 (by omega)) z
  refine ⟨fun h0 => ?_, fun h1 hv => ?_, fun h1 hv => ?_⟩
  · have hno : ¬ LTR n t e := by
      rcases hm.2.2 with q | q
      · omega
      · rw [h0] at q; exact q
    have nt : ¬ tok1 = 2 := by
      rcases tok_let hk with ⟨z, -⟩ | ⟨-, z⟩
      · exact absurd z hno
      · exact z
    obtain ⟨row', x1, -⟩ := r_156 (nI n) tape cur1 (nI e) tok1 val1 1 (nI e) (upd row (7 + 10 * W) v) hW hl 0
    refine ⟨row', ?_⟩
    rw [pre, if_neg nt, show FU = 999999 + 1 from rfl, mX7_readWord_b65, if_neg (by decide)]
    unfold mX7_readWord_b140
    rw [if_pos (by decide)]; exact x1
  · obtain ⟨cur', tok', val', row1, x1, x2, x3⟩ := lp h1
    obtain ⟨row', y1, -⟩ := r_156 (nI n) tape cur' (nI (e + m)) tok' val' 4 (nI e) row1 hW hl (nI m)
    refine ⟨cur', nI (e + m), tok', val', row', ?_⟩
    rw [pre, if_pos (t2 h1)]
    refine x1.trans ?_
    unfold mX7_readWord_b140
    rw [if_neg (show ¬ nI m ≤ (0 : Int32) from nI_ge (a := 0) (by omega) (by omega)), hv, if_pos (by rfl)]
    exact y1
  · obtain ⟨cur', tok', val', row1, x1, x2, x3⟩ := lp h1
    obtain ⟨row', y1, y2⟩ := r_156 (nI n) tape cur' (nI (e + m)) tok' val' 0 fa row1 hW hl (nI m)
    refine ⟨cur', tok', val', row', ?_, x2, fun x => ?_⟩
    · rw [pre, if_pos (t2 h1)]
      refine x1.trans ?_
      unfold mX7_readWord_b140
      rw [if_neg (show ¬ nI m ≤ (0 : Int32) from nI_ge (a := 0) (by omega) (by omega)), hv, if_neg (by decide)]
      exact y1
    · have e3 : row1 (3 + l) = row (3 + l) := by rw [x3, if_neg (by omega), zn_up, if_neg (by omega)]
      rw [y2, e3, x3, zn_up]
theorem r_word_f {taped : Int32} {tape row : Nat → Int32} {cur st tok val fa r cur1 st1 tok1 val1 f fa1 : Int32} {W l : Nat} (hf : ¬ f = 0) (hW : W < 20) (hl : l < 4) (hws : mX7_wordsOf row = some (nI W)) (hnum : mX7_number taped tape cur st tok val 0 fa 1 5 = some (r, cur1, st1, tok1, val1, f, fa1)) : ∃ row', mX7_readWord taped tape cur st tok val 0 fa row (nI l) = some (cur1, st1, tok1, val1, f, fa1, row') := by
  have e7 : (7 : Int32) + (10 : Int32) * nI W = nI (7 + 10 * W) := by rw [zn_7, zn_10, zn_mul, zn_add]
  have c1 : ¬ (nI (7 + 10 * W) < 0 ∨ 207 ≤ 7 + 10 * W) := by simp (disch := omega) only [↓reduceIte, Nat.reduceAdd, Nat.reduceMul, Nat.reduceSub, Nat.zero_add, zn_0, zn_1, zn_2, zn_3, zn_4, zn_5, zn_6, zn_7, zn_8, zn_9, zn_10, zn_16, zn_20, zn_23, zn_24, zn_25, zn_26, zn_40, zn_207, zn_4761, zn_99, zn_130, zn_lt_t, zn_lt_f, zn_le_t, zn_le_f, zn_eq_t, zn_eq_f, zn_ix, zn_cl, zq_le_f, zq_le_t, zq_lt_f, zq_lt_t, zn_add, zn_mul, zn_sub, or_false, false_or, or_self, true_or, or_true, and_true, true_and, and_false, false_and, not_true_eq_false, not_false_eq_true, if_true, if_false, os1, os2, os3, os4, os5, os6, os7, os8, os9, os10, os11, os12, os13, os14, os15, os16, os17, os18, os19, os20, os21, os22, os23, os24]
  obtain ⟨row', x1, -⟩ := r_156 taped tape cur1 st1 tok1 val1 f fa1 (upd row (7 + 10 * W) r) hW hl 0
  refine ⟨row', ?_⟩
  unfold mX7_readWord mX7_readWord_b0
  rw [if_pos (by decide), hws, os1, hnum, os7, e7, zn_cl (by omega), if_neg c1, if_neg hf, show FU = 999999 + 1 from rfl, mX7_readWord_b65, if_neg hf]
  unfold mX7_readWord_b140
  rw [if_pos (by decide)]; exact x1
