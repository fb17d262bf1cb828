-- uses: 553.draft
/-! drawn -/
section
variable {L : List Nat} {ln sy sn : Nat → Int32} {lt st : Nat → Nat → Int32} {A : AP} {row : Nat → Int32} {kinds sizes : Nat → Int32} {spelled : Nat → Nat}
theorem lehmer {X : Nat} (hX : X < 2147483647) : lN X * (16807 : Int64) - lN X * (16807 : Int64) / (2147483647 : Int64) * (2147483647 : Int64) = lN (X * 16807 % 2147483647) := by
  rw [show (16807 : Int64) = lN 16807 from rfl, show (2147483647 : Int64) = lN 2147483647 from rfl, lN_mul, pk_lRem (by omega) (by omega) (by omega)]
theorem drawW {Y W : Nat} (hY : Y < 2147483647) (h0 : 0 < W) (hW : W ≤ 20) : (lN Y - lN Y / (nI W).toInt64 * (nI W).toInt64).toInt32 = nI (Y % W) := by
  rw [nI_l (by omega), pk_lRem (by omega) h0 (by omega), lN_i]
theorem drawK {Y : Nat} (hY : Y < 2147483647) : (lN Y / (16 : Int64) - lN Y / (16 : Int64) / (5 : Int64) * (5 : Int64)).toInt32 = nI (Y / 16 % 5) := by
  rw [show (16 : Int64) = lN 16 from rfl, show (5 : Int64) = lN 5 from rfl, pk_lDiv (by omega) (by omega) (by omega), pk_lRem (by omega) (by omega) (by omega), lN_i]
theorem drawZ {W : Nat} (h0 : 0 < W) (hW : W ≤ 20) : ¬ (nI W).toInt64 = 0 := by
  rw [nI_l (by omega)]
  intro q
  have := (lN_eq (a := W) (b := 0) (by omega) (by omega)).mp q
  omega
/-- one draw -/
abbrev dS (A : AP) (Y : Nat) : AP := setK A (Y % aW A) (Y / 16 % 5 + 1)
def drw (ln : Nat → Int32) (lt : Nat → Nat → Int32) : Nat → AP → Nat → Nat → Nat → Nat × Nat
  | 0, _, _, s, o => (s, o)
  | d + 1, A, X, s, o => match lst ln lt (dS A (X * 16807 % 2147483647)) A.1 A.2.1 (aLn A (X * 16807 % 2147483647 % aW A)) with
    | none => drw ln lt d (dS A (X * 16807 % 2147483647)) (X * 16807 % 2147483647) s (o + 1)
    | some c => drw ln lt d (dS A (X * 16807 % 2147483647)) (X * 16807 % 2147483647) (s + c) o
theorem c_drawn_loop (hp : POOL L ln sy sn lt st) {p2 p3 : Int32} (o1 o2 o3 o4 : Int32) (o5 o6 : Nat → Int32) (o7 : Nat → Nat) {N : Nat} (hN : N ≤ 20) : ∀ (d i X s o : Nat) (A : AP) (dk : Nat → Int32) (w1 w2 w3 w4 w5 w6 w7 w8 w9 : Int32) (a1 a2 a3 a4 a5 : Nat → Int32), i + d = N → X < 2147483647 → AOK L ln lt A → 0 < aL A → CW A dk spelled → CZ A sizes → ∀ n, d < n → ∃ dk' x1 x2 x3 x4 x5 x6 x7 x8 x9 y1 y2 y3 y4 y5, mX6_drawn_b71 L ln sy sn lt o1 o2 o3 o4 o5 o6 o7 (nI N) p2 p3 n (nI A.1) (nI A.2.1) (nI (aL A)) (nI (aW A)) sizes dk spelled w1 w2 w3 w4 w5 w6 w7 w8 w9 a1 a2 a3 a4 a5 (lN X) (nI s) (nI o) (nI i) = some (if p3 = 0 then nI (drw ln lt d A X s o).1 else nI (drw ln lt d A X s o).2, nI A.1, nI A.2.1, nI (aL A), nI (aW A), sizes, dk', spelled, x1, x2, x3, x4, x5, x6, x7, x8, x9, y1, y2, y3, y4, y5)
  | _, _, _, _, _, _, _, _, _, _, _, _, _, _, _, _, _, _, _, _, _, _, _, _, _, _, _, 0, hn => absurd hn (by omega)
  | 0, i, X, s, o, A, dk, w1, w2, w3, w4, w5, w6, w7, w8, w9, a1, a2, a3, a4, a5, hi, hX, ha, h0, hc, hz, n + 1, _ => by
    refine ⟨dk, w1, w2, w3, w4, w5, w6, w7, w8, w9, a1, a2, a3, a4, a5, ?_⟩
    rw [mX6_drawn_b71, if_pos (nI_le (by omega) (by omega))]
    by_cases h3 : p3 = 0
    · rw [if_pos h3, if_pos h3]; rfl
    · rw [if_neg h3, if_neg h3]; rfl
  | d + 1, i, X, s, o, A, dk, w1, w2, w3, w4, w5, w6, w7, w8, w9, a1, a2, a3, a4, a5, hi, hX, ha, h0, hc, hz, n + 1, hn => by
    obtain ⟨-, -, w20, l4⟩ := aok_sz ha
    obtain ⟨g1, g2, g3, g4, g5, g6⟩ := aok_l ha h0
    have hW : 0 < aW A := by omega
    have hY : X * 16807 % 2147483647 < 2147483647 := Nat.mod_lt _ (by omega)
    have hle := lehmer hX
    generalize hYe : X * 16807 % 2147483647 = Y at *
    have hw : Y % aW A < aW A := Nat.mod_lt _ hW
    obtain ⟨hln, -, -⟩ := aLn_in ha hw
    have hf3 := ha.1
    have hf1 := ha.2.2.1 h0
    have hk5 : Y / 16 % 5 < 5 := Nat.mod_lt _ (by omega)
    have ha' := AOK_setK ha hw (k := Y / 16 % 5 + 1) (by omega)
    have hc' := CW_setK (k := Y / 16 % 5 + 1) (kinds := dk) (spelled := spelled) hw (fun v hv => ⟨fun _ => (hc v hv).1, (hc v hv).2⟩)
    obtain ⟨la', c1, c2⟩ := c_hear (A := dS A Y) (sizes := sizes) hp ha' hc' hz (l := aLn A (Y % aW A)) hln w1 w2 w3 w4 w5 w6 a1
    obtain ⟨K', g1, g2, g3, g4, c3⟩ := c_leastBy (A := dS A Y) ha' (l := aLn A (Y % aW A)) hln (by omega : A.1 < 4) hf1 ha.2.1 c2 w7 w8 w9 a2 a3 a4 a5
    have hel : eL (aSC ln lt (dS A Y) (aLn A (Y % aW A)) A.1 A.2.1 (aG ln lt (dS A Y) (aLn A (Y % aW A)))) = eC (lst ln lt (dS A Y) A.1 A.2.1 (aLn A (Y % aW A))) := eL_eC _
    have hs1 : mX6_leastOfDrawn L ln sy sn lt (nI A.1) (nI A.2.1) (nI (aL A)) (nI (aW A)) sizes spelled dk w1 w2 w3 w4 w5 w6 w7 w8 w9 a1 a2 a3 a4 a5 (lN Y) = some (eC (lst ln lt (dS A Y) A.1 A.2.1 (aLn A (Y % aW A))), upd dk (Y % aW A) (nI (Y / 16 % 5 + 1)), nI (aSz (dS A Y) (aLn A (Y % aW A))), nI (aPs ln lt (dS A Y) (aLn A (Y % aW A)) (aSz (dS A Y) (aLn A (Y % aW A)))), nI (msk (gSt (aG ln lt (dS A Y) (aLn A (Y % aW A)))) (aPs ln lt (dS A Y) (aLn A (Y % aW A)) (aSz (dS A Y) (aLn A (Y % aW A))))), nI (msk (gEi (aG ln lt (dS A Y) (aLn A (Y % aW A)))) (aPs ln lt (dS A Y) (aLn A (Y % aW A)) (aSz (dS A Y) (aLn A (Y % aW A))))), nI (msk (JN ln lt (dS A Y) (aLn A (Y % aW A))) (aSz (dS A Y) (aLn A (Y % aW A)))), nI (msk (sG ln lt (dS A Y) (aLn A (Y % aW A))) (aSz (dS A Y) (aLn A (Y % aW A)))), K', eL (aSC ln lt (dS A Y) (aLn A (Y % aW A)) A.1 A.2.1 (aG ln lt (dS A Y) (aLn A (Y % aW A)))), eW (aSC ln lt (dS A Y) (aLn A (Y % aW A)) A.1 A.2.1 (aG ln lt (dS A Y) (aLn A (Y % aW A)))), la', g1, g2, g3, g4) := by
      have k1 : ¬ (nI (Y % aW A) < 0 ∨ 20 ≤ Y % aW A) := by simp (disch := omega) only [↓reduceIte, Nat.reduceAdd, Nat.reduceMul, Nat.reduceSub, Nat.zero_add, zn_0, zn_1, zn_2, zn_3, zn_4, zn_5, zn_6, zn_7, zn_8, zn_9, zn_10, zn_16, zn_20, zn_23, zn_24, zn_25, zn_26, zn_40, zn_207, zn_4761, zn_99, zn_130, zn_lt_t, zn_lt_f, zn_le_t, zn_le_f, zn_eq_t, zn_eq_f, zn_ix, zn_cl, zq_le_f, zq_le_t, zq_lt_f, zq_lt_t, zn_add, zn_mul, zn_sub, or_false, false_or, or_self, true_or, or_true, and_true, true_and, and_false, false_and, not_true_eq_false, not_false_eq_true, if_true, if_false, os1, os2, os3, os4, os5, os6, os7, os8, os9, os10, os11, os12, os13, os14, os15, os16, os17, os18, os19, os20, os21, os22, os23, os24]
      unfold mX6_leastOfDrawn mX6_leastOfDrawn_b0
      rw [if_pos (show (1 : Int32) ≤ nI (aW A) from nI_le (a := 1) (by omega) (by omega)), if_neg (drawZ hW w20), drawW hY hW w20, drawK hY, c_hw_t hw (by omega), os1, if_neg (by decide), zn_cl (a := Y % aW A) (by omega), if_neg k1, c_lineOf ha hz hw, os1, nI_1, c1, os7, c3, os8, hel]
    have ek1 : ¬ nI N ≤ nI i := nI_ge (by omega) (by omega)
    have hWs : aW (dS A Y) = aW A := setK_W _ _
    rw [mX6_drawn_b71, if_neg ek1, hle, hs1, os16, nI_1]
    cases hc0 : lst ln lt (dS A Y) A.1 A.2.1 (aLn A (Y % aW A)) with
    | none =>
      have et : drw ln lt (d + 1) A X s o = drw ln lt d (dS A Y) Y s (o + 1) := by
        conv => lhs; unfold drw
        rw [hYe, hc0]
      have ih := c_drawn_loop hp (p2 := p2) (p3 := p3) o1 o2 o3 o4 o5 o6 o7 hN d (i + 1) Y s (o + 1) (dS A Y) (upd dk (Y % aW A) (nI (Y / 16 % 5 + 1))) (nI (aSz (dS A Y) (aLn A (Y % aW A)))) (nI (aPs ln lt (dS A Y) (aLn A (Y % aW A)) (aSz (dS A Y) (aLn A (Y % aW A))))) (nI (msk (gSt (aG ln lt (dS A Y) (aLn A (Y % aW A)))) (aPs ln lt (dS A Y) (aLn A (Y % aW A)) (aSz (dS A Y) (aLn A (Y % aW A)))))) (nI (msk (gEi (aG ln lt (dS A Y) (aLn A (Y % aW A)))) (aPs ln lt (dS A Y) (aLn A (Y % aW A)) (aSz (dS A Y) (aLn A (Y % aW A)))))) (nI (msk (JN ln lt (dS A Y) (aLn A (Y % aW A))) (aSz (dS A Y) (aLn A (Y % aW A))))) (nI (msk (sG ln lt (dS A Y) (aLn A (Y % aW A))) (aSz (dS A Y) (aLn A (Y % aW A))))) K' (eL (aSC ln lt (dS A Y) (aLn A (Y % aW A)) A.1 A.2.1 (aG ln lt (dS A Y) (aLn A (Y % aW A))))) (eW (aSC ln lt (dS A Y) (aLn A (Y % aW A)) A.1 A.2.1 (aG ln lt (dS A Y) (aLn A (Y % aW A))))) la' g1 g2 g3 g4 (by omega) hY ha' h0 hc' hz n (by omega)
      rw [hWs] at ih
      rw [if_pos (show eC none = -1000000 from rfl), et, nI_1]
      exact ih
    | some c =>
      have hlt := lst_lt ha' hln (by omega : A.1 < 4) ha.2.1 hc0
      have et : drw ln lt (d + 1) A X s o = drw ln lt d (dS A Y) Y (s + c) o := by
        conv => lhs; unfold drw
        rw [hYe, hc0]
      have ih := c_drawn_loop hp (p2 := p2) (p3 := p3) o1 o2 o3 o4 o5 o6 o7 hN d (i + 1) Y (s + c) o (dS A Y) (upd dk (Y % aW A) (nI (Y / 16 % 5 + 1))) (nI (aSz (dS A Y) (aLn A (Y % aW A)))) (nI (aPs ln lt (dS A Y) (aLn A (Y % aW A)) (aSz (dS A Y) (aLn A (Y % aW A))))) (nI (msk (gSt (aG ln lt (dS A Y) (aLn A (Y % aW A)))) (aPs ln lt (dS A Y) (aLn A (Y % aW A)) (aSz (dS A Y) (aLn A (Y % aW A)))))) (nI (msk (gEi (aG ln lt (dS A Y) (aLn A (Y % aW A)))) (aPs ln lt (dS A Y) (aLn A (Y % aW A)) (aSz (dS A Y) (aLn A (Y % aW A)))))) (nI (msk (JN ln lt (dS A Y) (aLn A (Y % aW A))) (aSz (dS A Y) (aLn A (Y % aW A))))) (nI (msk (sG ln lt (dS A Y) (aLn A (Y % aW A))) (aSz (dS A Y) (aLn A (Y % aW A))))) K' (eL (aSC ln lt (dS A Y) (aLn A (Y % aW A)) A.1 A.2.1 (aG ln lt (dS A Y) (aLn A (Y % aW A))))) (eW (aSC ln lt (dS A Y) (aLn A (Y % aW A)) A.1 A.2.1 (aG ln lt (dS A Y) (aLn A (Y % aW A))))) la' g1 g2 g3 g4 (by omega) hY ha' h0 hc' hz n (by omega)
      rw [hWs] at ih
      rw [if_neg (show ¬ eC (some c) = -1000000 from nI_none hlt), et, nI_1]
      rw [← zn_add s c] at ih
      exact ih
theorem r_drawn_loop {p2 p3 : Int32} (po : Nat → Int32) {N : Nat} (hN : N ≤ 20) : ∀ (d i X s o : Nat) (A : AP) (th : Nat → Int32) (z1 z2 z3 : Int32) (b1 b2 b3 : Nat → Int32), i + d = N → X < 2147483647 → AOK L ln lt A → 0 < aL A → PR ln lt A th → ∀ n, d < n → ∃ th' u1 u2 u3 v1 v2 v3, mX7_drawn_b70 po (nI N) p2 p3 n 0 z1 z2 z3 th b1 b2 b3 (lN X) (nI s) (nI o) (nI i) = some (if p3 = 0 then nI (drw ln lt d A X s o).1 else nI (drw ln lt d A X s o).2, 0, u1, u2, u3, th', v1, v2, v3)
  | _, _, _, _, _, _, _, _, _, _, _, _, _, _, _, _, _, _, 0, hn => absurd hn (by omega)
  | 0, i, X, s, o, A, th, z1, z2, z3, b1, b2, b3, hi, hX, ha, h0, hr, n + 1, _ => by
    refine ⟨th, z1, z2, z3, b1, b2, b3, ?_⟩
    rw [mX7_drawn_b70, if_pos (nI_le (by omega) (by omega))]
    by_cases h3 : p3 = 0
    · rw [if_pos h3, if_pos h3]; rfl
    · rw [if_neg h3, if_neg h3]; rfl
  | d + 1, i, X, s, o, A, th, z1, z2, z3, b1, b2, b3, hi, hX, ha, h0, hr, n + 1, hn => by
    obtain ⟨-, -, w20, l4⟩ := aok_sz ha
    obtain ⟨g1, g2, g3, g4, g5, g6⟩ := aok_l ha h0
    have hW : 0 < aW A := by omega
    have hY : X * 16807 % 2147483647 < 2147483647 := Nat.mod_lt _ (by omega)
    have hle := lehmer hX
    generalize hYe : X * 16807 % 2147483647 = Y at *
    have hw : Y % aW A < aW A := Nat.mod_lt _ hW
    obtain ⟨hln, -, -⟩ := aLn_in ha hw
    have hk5 : Y / 16 % 5 < 5 := Nat.mod_lt _ (by omega)
    have ha' := AOK_setK ha hw (k := Y / 16 % 5 + 1) (by omega)
    have hr' := PR_setK (k := Y / 16 % 5 + 1) hr hw
    obtain ⟨u1, u2, u3, v1, v2, v3, hb⟩ := r_byMetre hr' ha' (l := aLn A (Y % aW A)) hln z1 z2 z3 b1 b2 b3
    have hlo : mX7_lineOf (upd th (7 + 10 * (Y % aW A)) (nI (Y / 16 % 5 + 1))) (nI (Y % aW A)) = some (nI (aLn A (Y % aW A))) := r_lineOf hr' ha' (by rw [setK_W]; exact hw)
    have hb' : mX7_byMetre (upd th (7 + 10 * (Y % aW A)) (nI (Y / 16 % 5 + 1))) z1 z2 z3 b1 b2 b3 (nI (aLn A (Y % aW A))) = some (eC (lst ln lt (dS A Y) A.1 A.2.1 (aLn A (Y % aW A))), u1, u2, u3, v1, v2, v3) := hb
    have ek1 : ¬ nI N ≤ nI i := nI_ge (by omega) (by omega)
    have e7 : (7 : Int32) + (10 : Int32) * nI (Y % aW A) = nI (7 + 10 * (Y % aW A)) := by rw [zn_7, zn_10, zn_mul, zn_add]
    have k2 : ¬ (nI (7 + 10 * (Y % aW A)) < 0 ∨ 207 ≤ 7 + 10 * (Y % aW A)) := by simp (disch := omega) only [↓reduceIte, Nat.reduceAdd, Nat.reduceMul, Nat.reduceSub, Nat.zero_add, zn_0, zn_1, zn_2, zn_3, zn_4, zn_5, zn_6, zn_7, zn_8, zn_9, zn_10, zn_16, zn_20, zn_23, zn_24, zn_25, zn_26, zn_40, zn_207, zn_4761, zn_99, zn_130, zn_lt_t, zn_lt_f, zn_le_t, zn_le_f, zn_eq_t, zn_eq_f, zn_ix, zn_cl, zq_le_f, zq_le_t, zq_lt_f, zq_lt_t, zn_add, zn_mul, zn_sub, or_false, false_or, or_self, true_or, or_true, and_true, true_and, and_false, false_and, not_true_eq_false, not_false_eq_true, if_true, if_false, os1, os2, os3, os4, os5, os6, os7, os8, os9, os10, os11, os12, os13, os14, os15, os16, os17, os18, os19, os20, os21, os22, os23, os24]
    have e1 : (1 : Int32) + nI (Y / 16 % 5) = nI (Y / 16 % 5 + 1) := by rw [zn_1, zn_add, Nat.add_comm]
    rw [mX7_drawn_b70, if_neg ek1, hle, r_wordsOf hr ha, os1, if_neg (drawZ hW w20), drawW hY hW w20, drawK hY, e7, e1, zn_cl (by omega), if_neg k2, hlo, os1, hb', os7]
    cases hc0 : lst ln lt (dS A Y) A.1 A.2.1 (aLn A (Y % aW A)) with
    | none =>
      have et : drw ln lt (d + 1) A X s o = drw ln lt d (dS A Y) Y s (o + 1) := by
        conv => lhs; unfold drw
        rw [hYe, hc0]
      have ih := r_drawn_loop (p2 := p2) (p3 := p3) po hN d (i + 1) Y s (o + 1) (dS A Y) (upd th (7 + 10 * (Y % aW A)) (nI (Y / 16 % 5 + 1))) u1 u2 u3 v1 v2 v3 (by omega) hY ha' h0 hr' n (by omega)
      rw [if_pos (show eC none = -1000000 from rfl), mX7_drawn_b162, if_pos (show eC none = -1000000 from rfl), et, nI_1, nI_1, Int32.add_zero]
      exact ih
    | some c =>
      have hlt := lst_lt ha' hln (by have := ha.1; omega : A.1 < 4) ha.2.1 hc0
      have et : drw ln lt (d + 1) A X s o = drw ln lt d (dS A Y) Y (s + c) o := by
        conv => lhs; unfold drw
        rw [hYe, hc0]
      have ih := r_drawn_loop (p2 := p2) (p3 := p3) po hN d (i + 1) Y (s + c) o (dS A Y) (upd th (7 + 10 * (Y % aW A)) (nI (Y / 16 % 5 + 1))) u1 u2 u3 v1 v2 v3 (by omega) hY ha' h0 hr' n (by omega)
      have hne : ¬ eC (some c) = -1000000 := nI_none hlt
      rw [if_neg hne, mX7_drawn_b162, if_neg hne, et, nI_1, Int32.add_zero]
      rw [← zn_add s c] at ih
      exact ih
end
theorem st23 : Step23 RelW := by
  intro x_begun x_latestFault x_latestFinding rd_length rd_tape v_foot v_feet v_lines v_words v_sizes v_kinds v_spelled d_foot d_feet d_lines d_words d_sizes d_kinds d_spelled i0_foot i0_feet i0_lines i0_words i0_sizes i0_kinds i0_spelled i1_foot i1_feet i1_lines i1_words i1_sizes i1_kinds i1_spelled ac_next ac_kept ac_sorts ac_firsts ac_seconds ac_takenKinds ac_takenSpellings er_words er_syllables er_strong er_either er_joins er_singles er_options er_least er_ways er_lastAt er_fees er_heavy er_light er_over x_bodies m_thrown m_status m_acts m_taped m_latest m_stands m_least m_ways m_traced m_lane m_many m_item m_poem m_then m_was m_tape m_strengths m_sounds m_stand m_isKept m_kept m_trace x_lane x_rsz x_item L la sa ln sy sn lt st a1 a2 a3 hR
  obtain ⟨hF, hG, hT, hW, hC, hZ⟩ := hR
  have hZ0 := hZ
  obtain ⟨hP, hD, hI0, hI1, A, ha, hpc, hpr, hA⟩ := hZ
  have hpc0 := hpc
  obtain ⟨p1, p2, p3, p4, hz, hc, hsp⟩ := hpc
  subst p1 p2 p3 p4
  replace hz : CZ A v_sizes := hz
  replace hc : CW A v_kinds v_spelled := hc
  obtain ⟨-, -, w20, l4⟩ := aok_sz ha
  have hth := r_there hpr ha
  have hin1 := in_i a1 0 20
  have hin2 := in_i a2 1 999999
  have hin3 := in_i a3 0 1
  rw [show (0 : Int64).toInt = 0 from rfl, show (20 : Int64).toInt = 20 from rfl] at hin1
  rw [show (1 : Int64).toInt = 1 from rfl, show (999999 : Int64).toInt = 999999 from rfl] at hin2
  rw [show (0 : Int64).toInt = 0 from rfl, show (1 : Int64).toInt = 1 from rfl] at hin3
  have e0 : (0 : Int32).toInt = 0 := rfl
  have e1 : (1 : Int32).toInt = 1 := rfl
  have e20 : (20 : Int32).toInt = 20 := rfl
  have e9 : (999999 : Int32).toInt = 999999 := rfl
  by_cases h0 : aL A = 0
  · rw [if_pos h0] at hth
    refine ⟨-1000002, d_foot, d_feet, d_lines, d_words, d_sizes, d_kinds, d_spelled, er_words, er_syllables, er_strong, er_either, er_joins, er_singles, er_options, er_least, er_ways, er_lastAt, er_fees, er_heavy, er_light, er_over, 0, m_stands, m_least, m_ways, m_then, m_strengths, m_sounds, m_stand, ?_, ?_, hF, hG, hT, hW, hC, hZ0⟩
    · unfold mX6_drawn mX6_drawn_b0
      rw [h0, if_pos (by rfl)]
    · unfold mX7_drawn mX7_drawn_b0
      rw [hth]
      rfl
  rw [if_neg h0] at hth
  have k0 : ¬ nI (aL A) = 0 := nI_ne0 (by omega) (by omega)
  by_cases hv : (0 ≤ a1.toInt ∧ a1.toInt ≤ 20) ∧ (1 ≤ a2.toInt ∧ a2.toInt ≤ 999999) ∧ (0 ≤ a3.toInt ∧ a3.toInt ≤ 1)
  · obtain ⟨v1, v2, v3⟩ := hv
    rw [if_pos v1] at hin1
    rw [if_pos v2] at hin2
    rw [if_pos v3] at hin3
    obtain ⟨N, hN, rfl⟩ := i32_nat (p := a1) (n := 21) (by omega) (by omega) (by omega)
    obtain ⟨X, hX, rfl⟩ := i32_nat (p := a2) (n := 1000000) (by omega) (by omega) (by omega)
    have k1 : ¬ nI N < 0 := nI_pos (by omega)
    have k2 : ¬ (20 : Int32) < nI N := nI_nlt (a := 20) (by omega) (by omega)
    have k3 : ¬ nI X < (1 : Int32) := by rw [i32_lt]; omega
    have k4 : ¬ (999999 : Int32) < nI X := by rw [i32_lt]; omega
    have k5 : ¬ a3 < 0 := by rw [i32_lt]; omega
    have k6 : a3 ≤ 1 := by rw [i32_le]; omega
    obtain ⟨z', kd', sp', b1, b2, b3⟩ := c_becomeAs (sizes := v_sizes) (kinds := v_kinds) hsp (nI A.1) (nI A.2.1) (nI (aL A)) (nI (aW A)) d_foot d_feet d_lines d_words d_sizes d_kinds d_spelled
    have hz' : CZ A z' := fun l hl => by rw [b2 l (by omega)]; exact hz l hl
    have hc' : CW A kd' sp' := fun u hu => by
      rw [(b3 u (by omega)).1, (b3 u (by omega)).2]
      exact hc u hu
    obtain ⟨th', t1, t2⟩ := r_layThen (row := m_poem) m_then
    obtain ⟨dk', x1, x2, x3, x4, x5, x6, x7, x8, x9, y1, y2, y3, y4, y5, hx⟩ := c_drawn_loop (p2 := nI X) (p3 := a3) (sizes := z') (spelled := sp') hP (nI A.1) (nI A.2.1) (nI (aL A)) (nI (aW A)) v_sizes v_kinds v_spelled (by omega : N ≤ 20) N 0 X 0 0 A kd' er_words er_syllables er_strong er_either er_joins er_singles er_options er_least er_ways er_lastAt er_fees er_heavy er_light er_over (by omega) (by omega) ha (by omega) hc' hz' FU (zn_fu (by omega))
    obtain ⟨th2, u1, u2, u3, q1, q2, q3, hm⟩ := r_drawn_loop (L := L) (ln := ln) (lt := lt) (p2 := nI X) (p3 := a3) m_poem (by omega : N ≤ 20) N 0 X 0 0 A th' m_stands m_least m_ways m_strengths m_sounds m_stand (by omega) (by omega) ha (by omega) (PR_congr hpr ha t2) FU (zn_fu (by omega))
    have el : (nI X).toInt64 = lN X := nI_l (by omega)
    refine ⟨if a3 = 0 then nI (drw ln lt N A X 0 0).1 else nI (drw ln lt N A X 0 0).2, nI A.1, nI A.2.1, nI (aL A), nI (aW A), z', dk', sp', x1, x2, x3, x4, x5, x6, x7, x8, x9, y1, y2, y3, y4, y5, 0, u1, u2, u3, th2, q1, q2, q3, ?_, ?_, hF, hG, hT, hW, hC, hP, ?_, hI0, hI1, A, ha, hpc0, hpr, hA⟩
    · unfold mX6_drawn mX6_drawn_b0
      rw [if_neg k0, if_neg k1, if_neg k2, if_neg k3, if_neg k4, if_neg k5, if_pos k6, b1, os7, el]
      exact hx
    · unfold mX7_drawn mX7_drawn_b0
      rw [hth, os1, if_neg (by decide), hin1, os1, if_neg (by decide), hin2, os1, if_neg (by decide), hin3, os1, if_neg (by decide), t1, os1, el]
      exact hm
    · intro j hj
      rw [(b3 j hj).2]; exact hsp j hj
  · refine ⟨-1000001, d_foot, d_feet, d_lines, d_words, d_sizes, d_kinds, d_spelled, er_words, er_syllables, er_strong, er_either, er_joins, er_singles, er_options, er_least, er_ways, er_lastAt, er_fees, er_heavy, er_light, er_over, 0, m_stands, m_least, m_ways, m_then, m_strengths, m_sounds, m_stand, ?_, ?_, hF, hG, hT, hW, hC, hZ0⟩
    · unfold mX6_drawn mX6_drawn_b0
      rw [if_neg k0]
      by_cases k1 : a1 < 0
      · rw [if_pos k1]
      · rw [if_neg k1]
        by_cases k2 : (20 : Int32) < a1
        · rw [if_pos k2]
        · rw [if_neg k2]
          by_cases k3 : a2 < (1 : Int32)
          · rw [if_pos k3]
          · rw [if_neg k3]
            by_cases k4 : (999999 : Int32) < a2
            · rw [if_pos k4]
            · rw [if_neg k4]
              by_cases k5 : a3 < 0
              · rw [if_pos k5]
              · rw [if_neg k5, if_neg]
                rw [i32_lt] at k1 k2 k3 k4 k5
                rw [i32_le]; omega
    · unfold mX7_drawn mX7_drawn_b0
      rw [hth, os1, if_neg (by decide), hin1, os1]
      by_cases g1 : 0 ≤ a1.toInt ∧ a1.toInt ≤ 20
      · rw [if_pos g1, if_neg (by decide), hin2, os1]
        by_cases g2 : 1 ≤ a2.toInt ∧ a2.toInt ≤ 999999
        · rw [if_pos g2, if_neg (by decide), hin3, os1]
          rw [if_neg (fun g3 => hv ⟨g1, g2, g3⟩), if_pos rfl]
        · rw [if_neg g2, if_pos rfl]
      · rw [if_neg g1, if_pos rfl]
