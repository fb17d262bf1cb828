-- uses: 501.auto 502.abs 503.line 504.word 505.bits 506.pop 507.tail 508.alike 509.lines 533.count 540.hear 542.spread 543.opt 544.judge 545.ref
/-! scans, by both -/
section
variable {P : Nat → Nat} {m foot feet s : Nat} {g : Nat → Nat} {sd : Nat → Int32}
theorem br_sum (hsd : ∀ j, j < P m → RM P (nI s) m j = false → sd (TT P (nI s) m j) = nI (g j)) (hg : ∀ j, g j ≤ 2) (places : Nat) (tu : Bool) : ∀ n, n ≤ P m → sumN (gI foot places tu sd) (TT P (nI s) m n) = sumN (fun j => if RM P (nI s) m j then 0 else gC foot places tu (TT P (nI s) m j) (g j)) n
  | 0, _ => rfl
  | n + 1, hn => by
    have ih := br_sum hsd hg places tu n (by omega)
    have e := TT_succ (P := P) (set := nI s) m n
    have hgn := hg n
    cases hr : RM P (nI s) m n
    · rw [hr] at e
      have h := hsd n (by omega) hr
      have e' : TT P (nI s) m (n + 1) = TT P (nI s) m n + 1 := e
      rw [e']
      show sumN (gI foot places tu sd) (TT P (nI s) m n) + gI foot places tu sd (TT P (nI s) m n) = sumN (fun j => if RM P (nI s) m j then 0 else gC foot places tu (TT P (nI s) m j) (g j)) n + (if RM P (nI s) m n then 0 else gC foot places tu (TT P (nI s) m n) (g n))
      rw [ih, hr, if_neg (by decide)]
      congr 1
      unfold gI gC
      rw [h]
      have k0 : (nI (g n) = 0) = (g n = 0) := zn_eq (b := 0) (by omega) (by omega)
      have k1 : (nI (g n) = 1) = (g n = 1) := zn_eq (b := 1) (by omega) (by omega)
      simp only [k0, k1]
    · rw [hr] at e
      have e' : TT P (nI s) m (n + 1) = TT P (nI s) m n := e
      rw [e', ih]
      show _ = sumN (fun j => if RM P (nI s) m j then 0 else gC foot places tu (TT P (nI s) m j) (g j)) n + (if RM P (nI s) m n then 0 else gC foot places tu (TT P (nI s) m n) (g n))
      rw [hr, if_pos rfl]
      rfl
theorem br_any (hsd : ∀ j, j < P m → RM P (nI s) m j = false → sd (TT P (nI s) m j) = nI (g j)) (hg : ∀ j, g j ≤ 2) (places : Nat) : ∀ n, n ≤ P m → anyB (bI places sd) (TT P (nI s) m n) = anyB (fun j => !RM P (nI s) m j && decide (places ≤ TT P (nI s) m j) && decide (g j = 1)) n
  | 0, _ => rfl
  | n + 1, hn => by
    have ih := br_any hsd hg places n (by omega)
    have e := TT_succ (P := P) (set := nI s) m n
    have hgn := hg n
    cases hr : RM P (nI s) m n
    · rw [hr] at e
      have h := hsd n (by omega) hr
      have e' : TT P (nI s) m (n + 1) = TT P (nI s) m n + 1 := e
      rw [e']
      show (anyB (bI places sd) (TT P (nI s) m n) || bI places sd (TT P (nI s) m n)) = (anyB (fun j => !RM P (nI s) m j && decide (places ≤ TT P (nI s) m j) && decide (g j = 1)) n || (!RM P (nI s) m n && decide (places ≤ TT P (nI s) m n) && decide (g n = 1)))
      rw [ih, hr]
      congr 1
      unfold bI
      rw [h]
      have k1 : (nI (g n) = 1) = (g n = 1) := zn_eq (b := 1) (by omega) (by omega)
      simp only [k1, Bool.not_false, Bool.true_and]
    · rw [hr] at e
      have e' : TT P (nI s) m (n + 1) = TT P (nI s) m n := e
      rw [e', ih]
      show _ = (anyB (fun j => !RM P (nI s) m j && decide (places ≤ TT P (nI s) m j) && decide (g j = 1)) n || (!RM P (nI s) m n && decide (places ≤ TT P (nI s) m n) && decide (g n = 1)))
      rw [hr]; simp
/-- the cost as the reference finds it -/
theorem r_plain (h : INC P m) (hm : m ≤ 5) (hS : P m ≤ 20) (hf : foot < 4) (hf1 : 1 ≤ feet) (hfe : feet ≤ 5) (hs : s < 2 ^ m) (hsd : ∀ j, j < P m → RM P (nI s) m j = false → sd (TT P (nI s) m j) = nI (g j)) (hg : ∀ j, g j ≤ 2) (tu : Bool) : ∃ pl, mX7_costOf (nI (TT P (nI s) m (P m))) sd (nI foot) (nI feet) (b2i tu) = some pl ∧ (if pl = -1000000 then (-1000000 : Int32) else pl + nI (cnt (B (nI s)) 32)) = eC (if INR (TT P (nI s) m (P m)) (feet * szF foot) foot then OC P m foot feet g (s, tu) else none) := by
  have hl := left_k h hs hm
  have hc := r_costOf (foot := foot) (feet := feet) (left := TT P (nI s) m (P m)) (tu := tu) (sd := sd) hf hf1 hfe (by omega)
  rw [br_sum hsd hg _ tu (P m) (Nat.le_refl _), br_any hsd hg _ (P m) (Nat.le_refl _)] at hc
  refine ⟨_, hc, ?_⟩
  cases hr : INR (TT P (nI s) m (P m)) (feet * szF foot) foot
  · simp [eC]
  · have hlt := OC_lt (g := g) h hm hS hf hfe (q := (s, tu)) hs
    unfold OC at hlt ⊢
    dsimp only at hlt ⊢
    cases ha : anyB (fun j => !RM P (nI s) m j && decide (feet * szF foot ≤ TT P (nI s) m j) && decide (g j = 1)) (P m)
    · rw [ha] at hlt
      simp only [Bool.false_eq_true, if_false, if_true]
      have hv := hlt _ rfl
      rw [if_neg (nI_none (by omega)), zn_add]
      show _ = nI _
      congr 1
      omega
    · simp [eC]
end
theorem r_together (row : Nat → Int32) (p2 p3 p4 p5 : Int32) (k24 : Int32 → Int32 → Int32 → (Nat → Int32) → (Nat → Int32) → (Nat → Int32) → Int32 → Int32 → Option (Int32 × (Int32) × (Int32) × (Int32) × (Nat → Int32) × (Nat → Int32) × (Nat → Int32))) (sts le wy : Int32) (f g sd : Nat → Int32) (x6 : Int32) (s : Nat) : ∀ (d i : Nat), i + d = 5 → ∀ n, d < n → mX7_scanOf_b71 row p2 p3 p4 p5 k24 n sts le wy f g sd x6 (nI s) (nI (cnt (B (nI s)) i)) (nI i) = mX7_scanOf_b71 row p2 p3 p4 p5 k24 1 sts le wy f g sd x6 (nI s) (nI (cnt (B (nI s)) 5)) (nI 5)
  | _, _, _, 0, hn => absurd hn (by omega)
  | 0, i, hi, n + 1, _ => by
    have e : i = 5 := by omega
    subst e
    rw [mX7_scanOf_b71, mX7_scanOf_b71]
    rw [if_pos (by decide), if_pos (by decide)]
  | d + 1, i, hi, n + 1, hn => by
    have ih := r_together row p2 p3 p4 p5 k24 sts le wy f g sd x6 s d (i + 1) (by omega) n (by omega)
    have c1 : ¬ (5 : Int32) ≤ nI i := nI_ge (b := 5) (by omega) (by omega)
    have e : nI (cnt (B (nI s)) i) + b2i (B (nI s) i) = nI (cnt (B (nI s)) (i + 1)) := by
      show _ = nI (cnt (B (nI s)) i + (B (nI s) i).toNat)
      cases B (nI s) i
      · rw [b2i_f, zn_add]; rfl
      · rw [b2i_t, zn_add]; rfl
    rw [← ih]
    conv => lhs; rw [mX7_scanOf_b71]
    rw [if_neg c1, B_bit _ (by omega), e, nI_1]
theorem r_two {lw : Option (Nat × Nat)} (hb : LB lw) {o1 o2 : Option Nat} (h1 : ∀ v, o1 = some v → v < 1000) (h2 : ∀ v, o2 = some v → v < 1000) {c pl tn : Int32} (e1 : (if pl = -1000000 then (-1000000 : Int32) else pl + c) = eC o1) (e2 : (if tn = -1000000 then (-1000000 : Int32) else tn + c) = eC o2) (row : Nat → Int32) (p2 p3 p4 p5 : Int32) (k24 : Int32 → Int32 → Int32 → (Nat → Int32) → (Nat → Int32) → (Nat → Int32) → Int32 → Int32 → Option (Int32 × (Int32) × (Int32) × (Int32) × (Nat → Int32) × (Nat → Int32) × (Nat → Int32))) (sts : Int32) (f g sd : Nat → Int32) (x6 x7 : Int32) : mX7_scanOf_b124 row p2 p3 p4 p5 k24 sts (eL lw) (eW lw) f g sd x6 x7 c pl tn = k24 sts (eL (stp (stp lw o1) o2)) (eW (stp (stp lw o1) o2)) f g sd x6 (x7 + 1) := by
  have hb2 := stp_LB hb h1
  have q1 := r_counts hb h1
  have q2 := r_counts hb2 h2
  rw [← e1] at q1
  rw [← e2] at q2
  rw [mX7_scanOf_b124]
  by_cases hp : pl = -1000000
  · rw [if_pos hp] at q1 ⊢
    rw [mX7_scanOf_b144, q1, os2]
    by_cases ht : tn = -1000000
    · rw [if_pos ht] at q2 ⊢
      rw [mX7_scanOf_b165, q2, os2]
    · rw [if_neg ht] at q2 ⊢
      rw [mX7_scanOf_b165, q2, os2]
  · rw [if_neg hp] at q1 ⊢
    rw [mX7_scanOf_b144, q1, os2]
    by_cases ht : tn = -1000000
    · rw [if_pos ht] at q2 ⊢
      rw [mX7_scanOf_b165, q2, os2]
    · rw [if_neg ht] at q2 ⊢
      rw [mX7_scanOf_b165, q2, os2]
section
variable {L : List Nat} {ln sy sn : Nat → Int32} {lt st : Nat → Nat → Int32} {A : AP} {row : Nat → Int32} {kinds sizes : Nat → Int32} {spelled : Nat → Nat}
theorem a_STEPS (ha : AOK L ln lt A) {l : Nat} (hl : l < aL A) : STEPS (aPs ln lt A l) (fun i => aSy ln lt A (aFst A l + i)) (aSz A l) := by
  obtain ⟨g1, g2, g3, g4, g5, g6⟩ := aok_l ha hl
  exact ⟨rfl, fun i hi => ⟨rfl, aok_s ha (by omega)⟩⟩
/-- all scans of a line -/
abbrev aSC (ln : Nat → Int32) (lt : Nat → Nat → Int32) (A : AP) (l foot feet : Nat) (g : Nat → Nat) : Option (Nat × Nat) := SCN (JN ln lt A l) (sG ln lt A l) (aSz A l) (aPs ln lt A l) foot feet g
theorem aSC_LB (ha : AOK L ln lt A) {l : Nat} (hl : l < aL A) {foot feet : Nat} (hf : foot < 4) (hfe : feet ≤ 5) (g : Nat → Nat) : LB (aSC ln lt A l foot feet g) := by
  obtain ⟨g1, g2, g3, g4, g5, g6⟩ := aok_l ha hl
  exact SCN_LB (STEPS_INC (a_STEPS ha hl)) g1 g2 (aPs_20 ha hl (Nat.le_refl _)) hf hfe
theorem r_sets_loop (h : PR ln lt A row) (ha : AOK L ln lt A) {l : Nat} (hl : l < aL A) {foot feet : Nat} (hf : foot < 4) (hf1 : 1 ≤ feet) (hfe : feet ≤ 5) (by_ : Int32) {f g : Nat → Int32} (hg : ∀ p, p < aSz A l → g p = nI (aSy ln lt A (aFst A l + p))) {sg : Nat → Nat} (hsg : ∀ j, sg j ≤ 2) (hff : ∀ p, p < aSz A l → ∀ q, q < aSy ln lt A (aFst A l + p) → f (4 * p + q) = nI (sg (aPs ln lt A l p + q))) {E : Nat} (hE : E < 1000) : ∀ (d s : Nat) (sts : Int32) (sd : Nat → Int32) (lw : Option (Nat × Nat)), s + d = 2 ^ (aSz A l - 1) → lw = ((oN (JN ln lt A l) (sG ln lt A l) (aSz A l) (aPs ln lt A l) foot feet s).map (OC (aPs ln lt A l) (aSz A l) foot feet sg)).foldl stp none → ∀ n, d < n → ∃ sts' sd', mX7_scanOf_b24 row (nI l) (nI foot) (nI feet) by_ n sts (eL lw) (eW lw) f g sd (nI E) (nI s) = some (eL (aSC ln lt A l foot feet sg), sts', eL (aSC ln lt A l foot feet sg), eW (aSC ln lt A l foot feet sg), f, g, sd')
  | _, _, _, _, _, _, _, 0, hn => absurd hn (by omega)
  | 0, s, sts, sd, lw, hs, hlw, n + 1, _ => by
    obtain ⟨g1, g2, g3, g4, g5, g6⟩ := aok_l ha hl
    have hrow : row (3 + l) = nI (aSz A l) := h.2.2.2.1 l (by omega)
    have h16 : 2 ^ (aSz A l - 1) ≤ 2 ^ 4 := Nat.pow_le_pow_right (by omega) (by omega)
    have e : s = 2 ^ (aSz A l - 1) := by omega
    subst e
    refine ⟨sts, sd, ?_⟩
    have el : lw = aSC ln lt A l foot feet sg := hlw
    rw [mX7_scanOf_b24, zn_3, zn_add, zn_cl (by omega), if_neg (by simp (disch := omega) only [↓reduceIte, Nat.reduceAdd, Nat.reduceMul, Nat.reduceSub, Nat.zero_add, zn_0, zn_1, zn_2, zn_3, zn_4, zn_5, zn_6, zn_7, zn_8, zn_9, zn_10, zn_16, zn_20, zn_23, zn_24, zn_25, zn_26, zn_40, zn_207, zn_4761, zn_99, zn_130, zn_lt_t, zn_lt_f, zn_le_t, zn_le_f, zn_eq_t, zn_eq_f, zn_ix, zn_cl, zq_le_f, zq_le_t, zq_lt_f, zq_lt_t, zn_add, zn_mul, zn_sub, or_false, false_or, or_self, true_or, or_true, and_true, true_and, and_false, false_and, not_true_eq_false, not_false_eq_true, if_true, if_false, os1, os2, os3, os4, os5, os6, os7, os8, os9, os10, os11, os12, os13, os14, os15, os16, os17, os18, os19, os20, os21, os22, os23, os24]), hrow, zn_1, zn_sub (by omega), ← zn_1, sh2 _ (by omega), if_pos (nI_le (Nat.le_refl _) (by omega)), el]
  | d + 1, s, sts, sd, lw, hs, hlw, n + 1, hn => by
    obtain ⟨g1, g2, g3, g4, g5, g6⟩ := aok_l ha hl
    have hrow : row (3 + l) = nI (aSz A l) := h.2.2.2.1 l (by omega)
    have h16 : 2 ^ (aSz A l - 1) ≤ 2 ^ 4 := Nat.pow_le_pow_right (by omega) (by omega)
    have hss : 2 ^ (aSz A l - 1) ≤ 2 ^ aSz A l := Nat.pow_le_pow_right (by omega) (by omega)
    have hS := a_STEPS ha hl
    have hI := STEPS_INC hS
    have h20 := aPs_20 (ln := ln) ha hl (Nat.le_refl _)
    have ci : ¬ (nI (3 + l) < 0 ∨ 207 ≤ 3 + l) := by simp (disch := omega) only [↓reduceIte, Nat.reduceAdd, Nat.reduceMul, Nat.reduceSub, Nat.zero_add, zn_0, zn_1, zn_2, zn_3, zn_4, zn_5, zn_6, zn_7, zn_8, zn_9, zn_10, zn_16, zn_20, zn_23, zn_24, zn_25, zn_26, zn_40, zn_207, zn_4761, zn_99, zn_130, zn_lt_t, zn_lt_f, zn_le_t, zn_le_f, zn_eq_t, zn_eq_f, zn_ix, zn_cl, zq_le_f, zq_le_t, zq_lt_f, zq_lt_t, zn_add, zn_mul, zn_sub, or_false, false_or, or_self, true_or, or_true, and_true, true_and, and_false, false_and, not_true_eq_false, not_false_eq_true, if_true, if_false, os1, os2, os3, os4, os5, os6, os7, os8, os9, os10, os11, os12, os13, os14, os15, os16, os17, os18, os19, os20, os21, os22, os23, os24]
    have hlb : LB lw := by
      rw [hlw]
      apply foldl_LB hI g2 h20 hf hfe
      · intro q hq
        have := oN_mem _ _ _ q hq
        omega
      · intro a b e; exact absurd e (by simp)
    have hon : oN (JN ln lt A l) (sG ln lt A l) (aSz A l) (aPs ln lt A l) foot feet (s + 1) = oN (JN ln lt A l) (sG ln lt A l) (aSz A l) (aPs ln lt A l) foot feet s ++ (if okS (JN ln lt A l) (sG ln lt A l) (aSz A l) s && INR (TT (aPs ln lt A l) (nI s) (aSz A l) (aPs ln lt A l (aSz A l))) (feet * szF foot) foot then (if 2 ≤ feet then [(s, false), (s, true)] else [(s, false)]) else []) := rfl
    have step : ∀ o1 o2, stp (stp lw o1) o2 = ((oN (JN ln lt A l) (sG ln lt A l) (aSz A l) (aPs ln lt A l) foot feet (s + 1)).map (OC (aPs ln lt A l) (aSz A l) foot feet sg)).foldl stp none → ∀ sts sd, ∃ sts' sd', mX7_scanOf_b24 row (nI l) (nI foot) (nI feet) by_ n sts (eL (stp (stp lw o1) o2)) (eW (stp (stp lw o1) o2)) f g sd (nI E) (nI (s + 1)) = some (eL (aSC ln lt A l foot feet sg), sts', eL (aSC ln lt A l foot feet sg), eW (aSC ln lt A l foot feet sg), f, g, sd') := by
      intro o1 o2 ho sts sd
      exact r_sets_loop h ha hl hf hf1 hfe by_ hg hsg hff hE d (s + 1) sts sd _ (by omega) ho n (by omega)
    rw [mX7_scanOf_b24, zn_3, zn_add, zn_cl (by omega), if_neg ci, hrow, zn_1, zn_sub (by omega), ← zn_1, sh2 _ (by omega), if_neg (nI_ge (by omega) (by omega)), if_neg (nI_pos (by omega)), r_mayAll h ha hl hg, os1]
    cases hk : okS (JN ln lt A l) (sG ln lt A l) (aSz A l) s
    · rw [hk] at hon
      simp only [Bool.false_and, Bool.false_eq_true, if_false, List.append_nil] at hon
      rw [b2i_f, if_pos (by rfl), nI_1]
      exact step none none (by rw [hon]; exact hlw) sts sd
    · rw [hk, Bool.true_and] at hon
      obtain ⟨sd', w1, w2⟩ := r_layScan (s := s) hS g2 h20 hg hff sts sd
      have ec : cnt (B (nI s)) 5 = cnt (B (nI s)) 32 := by
        have := cnt_end (B (nI s)) 5 27 (by
          intro j h1 h2
          have : s < 2 ^ j := Nat.lt_of_lt_of_le (by omega : s < 2 ^ 5) (Nat.pow_le_pow_right (by omega) h1)
          rw [B_nI, Nat.testBit_lt_two_pow this]
          simp)
        exact this.symm
      have rt := r_together row (nI l) (nI foot) (nI feet) by_ (mX7_scanOf_b24 row (nI l) (nI foot) (nI feet) by_ n) (nI (TT (aPs ln lt A l) (nI s) (aSz A l) (aPs ln lt A l (aSz A l)))) (eL lw) (eW lw) f g sd' (nI E) s 5 0 (by omega) FU (zn_fu (by omega))
      have rt' : mX7_scanOf_b71 row (nI l) (nI foot) (nI feet) by_ (mX7_scanOf_b24 row (nI l) (nI foot) (nI feet) by_ n) FU (nI (TT (aPs ln lt A l) (nI s) (aSz A l) (aPs ln lt A l (aSz A l)))) (eL lw) (eW lw) f g sd' (nI E) (nI s) 0 0 = _ := rt
      obtain ⟨pl, p1, p2⟩ := r_plain (foot := foot) (feet := feet) (s := s) (sd := sd') hI g2 h20 hf hf1 hfe (by omega) w2 hsg false
      obtain ⟨tn, t1, t2⟩ := r_plain (foot := foot) (feet := feet) (s := s) (sd := sd') hI g2 h20 hf hf1 hfe (by omega) w2 hsg true
      have p1' : mX7_costOf (nI (TT (aPs ln lt A l) (nI s) (aSz A l) (aPs ln lt A l (aSz A l)))) sd' (nI foot) (nI feet) 0 = some pl := p1
      have t1' : mX7_costOf (nI (TT (aPs ln lt A l) (nI s) (aSz A l) (aPs ln lt A l (aSz A l)))) sd' (nI foot) (nI feet) 1 = some tn := t1
      have lt1 := OC_lt (g := sg) hI g2 h20 hf hfe (q := (s, false)) (by dsimp only; omega)
      have lt2 := OC_lt (g := sg) hI g2 h20 hf hfe (q := (s, true)) (by dsimp only; omega)
      have ltn : ∀ v, (none : Option Nat) = some v → v < 1000 := fun v e => absurd e (by simp)
      rw [b2i_t, if_neg (by decide), if_neg ci, w1, os2, rt', mX7_scanOf_b71, if_pos (by decide), p1', os1, ec]
      cases hr : INR (TT (aPs ln lt A l) (nI s) (aSz A l) (aPs ln lt A l (aSz A l))) (feet * szF foot) foot
      · rw [hr] at hon p2 t2
        simp only [Bool.false_eq_true, if_false, List.append_nil] at hon p2 t2
        by_cases hft : feet ≤ 1
        · rw [if_pos (show nI feet ≤ (1 : Int32) from nI_le (b := 1) hft (by omega)), r_two hlb ltn ltn p2 (show (if (-1000000 : Int32) = -1000000 then (-1000000 : Int32) else -1000000 + nI (cnt (B (nI s)) 32)) = eC none from if_pos rfl), nI_1]
          exact step none none (by rw [hon]; exact hlw) _ _
        · rw [if_neg (show ¬ nI feet ≤ (1 : Int32) from nI_ge (a := 1) (by omega) (by omega)), t1', os1, r_two hlb ltn ltn p2 t2, nI_1]
          exact step none none (by rw [hon]; exact hlw) _ _
      · rw [hr] at hon p2 t2
        simp only [if_true] at hon p2 t2
        by_cases hft : feet ≤ 1
        · rw [if_neg (by omega)] at hon
          rw [if_pos (show nI feet ≤ (1 : Int32) from nI_le (b := 1) hft (by omega)), r_two hlb lt1 ltn p2 (show (if (-1000000 : Int32) = -1000000 then (-1000000 : Int32) else -1000000 + nI (cnt (B (nI s)) 32)) = eC none from if_pos rfl), nI_1]
          exact step _ none (by rw [hon, List.map_append, List.foldl_append, ← hlw]; rfl) _ _
        · rw [if_pos (by omega)] at hon
          rw [if_neg (show ¬ nI feet ≤ (1 : Int32) from nI_ge (a := 1) (by omega) (by omega)), t1', os1, r_two hlb lt1 lt2 p2 t2, nI_1]
          exact step _ _ (by rw [hon, List.map_append, List.foldl_append, ← hlw]; rfl) _ _
theorem r_scanOf (h : PR ln lt A row) (ha : AOK L ln lt A) {l : Nat} (hl : l < aL A) {foot feet : Nat} (hf : foot < 4) (hf1 : 1 ≤ feet) (hfe : feet ≤ 5) (by_ : Int32) (sts le wy : Int32) (f g sd : Nat → Int32) : ∃ sts' f' g' sd', mX7_scanOf row sts le wy f g sd (nI l) (nI foot) (nI feet) by_ = some (eL (aSC ln lt A l foot feet (SB by_ (aG ln lt A l))), sts', eL (aSC ln lt A l foot feet (SB by_ (aG ln lt A l))), eW (aSC ln lt A l foot feet (SB by_ (aG ln lt A l))), f', g', sd') := by
  obtain ⟨g1, g2, g3, g4, g5, g6⟩ := aok_l ha hl
  have h16 : 2 ^ (aSz A l - 1) ≤ 2 ^ 4 := Nat.pow_le_pow_right (by omega) (by omega)
  obtain ⟨f', g', q1, q2, q3⟩ := r_layLine h ha hl by_ f g
  have hE := cnt_le (gEi (aG ln lt A l)) (aPs ln lt A l (aSz A l))
  have h20 := aPs_20 (ln := ln) ha hl (Nat.le_refl _)
  obtain ⟨sts', sd', w⟩ := r_sets_loop h ha hl hf hf1 hfe by_ q2 (SB_le (fun j => LG_le l _ j) by_) q3 (E := cnt (gEi (aG ln lt A l)) (aPs ln lt A l (aSz A l))) (by omega) (2 ^ (aSz A l - 1)) 0 sts sd none (by omega) rfl FU (zn_fu (by omega))
  refine ⟨sts', f', g', sd', ?_⟩
  unfold mX7_scanOf mX7_scanOf_b0
  rw [q1, os3]
  exact w
theorem SB_as (g : Nat → Nat) : SB (-1) g = g := by
  funext j
  unfold SB
  rw [if_neg (fun q => q.2 (by decide))]
theorem c_leastBy (ha : AOK L ln lt A) {l : Nat} (hl : l < aL A) {foot feet : Nat} (hf : foot < 4) (hf1 : 1 ≤ feet) (hfe : feet ≤ 5) {la : Nat → Int32} (hla : ∀ k, k < aSz A l → la k = nI (aPs ln lt A l (k + 1) - 1)) (K le wy : Int32) (f1 f2 f3 f4 : Nat → Int32) : ∃ K' g1 g2 g3 g4, mX1_leastBy (nI (aSz A l)) (nI (aPs ln lt A l (aSz A l))) (nI (msk (gSt (aG ln lt A l)) (aPs ln lt A l (aSz A l)))) (nI (msk (gEi (aG ln lt A l)) (aPs ln lt A l (aSz A l)))) (nI (msk (JN ln lt A l) (aSz A l))) (nI (msk (sG ln lt A l) (aSz A l))) la K le wy f1 f2 f3 f4 (nI foot) (nI feet) = some (eL (aSC ln lt A l foot feet (aG ln lt A l)), K', eL (aSC ln lt A l foot feet (aG ln lt A l)), eW (aSC ln lt A l foot feet (aG ln lt A l)), g1, g2, g3, g4) := by
  obtain ⟨m1, m5, g3, g4, g5, g6⟩ := aok_l ha hl
  have hI := STEPS_INC (a_STEPS ha hl)
  have h20 := aPs_20 (ln := ln) ha hl (Nat.le_refl _)
  have hJ : JN ln lt A l (aSz A l - 1) = false := JN_last l (by omega)
  obtain ⟨g1, g2, g3, g4, q1, q2⟩ := c_fit (G := sG ln lt A l) hI m1 m5 h20 hla hf hf1 hfe hJ K f1 f2 f3 f4
  refine ⟨nI (oN (JN ln lt A l) (sG ln lt A l) (aSz A l) (aPs ln lt A l) foot feet (2 ^ aSz A l)).length, g1, g2, g3, g4, ?_⟩
  unfold mX1_leastBy mX1_leastBy_b0
  rw [q1, os5, c_judge hI m1 m5 h20 hf hfe hJ q2 (g := aG ln lt A l) ?_ ?_, os2]
  · intro j hj
    rw [B_msk _ (by omega)]
    rfl
  · intro j hj
    have hle := LG_le (ln := ln) (lt := lt) (A := A) l (aSz A l) j
    have h32 : j < 32 := by omega
    rw [B_not, B_or, B_msk _ (by omega), B_msk _ (by omega)]
    unfold gSt gEi
    have hc : aG ln lt A l j = 0 ∨ aG ln lt A l j = 1 ∨ aG ln lt A l j = 2 := by
      show LG ln lt A l (aSz A l) j = 0 ∨ LG ln lt A l (aSz A l) j = 1 ∨ LG ln lt A l (aSz A l) j = 2
      omega
    rcases hc with e | e | e <;> simp [e, hj, h32]
end
theorem st15 : Step15 RelW := by
  intro x_begun x_latestFault x_latestFinding rd_length rd_tape v_foot v_feet v_lines v_words v_sizes v_kinds v_spelled d_spelled i0_foot i0_feet i0_lines i0_words i0_sizes i0_kinds i0_spelled i1_foot i1_feet i1_lines i1_words i1_sizes i1_kinds i1_spelled ac_next ac_kept ac_sorts ac_firsts ac_seconds ac_takenKinds ac_takenSpellings er_words er_syllables er_strong er_either er_joins er_singles er_options er_least er_ways er_lastAt er_fees er_heavy er_light er_over x_bodies m_thrown m_status m_acts m_taped m_latest m_stands m_least m_ways m_traced m_lane m_many m_item m_poem m_was m_tape m_strengths m_sounds m_stand m_isKept m_kept m_trace x_lane x_rsz x_item L la sa ln sy sn lt st a1 a2 a3 a4 hR
  obtain ⟨hF, hG, hT, hW, hC, hZ⟩ := hR
  have hZ0 := hZ
  obtain ⟨hP, hD, hI0, hI1, A, ha, hpc, hpr, hA⟩ := hZ
  have hpc0 := hpc
  obtain ⟨p1, p2, p3, p4, hz, hc, hsp⟩ := hpc
  subst p1 p2 p3 p4
  replace hz : CZ A v_sizes := hz
  replace hc : CW A v_kinds v_spelled := hc
  obtain ⟨-, -, w20, l4⟩ := aok_sz ha
  have hin := in_i a4 0 1
  rw [show (0 : Int64).toInt = 0 from rfl, show (1 : Int64).toInt = 1 from rfl] at hin
  have h6 := metre6 a2 a3
  have h7 := metre7 a2 a3
  have e0 : (0 : Int32).toInt = 0 := rfl
  have e1 : (1 : Int32).toInt = 1 := rfl
  rcases rng a1 (aL A) (by omega) with ⟨l, hl, rfl⟩ | hn
  · have hl6 : mX2_hasLine (nI (aL A)) (nI l) = some (nI 1) := c_hl_t hl (by omega)
    have hl7 : mX7_isLine m_poem (nI l) = some (nI 1) := r_il_t hpr ha hl
    by_cases hm : (0 ≤ a2.toInt ∧ a2.toInt < 4) ∧ (1 ≤ a3.toInt ∧ a3.toInt ≤ 5)
    · rw [if_pos hm] at h6 h7
      obtain ⟨foot, hf, rfl⟩ := i32_nat (p := a2) (n := 4) hm.1.1 (by omega) (by omega)
      obtain ⟨feet, hfe, rfl⟩ := i32_nat (p := a3) (n := 6) (by omega) (by omega) (by omega)
      rw [nI_toInt (n := feet) (by omega)] at hm
      by_cases hv : 0 ≤ a4.toInt ∧ a4.toInt ≤ 1
      · rw [if_pos hv] at hin
        obtain ⟨la', c1, c2⟩ := c_hear hP ha hc hz hl er_words er_syllables er_strong er_either er_joins er_singles er_lastAt
        obtain ⟨K', g1, g2, g3, g4, c3⟩ := c_leastBy ha hl hf (by omega) (by omega : feet ≤ 5) c2 er_options er_least er_ways er_fees er_heavy er_light er_over
        obtain ⟨sts', f', g', sd', r1⟩ := r_scanOf hpr ha hl hf (by omega) (by omega : feet ≤ 5) (-1) m_stands m_least m_ways m_strengths m_sounds m_stand
        rw [SB_as] at r1
        have k1 : ¬ a4 < 0 := by rw [i32_lt]; omega
        have k2 : a4 ≤ 1 := by rw [i32_le]; omega
        by_cases k3 : a4 = 0
        · refine ⟨eL (aSC ln lt A l foot feet (aG ln lt A l)), nI (aSz A l), nI (aPs ln lt A l (aSz A l)), nI (msk (gSt (aG ln lt A l)) (aPs ln lt A l (aSz A l))), nI (msk (gEi (aG ln lt A l)) (aPs ln lt A l (aSz A l))), nI (msk (JN ln lt A l) (aSz A l)), nI (msk (sG ln lt A l) (aSz A l)), K', eL (aSC ln lt A l foot feet (aG ln lt A l)), eW (aSC ln lt A l foot feet (aG ln lt A l)), la', g1, g2, g3, g4, 0, sts', eL (aSC ln lt A l foot feet (aG ln lt A l)), eW (aSC ln lt A l foot feet (aG ln lt A l)), f', g', sd', ?_, ?_, hF, hG, hT, hW, hC, hZ0⟩
          · unfold mX6_scan mX6_scan_b0
            rw [hl6, os1, if_neg (by decide), h6, os1, if_neg (by decide), if_neg k1, if_pos k2, c1, os7, c3, os8, if_pos k3]
          · unfold mX7_scan mX7_scan_b0
            rw [hl7, os1, if_neg (by decide), h7, os1, if_neg (by decide), hin, os1, if_neg (by decide), r1, os7, if_pos k3]
        · refine ⟨eW (aSC ln lt A l foot feet (aG ln lt A l)), nI (aSz A l), nI (aPs ln lt A l (aSz A l)), nI (msk (gSt (aG ln lt A l)) (aPs ln lt A l (aSz A l))), nI (msk (gEi (aG ln lt A l)) (aPs ln lt A l (aSz A l))), nI (msk (JN ln lt A l) (aSz A l)), nI (msk (sG ln lt A l) (aSz A l)), K', eL (aSC ln lt A l foot feet (aG ln lt A l)), eW (aSC ln lt A l foot feet (aG ln lt A l)), la', g1, g2, g3, g4, 0, sts', eL (aSC ln lt A l foot feet (aG ln lt A l)), eW (aSC ln lt A l foot feet (aG ln lt A l)), f', g', sd', ?_, ?_, hF, hG, hT, hW, hC, hZ0⟩
          · unfold mX6_scan mX6_scan_b0
            rw [hl6, os1, if_neg (by decide), h6, os1, if_neg (by decide), if_neg k1, if_pos k2, c1, os7, c3, os8, if_neg k3]
          · unfold mX7_scan mX7_scan_b0
            rw [hl7, os1, if_neg (by decide), h7, os1, if_neg (by decide), hin, os1, if_neg (by decide), r1, os7, if_neg k3]
      · rw [if_neg hv] at hin
        refine ⟨-1000001, er_words, er_syllables, er_strong, er_either, er_joins, er_singles, er_options, er_least, er_ways, er_lastAt, er_fees, er_heavy, er_light, er_over, 0, m_stands, m_least, m_ways, m_strengths, m_sounds, m_stand, ?_, ?_, hF, hG, hT, hW, hC, hZ0⟩
        · unfold mX6_scan mX6_scan_b0
          rw [hl6, os1, if_neg (by decide), h6, os1, if_neg (by decide)]
          by_cases k1 : a4 < 0
          · rw [if_pos k1]
          · rw [if_neg k1, if_neg (by rw [i32_lt] at k1; rw [i32_le]; omega)]
        · unfold mX7_scan mX7_scan_b0
          rw [hl7, os1, if_neg (by decide), h7, os1, if_neg (by decide), hin]
          rfl
    · rw [if_neg hm] at h6 h7
      refine ⟨-1000001, er_words, er_syllables, er_strong, er_either, er_joins, er_singles, er_options, er_least, er_ways, er_lastAt, er_fees, er_heavy, er_light, er_over, 0, m_stands, m_least, m_ways, m_strengths, m_sounds, m_stand, ?_, ?_, hF, hG, hT, hW, hC, hZ0⟩
      · unfold mX6_scan mX6_scan_b0
        rw [hl6, os1, if_neg (by decide), h6]
        rfl
      · unfold mX7_scan mX7_scan_b0
        rw [hl7, os1, if_neg (by decide), h7]
        rfl
  · refine ⟨-1000001, er_words, er_syllables, er_strong, er_either, er_joins, er_singles, er_options, er_least, er_ways, er_lastAt, er_fees, er_heavy, er_light, er_over, 0, m_stands, m_least, m_ways, m_strengths, m_sounds, m_stand, ?_, ?_, hF, hG, hT, hW, hC, hZ0⟩
    · unfold mX6_scan mX6_scan_b0
      rw [c_hl_f hn (by omega)]; rfl
    · unfold mX7_scan mX7_scan_b0
      rw [r_il_f hpr ha hn]; rfl
