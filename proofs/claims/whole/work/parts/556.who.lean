-- uses: 553.draft
/-! who -/
section
variable {L : List Nat} {ln sy sn : Nat → Int32} {lt st : Nat → Nat → Int32} {A : AP} {row : Nat → Int32} {kinds sizes : Nat → Int32} {spelled : Nat → Nat}
/-- another metre -/
def setM (A : AP) (f e : Nat) : AP := (f, e, A.2.2.1, A.2.2.2)
theorem aFst_met (f e : Nat) : ∀ l, aFst (setM A f e) l = aFst A l
  | 0 => rfl
  | l + 1 => by
    show aFst (setM A f e) l + aSz A l = aFst A l + aSz A l
    rw [aFst_met f e l]
theorem aSy_met (f e w : Nat) : aSy ln lt (setM A f e) w = aSy ln lt A w := rfl
theorem aPs_met (f e l : Nat) : ∀ k, aPs ln lt (setM A f e) l k = aPs ln lt A l k
  | 0 => rfl
  | k + 1 => by
    show aPs ln lt (setM A f e) l k + aSy ln lt A (aFst (setM A f e) l + k) = aPs ln lt A l k + aSy ln lt A (aFst A l + k)
    rw [aPs_met f e l k, aFst_met]
theorem LG_met (f e l : Nat) : ∀ n j, LG ln lt (setM A f e) l n j = LG ln lt A l n j
  | 0, _ => rfl
  | n + 1, j => by
    show (if j < aPs ln lt (setM A f e) l n then LG ln lt (setM A f e) l n j else STR (aKd A (aFst (setM A f e) l + n)) (aSy ln lt A (aFst (setM A f e) l + n)) (j - aPs ln lt (setM A f e) l n)) = (if j < aPs ln lt A l n then LG ln lt A l n j else STR (aKd A (aFst A l + n)) (aSy ln lt A (aFst A l + n)) (j - aPs ln lt A l n))
    rw [aPs_met, LG_met f e l n j, aFst_met]
theorem JN_met (f e l : Nat) : JN ln lt (setM A f e) l = JN ln lt A l := by
  funext i
  show (decide (i + 1 < aSz A l) && EV (lt (aQ A (aFst (setM A f e) l + i))) (aN ln A (aFst (setM A f e) l + i)) && VW (lt (aQ A (aFst (setM A f e) l + i + 1)) 0)) = (decide (i + 1 < aSz A l) && EV (lt (aQ A (aFst A l + i))) (aN ln A (aFst A l + i)) && VW (lt (aQ A (aFst A l + i + 1)) 0))
  rw [aFst_met]
theorem sG_met (f e l : Nat) : sG ln lt (setM A f e) l = sG ln lt A l := by
  funext i
  show decide (aSy ln lt A (aFst (setM A f e) l + i) = 1) = decide (aSy ln lt A (aFst A l + i) = 1)
  rw [aFst_met]
theorem lst_met (f e foot feet l : Nat) : lst ln lt (setM A f e) foot feet l = lst ln lt A foot feet l := by
  have h1 : aPs ln lt (setM A f e) l = aPs ln lt A l := funext (aPs_met f e l)
  have h2 : aG ln lt (setM A f e) l = aG ln lt A l := funext (fun j => LG_met f e l (aSz A l) j)
  unfold lst aSC
  rw [JN_met, sG_met, h1, h2]
  rfl
theorem AOK_met (ha : AOK L ln lt A) {f e : Nat} (hf : f ≤ 3) (he : 1 ≤ e ∧ e ≤ 5) : AOK L ln lt (setM A f e) := by
  obtain ⟨k1, k2, k3, k4, k5, k6, k7⟩ := ha
  exact ⟨hf, he.2, fun _ => he.1, k4, k5, k6, k7⟩
theorem PR_feet (h : PR ln lt A row) (e : Nat) : PR ln lt (setM A A.1 e) (upd row 2 (nI e)) := by
  obtain ⟨k1, k2, k3, k4, k5⟩ := h
  refine ⟨?_, ?_, ?_, fun l hl => ?_, fun v hv => ?_⟩
  · rw [zn_up, if_neg (by omega)]; exact k1
  · rw [zn_up, if_neg (by omega)]; exact k2
  · rw [zn_up, if_pos rfl]; rfl
  · rw [zn_up, if_neg (by omega)]; exact k4 l hl
  · obtain ⟨m1, m2, m3⟩ := k5 v hv
    refine ⟨?_, ?_, fun i hi q => ?_⟩
    · rw [zn_up, if_neg (by omega)]; exact m1
    · rw [zn_up, if_neg (by omega)]; exact m2
    · rw [zn_up, if_neg (by omega)]; exact m3 i hi q
theorem PR_foot (h : PR ln lt A row) (f : Nat) : PR ln lt (setM A f A.2.1) (upd row 1 (nI f)) := by
  obtain ⟨k1, k2, k3, k4, k5⟩ := h
  refine ⟨?_, ?_, ?_, fun l hl => ?_, fun v hv => ?_⟩
  · rw [zn_up, if_neg (by omega)]; exact k1
  · rw [zn_up, if_pos rfl]; rfl
  · rw [zn_up, if_neg (by omega)]; exact k3
  · rw [zn_up, if_neg (by omega)]; exact k4 l hl
  · obtain ⟨m1, m2, m3⟩ := k5 v hv
    refine ⟨?_, ?_, fun i hi q => ?_⟩
    · rw [zn_up, if_neg (by omega)]; exact m1
    · rw [zn_up, if_neg (by omega)]; exact m2
    · rw [zn_up, if_neg (by omega)]; exact m3 i hi q
def tlC (c : Option Nat) : Int32 := match c with | none => -1 | some v => nI v
/-- whether lines cost what is told -/
def asT (s : Nat → Option Nat) (it : Nat → Int32) (i : Nat) : Nat → Bool := allB (fun l => decide (it (i + l) = tlC (s l)))
theorem allB_no {f : Nat → Bool} {n i : Nat} (hi : i < n) (h : f i = false) : allB f n = false := by
  cases hb : allB f n
  · rfl
  · have := (allB_iff f n).mp hb i hi
    rw [h] at this; exact absurd this (by decide)
theorem asT_congr {s t : Nat → Option Nat} (it : Nat → Int32) (i : Nat) : ∀ n, (∀ l, l < n → s l = t l) → asT s it i n = asT t it i n
  | 0, _ => rfl
  | n + 1, h => by
    show (asT s it i n && decide (it (i + n) = tlC (s n))) = (asT t it i n && decide (it (i + n) = tlC (t n)))
    rw [asT_congr it i n (fun l hl => h l (by omega)), h n (by omega)]
theorem c_told_loop (hp : POOL L ln sy sn lt st) (ha : AOK L ln lt A) (hc : CW A kinds spelled) (hz : CZ A sizes) {foot feet : Nat} (hf : foot < 4) (hf1 : 1 ≤ feet) (hfe : feet ≤ 5) (sz : Int32) (it : Nat → Int32) {i : Nat} (hi : i + aL A ≤ 40) : ∀ (d l : Nat) (w1 w2 w3 w4 w5 w6 w7 w8 w9 : Int32) (a1 a2 a3 a4 a5 : Nat → Int32), l + d = aL A → asT (lst ln lt A foot feet) it i l = true → ∀ n, d < n → ∃ x1 x2 x3 x4 x5 x6 x7 x8 x9 y1 y2 y3 y4 y5, mX6_isAsTold_b19 L ln sy sn lt (nI (aL A)) sizes kinds spelled sz it (nI foot) (nI feet) (nI i) n w1 w2 w3 w4 w5 w6 w7 w8 w9 a1 a2 a3 a4 a5 (nI l) = some (b2i (asT (lst ln lt A foot feet) it i (aL A)), x1, x2, x3, x4, x5, x6, x7, x8, x9, y1, y2, y3, y4, y5)
  | _, _, _, _, _, _, _, _, _, _, _, _, _, _, _, _, _, _, 0, hn => absurd hn (by omega)
  | 0, l, w1, w2, w3, w4, w5, w6, w7, w8, w9, a1, a2, a3, a4, a5, hl, has, n + 1, _ => by
    obtain ⟨-, -, w20, l4⟩ := aok_sz ha
    refine ⟨w1, w2, w3, w4, w5, w6, w7, w8, w9, a1, a2, a3, a4, a5, ?_⟩
    have e : l = aL A := by omega
    subst e
    rw [mX6_isAsTold_b19, if_pos (nI_le (Nat.le_refl _) (by omega)), has]
    rfl
  | d + 1, l, w1, w2, w3, w4, w5, w6, w7, w8, w9, a1, a2, a3, a4, a5, hl, has, n + 1, hn => by
    obtain ⟨-, -, w20, l4⟩ := aok_sz ha
    have hll : l < aL A := by omega
    obtain ⟨la', c1, c2⟩ := c_hear hp ha hc hz hll w1 w2 w3 w4 w5 w6 a1
    obtain ⟨K', g1, g2, g3, g4, c3⟩ := c_leastBy ha hll hf hf1 hfe c2 w7 w8 w9 a2 a3 a4 a5
    have hel : eL (aSC ln lt A l foot feet (aG ln lt A l)) = eC (lst ln lt A foot feet l) := eL_eC _
    have ci : ¬ (nI (i + l) < 0 ∨ 40 ≤ i + l) := by simp (disch := omega) only [↓reduceIte, Nat.reduceAdd, Nat.reduceMul, Nat.reduceSub, Nat.zero_add, zn_0, zn_1, zn_2, zn_3, zn_4, zn_5, zn_6, zn_7, zn_8, zn_9, zn_10, zn_16, zn_20, zn_23, zn_24, zn_25, zn_26, zn_40, zn_207, zn_4761, zn_99, zn_130, zn_lt_t, zn_lt_f, zn_le_t, zn_le_f, zn_eq_t, zn_eq_f, zn_ix, zn_cl, zq_le_f, zq_le_t, zq_lt_f, zq_lt_t, zn_add, zn_mul, zn_sub, or_false, false_or, or_self, true_or, or_true, and_true, true_and, and_false, false_and, not_true_eq_false, not_false_eq_true, if_true, if_false, os1, os2, os3, os4, os5, os6, os7, os8, os9, os10, os11, os12, os13, os14, os15, os16, os17, os18, os19, os20, os21, os22, os23, os24]
    have key : ∀ v : Int32, v = tlC (lst ln lt A foot feet l) → ∃ x1 x2 x3 x4 x5 x6 x7 x8 x9 y1 y2 y3 y4 y5, mX6_isAsTold_b73 L ln sy sn lt (nI (aL A)) sizes kinds spelled sz it (nI foot) (nI feet) (nI i) (mX6_isAsTold_b19 L ln sy sn lt (nI (aL A)) sizes kinds spelled sz it (nI foot) (nI feet) (nI i) n) (nI (aSz A l)) (nI (aPs ln lt A l (aSz A l))) (nI (msk (gSt (aG ln lt A l)) (aPs ln lt A l (aSz A l)))) (nI (msk (gEi (aG ln lt A l)) (aPs ln lt A l (aSz A l)))) (nI (msk (JN ln lt A l) (aSz A l))) (nI (msk (sG ln lt A l) (aSz A l))) K' (eL (aSC ln lt A l foot feet (aG ln lt A l))) (eW (aSC ln lt A l foot feet (aG ln lt A l))) la' g1 g2 g3 g4 (nI l) (it (i + l)) v = some (b2i (asT (lst ln lt A foot feet) it i (aL A)), x1, x2, x3, x4, x5, x6, x7, x8, x9, y1, y2, y3, y4, y5) := by
      intro v hv
      rw [mX6_isAsTold_b73]
      by_cases he : it (i + l) = tlC (lst ln lt A foot feet l)
      · have has' : asT (lst ln lt A foot feet) it i (l + 1) = true := by
          show (asT (lst ln lt A foot feet) it i l && decide (it (i + l) = tlC (lst ln lt A foot feet l))) = true
          rw [has]; simp [he]
        rw [if_pos (by rw [hv]; exact he), nI_1]
        exact c_told_loop hp ha hc hz hf hf1 hfe sz it hi d (l + 1) _ _ _ _ _ _ _ _ _ _ _ _ _ _ (by omega) has' n (by omega)
      · rw [if_neg (by rw [hv]; exact he)]
        have : asT (lst ln lt A foot feet) it i (aL A) = false := allB_no hll (by simp [he])
        rw [this]
        exact ⟨_, _, _, _, _, _, _, _, _, _, _, _, _, _, rfl⟩
    rw [mX6_isAsTold_b19, if_neg (nI_ge (by omega) (by omega)), c1, os7, c3, os8, zn_add, zn_cl (by omega), if_neg ci]
    cases hs : lst ln lt A foot feet l with
    | none =>
      rw [hs] at hel key
      rw [if_pos (by rw [hel]; rfl)]
      exact key _ rfl
    | some v =>
      have hv := lst_lt ha hll hf hfe hs
      rw [hs] at hel key
      rw [if_neg (by rw [hel]; exact nI_none hv)]
      exact key _ hel
theorem c_told (hp : POOL L ln sy sn lt st) (ha : AOK L ln lt A) (hc : CW A kinds spelled) (hz : CZ A sizes) {foot feet : Nat} (hf : foot < 4) (hf1 : 1 ≤ feet) (hfe : feet ≤ 5) {sz : Int32} (hsz : 0 ≤ sz.toInt ∧ sz.toInt ≤ 40) (it : Nat → Int32) {i : Nat} (hi : ((i + aL A : Nat) : Int) ≤ sz.toInt) (w1 w2 w3 w4 w5 w6 w7 w8 w9 : Int32) (a1 a2 a3 a4 a5 : Nat → Int32) : ∃ x1 x2 x3 x4 x5 x6 x7 x8 x9 y1 y2 y3 y4 y5, mX6_isAsTold L ln sy sn lt (nI (aL A)) sizes kinds spelled sz it w1 w2 w3 w4 w5 w6 w7 w8 w9 a1 a2 a3 a4 a5 (nI foot) (nI feet) (nI i) = some (b2i (asT (lst ln lt A foot feet) it i (aL A)), x1, x2, x3, x4, x5, x6, x7, x8, x9, y1, y2, y3, y4, y5) := by
  obtain ⟨-, -, w20, l4⟩ := aok_sz ha
  have hh := holds4 sz (nI i) (nI (aL A)) hsz
  rw [nI_toInt (by omega), nI_toInt (by omega), if_pos (by omega)] at hh
  unfold mX6_isAsTold mX6_isAsTold_b0
  rw [hh, os1, if_neg (by decide)]
  exact c_told_loop hp ha hc hz hf hf1 hfe sz it (by omega) (aL A) 0 w1 w2 w3 w4 w5 w6 w7 w8 w9 a1 a2 a3 a4 a5 (by omega) rfl FU (zn_fu (by omega))
theorem r_told_loop (h : PR ln lt A row) (ha : AOK L ln lt A) (item it : Nat → Int32) {i r : Nat} (hr : r < 8) (hi : i + aL A ≤ 40) (hit : ∀ k, k < 40 → item (40 * r + k) = it k) : ∀ (d l : Nat) (z1 z2 z3 : Int32) (b1 b2 b3 : Nat → Int32), l + d = aL A → ∀ n, d < n → ∃ u1 u2 u3 v1 v2 v3, mX7_areCostsSo_b4 item row (nI (40 * r + i)) n z1 z2 z3 b1 b2 b3 (b2i (asT (lst ln lt A A.1 A.2.1) it i l)) (nI l) = some (b2i (asT (lst ln lt A A.1 A.2.1) it i (aL A)), u1, u2, u3, v1, v2, v3)
  | _, _, _, _, _, _, _, _, _, 0, hn => absurd hn (by omega)
  | 0, l, z1, z2, z3, b1, b2, b3, hl, n + 1, _ => by
    obtain ⟨-, -, w20, l4⟩ := aok_sz ha
    have e0 : row (0 : Int32).toNatClampNeg = nI (aL A) := h.1
    have e : l = aL A := by omega
    subst e
    refine ⟨z1, z2, z3, b1, b2, b3, ?_⟩
    rw [mX7_areCostsSo_b4, e0, if_pos (nI_le (Nat.le_refl _) (by omega))]
    cases asT (lst ln lt A A.1 A.2.1) it i (aL A) <;> rfl
  | d + 1, l, z1, z2, z3, b1, b2, b3, hl, n + 1, hn => by
    obtain ⟨-, -, w20, l4⟩ := aok_sz ha
    have e0 : row (0 : Int32).toNatClampNeg = nI (aL A) := h.1
    have hll : l < aL A := by omega
    obtain ⟨s1, s2, s3, t1, t2, t3, hb⟩ := r_byMetre h ha hll z1 z2 z3 b1 b2 b3
    have ci : ¬ (nI (40 * r + i + l) < 0 ∨ 320 ≤ 40 * r + i + l) := by simp (disch := omega) only [↓reduceIte, Nat.reduceAdd, Nat.reduceMul, Nat.reduceSub, Nat.zero_add, zn_0, zn_1, zn_2, zn_3, zn_4, zn_5, zn_6, zn_7, zn_8, zn_9, zn_10, zn_16, zn_20, zn_23, zn_24, zn_25, zn_26, zn_40, zn_207, zn_4761, zn_99, zn_130, zn_lt_t, zn_lt_f, zn_le_t, zn_le_f, zn_eq_t, zn_eq_f, zn_ix, zn_cl, zq_le_f, zq_le_t, zq_lt_f, zq_lt_t, zn_add, zn_mul, zn_sub, or_false, false_or, or_self, true_or, or_true, and_true, true_and, and_false, false_and, not_true_eq_false, not_false_eq_true, if_true, if_false, os1, os2, os3, os4, os5, os6, os7, os8, os9, os10, os11, os12, os13, os14, os15, os16, os17, os18, os19, os20, os21, os22, os23, os24]
    have hi2 : item (40 * r + i + l) = it (i + l) := by rw [Nat.add_assoc]; exact hit _ (by omega)
    have ih := r_told_loop h ha item it hr hi hit d (l + 1) s1 s2 s3 t1 t2 t3 (by omega) n (by omega)
    have eas : asT (lst ln lt A A.1 A.2.1) it i (l + 1) = (asT (lst ln lt A A.1 A.2.1) it i l && decide (it (i + l) = tlC (lst ln lt A A.1 A.2.1 l))) := rfl
    rw [eas] at ih
    have key : asT (lst ln lt A A.1 A.2.1) it i l = true → ∀ v : Int32, v = tlC (lst ln lt A A.1 A.2.1 l) → ∃ u1 u2 u3 v1 v2 v3, mX7_areCostsSo_b42 item row (nI (40 * r + i)) (mX7_areCostsSo_b4 item row (nI (40 * r + i)) n) s1 s2 s3 t1 t2 t3 (nI l) v = some (b2i (asT (lst ln lt A A.1 A.2.1) it i (aL A)), u1, u2, u3, v1, v2, v3) := by
      intro has v hv
      rw [has, Bool.true_and] at ih
      rw [mX7_areCostsSo_b42, zn_add, zn_cl (by omega), if_neg ci, hi2, nI_1]
      by_cases he : it (i + l) = tlC (lst ln lt A A.1 A.2.1 l)
      · rw [show decide (it (i + l) = tlC (lst ln lt A A.1 A.2.1 l)) = true by simp [he]] at ih
        rw [if_pos (by rw [hv, he])]
        exact ih
      · rw [show decide (it (i + l) = tlC (lst ln lt A A.1 A.2.1 l)) = false by simp [he]] at ih
        rw [if_neg (by rw [hv]; exact fun q => he q.symm)]
        exact ih
    rw [mX7_areCostsSo_b4, e0, if_neg (nI_ge (by omega) (by omega)), hb, os7]
    cases has : asT (lst ln lt A A.1 A.2.1) it i l
    · rw [has, Bool.false_and] at ih
      rw [b2i_f, if_pos (by rfl), nI_1]
      exact ih
    · rw [b2i_t, if_neg (by decide)]
      have key' := key has
      cases hs : lst ln lt A A.1 A.2.1 l with
      | none =>
        rw [hs] at key'
        rw [if_pos (show eC none = -1000000 from rfl)]
        exact key' _ rfl
      | some v =>
        have hv := lst_lt ha hll (by have := ha.1; omega : A.1 < 4) ha.2.1 hs
        rw [hs] at key'
        rw [if_neg (show ¬ eC (some v) = -1000000 from nI_none hv)]
        exact key' _ rfl
theorem r_told (h : PR ln lt A row) (ha : AOK L ln lt A) (item it : Nat → Int32) {i r : Nat} (hr : r < 8) (hi : i + aL A ≤ 40) (hit : ∀ k, k < 40 → item (40 * r + k) = it k) (z1 z2 z3 : Int32) (b1 b2 b3 : Nat → Int32) : ∃ u1 u2 u3 v1 v2 v3, mX7_areCostsSo item row z1 z2 z3 b1 b2 b3 (nI (40 * r + i)) = some (b2i (asT (lst ln lt A A.1 A.2.1) it i (aL A)), u1, u2, u3, v1, v2, v3) := by
  obtain ⟨-, -, w20, l4⟩ := aok_sz ha
  exact r_told_loop h ha item it hr hi hit (aL A) 0 z1 z2 z3 b1 b2 b3 (by omega) FU (zn_fu (by omega))
theorem r_who_loop (lane many : Nat → Int32) (item it : Nat → Int32) {w i r : Nat} {p2 : Int32} {idx hi : Nat} (hsel : (p2 = 0 ∧ idx = 2 ∧ hi = 5) ∨ (p2 = 1 ∧ idx = 1 ∧ hi = 3) ∨ (p2 = 2 ∧ idx = 7 + 10 * w ∧ hi = 5 ∧ w < 20)) (hr : r < 8) {nL : Nat} (hi40 : i + nL ≤ 40) (hit : ∀ k, k < 40 → item (40 * r + k) = it k) (AX : Nat → AP) (lo : Nat) (hAX : ∀ k, lo ≤ k → k ≤ hi → AOK L ln lt (AX k) ∧ aL (AX k) = nL ∧ ∀ th : Nat → Int32, (∀ j, j < 207 → th j = row j) → PR ln lt (AX k) (upd th idx (nI k))) (q : Nat → Bool) (hq : ∀ k, lo ≤ k → q k = asT (lst ln lt (AX k) (AX k).1 (AX k).2.1) it i nL) : ∀ (d k : Nat) (th : Nat → Int32) (z1 z2 z3 : Int32) (b1 b2 b3 : Nat → Int32), k + d = hi + 1 → lo ≤ k → ∀ n, d < n → ∃ th' u1 u2 u3 v1 v2 v3, mX7_who_b78 lane many item row (nI w) p2 (nI r) (nI i) n 0 0 z1 z2 z3 th b1 b2 b3 (nI (msk q k)) (nI k) = some (nI (msk q (hi + 1)), 0, 0, u1, u2, u3, th', v1, v2, v3)
  | _, _, _, _, _, _, _, _, _, _, _, 0, hn => absurd hn (by omega)
  | 0, k, th, z1, z2, z3, b1, b2, b3, hk, hlo, n + 1, _ => by
    refine ⟨th, z1, z2, z3, b1, b2, b3, ?_⟩
    have e : k = hi + 1 := by omega
    subst e
    rcases hsel with ⟨rfl, rfl, rfl⟩ | ⟨rfl, rfl, rfl⟩ | ⟨rfl, rfl, rfl, hw⟩
    · rw [mX7_who_b78, if_neg (by decide), mX7_who_b90, if_pos (by decide)]
    · rw [mX7_who_b78, if_pos rfl, mX7_who_b90, if_pos (by decide)]
    · rw [mX7_who_b78, if_neg (by decide), mX7_who_b90, if_pos (by decide)]
  | d + 1, k, th, z1, z2, z3, b1, b2, b3, hk, hlo, n + 1, hn => by
    obtain ⟨x1, x2, x3⟩ := hAX k hlo (by omega)
    obtain ⟨th', t1, t2⟩ := r_layThen (row := row) th
    have hpr := x3 th' t2
    obtain ⟨u1, u2, u3, v1, v2, v3, ht⟩ := r_told hpr x1 item it (i := i) hr (by omega) hit z1 z2 z3 b1 b2 b3
    rw [x2, ← hq k hlo] at ht
    have h5 : hi ≤ 5 := by rcases hsel with ⟨-, -, h⟩ | ⟨-, -, h⟩ | ⟨-, -, h, -⟩ <;> omega
    have hidx : idx < 207 := by rcases hsel with ⟨-, h, -⟩ | ⟨-, h, -⟩ | ⟨-, h, -, h2⟩ <;> omega
    have hor := or_one q (s := k) (by omega) _ rfl
    have ih := r_who_loop lane many item it hsel hr hi40 hit AX lo hAX q hq d (k + 1) (upd th' idx (nI k)) u1 u2 u3 v1 v2 v3 (by omega) (by omega) n (by omega)
    rw [← hor] at ih
    have e40 : (40 : Int32) * nI r + nI i = nI (40 * r + i) := mul40 r i
    have ci : ¬ (nI idx < 0 ∨ 207 ≤ idx) := by simp (disch := omega) only [↓reduceIte, Nat.reduceAdd, Nat.reduceMul, Nat.reduceSub, Nat.zero_add, zn_0, zn_1, zn_2, zn_3, zn_4, zn_5, zn_6, zn_7, zn_8, zn_9, zn_10, zn_16, zn_20, zn_23, zn_24, zn_25, zn_26, zn_40, zn_207, zn_4761, zn_99, zn_130, zn_lt_t, zn_lt_f, zn_le_t, zn_le_f, zn_eq_t, zn_eq_f, zn_ix, zn_cl, zq_le_f, zq_le_t, zq_lt_f, zq_lt_t, zn_add, zn_mul, zn_sub, or_false, false_or, or_self, true_or, or_true, and_true, true_and, and_false, false_and, not_true_eq_false, not_false_eq_true, if_true, if_false, os1, os2, os3, os4, os5, os6, os7, os8, os9, os10, os11, os12, os13, os14, os15, os16, os17, os18, os19, os20, os21, os22, os23, os24]
    have key : ∃ th'' u1 u2 u3 v1 v2 v3, mX7_who_b125 lane many item row (nI w) p2 (nI r) (nI i) (mX7_who_b78 lane many item row (nI w) p2 (nI r) (nI i) n) 0 0 z1 z2 z3 th' b1 b2 b3 (nI (msk q k)) (nI k) (nI idx) = some (nI (msk q (hi + 1)), 0, 0, u1, u2, u3, th'', v1, v2, v3) := by
      rw [mX7_who_b125, zn_cl (by omega), if_neg ci, e40, ht, os7, nI_1]
      cases hb : q k
      · rw [hb, if_neg (by decide)] at ih
        rw [b2i_f, if_pos (by rfl), Int32.or_zero]
        exact ih
      · rw [hb, if_pos rfl] at ih
        rw [b2i_t, if_neg (by decide)]
        exact ih
    rcases hsel with ⟨rfl, rfl, rfl⟩ | ⟨rfl, rfl, rfl⟩ | ⟨rfl, rfl, rfl, hw⟩
    · rw [mX7_who_b78, if_neg (by decide), mX7_who_b90, if_neg (show ¬ (5 : Int32) < nI k from nI_nlt (a := 5) (by omega) (by omega)), t1, os1, if_pos rfl]
      exact key
    · rw [mX7_who_b78, if_pos rfl, mX7_who_b90, if_neg (show ¬ (3 : Int32) < nI k from nI_nlt (a := 3) (by omega) (by omega)), t1, os1, if_neg (by decide), if_pos rfl]
      exact key
    · have e7 : (7 : Int32) + (10 : Int32) * nI w = nI (7 + 10 * w) := by rw [zn_7, zn_10, zn_mul, zn_add]
      rw [mX7_who_b78, if_neg (by decide), mX7_who_b90, if_neg (show ¬ (5 : Int32) < nI k from nI_nlt (a := 5) (by omega) (by omega)), t1, os1, if_neg (by decide), if_neg (by decide), e7]
      exact key
theorem c_feet_loop (hp : POOL L ln sy sn lt st) (ha : AOK L ln lt A) (hc : CW A kinds spelled) (hz : CZ A sizes) {sz : Int32} (hsz : 0 ≤ sz.toInt ∧ sz.toInt ≤ 40) (it : Nat → Int32) {i : Nat} (hi : ((i + aL A : Nat) : Int) ≤ sz.toInt) (q : Nat → Bool) (hq : ∀ k, 1 ≤ k → q k = asT (lst ln lt A A.1 k) it i (aL A)) : ∀ (d k : Nat) (w1 w2 w3 w4 w5 w6 w7 w8 w9 : Int32) (a1 a2 a3 a4 a5 : Nat → Int32), k + d = 6 → 1 ≤ k → ∀ n, d < n → ∃ x1 x2 x3 x4 x5 x6 x7 x8 x9 y1 y2 y3 y4 y5, mX6_feetAsTold_b5 L ln sy sn lt (nI A.1) (nI (aL A)) sizes kinds spelled sz it (nI i) n w1 w2 w3 w4 w5 w6 w7 w8 w9 a1 a2 a3 a4 a5 (nI (msk q k)) (nI k) = some (nI (msk q 6), x1, x2, x3, x4, x5, x6, x7, x8, x9, y1, y2, y3, y4, y5)
  | _, _, _, _, _, _, _, _, _, _, _, _, _, _, _, _, _, _, 0, hn => absurd hn (by omega)
  | 0, k, w1, w2, w3, w4, w5, w6, w7, w8, w9, a1, a2, a3, a4, a5, hk, h1, n + 1, _ => by
    refine ⟨w1, w2, w3, w4, w5, w6, w7, w8, w9, a1, a2, a3, a4, a5, ?_⟩
    have e : k = 6 := by omega
    subst e
    rw [mX6_feetAsTold_b5, if_pos (by decide)]
  | d + 1, k, w1, w2, w3, w4, w5, w6, w7, w8, w9, a1, a2, a3, a4, a5, hk, h1, n + 1, hn => by
    obtain ⟨x1, x2, x3, x4, x5, x6, x7, x8, x9, y1, y2, y3, y4, y5, ht⟩ := c_told hp ha hc hz (by have := ha.1; omega : A.1 < 4) h1 (by omega : k ≤ 5) hsz it hi w1 w2 w3 w4 w5 w6 w7 w8 w9 a1 a2 a3 a4 a5
    rw [← hq k h1] at ht
    have hor := or_one q (s := k) (by omega) _ rfl
    have ih := c_feet_loop hp ha hc hz hsz it hi q hq d (k + 1) x1 x2 x3 x4 x5 x6 x7 x8 x9 y1 y2 y3 y4 y5 (by omega) (by omega) n (by omega)
    rw [← hor] at ih
    rw [mX6_feetAsTold_b5, if_neg (show ¬ (5 : Int32) < nI k from nI_nlt (a := 5) (by omega) (by omega)), ht, os15, nI_1]
    cases hb : q k
    · rw [hb, if_neg (by decide)] at ih
      rw [b2i_f, if_pos (by rfl)]
      exact ih
    · rw [hb, if_pos rfl] at ih
      rw [b2i_t, if_neg (by decide)]
      exact ih
theorem c_foot_loop (hp : POOL L ln sy sn lt st) (ha : AOK L ln lt A) (h0 : 0 < aL A) (hc : CW A kinds spelled) (hz : CZ A sizes) {sz : Int32} (hsz : 0 ≤ sz.toInt ∧ sz.toInt ≤ 40) (it : Nat → Int32) {i : Nat} (hi : ((i + aL A : Nat) : Int) ≤ sz.toInt) (q : Nat → Bool) (hq : ∀ k, q k = asT (lst ln lt A k A.2.1) it i (aL A)) : ∀ (d k : Nat) (w1 w2 w3 w4 w5 w6 w7 w8 w9 : Int32) (a1 a2 a3 a4 a5 : Nat → Int32), k + d = 4 → ∀ n, d < n → ∃ x1 x2 x3 x4 x5 x6 x7 x8 x9 y1 y2 y3 y4 y5, mX6_footAsTold_b5 L ln sy sn lt (nI A.2.1) (nI (aL A)) sizes kinds spelled sz it (nI i) n w1 w2 w3 w4 w5 w6 w7 w8 w9 a1 a2 a3 a4 a5 (nI (msk q k)) (nI k) = some (nI (msk q 4), x1, x2, x3, x4, x5, x6, x7, x8, x9, y1, y2, y3, y4, y5)
  | _, _, _, _, _, _, _, _, _, _, _, _, _, _, _, _, _, 0, hn => absurd hn (by omega)
  | 0, k, w1, w2, w3, w4, w5, w6, w7, w8, w9, a1, a2, a3, a4, a5, hk, n + 1, _ => by
    refine ⟨w1, w2, w3, w4, w5, w6, w7, w8, w9, a1, a2, a3, a4, a5, ?_⟩
    have e : k = 4 := by omega
    subst e
    rw [mX6_footAsTold_b5, if_pos (by decide)]
  | d + 1, k, w1, w2, w3, w4, w5, w6, w7, w8, w9, a1, a2, a3, a4, a5, hk, n + 1, hn => by
    obtain ⟨x1, x2, x3, x4, x5, x6, x7, x8, x9, y1, y2, y3, y4, y5, ht⟩ := c_told hp ha hc hz (by omega : k < 4) (ha.2.2.1 h0) ha.2.1 hsz it hi w1 w2 w3 w4 w5 w6 w7 w8 w9 a1 a2 a3 a4 a5
    rw [← hq k] at ht
    have hor := or_one q (s := k) (by omega) _ rfl
    have ih := c_foot_loop hp ha h0 hc hz hsz it hi q hq d (k + 1) x1 x2 x3 x4 x5 x6 x7 x8 x9 y1 y2 y3 y4 y5 (by omega) n (by omega)
    rw [← hor] at ih
    rw [mX6_footAsTold_b5, if_neg (show ¬ (4 : Int32) ≤ nI k from nI_ge (b := 4) (by omega) (by omega)), ht, os15, nI_1]
    cases hb : q k
    · rw [hb, if_neg (by decide)] at ih
      rw [b2i_f, if_pos (by rfl)]
      exact ih
    · rw [hb, if_pos rfl] at ih
      rw [b2i_t, if_neg (by decide)]
      exact ih
theorem c_kindT_loop (hp : POOL L ln sy sn lt st) (ha : AOK L ln lt A) (h0 : 0 < aL A) {w : Nat} (hw : w < aW A) (hz : CZ A sizes) {sz : Int32} (hsz : 0 ≤ sz.toInt ∧ sz.toInt ≤ 40) (it : Nat → Int32) {i : Nat} (hi : ((i + aL A : Nat) : Int) ≤ sz.toInt) (q : Nat → Bool) (hq : ∀ k, 1 ≤ k → q k = asT (lst ln lt (setK A w k) A.1 A.2.1) it i (aL A)) (o1 o2 o3 o4 : Int32) (o5 o6 : Nat → Int32) (o7 : Nat → Nat) (dw : Int32) : ∀ (d k : Nat) (dk : Nat → Int32) (w1 w2 w3 w4 w5 w6 w7 w8 w9 : Int32) (a1 a2 a3 a4 a5 : Nat → Int32), k + d = 6 → 1 ≤ k → (∀ u, u < aW A → (¬ u = w → dk u = nI (aKd A u)) ∧ spelled u = aQ A u) → ∀ n, d < n → ∃ dk' x1 x2 x3 x4 x5 x6 x7 x8 x9 y1 y2 y3 y4 y5, mX6_kindsAsTold_b17 L ln sy sn lt o1 o2 o3 o4 o5 o6 o7 sz it (nI w) (nI i) n (nI A.1) (nI A.2.1) (nI (aL A)) dw sizes dk spelled w1 w2 w3 w4 w5 w6 w7 w8 w9 a1 a2 a3 a4 a5 (nI (msk q k)) (nI k) = some (nI (msk q 6), nI A.1, nI A.2.1, nI (aL A), dw, sizes, dk', spelled, x1, x2, x3, x4, x5, x6, x7, x8, x9, y1, y2, y3, y4, y5)
  | _, _, _, _, _, _, _, _, _, _, _, _, _, _, _, _, _, _, _, _, 0, hn => absurd hn (by omega)
  | 0, k, dk, w1, w2, w3, w4, w5, w6, w7, w8, w9, a1, a2, a3, a4, a5, hk, h1, hd, n + 1, _ => by
    refine ⟨dk, w1, w2, w3, w4, w5, w6, w7, w8, w9, a1, a2, a3, a4, a5, ?_⟩
    have e : k = 6 := by omega
    subst e
    rw [mX6_kindsAsTold_b17, if_pos (by decide)]
  | d + 1, k, dk, w1, w2, w3, w4, w5, w6, w7, w8, w9, a1, a2, a3, a4, a5, hk, h1, hd, n + 1, hn => by
    obtain ⟨-, -, w20, l4⟩ := aok_sz ha
    have ha' := AOK_setK ha hw (k := k) (by omega)
    have hc' := CW_setK (k := k) hw hd
    obtain ⟨x1, x2, x3, x4, x5, x6, x7, x8, x9, y1, y2, y3, y4, y5, ht⟩ := c_told (A := setK A w k) (sizes := sizes) hp ha' hc' hz (by have := ha.1; omega : A.1 < 4) (ha.2.2.1 h0) ha.2.1 hsz it (i := i) hi w1 w2 w3 w4 w5 w6 w7 w8 w9 a1 a2 a3 a4 a5
    have ht' : mX6_isAsTold L ln sy sn lt (nI (aL A)) sizes (upd dk w (nI k)) spelled sz it w1 w2 w3 w4 w5 w6 w7 w8 w9 a1 a2 a3 a4 a5 (nI A.1) (nI A.2.1) (nI i) = some (b2i (asT (lst ln lt (setK A w k) A.1 A.2.1) it i (aL A)), x1, x2, x3, x4, x5, x6, x7, x8, x9, y1, y2, y3, y4, y5) := ht
    rw [← hq k h1] at ht'
    have hd' : ∀ u, u < aW A → (¬ u = w → (upd dk w (nI k)) u = nI (aKd A u)) ∧ spelled u = aQ A u := by
      intro u hu
      refine ⟨fun q => ?_, (hd u hu).2⟩
      rw [zn_up, if_neg q]; exact (hd u hu).1 q
    have hor := or_one q (s := k) (by omega) _ rfl
    have ih := c_kindT_loop hp ha h0 hw hz hsz it hi q hq o1 o2 o3 o4 o5 o6 o7 dw d (k + 1) (upd dk w (nI k)) x1 x2 x3 x4 x5 x6 x7 x8 x9 y1 y2 y3 y4 y5 (by omega) (by omega) hd' n (by omega)
    rw [← hor] at ih
    have k2 : ¬ (nI w < 0 ∨ 20 ≤ w) := by simp (disch := omega) only [↓reduceIte, Nat.reduceAdd, Nat.reduceMul, Nat.reduceSub, Nat.zero_add, zn_0, zn_1, zn_2, zn_3, zn_4, zn_5, zn_6, zn_7, zn_8, zn_9, zn_10, zn_16, zn_20, zn_23, zn_24, zn_25, zn_26, zn_40, zn_207, zn_4761, zn_99, zn_130, zn_lt_t, zn_lt_f, zn_le_t, zn_le_f, zn_eq_t, zn_eq_f, zn_ix, zn_cl, zq_le_f, zq_le_t, zq_lt_f, zq_lt_t, zn_add, zn_mul, zn_sub, or_false, false_or, or_self, true_or, or_true, and_true, true_and, and_false, false_and, not_true_eq_false, not_false_eq_true, if_true, if_false, os1, os2, os3, os4, os5, os6, os7, os8, os9, os10, os11, os12, os13, os14, os15, os16, os17, os18, os19, os20, os21, os22, os23, os24]
    rw [mX6_kindsAsTold_b17, if_neg (show ¬ (5 : Int32) < nI k from nI_nlt (a := 5) (by omega) (by omega)), zn_cl (by omega), if_neg k2, ht', os15, nI_1]
    cases hb : q k
    · rw [hb, if_neg (by decide)] at ih
      rw [b2i_f, if_pos (by rfl)]
      exact ih
    · rw [hb, if_pos rfl] at ih
      rw [b2i_t, if_neg (by decide)]
      exact ih
end
