-- uses: 574.spell
/-! put -/
def isL (x : Int32) : Bool := decide (0 ≤ x.toInt ∧ x.toInt ≤ 25)
theorem c_areL_loop {n n1 : Nat} (hn : n ≤ n1) (h31 : n1 < 1000) (f : Nat → Int32) : ∀ (d k : Nat), k + d = n → allB (fun i => isL (f i)) k = true → ∀ m, d < m → mX6_areLetters_b2 n1 f (nI n) m (nI k) = some (b2i (allB (fun i => isL (f i)) n))
  | _, _, _, _, 0, hm => absurd hm (by omega)
  | 0, k, hk, h, m + 1, _ => by
    have e : k = n := by omega
    subst e
    rw [mX6_areLetters_b2, if_pos (nI_le (Nat.le_refl _) (by omega)), h]
    rfl
  | d + 1, k, hk, h, m + 1, hm => by
    have c1 : ¬ (nI k < 0 ∨ n1 ≤ k) := by simp (disch := omega) only [↓reduceIte, Nat.reduceAdd, Nat.reduceMul, Nat.reduceSub, Nat.zero_add, zn_0, zn_1, zn_2, zn_3, zn_4, zn_5, zn_6, zn_7, zn_8, zn_9, zn_10, zn_16, zn_20, zn_23, zn_24, zn_25, zn_26, zn_40, zn_207, zn_4761, zn_99, zn_130, zn_lt_t, zn_lt_f, zn_le_t, zn_le_f, zn_eq_t, zn_eq_f, zn_ix, zn_cl, zq_le_f, zq_le_t, zq_lt_f, zq_lt_t, zn_add, zn_mul, zn_sub, or_false, false_or, or_self, true_or, or_true, and_true, true_and, and_false, false_and, not_true_eq_false, not_false_eq_true, if_true, if_false, os1, os2, os3, os4, os5, os6, os7, os8, os9, os10, os11, os12, os13, os14, os15, os16, os17, os18, os19, os20, os21, os22, os23, os24]
    have ea : allB (fun i => isL (f i)) (k + 1) = (allB (fun i => isL (f i)) k && isL (f k)) := rfl
    have e0 : (0 : Int32).toInt = 0 := rfl
    have e25 : (25 : Int32).toInt = 25 := rfl
    rw [mX6_areLetters_b2, if_neg (nI_ge (by omega) (by omega)), if_neg (nI_ge (by omega) (by omega)), zn_cl (by omega), if_neg c1, if_neg c1, nI_1]
    by_cases hl : 0 ≤ (f k).toInt ∧ (f k).toInt ≤ 25
    · have hb : isL (f k) = true := by unfold isL; simp [hl]
      rw [h, hb] at ea
      rw [if_neg (by rw [i32_lt]; omega), if_pos (by rw [i32_le]; omega)]
      exact c_areL_loop hn h31 f d (k + 1) (by omega) ea m (by omega)
    · have hb : isL (f k) = false := by unfold isL; simp only [hl, decide_false]
      rw [allB_no (by omega : k < n) hb]
      by_cases h1 : f k < 0
      · rw [if_pos h1]; rfl
      · rw [if_neg h1, if_neg (by rw [i32_lt] at h1; rw [i32_le]; omega)]; rfl
theorem c_areL {n n1 : Nat} (hn : n ≤ n1) (h31 : n1 < 1000) (f : Nat → Int32) : mX6_areLetters n1 f (nI n) = some (b2i (allB (fun i => isL (f i)) n)) :=
  c_areL_loop hn h31 f n 0 (by omega) rfl FU (zn_fu (by omega))
theorem r_put_scan (lane many item it : Nat → Int32) {r n : Nat} (hr : r < 8) (hn : n ≤ 8) (hit : ∀ k, k < 40 → item (40 * r + k) = it k) (p1 p2 p3 : Int32) (st ac : Int32) (po was : Nat → Int32) : ∀ (d k : Nat), k + d = n → allB (fun i => isL (it i)) k = true → ∀ m, d < m → mX7_put_b107 lane many item p1 p2 p3 (nI r) (nI n) m 0 st ac po was (b2i (anyB (fun i => VW (it i)) k)) (nI k) = (if allB (fun i => isL (it i)) n then (if anyB (fun i => VW (it i)) n then ob2 (mX7_keep po ac was) (fun u0_15 u1_15 => ob1 (mX7_firstOf po p1) (fun r_16 => ob1 (mX7_wordsOf po) (fun r_17 => mX7_put_b228 lane many item p1 p2 p3 (nI r) (nI n) FU 0 (0 : Int32) u0_15 po u1_15 (r_16 + p2) (((7 : Int32) + ((10 : Int32) * r_17)) - (1 : Int32))))) else some (-1000002, 0, st, ac, po, was)) else some (-1000010 - 2, 0, 2, ac, po, was))
  | _, _, _, _, 0, hm => absurd hm (by omega)
  | 0, k, hk, h, m + 1, _ => by
    have e : k = n := by omega
    subst e
    rw [mX7_put_b107, if_pos (nI_le (Nat.le_refl _) (by omega)), h, if_pos rfl]
    cases anyB (fun i => VW (it i)) k
    · rw [b2i_f, if_pos (by rfl), if_neg (by decide)]
    · rw [b2i_t, if_neg (by decide), if_pos rfl]
  | d + 1, k, hk, h, m + 1, hm => by
    have e40 : (40 : Int32) * nI r + nI k = nI (40 * r + k) := mul40 r k
    have c1 : ¬ (nI (40 * r + k) < 0 ∨ 320 ≤ 40 * r + k) := by simp (disch := omega) only [↓reduceIte, Nat.reduceAdd, Nat.reduceMul, Nat.reduceSub, Nat.zero_add, zn_0, zn_1, zn_2, zn_3, zn_4, zn_5, zn_6, zn_7, zn_8, zn_9, zn_10, zn_16, zn_20, zn_23, zn_24, zn_25, zn_26, zn_40, zn_207, zn_4761, zn_99, zn_130, zn_lt_t, zn_lt_f, zn_le_t, zn_le_f, zn_eq_t, zn_eq_f, zn_ix, zn_cl, zq_le_f, zq_le_t, zq_lt_f, zq_lt_t, zn_add, zn_mul, zn_sub, or_false, false_or, or_self, true_or, or_true, and_true, true_and, and_false, false_and, not_true_eq_false, not_false_eq_true, if_true, if_false, os1, os2, os3, os4, os5, os6, os7, os8, os9, os10, os11, os12, os13, os14, os15, os16, os17, os18, os19, os20, os21, os22, os23, os24]
    have ea : allB (fun i => isL (it i)) (k + 1) = (allB (fun i => isL (it i)) k && isL (it k)) := rfl
    have ev : anyB (fun i => VW (it i)) (k + 1) = (anyB (fun i => VW (it i)) k || VW (it k)) := rfl
    have hin := in_i (it k) 0 25
    rw [show (0 : Int64).toInt = 0 from rfl, show (25 : Int64).toInt = 25 from rfl] at hin
    rw [mX7_put_b107, if_neg (nI_ge (by omega) (by omega)), e40, zn_cl (by omega), if_neg c1, hit k (by omega), hin, os1, nI_1]
    by_cases hl : 0 ≤ (it k).toInt ∧ (it k).toInt ≤ 25
    · have hb : isL (it k) = true := by unfold isL; simp [hl]
      rw [h, hb] at ea
      have ih := r_put_scan lane many item it hr hn hit p1 p2 p3 st ac po was d (k + 1) (by omega) ea m (by omega)
      rw [ev] at ih
      rw [if_pos hl, if_neg (by decide)]
      cases hv : anyB (fun i => VW (it i)) k
      · rw [hv, Bool.false_or] at ih
        rw [b2i_f, if_pos (by rfl), if_neg c1, r_vowel, os1]
        cases hw : VW (it k)
        · rw [hw] at ih
          rw [b2i_f, if_pos (by rfl)]
          exact ih
        · rw [hw] at ih
          rw [b2i_t, if_neg (by decide)]
          exact ih
      · rw [hv, Bool.true_or] at ih
        rw [b2i_t, if_neg (by decide)]
        exact ih
    · have hb : isL (it k) = false := by unfold isL; simp only [hl, decide_false]
      rw [if_neg hl, if_pos rfl, allB_no (by omega : k < n) hb, if_neg (by decide)]
      rfl
theorem r_put_3 (lane many item it : Nat → Int32) {r n l w : Nat} (hr : r < 8) (hn : n ≤ 8) (hl : l < 4) (hw : w < 20) (hit : ∀ k, k < 40 → item (40 * r + k) = it k) (p2 p3 ac : Int32) (was row0 : Nat → Int32) : ∀ (d k : Nat) (row : Nat → Int32), k + d = n → (∀ x, row x = if 9 + 10 * w ≤ x ∧ x < 9 + 10 * w + k then it (x - (9 + 10 * w)) else row0 x) → ∀ m, d < m → ∃ row', mX7_put_b331 lane many item (nI l) p2 p3 (nI r) (nI n) m 0 0 ac row was (nI w) (nI k) = some (nI w, 0, 0, ac, row', was) ∧ ∀ x, row' x = if x = 3 + l then row0 (3 + l) + 1 else if 9 + 10 * w ≤ x ∧ x < 9 + 10 * w + n then it (x - (9 + 10 * w)) else row0 x
  | _, _, _, _, _, 0, hm => absurd hm (by omega)
  | 0, k, row, hk, h, m + 1, _ => by
    have e : k = n := by omega
    subst e
    have c1 : ¬ (nI (3 + l) < 0 ∨ 207 ≤ 3 + l) := by simp (disch := omega) only [↓reduceIte, Nat.reduceAdd, Nat.reduceMul, Nat.reduceSub, Nat.zero_add, zn_0, zn_1, zn_2, zn_3, zn_4, zn_5, zn_6, zn_7, zn_8, zn_9, zn_10, zn_16, zn_20, zn_23, zn_24, zn_25, zn_26, zn_40, zn_207, zn_4761, zn_99, zn_130, zn_lt_t, zn_lt_f, zn_le_t, zn_le_f, zn_eq_t, zn_eq_f, zn_ix, zn_cl, zq_le_f, zq_le_t, zq_lt_f, zq_lt_t, zn_add, zn_mul, zn_sub, or_false, false_or, or_self, true_or, or_true, and_true, true_and, and_false, false_and, not_true_eq_false, not_false_eq_true, if_true, if_false, os1, os2, os3, os4, os5, os6, os7, os8, os9, os10, os11, os12, os13, os14, os15, os16, os17, os18, os19, os20, os21, os22, os23, os24]
    have e3 : row (3 + l) = row0 (3 + l) := by rw [h, if_neg (by omega)]
    refine ⟨upd row (3 + l) (row0 (3 + l) + 1), ?_, fun x => ?_⟩
    · rw [mX7_put_b331, if_pos (nI_le (Nat.le_refl _) (by omega)), zn_3, zn_add, zn_cl (by omega), if_neg c1, if_neg c1, e3]
    · rw [zn_up]
      by_cases g : x = 3 + l
      · rw [if_pos g, if_pos g]
      · rw [if_neg g, if_neg g, h]
  | d + 1, k, row, hk, h, m + 1, hm => by
    have e40 : (40 : Int32) * nI r + nI k = nI (40 * r + k) := mul40 r k
    have c1 : ¬ (nI (40 * r + k) < 0 ∨ 320 ≤ 40 * r + k) := by simp (disch := omega) only [↓reduceIte, Nat.reduceAdd, Nat.reduceMul, Nat.reduceSub, Nat.zero_add, zn_0, zn_1, zn_2, zn_3, zn_4, zn_5, zn_6, zn_7, zn_8, zn_9, zn_10, zn_16, zn_20, zn_23, zn_24, zn_25, zn_26, zn_40, zn_207, zn_4761, zn_99, zn_130, zn_lt_t, zn_lt_f, zn_le_t, zn_le_f, zn_eq_t, zn_eq_f, zn_ix, zn_cl, zq_le_f, zq_le_t, zq_lt_f, zq_lt_t, zn_add, zn_mul, zn_sub, or_false, false_or, or_self, true_or, or_true, and_true, true_and, and_false, false_and, not_true_eq_false, not_false_eq_true, if_true, if_false, os1, os2, os3, os4, os5, os6, os7, os8, os9, os10, os11, os12, os13, os14, os15, os16, os17, os18, os19, os20, os21, os22, os23, os24]
    have e9 : (7 : Int32) + (10 : Int32) * nI w + (2 : Int32) + nI k = nI (9 + 10 * w + k) := by
      rw [zn_7, zn_10, zn_2, zn_mul, zn_add, zn_add, zn_add]; congr 1; omega
    have c2 : ¬ (nI (9 + 10 * w + k) < 0 ∨ 207 ≤ 9 + 10 * w + k) := by simp (disch := omega) only [↓reduceIte, Nat.reduceAdd, Nat.reduceMul, Nat.reduceSub, Nat.zero_add, zn_0, zn_1, zn_2, zn_3, zn_4, zn_5, zn_6, zn_7, zn_8, zn_9, zn_10, zn_16, zn_20, zn_23, zn_24, zn_25, zn_26, zn_40, zn_207, zn_4761, zn_99, zn_130, zn_lt_t, zn_lt_f, zn_le_t, zn_le_f, zn_eq_t, zn_eq_f, zn_ix, zn_cl, zq_le_f, zq_le_t, zq_lt_f, zq_lt_t, zn_add, zn_mul, zn_sub, or_false, false_or, or_self, true_or, or_true, and_true, true_and, and_false, false_and, not_true_eq_false, not_false_eq_true, if_true, if_false, os1, os2, os3, os4, os5, os6, os7, os8, os9, os10, os11, os12, os13, os14, os15, os16, os17, os18, os19, os20, os21, os22, os23, os24]
    rw [mX7_put_b331, if_neg (nI_ge (by omega) (by omega)), e40, e9, zn_cl (a := 40 * r + k) (by omega), zn_cl (a := 9 + 10 * w + k) (by omega), if_neg c1, if_neg c2, hit k (by omega), nI_1]
    apply r_put_3 lane many item it hr hn hl hw hit p2 p3 ac was row0 d (k + 1) _ (by omega) ?_ m (by omega)
    intro x
    rw [zn_up]
    by_cases g : x = 9 + 10 * w + k
    · rw [if_pos g, if_pos (by omega), show x - (9 + 10 * w) = k by omega]
    · rw [if_neg g, h]
      by_cases g2 : 9 + 10 * w ≤ x ∧ x < 9 + 10 * w + k
      · rw [if_pos g2, if_pos (by omega)]
      · rw [if_neg g2, if_neg (by omega)]
theorem r_put_2 (lane many item it : Nat → Int32) {r n l w : Nat} (hr : r < 8) (hn : n ≤ 8) (hl : l < 4) (hw : w < 20) (hit : ∀ k, k < 40 → item (40 * r + k) = it k) (p2 p3 ac : Int32) (was row0 : Nat → Int32) : ∀ (d k : Nat) (row : Nat → Int32), k + d = 10 → (∀ x, row x = if 7 + 10 * w ≤ x ∧ x < 7 + 10 * w + k then 0 else row0 x) → ∀ m, d < m → ∃ row', mX7_put_b267 lane many item (nI l) p2 p3 (nI r) (nI n) m 0 0 ac row was (nI w) (nI k) = some (nI w, 0, 0, ac, row', was) ∧ ∀ x, row' x = if x = 3 + l then row0 (3 + l) + 1 else if 9 + 10 * w ≤ x ∧ x < 9 + 10 * w + n then it (x - (9 + 10 * w)) else if x = 8 + 10 * w then nI n else if x = 7 + 10 * w then p3 else if 7 + 10 * w ≤ x ∧ x < 17 + 10 * w then 0 else row0 x
  | _, _, _, _, _, 0, hm => absurd hm (by omega)
  | 0, k, row, hk, h, m + 1, _ => by
    have e : k = 10 := by omega
    subst e
    have e7 : (7 : Int32) + (10 : Int32) * nI w = nI (7 + 10 * w) := by rw [zn_7, zn_10, zn_mul, zn_add]
    have e8 : nI (7 + 10 * w) + 1 = nI (8 + 10 * w) := by rw [nI_1]; congr 1; omega
    have c1 : ¬ (nI (7 + 10 * w) < 0 ∨ 207 ≤ 7 + 10 * w) := by simp (disch := omega) only [↓reduceIte, Nat.reduceAdd, Nat.reduceMul, Nat.reduceSub, Nat.zero_add, zn_0, zn_1, zn_2, zn_3, zn_4, zn_5, zn_6, zn_7, zn_8, zn_9, zn_10, zn_16, zn_20, zn_23, zn_24, zn_25, zn_26, zn_40, zn_207, zn_4761, zn_99, zn_130, zn_lt_t, zn_lt_f, zn_le_t, zn_le_f, zn_eq_t, zn_eq_f, zn_ix, zn_cl, zq_le_f, zq_le_t, zq_lt_f, zq_lt_t, zn_add, zn_mul, zn_sub, or_false, false_or, or_self, true_or, or_true, and_true, true_and, and_false, false_and, not_true_eq_false, not_false_eq_true, if_true, if_false, os1, os2, os3, os4, os5, os6, os7, os8, os9, os10, os11, os12, os13, os14, os15, os16, os17, os18, os19, os20, os21, os22, os23, os24]
    have c2 : ¬ (nI (8 + 10 * w) < 0 ∨ 207 ≤ 8 + 10 * w) := by simp (disch := omega) only [↓reduceIte, Nat.reduceAdd, Nat.reduceMul, Nat.reduceSub, Nat.zero_add, zn_0, zn_1, zn_2, zn_3, zn_4, zn_5, zn_6, zn_7, zn_8, zn_9, zn_10, zn_16, zn_20, zn_23, zn_24, zn_25, zn_26, zn_40, zn_207, zn_4761, zn_99, zn_130, zn_lt_t, zn_lt_f, zn_le_t, zn_le_f, zn_eq_t, zn_eq_f, zn_ix, zn_cl, zq_le_f, zq_le_t, zq_lt_f, zq_lt_t, zn_add, zn_mul, zn_sub, or_false, false_or, or_self, true_or, or_true, and_true, true_and, and_false, false_and, not_true_eq_false, not_false_eq_true, if_true, if_false, os1, os2, os3, os4, os5, os6, os7, os8, os9, os10, os11, os12, os13, os14, os15, os16, os17, os18, os19, os20, os21, os22, os23, os24]
    obtain ⟨row', x1, x2⟩ := r_put_3 lane many item it hr hn hl hw hit p2 p3 ac was (upd (upd row (7 + 10 * w) p3) (8 + 10 * w) (nI n)) n 0 (upd (upd row (7 + 10 * w) p3) (8 + 10 * w) (nI n)) (by omega) (fun x => by rw [if_neg (by omega)]) FU (zn_fu (by omega))
    refine ⟨row', ?_, fun x => ?_⟩
    · rw [mX7_put_b267, if_pos (by decide), e7, e8, zn_cl (a := 7 + 10 * w) (by omega), zn_cl (a := 8 + 10 * w) (by omega), if_neg c1, if_neg c2]
      exact x1
    · rw [x2]
      have e3 : upd (upd row (7 + 10 * w) p3) (8 + 10 * w) (nI n) (3 + l) = row0 (3 + l) := by
        rw [zn_up, zn_up, if_neg (by omega), if_neg (by omega), h, if_neg (by omega)]
      rw [e3, zn_up, zn_up, h, show 7 + 10 * w + 10 = 17 + 10 * w by omega]
  | d + 1, k, row, hk, h, m + 1, hm => by
    have c0 : ¬ (10 : Int32) ≤ nI k := nI_ge (b := 10) (by omega) (by omega)
    have e7 : (7 : Int32) + (10 : Int32) * nI w + nI k = nI (7 + 10 * w + k) := by rw [zn_7, zn_10, zn_mul, zn_add, zn_add]
    have c1 : ¬ (nI (7 + 10 * w + k) < 0 ∨ 207 ≤ 7 + 10 * w + k) := by simp (disch := omega) only [↓reduceIte, Nat.reduceAdd, Nat.reduceMul, Nat.reduceSub, Nat.zero_add, zn_0, zn_1, zn_2, zn_3, zn_4, zn_5, zn_6, zn_7, zn_8, zn_9, zn_10, zn_16, zn_20, zn_23, zn_24, zn_25, zn_26, zn_40, zn_207, zn_4761, zn_99, zn_130, zn_lt_t, zn_lt_f, zn_le_t, zn_le_f, zn_eq_t, zn_eq_f, zn_ix, zn_cl, zq_le_f, zq_le_t, zq_lt_f, zq_lt_t, zn_add, zn_mul, zn_sub, or_false, false_or, or_self, true_or, or_true, and_true, true_and, and_false, false_and, not_true_eq_false, not_false_eq_true, if_true, if_false, os1, os2, os3, os4, os5, os6, os7, os8, os9, os10, os11, os12, os13, os14, os15, os16, os17, os18, os19, os20, os21, os22, os23, os24]
    rw [mX7_put_b267, if_neg c0, e7, zn_cl (by omega), if_neg c1, nI_1]
    apply r_put_2 lane many item it hr hn hl hw hit p2 p3 ac was row0 d (k + 1) _ (by omega) ?_ m (by omega)
    intro x
    rw [zn_up]
    by_cases g : x = 7 + 10 * w + k
    · rw [if_pos g, if_pos (by omega)]
    · rw [if_neg g, h]
      by_cases g2 : 7 + 10 * w ≤ x ∧ x < 7 + 10 * w + k
      · rw [if_pos g2, if_pos (by omega)]
      · rw [if_neg g2, if_neg (by omega)]
theorem r_put_1 (lane many item it : Nat → Int32) {r n l w W : Nat} (hr : r < 8) (hn : n ≤ 8) (hl : l < 4) (hW : W < 20) (hwW : w ≤ W) (hit : ∀ k, k < 40 → item (40 * r + k) = it k) (p2 p3 ac : Int32) (was row0 : Nat → Int32) : ∀ (d k : Nat) (row : Nat → Int32), 6 + 10 * w + d = k → k ≤ 6 + 10 * W → (∀ x, row x = if k + 10 < x ∧ x < 17 + 10 * W then row0 (x - 10) else row0 x) → ∀ m, d < m → ∃ row', mX7_put_b228 lane many item (nI l) p2 p3 (nI r) (nI n) m 0 0 ac row was (nI w) (nI k) = some (nI w, 0, 0, ac, row', was) ∧ ∀ x, row' x = if x = 3 + l then row0 (3 + l) + 1 else if 9 + 10 * w ≤ x ∧ x < 9 + 10 * w + n then it (x - (9 + 10 * w)) else if x = 8 + 10 * w then nI n else if x = 7 + 10 * w then p3 else if 7 + 10 * w ≤ x ∧ x < 17 + 10 * w then 0 else if 16 + 10 * w < x ∧ x < 17 + 10 * W then row0 (x - 10) else row0 x
  | _, _, _, _, _, _, 0, hm => absurd hm (by omega)
  | 0, k, row, hk, hkW, h, m + 1, _ => by
    have e : k = 6 + 10 * w := by omega
    have e7 : (7 : Int32) + (10 : Int32) * nI w = nI (7 + 10 * w) := by rw [zn_7, zn_10, zn_mul, zn_add]
    obtain ⟨row', x1, x2⟩ := r_put_2 lane many item it hr hn hl (by omega : w < 20) hit p2 p3 ac was row 10 0 row (by omega) (fun x => by rw [if_neg (by omega)]) FU (zn_fu (by omega))
    refine ⟨row', ?_, fun x => ?_⟩
    · rw [mX7_put_b228, e7, if_pos (nI_lt (by omega) (by omega))]
      exact x1
    · have e3 : row (3 + l) = row0 (3 + l) := by rw [h, if_neg (by omega)]
      rw [x2, e3, h]
      have : (k + 10 < x ∧ x < 17 + 10 * W) = (16 + 10 * w < x ∧ x < 17 + 10 * W) := by rw [e, show 6 + 10 * w + 10 = 16 + 10 * w by omega]
      simp only [this]
  | d + 1, k, row, hk, hkW, h, m + 1, hm => by
    have e7 : (7 : Int32) + (10 : Int32) * nI w = nI (7 + 10 * w) := by rw [zn_7, zn_10, zn_mul, zn_add]
    have e10 : nI k + (10 : Int32) = nI (k + 10) := by rw [zn_10, zn_add]
    have em : nI k + (-1) = nI (k - 1) := by
      obtain ⟨j, rfl⟩ : ∃ j, k = j + 1 := ⟨k - 1, by omega⟩
      rw [pk_m1]; rfl
    have c1 : ¬ (nI k < 0 ∨ 207 ≤ k) := by simp (disch := omega) only [↓reduceIte, Nat.reduceAdd, Nat.reduceMul, Nat.reduceSub, Nat.zero_add, zn_0, zn_1, zn_2, zn_3, zn_4, zn_5, zn_6, zn_7, zn_8, zn_9, zn_10, zn_16, zn_20, zn_23, zn_24, zn_25, zn_26, zn_40, zn_207, zn_4761, zn_99, zn_130, zn_lt_t, zn_lt_f, zn_le_t, zn_le_f, zn_eq_t, zn_eq_f, zn_ix, zn_cl, zq_le_f, zq_le_t, zq_lt_f, zq_lt_t, zn_add, zn_mul, zn_sub, or_false, false_or, or_self, true_or, or_true, and_true, true_and, and_false, false_and, not_true_eq_false, not_false_eq_true, if_true, if_false, os1, os2, os3, os4, os5, os6, os7, os8, os9, os10, os11, os12, os13, os14, os15, os16, os17, os18, os19, os20, os21, os22, os23, os24]
    have c2 : ¬ (nI (k + 10) < 0 ∨ 207 ≤ k + 10) := by simp (disch := omega) only [↓reduceIte, Nat.reduceAdd, Nat.reduceMul, Nat.reduceSub, Nat.zero_add, zn_0, zn_1, zn_2, zn_3, zn_4, zn_5, zn_6, zn_7, zn_8, zn_9, zn_10, zn_16, zn_20, zn_23, zn_24, zn_25, zn_26, zn_40, zn_207, zn_4761, zn_99, zn_130, zn_lt_t, zn_lt_f, zn_le_t, zn_le_f, zn_eq_t, zn_eq_f, zn_ix, zn_cl, zq_le_f, zq_le_t, zq_lt_f, zq_lt_t, zn_add, zn_mul, zn_sub, or_false, false_or, or_self, true_or, or_true, and_true, true_and, and_false, false_and, not_true_eq_false, not_false_eq_true, if_true, if_false, os1, os2, os3, os4, os5, os6, os7, os8, os9, os10, os11, os12, os13, os14, os15, os16, os17, os18, os19, os20, os21, os22, os23, os24]
    rw [mX7_put_b228, e7, if_neg (nI_nlt (by omega) (by omega)), e10, em, zn_cl (a := k) (by omega), zn_cl (a := k + 10) (by omega), if_neg c1, if_neg c2]
    apply r_put_1 lane many item it hr hn hl hW hwW hit p2 p3 ac was row0 d (k - 1) _ (by omega) (by omega) ?_ m (by omega)
    intro x
    rw [zn_up]
    by_cases g : x = k + 10
    · rw [if_pos g, if_pos (by omega), h, if_neg (by omega), show x - 10 = k by omega]
    · rw [if_neg g, h]
      by_cases g2 : k + 10 < x ∧ x < 17 + 10 * W
      · rw [if_pos g2, if_pos (by omega)]
      · rw [if_neg g2, if_neg (by omega)]
theorem PR_ins {L : List Nat} {ln : Nat → Int32} {lt : Nat → Nat → Int32} {A : AP} {row : Nat → Int32} (h : PR ln lt A row) (ha : AOK L ln lt A) {w l k q n : Nat} (hW : aW A < 20) (hw : w ≤ aW A) (hl : l < aL A) (hln : ln q = nI n) (hn : n ≤ 8) {it : Nat → Int32} (hlt : lt q = cutF n it) {row' : Nat → Int32} (hr : ∀ x, row' x = if x = 3 + l then row (3 + l) + 1 else if 9 + 10 * w ≤ x ∧ x < 9 + 10 * w + n then it (x - (9 + 10 * w)) else if x = 8 + 10 * w then nI n else if x = 7 + 10 * w then nI k else if 7 + 10 * w ≤ x ∧ x < 17 + 10 * w then 0 else if 16 + 10 * w < x ∧ x < 17 + 10 * aW A then row (x - 10) else row x) : PR ln lt (insA A l w k q) row' := by
  obtain ⟨-, -, w20, l4⟩ := aok_sz ha
  obtain ⟨k1, k2, k3, k4, k5⟩ := h
  have low : ∀ x, x < 7 + 10 * w → ¬ x = 3 + l → row' x = row x := by
    intro x h1 h2
    rw [hr, if_neg h2, if_neg (by omega), if_neg (by omega), if_neg (by omega), if_neg (by omega), if_neg (by omega)]
  have up : ∀ x, 17 + 10 * w ≤ x → x < 17 + 10 * aW A → row' x = row (x - 10) := by
    intro x h1 h2
    rw [hr, if_neg (by omega), if_neg (by omega), if_neg (by omega), if_neg (by omega), if_neg (by omega), if_pos (by omega)]
  refine ⟨?_, ?_, ?_, fun v hv => ?_, fun v hv => ?_⟩
  · rw [low _ (by omega) (by omega), insA_L]; exact k1
  · rw [low _ (by omega) (by omega)]; exact k2
  · rw [low _ (by omega) (by omega)]; exact k3
  · rw [insA_sz hl]
    by_cases g : v = l
    · rw [hr, if_pos (by omega), if_pos g, k4 l (by omega), nI_1]
    · rw [low _ (by omega) (by omega), if_neg g]; exact k4 v hv
  · rw [insA_W hw] at hv
    rw [insA_kd hw, insA_q hw]
    by_cases g : v < w
    · simp only [if_pos g]
      obtain ⟨m1, m2, m3⟩ := k5 v (by omega)
      refine ⟨by rw [low _ (by omega) (by omega)]; exact m1, by rw [low _ (by omega) (by omega)]; exact m2, fun i hi q => by rw [low _ (by omega) (by omega)]; exact m3 i hi q⟩
    · by_cases g2 : v = w
      · simp only [if_neg g, if_pos g2]
        subst g2
        refine ⟨?_, ?_, fun i hi q => ?_⟩
        · rw [hr, if_neg (by omega), if_neg (by omega), if_neg (by omega), if_pos rfl]
        · rw [hr, if_neg (by omega), if_neg (by omega), if_pos rfl, hln]
        · rw [hln] at q
          have hin : i < n := by
            apply Nat.lt_of_not_le
            intro z
            exact nI_nlt z (by omega) q
          rw [hr, if_neg (by omega), if_pos (by omega), hlt, show 9 + 10 * v + i - (9 + 10 * v) = i by omega]
          unfold cutF
          rw [if_pos hin]
      · simp only [if_neg g, if_neg g2]
        obtain ⟨m1, m2, m3⟩ := k5 (v - 1) (by omega)
        refine ⟨?_, ?_, fun i hi q => ?_⟩
        · rw [up _ (by omega) (by omega), ← m1, show 7 + 10 * v - 10 = 7 + 10 * (v - 1) by omega]
        · rw [up _ (by omega) (by omega), ← m2, show 8 + 10 * v - 10 = 8 + 10 * (v - 1) by omega]
        · rw [up _ (by omega) (by omega), ← m3 i hi q, show 9 + 10 * v + i - 10 = 9 + 10 * (v - 1) + i by omega]
theorem st9 : Step9 RelW := by
  intro x_begun x_latestFault x_latestFinding rd_length rd_tape v_foot v_feet v_lines v_words v_sizes v_kinds v_spelled d_spelled i0_foot i0_feet i0_lines i0_words i0_sizes i0_kinds i0_spelled i1_foot i1_feet i1_lines i1_words i1_sizes i1_kinds i1_spelled ac_next ac_kept ac_sorts ac_firsts ac_seconds ac_takenKinds ac_takenSpellings x_bodies m_thrown m_status m_acts m_taped m_latest m_traced m_lane m_many m_item m_poem m_was m_tape m_isKept m_kept m_trace x_lane x_rsz x_item L la sa ln sy sn lt st a1 a2 a3 a4 a5 hR
  obtain ⟨hF, hG, hT, hW, hC, hZ⟩ := hR
  have hZ0 := hZ
  obtain ⟨hP, hD, hI0, hI1, A, ha, hpc, hpr, hA⟩ := hZ
  have hpc0 := hpc
  obtain ⟨p1, p2, p3, p4, hz, hc, hsp⟩ := hpc
  subst p1 p2 p3 p4
  replace hz : CZ A v_sizes := hz
  replace hc : CW A v_kinds v_spelled := hc
  obtain ⟨-, -, w20, l4⟩ := aok_sz ha
  have e0 : (0 : Int32).toInt = 0 := rfl
  have e1 : (1 : Int32).toInt = 1 := rfl
  have e8 : (8 : Int32).toInt = 8 := rfl
  unfold qX6_put qX6_put_b0
  have bad : mX7_put m_lane m_many m_item m_thrown m_status m_acts m_poem m_was a1 a2 a3 a4 a5 = some (-1000001, 0, m_status, m_acts, m_poem, m_was) → ∃ mo_m_thrown mo_m_status mo_m_acts mo_m_poem mo_m_was, mX7_put m_lane m_many m_item m_thrown m_status m_acts m_poem m_was a1 a2 a3 a4 a5 = some (-1000001, mo_m_thrown, mo_m_status, mo_m_acts, mo_m_poem, mo_m_was) ∧ RelW rd_length x_begun x_latestFault x_latestFinding rd_tape x_bodies (nI A.1) (nI A.2.1) (nI (aL A)) (nI (aW A)) v_sizes v_kinds v_spelled d_spelled i0_foot i0_feet i0_lines i0_words i0_sizes i0_kinds i0_spelled i1_foot i1_feet i1_lines i1_words i1_sizes i1_kinds i1_spelled ac_next ac_kept ac_sorts ac_firsts ac_seconds ac_takenKinds ac_takenSpellings x_lane x_rsz x_item L la sa ln sy sn lt st mo_m_status mo_m_acts m_taped m_latest m_traced m_lane m_many m_item mo_m_poem mo_m_was m_tape m_isKept m_kept m_trace :=
    fun h => ⟨0, m_status, m_acts, m_poem, m_was, h, hF, hG, hT, hW, hC, hZ0⟩
  rcases rng a1 (aL A) (by omega) with ⟨l, hl, rfl⟩ | hn
  · obtain ⟨g1, g2, g3, g4, g5, g6⟩ := aok_l ha hl
    have hl7 : mX7_isLine m_poem (nI l) = some (nI 1) := r_il_t hpr ha hl
    have hrow : m_poem (3 + l) = nI (aSz A l) := hpr.2.2.2.1 l (by omega)
    have c1 : ¬ (nI l < 0 ∨ 4 ≤ l) := by simp (disch := omega) only [↓reduceIte, Nat.reduceAdd, Nat.reduceMul, Nat.reduceSub, Nat.zero_add, zn_0, zn_1, zn_2, zn_3, zn_4, zn_5, zn_6, zn_7, zn_8, zn_9, zn_10, zn_16, zn_20, zn_23, zn_24, zn_25, zn_26, zn_40, zn_207, zn_4761, zn_99, zn_130, zn_lt_t, zn_lt_f, zn_le_t, zn_le_f, zn_eq_t, zn_eq_f, zn_ix, zn_cl, zq_le_f, zq_le_t, zq_lt_f, zq_lt_t, zn_add, zn_mul, zn_sub, or_false, false_or, or_self, true_or, or_true, and_true, true_and, and_false, false_and, not_true_eq_false, not_false_eq_true, if_true, if_false, os1, os2, os3, os4, os5, os6, os7, os8, os9, os10, os11, os12, os13, os14, os15, os16, os17, os18, os19, os20, os21, os22, os23, os24]
    have c3 : ¬ (nI (3 + l) < 0 ∨ 207 ≤ 3 + l) := by simp (disch := omega) only [↓reduceIte, Nat.reduceAdd, Nat.reduceMul, Nat.reduceSub, Nat.zero_add, zn_0, zn_1, zn_2, zn_3, zn_4, zn_5, zn_6, zn_7, zn_8, zn_9, zn_10, zn_16, zn_20, zn_23, zn_24, zn_25, zn_26, zn_40, zn_207, zn_4761, zn_99, zn_130, zn_lt_t, zn_lt_f, zn_le_t, zn_le_f, zn_eq_t, zn_eq_f, zn_ix, zn_cl, zq_le_f, zq_le_t, zq_lt_f, zq_lt_t, zn_add, zn_mul, zn_sub, or_false, false_or, or_self, true_or, or_true, and_true, true_and, and_false, false_and, not_true_eq_false, not_false_eq_true, if_true, if_false, os1, os2, os3, os4, os5, os6, os7, os8, os9, os10, os11, os12, os13, os14, os15, os16, os17, os18, os19, os20, os21, os22, os23, os24]
    have e3 : (3 : Int32) + nI l = nI (3 + l) := by rw [zn_3, zn_add]
    have cl : (nI l).toNatClampNeg = l := nI_clamp (by omega)
    have cl3 : (nI (3 + l)).toNatClampNeg = 3 + l := nI_clamp (by omega)
    have es := hz l hl
    have hin2 : mX7_in a2.toInt64 (0 : Int64) ((nI (aSz A l)).toInt64) = some (if 0 ≤ a2.toInt ∧ a2.toInt ≤ (aSz A l : Int) then 1 else 0) := by
      rw [in_i, Int32.toInt_toInt64, nI_toInt (by omega), show (0 : Int64).toInt = 0 from rfl]
    refine ⟨1, c_hl_t hl (by omega), fun h => absurd h (by decide), fun _ => ⟨fun h2 => bad ?_, fun h2 => ⟨by rw [cl]; exact c1, fun h3 => ?_, fun h3 => bad ?_⟩⟩⟩
    · unfold mX7_put mX7_put_b0
      rw [i32_lt] at h2
      rw [hl7, os1, if_neg (by decide), e3, cl3, if_neg c3, hrow, hin2, if_neg (by omega)]
      rfl
    · rw [cl, es, i32_le, nI_toInt (by omega)] at h3
      rw [i32_lt] at h2
      rw [if_pos (by omega)] at hin2
      obtain ⟨pl, hpl, rfl⟩ := i32_nat (p := a2) (n := 6) (by omega) (by omega) (by omega)
      rw [nI_toInt (by omega)] at h3
      have h6k := kind6 a3
      have h7k := in_i a3 1 5
      rw [show (1 : Int64).toInt = 1 from rfl, show (5 : Int64).toInt = 5 from rfl] at h7k
      have h6r := isRow6 a4
      have h7r := isRow7 a4
      have h7n := in_i a5 1 8
      rw [show (1 : Int64).toInt = 1 from rfl, show (8 : Int64).toInt = 8 from rfl] at h7n
      refine ⟨_, h6k, fun h4 => bad ?_, fun h4 => ⟨_, h6r, fun h5 => bad ?_, fun h5 => ⟨fun h6 => bad ?_, fun h6 => ⟨fun h7 => ⟨by rw [cl]; exact c1, fun h8 => ?_, fun h8 => ?_⟩, fun h7 => bad ?_⟩⟩⟩⟩
      · have hk : ¬ (1 ≤ a3.toInt ∧ a3.toInt ≤ 5) := by
          intro q; rw [if_pos q] at h4; exact absurd h4 (by decide)
        unfold mX7_put mX7_put_b0
        rw [hl7, os1, if_neg (by decide), e3, cl3, if_neg c3, hrow, hin2, os1, if_neg (by decide), h7k, if_neg hk]
        rfl
      · have hk : 1 ≤ a3.toInt ∧ a3.toInt ≤ 5 := by
          apply Classical.byContradiction; intro q; rw [if_neg q] at h4; exact absurd rfl h4
        have hr : ¬ (0 ≤ a4.toInt ∧ a4.toInt ≤ 7) := by
          intro q; rw [if_pos q] at h5; exact absurd h5 (by decide)
        unfold mX7_put mX7_put_b0
        rw [hl7, os1, if_neg (by decide), e3, cl3, if_neg c3, hrow, hin2, os1, if_neg (by decide), h7k, if_pos hk, os1, if_neg (by decide), h7r, if_neg hr]
        rfl
      · have hk : 1 ≤ a3.toInt ∧ a3.toInt ≤ 5 := by
          apply Classical.byContradiction; intro q; rw [if_neg q] at h4; exact absurd rfl h4
        have hr : 0 ≤ a4.toInt ∧ a4.toInt ≤ 7 := by
          apply Classical.byContradiction; intro q; rw [if_neg q] at h5; exact absurd rfl h5
        rw [i32_lt] at h6
        unfold mX7_put mX7_put_b0
        rw [hl7, os1, if_neg (by decide), e3, cl3, if_neg c3, hrow, hin2, os1, if_neg (by decide), h7k, if_pos hk, os1, if_neg (by decide), h7r, if_pos hr, os1, if_neg (by decide), h7n, if_neg (by omega)]
        rfl
      · have hk : 1 ≤ a3.toInt ∧ a3.toInt ≤ 5 := by
          apply Classical.byContradiction; intro q; rw [if_neg q] at h4; exact absurd rfl h4
        have hr : 0 ≤ a4.toInt ∧ a4.toInt ≤ 7 := by
          apply Classical.byContradiction; intro q; rw [if_neg q] at h5; exact absurd rfl h5
        rw [i32_lt] at h6
        rw [i32_le] at h7
        obtain ⟨k, hk6, rfl⟩ := i32_nat (p := a3) (n := 6) (by omega) (by omega) (by omega)
        obtain ⟨r, hr8, rfl⟩ := i32_nat (p := a4) (n := 8) hr.1 (by omega) (by omega)
        obtain ⟨n, hn9, rfl⟩ := i32_nat (p := a5) (n := 9) (by omega) (by omega) (by omega)
        rw [nI_toInt (by omega)] at h6 h7 hk
        rw [cl, es] at h8
        have hsz : aSz A l < 5 := by
          apply Nat.lt_of_not_le; intro q; exact nI_nlt (b := 5) q (by omega) h8
        have cr : (nI r).toNatClampNeg = r := nI_clamp (by omega)
        have c8 : ¬ 8 ≤ r := by omega
        have c9 : ¬ (nI r < 0 ∨ 8 ≤ r) := by simp (disch := omega) only [↓reduceIte, Nat.reduceAdd, Nat.reduceMul, Nat.reduceSub, Nat.zero_add, zn_0, zn_1, zn_2, zn_3, zn_4, zn_5, zn_6, zn_7, zn_8, zn_9, zn_10, zn_16, zn_20, zn_23, zn_24, zn_25, zn_26, zn_40, zn_207, zn_4761, zn_99, zn_130, zn_lt_t, zn_lt_f, zn_le_t, zn_le_f, zn_eq_t, zn_eq_f, zn_ix, zn_cl, zq_le_f, zq_le_t, zq_lt_f, zq_lt_t, zn_add, zn_mul, zn_sub, or_false, false_or, or_self, true_or, or_true, and_true, true_and, and_false, false_and, not_true_eq_false, not_false_eq_true, if_true, if_false, os1, os2, os3, os4, os5, os6, os7, os8, os9, os10, os11, os12, os13, os14, os15, os16, os17, os18, os19, os20, os21, os22, os23, os24]
        obtain ⟨r1, r2, r3, r4, r5⟩ := hW _ hr8
        have mi := miss4 (x_lane r)
        have hh := holds4 (x_rsz r) 0 (nI n) r4
        rw [nI_toInt (by omega), e0] at hh
        have gB := lg_le0 ((0 : Int32).toInt64 + (nI n).toInt64) ((m_many r).toInt64)
        rw [add64, Int32.toInt_toInt64, nI_toInt (by omega), e0] at gB
        have r2' : (m_many r).toInt = (x_rsz r).toInt := by rw [r2]
        have pre : ∀ X, X = mX7_put m_lane m_many m_item m_thrown m_status m_acts m_poem m_was (nI l) (nI pl) (nI k) (nI r) (nI n) → X = ob2 (mX7_rowFound m_lane m_many m_status (nI r) (0 : Int32) (nI n)) (fun r_39 u0_39 => (if r_39 = 0 then mX7_put_b107 m_lane m_many m_item (nI l) (nI pl) (nI k) (nI r) (nI n) FU (0 : Int32) u0_39 m_acts m_poem m_was (0 : Int32) (0 : Int32) else some (r_39, (0 : Int32), u0_39, m_acts, m_poem, m_was))) := by
          intro X hX
          rw [hX]
          rw [nI_toInt (n := n) (by omega)] at h7n
          unfold mX7_put mX7_put_b0
          rw [hl7, os1, if_neg (by decide), e3, cl3, if_neg c3, hrow, hin2, os1, if_neg (by decide), h7k, nI_toInt (n := k) (by omega), if_pos hk, os1, if_neg (by decide), h7r, if_pos hr, os1, if_neg (by decide), h7n, if_pos (by omega), os1, if_neg (by decide), if_neg c3, if_neg (show ¬ nI (aSz A l) = (5 : Int32) from fun q => absurd (zn_inj (b := 5) (by omega) (by omega) q) (by omega))]
        have pre' := pre _ rfl
        refine ⟨by rw [cr]; exact c9, by rw [cr]; exact c8, _, by rw [cr]; exact mi, fun h10 => ⟨by rw [cr]; exact c8, _, by rw [cr]; exact hh, fun h11 => ?_, fun h11 => ⟨by rw [cr]; exact c8, by rw [cr]; exact c8, _, by rw [cr]; exact c_areL (by omega : n ≤ 40) (by omega) (x_item r), fun h12 => ?_, fun h12 => ⟨by rw [cr]; exact c8, by rw [cr]; exact c8, _, by rw [cr]; exact c_hasV (by omega : n ≤ 40) (by omega) (x_item r), fun h13 => ?_, fun h13 => ⟨_, c_first ha hz hl, by rw [cr]; exact c8, by rw [cr]; exact c8, ?_⟩⟩⟩⟩, fun h10 => ?_⟩
        · -- no such place
          have hma : ¬ x_lane r = -1 := by
            intro q; rw [if_pos q] at h10; exact absurd h10 (by decide)
          have kl : 0 ≤ m_lane r := by
            rw [r1, i32_le]; rw [i32_eq] at hma
            have e9 : (-1 : Int32).toInt = -1 := rfl
            omega
          have hnf : ¬ ((0 : Int) ≤ 0 ∧ (0 : Int) ≤ (n : Int) ∧ (0 : Int) + (n : Int) ≤ (x_rsz r).toInt) := by
            intro q; rw [if_pos q] at h11; exact absurd h11 (by decide)
          refine ⟨-1000010 - 2, 2, rfl, 0, 2, m_acts, m_poem, m_was, ?_, rfl, hG, hT, hW, hC, hZ0⟩
          rw [pre']
          unfold mX7_rowFound mX7_rowFound_b0
          rw [cr, if_neg c9, if_pos kl, if_neg (by decide), if_neg c9, if_neg (by rw [gB]; omega)]
          rfl
        · -- no letter
          have hma : ¬ x_lane r = -1 := by
            intro q; rw [if_pos q] at h10; exact absurd h10 (by decide)
          have kl : 0 ≤ m_lane r := by
            rw [r1, i32_le]; rw [i32_eq] at hma
            have e9 : (-1 : Int32).toInt = -1 := rfl
            omega
          have hfit : (0 : Int) ≤ 0 ∧ (0 : Int) ≤ (n : Int) ∧ (0 : Int) + (n : Int) ≤ (x_rsz r).toInt := by
            apply Classical.byContradiction; intro q; rw [if_neg q] at h11; exact absurd rfl h11
          have hall : allB (fun i => isL (x_item r i)) n = false := by
            cases hb : allB (fun i => isL (x_item r i)) n
            · rfl
            · rw [hb] at h12; exact absurd h12 (by decide)
          refine ⟨-1000010 - 2, 2, rfl, 0, 2, m_acts, m_poem, m_was, ?_, rfl, hG, hT, hW, hC, hZ0⟩
          rw [pre']
          unfold mX7_rowFound mX7_rowFound_b0
          rw [cr, if_neg c9, if_pos kl, if_neg (by decide), if_neg c9, if_pos (by rw [gB]; omega), os2, if_pos rfl]
          have hs := r_put_scan m_lane m_many m_item (x_item r) hr8 (by omega : n ≤ 8) r5 (nI l) (nI pl) (nI k) m_status m_acts m_poem m_was n 0 (by omega) rfl FU (zn_fu (by omega))
          rw [hall, if_neg (by decide)] at hs
          exact hs
        · -- no vowel
          have hma : ¬ x_lane r = -1 := by
            intro q; rw [if_pos q] at h10; exact absurd h10 (by decide)
          have kl : 0 ≤ m_lane r := by
            rw [r1, i32_le]; rw [i32_eq] at hma
            have e9 : (-1 : Int32).toInt = -1 := rfl
            omega
          have hfit : (0 : Int) ≤ 0 ∧ (0 : Int) ≤ (n : Int) ∧ (0 : Int) + (n : Int) ≤ (x_rsz r).toInt := by
            apply Classical.byContradiction; intro q; rw [if_neg q] at h11; exact absurd rfl h11
          have hall : allB (fun i => isL (x_item r i)) n = true := by
            cases hb : allB (fun i => isL (x_item r i)) n
            · rw [hb] at h12; exact absurd rfl h12
            · rfl
          have hany : anyB (fun i => VW (x_item r i)) n = false := by
            cases hb : anyB (fun i => VW (x_item r i)) n
            · rfl
            · rw [hb] at h13; exact absurd h13 (by decide)
          refine ⟨0, m_status, m_acts, m_poem, m_was, ?_, hF, hG, hT, hW, hC, hZ0⟩
          rw [pre']
          unfold mX7_rowFound mX7_rowFound_b0
          rw [cr, if_neg c9, if_pos kl, if_neg (by decide), if_neg c9, if_pos (by rw [gB]; omega), os2, if_pos rfl]
          have hs := r_put_scan m_lane m_many m_item (x_item r) hr8 (by omega : n ≤ 8) r5 (nI l) (nI pl) (nI k) m_status m_acts m_poem m_was n 0 (by omega) rfl FU (zn_fu (by omega))
          rw [hall, if_pos rfl, hany, if_neg (by decide)] at hs
          exact hs
        · -- put in
          have hma : ¬ x_lane r = -1 := by
            intro q; rw [if_pos q] at h10; exact absurd h10 (by decide)
          have kl : 0 ≤ m_lane r := by
            rw [r1, i32_le]; rw [i32_eq] at hma
            have e9 : (-1 : Int32).toInt = -1 := rfl
            omega
          have hfit : (0 : Int) ≤ 0 ∧ (0 : Int) ≤ (n : Int) ∧ (0 : Int) + (n : Int) ≤ (x_rsz r).toInt := by
            apply Classical.byContradiction; intro q; rw [if_neg q] at h11; exact absurd rfl h11
          have hall : allB (fun i => isL (x_item r i)) n = true := by
            cases hb : allB (fun i => isL (x_item r i)) n
            · rw [hb] at h12; exact absurd rfl h12
            · rfl
          have hany : anyB (fun i => VW (x_item r i)) n = true := by
            cases hb : anyB (fun i => VW (x_item r i)) n
            · rw [hb] at h13; exact absurd rfl h13
            · rfl
          obtain ⟨i0, hi0, hv0⟩ := anyB_ex hany
          have hrt : 1 ≤ RT (cutF n (x_item r)) n := RT_vowel hi0 (by unfold cutF; rw [if_pos hi0]; exact hv0)
          have hsl := (spl_k n (by omega) (by omega)).1
          obtain ⟨sa9, y1, y2⟩ := c_spell (n := n) (n1 := 40) ⟨by omega, by omega⟩ (by omega) (by omega) (x_item r) (nI n)
          have hWm : aW A < 20 := by
            obtain ⟨a5', b5, -, -⟩ := aok_sz ha
            have := a5' 0
            have := a5' 1
            have := a5' 2
            have := a5' 3
            have : l = 0 ∨ l = 1 ∨ l = 2 ∨ l = 3 := by omega
            rcases this with rfl | rfl | rfl | rfl <;> omega
          have hwW : aFst A l + pl ≤ aW A := by omega
          rw [cr, hsl, nI_clamp (n := n) (by omega)]
          refine ⟨_, _, sa9, _, y1, fun q qa qs hq => ?_⟩
          have hex := EXT_one (ln := ln) (lt := lt) hq (nI n) (cutF n (x_item r))
          have hqL : q ∈ L ++ [q] := List.mem_append_right _ (List.mem_singleton.mpr rfl)
          have ha' := AOK_ext hex ha
          have hpr' := PR_ext hex ha hpr
          have hpc' := PC_ext hex hpc0
          have hA' := RActs_ext hex hA
          have hlnq : va_up ln q (nI n) q = nI n := by rw [zn_vup, if_pos rfl]
          have hltq : va_up lt q (cutF n (x_item r)) q = cutF n (x_item r) := by rw [zn_vup, if_pos rfl]
          obtain ⟨kd, sp, x1, x2⟩ := c_insert0 (k := k) hpc' g5 hWm hwW hl hqL
          have han := AOK_ins ha' (k := k) hwW hl hsz ⟨by omega, by omega⟩ hqL ⟨by omega, by omega⟩ hlnq (by rw [hltq]; exact hrt)
          obtain ⟨p, hp, en, next', kept', acts', was', q1, q2, q3⟩ := RActs_new (s := 1) (a := aFst A l + pl) (b := l) (k := 0) (q := 0) (A' := insA A l (aFst A l + pl) k q) hA' ha' (by omega) hpr' (Or.inr (Or.inl ⟨rfl, by rw [insA_W hwW]; omega, by rw [insA_L]; exact hl⟩)) (undo_put hl k q 0 0) (insA_L _ _ _ _).symm
          have hact := q3 ac_takenKinds ac_takenSpellings (fun _ _ => ⟨rfl, rfl⟩) (fun h => absurd h (by decide)) hA'.1
          obtain ⟨row', z1, z2⟩ := r_put_1 m_lane m_many m_item (x_item r) (n := n) (l := l) (w := aFst A l + pl) (W := aW A) hr8 (by omega) (by omega) hWm hwW r5 (nI pl) (nI k) acts' was' m_poem (10 * (aW A - (aFst A l + pl))) (6 + 10 * aW A) m_poem (by omega) (by omega) (fun x => by rw [if_neg (by omega)]) FU (zn_fu (by omega))
          have q1' : mX0_keep ac_next ac_kept ac_sorts ac_firsts ac_seconds 1 (nI (aFst A l + pl)) (nI l) = _ := q1
          rw [zn_add]
          refine ⟨_, _, kd, sp, x1, next', kept', _, _, _, q1', 0, 0, acts', row', was', ?_, rfl, hG, hT, hW, hC, POOL_one hP hq (by omega) y2, fun j hj => List.mem_append_left _ (hD j hj), RImg_ext hex hI0, RImg_ext hex hI1, insA A l (aFst A l + pl) k q, han, ?_, PR_ins hpr' ha' hWm hwW hl hlnq (by omega) hltq z2, hact⟩
          · rw [pre']
            unfold mX7_rowFound mX7_rowFound_b0
            rw [cr, if_neg c9, if_pos kl, if_neg (by decide), if_neg c9, if_pos (by rw [gB]; omega), os2, if_pos rfl]
            have hs := r_put_scan m_lane m_many m_item (x_item r) hr8 (by omega : n ≤ 8) r5 (nI l) (nI pl) (nI k) m_status m_acts m_poem m_was n 0 (by omega) rfl FU (zn_fu (by omega))
            have eW : (7 : Int32) + (10 : Int32) * nI (aW A) - 1 = nI (6 + 10 * aW A) := by
              rw [zn_7, zn_10, zn_1, zn_mul, zn_add, zn_sub (by omega)]; congr 1; omega
            rw [hall, if_pos rfl, hany, if_pos rfl, q2, os2, r_firstOf hpr ha (by omega), os1, r_wordsOf hpr ha, os1, zn_add, eW] at hs
            exact hs.trans z1
          · obtain ⟨t1, t2, t3, t4, t5, t6, t7⟩ := x2
            exact ⟨t1, t2, t3, t4, t5, t6, t7⟩
        · -- no row
          have hma' : x_lane r = -1 := by
            apply Classical.byContradiction; intro q; rw [if_neg q] at h10; exact absurd rfl h10
          refine ⟨-1000010 - 1, 1, rfl, 0, 1, m_acts, m_poem, m_was, ?_, rfl, hG, hT, hW, hC, hZ0⟩
          rw [pre']
          unfold mX7_rowFound mX7_rowFound_b0
          rw [cr, if_neg c9, if_neg (show ¬ 0 ≤ m_lane r by rw [r1, hma']; decide)]
          rfl
      · have hk : 1 ≤ a3.toInt ∧ a3.toInt ≤ 5 := by
          apply Classical.byContradiction; intro q; rw [if_neg q] at h4; exact absurd rfl h4
        have hr : 0 ≤ a4.toInt ∧ a4.toInt ≤ 7 := by
          apply Classical.byContradiction; intro q; rw [if_neg q] at h5; exact absurd rfl h5
        rw [i32_lt] at h6
        rw [i32_le] at h7
        rw [cl, es] at h8
        have hsz : aSz A l = 5 := by
          apply Classical.byContradiction; intro q
          exact h8 (nI_lt (b := 5) (by omega) (by omega))
        refine ⟨0, m_status, m_acts, m_poem, m_was, ?_, hF, hG, hT, hW, hC, hZ0⟩
        unfold mX7_put mX7_put_b0
        rw [hl7, os1, if_neg (by decide), e3, cl3, if_neg c3, hrow, hin2, os1, if_neg (by decide), h7k, if_pos hk, os1, if_neg (by decide), h7r, if_pos hr, os1, if_neg (by decide), h7n, if_pos (by omega), os1, if_neg (by decide), if_neg c3, hsz, if_pos (by rfl)]
      · have hk : 1 ≤ a3.toInt ∧ a3.toInt ≤ 5 := by
          apply Classical.byContradiction; intro q; rw [if_neg q] at h4; exact absurd rfl h4
        have hr : 0 ≤ a4.toInt ∧ a4.toInt ≤ 7 := by
          apply Classical.byContradiction; intro q; rw [if_neg q] at h5; exact absurd rfl h5
        rw [i32_le] at h7
        unfold mX7_put mX7_put_b0
        rw [hl7, os1, if_neg (by decide), e3, cl3, if_neg c3, hrow, hin2, os1, if_neg (by decide), h7k, if_pos hk, os1, if_neg (by decide), h7r, if_pos hr, os1, if_neg (by decide), h7n, if_neg (by omega)]
        rfl
    · rw [cl, es, i32_le, nI_toInt (by omega)] at h3
      unfold mX7_put mX7_put_b0
      rw [hl7, os1, if_neg (by decide), e3, cl3, if_neg c3, hrow, hin2, if_neg (by omega)]
      rfl
  · refine ⟨0, c_hl_f hn (by omega), fun _ => bad ?_, fun h => absurd rfl h⟩
    unfold mX7_put mX7_put_b0
    rw [r_il_f hpr ha hn]; rfl
