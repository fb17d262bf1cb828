-- uses: 560.keep
/-! become, metre, swap -/
section
variable {L : List Nat} {ln sy sn : Nat → Int32} {lt st : Nat → Nat → Int32} {A : AP} {row : Nat → Int32} {kinds sizes : Nat → Int32} {spelled : Nat → Nat}
theorem kind6 (a : Int32) : mX6_isKind a = some (if 1 ≤ a.toInt ∧ a.toInt ≤ 5 then 1 else 0) := by
  have e1 : (1 : Int32).toInt = 1 := rfl
  have e5 : (5 : Int32).toInt = 5 := rfl
  unfold mX6_isKind mX6_isKind_b0
  simp only [i32_lt, e1, e5]
  (repeat' split) <;> first | rfl | omega
theorem aword (A : AP) (w : Nat) : (aKd A w, aQ A w) = A.2.2.2.getD w (0, 0) := rfl
theorem set_same {α : Type} (l : List α) (w : Nat) (d : α) : l.set w (l.getD w d) = l := by
  by_cases h : w < l.length
  · rw [List.getD_eq_getElem?_getD, List.getElem?_eq_getElem h]
    simp
  · exact List.set_eq_of_length_le (by omega)
theorem undo_become {w : Nat} (hw : w < aW A) (k x y : Nat) : undoA 0 w (aKd A w) x y (setK A w k) = A := by
  unfold undoA
  rw [if_pos rfl, setK_q hw]
  show (A.1, A.2.1, A.2.2.1, (A.2.2.2.set w (k, aQ A w)).set w (aKd A w, aQ A w)) = A
  rw [List.set_set, aword, set_same]
/-- two words that change places -/
def excA (A : AP) (a b : Nat) : AP := (A.1, A.2.1, A.2.2.1, (A.2.2.2.set a (aKd A b, aQ A b)).set b (aKd A a, aQ A a))
theorem excA_W (a b : Nat) : aW (excA A a b) = aW A := by
  show ((A.2.2.2.set a _).set b _).length = _
  rw [List.length_set, List.length_set]; rfl
theorem excA_p {a b : Nat} (ha : a < aW A) (hb : b < aW A) (v : Nat) : (excA A a b).2.2.2.getD v (0, 0) = if v = b then A.2.2.2.getD a (0, 0) else if v = a then A.2.2.2.getD b (0, 0) else A.2.2.2.getD v (0, 0) := by
  show ((A.2.2.2.set a (aKd A b, aQ A b)).set b (aKd A a, aQ A a)).getD v (0, 0) = _
  have ha' : a < A.2.2.2.length := ha
  have hb' : b < A.2.2.2.length := hb
  rw [aword, aword]
  generalize A.2.2.2.getD a (0, 0) = x
  generalize A.2.2.2.getD b (0, 0) = y
  rw [List.getD_eq_getElem?_getD, List.getElem?_set, List.getElem?_set]
  by_cases h1 : v = b
  · subst h1; simp [hb']
  · have h1' : ¬ b = v := fun q => h1 q.symm
    by_cases h2 : v = a
    · subst h2; simp [h1, h1', ha']
    · have h2' : ¬ a = v := fun q => h2 q.symm
      simp [h1, h1', h2, h2']
theorem excA_kd {a b : Nat} (ha : a < aW A) (hb : b < aW A) (v : Nat) : aKd (excA A a b) v = aKd A (if v = b then a else if v = a then b else v) := by
  unfold aKd
  rw [excA_p ha hb]
  (repeat' split) <;> rfl
theorem excA_q {a b : Nat} (ha : a < aW A) (hb : b < aW A) (v : Nat) : aQ (excA A a b) v = aQ A (if v = b then a else if v = a then b else v) := by
  unfold aQ
  rw [excA_p ha hb]
  (repeat' split) <;> rfl
theorem undo_swap {a b : Nat} (ha : a < aW A) (hb : b < aW A) (x y : Nat) : undoA 3 a b x y (excA A a b) = A := by
  have e : undoA 3 a b x y (excA A a b) = excA (excA A a b) a b := rfl
  rw [e]
  have hl : (excA (excA A a b) a b).2.2.2 = A.2.2.2 := by
    apply List.ext_getElem?
    intro v
    by_cases hv : v < aW A
    · have h1 : v < (excA (excA A a b) a b).2.2.2.length := by
        have e1 := excA_W (A := excA A a b) a b
        have e2 := excA_W (A := A) a b
        show v < aW (excA (excA A a b) a b)
        omega
      have h2 := excA_p (A := excA A a b) (a := a) (b := b) (by rw [excA_W]; exact ha) (by rw [excA_W]; exact hb) v
      rw [excA_p ha hb, excA_p ha hb, excA_p ha hb] at h2
      rw [List.getElem?_eq_getElem h1, List.getElem?_eq_getElem (show v < A.2.2.2.length from hv)]
      congr 1
      rw [List.getD_eq_getElem?_getD, List.getElem?_eq_getElem h1] at h2
      have h3 : A.2.2.2.getD v (0, 0) = A.2.2.2[v] := by
        rw [List.getD_eq_getElem?_getD, List.getElem?_eq_getElem (show v < A.2.2.2.length from hv)]; rfl
      have h4 : (if v = b then if a = b then A.2.2.2.getD a (0, 0) else if a = a then A.2.2.2.getD b (0, 0) else A.2.2.2.getD a (0, 0) else if v = a then if b = b then A.2.2.2.getD a (0, 0) else if b = a then A.2.2.2.getD b (0, 0) else A.2.2.2.getD b (0, 0) else if v = b then A.2.2.2.getD a (0, 0) else if v = a then A.2.2.2.getD b (0, 0) else A.2.2.2.getD v (0, 0)) = A.2.2.2.getD v (0, 0) := by
        by_cases h1 : v = b
        · rw [if_pos h1]
          by_cases h2 : a = b
          · rw [if_pos h2, h1, h2]
          · rw [if_neg h2, if_pos rfl, h1]
        · rw [if_neg h1]
          by_cases h2 : v = a
          · rw [if_pos h2, if_pos rfl, h2]
          · rw [if_neg h2, if_neg h1, if_neg h2]
      rw [h4, h3] at h2
      exact h2
    · have h1 : ¬ v < (excA (excA A a b) a b).2.2.2.length := by
        have e1 := excA_W (A := excA A a b) a b
        have e2 := excA_W (A := A) a b
        show ¬ v < aW (excA (excA A a b) a b)
        omega
      rw [List.getElem?_eq_none (by omega), List.getElem?_eq_none (show A.2.2.2.length ≤ v by have : A.2.2.2.length = aW A := rfl; omega)]
  show (A.1, A.2.1, A.2.2.1, (excA (excA A a b) a b).2.2.2) = A
  rw [hl]
theorem AOK_exc (ha : AOK L ln lt A) {a b : Nat} (h1 : a < aW A) (h2 : b < aW A) : AOK L ln lt (excA A a b) := by
  obtain ⟨k1, k2, k3, k4, k5, k6, k7⟩ := ha
  refine ⟨k1, k2, k3, k4, k5, by rw [excA_W]; exact k6, fun v hv => ?_⟩
  rw [excA_W] at hv
  rw [excA_kd h1 h2, excA_q h1 h2]
  apply k7
  (repeat' split) <;> assumption
theorem c_exchange {f e li : Int32} (hpc : PC L A f e li (nI (aW A)) sizes kinds spelled) (ha : AOK L ln lt A) {a b : Nat} (h1 : a < aW A) (h2 : b < aW A) : ∃ kd sp, mX2_exchange L (nI (aW A)) kinds spelled (nI a) (nI b) = some (kd, sp) ∧ PC L (excA A a b) f e li (nI (aW A)) sizes kd sp := by
  obtain ⟨-, -, w20, l4⟩ := aok_sz ha
  obtain ⟨p1, p2, p3, p4, p5, p6, p7⟩ := hpc
  have ca : ¬ (nI a < 0 ∨ 20 ≤ a) := by simp (disch := omega) only [↓reduceIte, Nat.reduceAdd, Nat.reduceMul, Nat.reduceSub, Nat.zero_add, zn_0, zn_1, zn_2, zn_3, zn_4, zn_5, zn_6, zn_7, zn_8, zn_9, zn_10, zn_16, zn_20, zn_23, zn_24, zn_25, zn_26, zn_40, zn_207, zn_4761, zn_99, zn_130, zn_lt_t, zn_lt_f, zn_le_t, zn_le_f, zn_eq_t, zn_eq_f, zn_ix, zn_cl, zq_le_f, zq_le_t, zq_lt_f, zq_lt_t, zn_add, zn_mul, zn_sub, or_false, false_or, or_self, true_or, or_true, and_true, true_and, and_false, false_and, not_true_eq_false, not_false_eq_true, if_true, if_false, os1, os2, os3, os4, os5, os6, os7, os8, os9, os10, os11, os12, os13, os14, os15, os16, os17, os18, os19, os20, os21, os22, os23, os24]
  have cb : ¬ (nI b < 0 ∨ 20 ≤ b) := by simp (disch := omega) only [↓reduceIte, Nat.reduceAdd, Nat.reduceMul, Nat.reduceSub, Nat.zero_add, zn_0, zn_1, zn_2, zn_3, zn_4, zn_5, zn_6, zn_7, zn_8, zn_9, zn_10, zn_16, zn_20, zn_23, zn_24, zn_25, zn_26, zn_40, zn_207, zn_4761, zn_99, zn_130, zn_lt_t, zn_lt_f, zn_le_t, zn_le_f, zn_eq_t, zn_eq_f, zn_ix, zn_cl, zq_le_f, zq_le_t, zq_lt_f, zq_lt_t, zn_add, zn_mul, zn_sub, or_false, false_or, or_self, true_or, or_true, and_true, true_and, and_false, false_and, not_true_eq_false, not_false_eq_true, if_true, if_false, os1, os2, os3, os4, os5, os6, os7, os8, os9, os10, os11, os12, os13, os14, os15, os16, os17, os18, os19, os20, os21, os22, os23, os24]
  refine ⟨upd (upd kinds a (kinds b)) b (kinds a), va_up (va_up spelled a (spelled b)) b (spelled a), ?_, p1, p2, p3, by rw [excA_W], p5, fun v hv => ?_, fun j hj => ?_⟩
  · unfold mX2_exchange mX2_exchange_b0
    rw [c_hw_t h1 (by omega), os1, if_neg (by decide), c_hw_t h2 (by omega), os1, if_neg (by decide), zn_cl (a := a) (by omega), zn_cl (a := b) (by omega), if_neg ca, if_neg ca, if_neg cb, if_neg ca, if_neg cb, if_neg (fun q => q (p7 b (by omega))), if_neg ca, if_neg cb, if_neg (fun q => q (p7 a (by omega))), if_neg cb]
  · rw [excA_W] at hv
    rw [excA_kd h1 h2, excA_q h1 h2, zn_up, zn_up, zn_vup, zn_vup]
    by_cases e1 : v = b
    · rw [if_pos e1, if_pos e1, if_pos e1]; exact p6 a h1
    · rw [if_neg e1, if_neg e1, if_neg e1]
      by_cases e2 : v = a
      · rw [if_pos e2, if_pos e2, if_pos e2]; exact p6 b h2
      · rw [if_neg e2, if_neg e2, if_neg e2]; exact p6 v hv
  · rw [zn_vup, zn_vup]
    (repeat' split)
    · exact p7 a (by omega)
    · exact p7 b (by omega)
    · exact p7 j hj
/-- ten numbers that change places -/
theorem r_swap_loop {a b : Nat} (ha : a < 20) (hb : b < 20) (hab : ¬ a = b) (row0 : Nat → Int32) (ac : Int32) (was : Nat → Int32) : ∀ (d k : Nat) (row : Nat → Int32), k + d = 10 → (∀ x, row x = if 7 + 10 * a ≤ x ∧ x < 7 + 10 * a + k then row0 (7 + 10 * b + (x - (7 + 10 * a))) else if 7 + 10 * b ≤ x ∧ x < 7 + 10 * b + k then row0 (7 + 10 * a + (x - (7 + 10 * b))) else row0 x) → ∀ n, d < n → ∃ row', mX7_swap_b39 (nI a) (nI b) n 0 ac row was (nI k) = some (nI (AD a b + 1), 0, ac, row', was) ∧ ∀ x, row' x = if 7 + 10 * a ≤ x ∧ x < 7 + 10 * a + 10 then row0 (7 + 10 * b + (x - (7 + 10 * a))) else if 7 + 10 * b ≤ x ∧ x < 7 + 10 * b + 10 then row0 (7 + 10 * a + (x - (7 + 10 * b))) else row0 x
  | _, _, _, _, _, 0, hn => absurd hn (by omega)
  | 0, k, row, hk, h, n + 1, _ => by
    have q : k = 10 := by omega
    subst q
    refine ⟨row, ?_, h⟩
    rw [mX7_swap_b39, if_pos (by decide)]
    unfold AD
    by_cases hle : b ≤ a
    · rw [if_pos (nI_le hle (by omega)), zn_sub hle, nI_1, show a - b + (b - a) = a - b by omega]
    · rw [if_neg (nI_ge (by omega) (by omega)), zn_sub (by omega), nI_1, show a - b + (b - a) = b - a by omega]
  | d + 1, k, row, hk, h, n + 1, hn => by
    have c1 : ¬ (10 : Int32) ≤ nI k := nI_ge (b := 10) (by omega) (by omega)
    have ea : (7 : Int32) + (10 : Int32) * nI a + nI k = nI (7 + 10 * a + k) := by rw [zn_7, zn_10, zn_mul, zn_add, zn_add]
    have eb : (7 : Int32) + (10 : Int32) * nI b + nI k = nI (7 + 10 * b + k) := by rw [zn_7, zn_10, zn_mul, zn_add, zn_add]
    have ca : ¬ (nI (7 + 10 * a + k) < 0 ∨ 207 ≤ 7 + 10 * a + k) := by simp (disch := omega) only [↓reduceIte, Nat.reduceAdd, Nat.reduceMul, Nat.reduceSub, Nat.zero_add, zn_0, zn_1, zn_2, zn_3, zn_4, zn_5, zn_6, zn_7, zn_8, zn_9, zn_10, zn_16, zn_20, zn_23, zn_24, zn_25, zn_26, zn_40, zn_207, zn_4761, zn_99, zn_130, zn_lt_t, zn_lt_f, zn_le_t, zn_le_f, zn_eq_t, zn_eq_f, zn_ix, zn_cl, zq_le_f, zq_le_t, zq_lt_f, zq_lt_t, zn_add, zn_mul, zn_sub, or_false, false_or, or_self, true_or, or_true, and_true, true_and, and_false, false_and, not_true_eq_false, not_false_eq_true, if_true, if_false, os1, os2, os3, os4, os5, os6, os7, os8, os9, os10, os11, os12, os13, os14, os15, os16, os17, os18, os19, os20, os21, os22, os23, os24]
    have cb : ¬ (nI (7 + 10 * b + k) < 0 ∨ 207 ≤ 7 + 10 * b + k) := by simp (disch := omega) only [↓reduceIte, Nat.reduceAdd, Nat.reduceMul, Nat.reduceSub, Nat.zero_add, zn_0, zn_1, zn_2, zn_3, zn_4, zn_5, zn_6, zn_7, zn_8, zn_9, zn_10, zn_16, zn_20, zn_23, zn_24, zn_25, zn_26, zn_40, zn_207, zn_4761, zn_99, zn_130, zn_lt_t, zn_lt_f, zn_le_t, zn_le_f, zn_eq_t, zn_eq_f, zn_ix, zn_cl, zq_le_f, zq_le_t, zq_lt_f, zq_lt_t, zn_add, zn_mul, zn_sub, or_false, false_or, or_self, true_or, or_true, and_true, true_and, and_false, false_and, not_true_eq_false, not_false_eq_true, if_true, if_false, os1, os2, os3, os4, os5, os6, os7, os8, os9, os10, os11, os12, os13, os14, os15, os16, os17, os18, os19, os20, os21, os22, os23, os24]
    rw [mX7_swap_b39, if_neg c1, ea, eb, zn_cl (a := 7 + 10 * a + k) (by omega), zn_cl (a := 7 + 10 * b + k) (by omega), if_neg ca, if_neg cb, if_neg ca, if_neg cb, nI_1]
    apply r_swap_loop ha hb hab row0 ac was d (k + 1) _ (by omega) ?_ n (by omega)
    intro x
    have hra := h (7 + 10 * a + k)
    have hrb := h (7 + 10 * b + k)
    rw [if_neg (by omega), if_neg (by omega)] at hra hrb
    rw [zn_up, zn_up]
    by_cases x1 : x = 7 + 10 * b + k
    · rw [if_pos x1, if_neg (by omega), if_pos (by omega), hra, x1]
      congr 1; omega
    · rw [if_neg x1]
      by_cases x2 : x = 7 + 10 * a + k
      · rw [if_pos x2, if_pos (by omega), hrb, x2]
        congr 1; omega
      · rw [if_neg x2, h x]
        by_cases x3 : 7 + 10 * a ≤ x ∧ x < 7 + 10 * a + k
        · rw [if_pos x3, if_pos (by omega)]
        · have g1 : ¬ (7 + 10 * a ≤ x ∧ x < 7 + 10 * a + (k + 1)) := by omega
          by_cases x4 : 7 + 10 * b ≤ x ∧ x < 7 + 10 * b + k
          · rw [if_neg x3, if_pos x4, if_neg g1, if_pos (by omega)]
          · have g2 : ¬ (7 + 10 * b ≤ x ∧ x < 7 + 10 * b + (k + 1)) := by omega
            rw [if_neg x3, if_neg x4, if_neg g1, if_neg g2]
theorem PR_exc (h : PR ln lt A row) (ha : AOK L ln lt A) {a b : Nat} (h1 : a < aW A) (h2 : b < aW A) (hab : ¬ a = b) {row' : Nat → Int32} (hr : ∀ x, row' x = if 7 + 10 * a ≤ x ∧ x < 7 + 10 * a + 10 then row (7 + 10 * b + (x - (7 + 10 * a))) else if 7 + 10 * b ≤ x ∧ x < 7 + 10 * b + 10 then row (7 + 10 * a + (x - (7 + 10 * b))) else row x) : PR ln lt (excA A a b) row' := by
  obtain ⟨k1, k2, k3, k4, k5⟩ := h
  refine ⟨?_, ?_, ?_, fun l hl => ?_, fun v hv => ?_⟩
  · rw [hr, if_neg (by omega), if_neg (by omega)]; exact k1
  · rw [hr, if_neg (by omega), if_neg (by omega)]; exact k2
  · rw [hr, if_neg (by omega), if_neg (by omega)]; exact k3
  · rw [hr, if_neg (by omega), if_neg (by omega)]; exact k4 l hl
  · rw [excA_W] at hv
    rw [excA_kd h1 h2, excA_q h1 h2]
    by_cases e1 : v = b
    · rw [if_pos e1]
      obtain ⟨m1, m2, m3⟩ := k5 a h1
      subst e1
      refine ⟨?_, ?_, fun i hi q => ?_⟩
      · rw [hr, if_neg (by omega), if_pos (by omega), ← m1]; congr 1; omega
      · rw [hr, if_neg (by omega), if_pos (by omega), ← m2]; congr 1; omega
      · rw [hr, if_neg (by omega), if_pos (by omega), ← m3 i hi q]; congr 1; omega
    · rw [if_neg e1]
      by_cases e2 : v = a
      · rw [if_pos e2]
        obtain ⟨m1, m2, m3⟩ := k5 b h2
        subst e2
        refine ⟨?_, ?_, fun i hi q => ?_⟩
        · rw [hr, if_pos (by omega), ← m1]; congr 1; omega
        · rw [hr, if_pos (by omega), ← m2]; congr 1; omega
        · rw [hr, if_pos (by omega), ← m3 i hi q]; congr 1; omega
      · rw [if_neg e2]
        obtain ⟨m1, m2, m3⟩ := k5 v hv
        refine ⟨?_, ?_, fun i hi q => ?_⟩
        · rw [hr, if_neg (by omega), if_neg (by omega)]; exact m1
        · rw [hr, if_neg (by omega), if_neg (by omega)]; exact m2
        · rw [hr, if_neg (by omega), if_neg (by omega)]; exact m3 i hi q
end
theorem st8 : Step8 RelW := by
  intro x_begun x_latestFault x_latestFinding rd_length rd_tape v_foot v_feet v_lines v_words v_sizes v_kinds v_spelled d_spelled i0_foot i0_feet i0_lines i0_words i0_sizes i0_kinds i0_spelled i1_foot i1_feet i1_lines i1_words i1_sizes i1_kinds i1_spelled ac_next ac_kept ac_sorts ac_firsts ac_seconds ac_takenKinds ac_takenSpellings x_bodies m_thrown m_status m_acts m_taped m_latest m_traced m_lane m_many m_item m_poem m_was m_tape m_isKept m_kept m_trace x_lane x_rsz x_item L la sa ln sy sn lt st a1 a2 hR
  obtain ⟨hF, hG, hT, hW, hC, hZ⟩ := hR
  have hZ0 := hZ
  obtain ⟨hP, hD, hI0, hI1, A, ha, hpc, hpr, hA⟩ := hZ
  have hpc0 := hpc
  obtain ⟨p1, p2, p3, p4, hz, hc, hsp⟩ := hpc
  subst p1 p2 p3 p4
  replace hz : CZ A v_sizes := hz
  replace hc : CW A v_kinds v_spelled := hc
  obtain ⟨-, -, w20, l4⟩ := aok_sz ha
  have h6 := kind6 a2
  have hin := in_i a2 1 5
  rw [show (1 : Int64).toInt = 1 from rfl, show (5 : Int64).toInt = 5 from rfl] at hin
  rcases rng a1 (aW A) (by omega) with ⟨w, hw, rfl⟩ | hn
  · obtain ⟨hN, l1, -, hkd, hq, h20⟩ := aok_w ha hw
    have hw6 : mX2_hasWord (nI (aW A)) (nI w) = some (nI 1) := c_hw_t hw (by omega)
    have hw7 : mX7_isWord m_poem (nI w) = some (nI 1) := r_iw_t hpr ha hw
    obtain ⟨hln, -, -⟩ := aLn_in ha hw
    by_cases hk : 1 ≤ a2.toInt ∧ a2.toInt ≤ 5
    · rw [if_pos hk] at h6 hin
      obtain ⟨k, hk5, rfl⟩ := i32_nat (p := a2) (n := 6) (by omega) (by omega) (by omega)
      rw [nI_toInt (by omega)] at hk
      have c1 : ¬ (nI w < 0 ∨ 20 ≤ w) := by simp (disch := omega) only [↓reduceIte, Nat.reduceAdd, Nat.reduceMul, Nat.reduceSub, Nat.zero_add, zn_0, zn_1, zn_2, zn_3, zn_4, zn_5, zn_6, zn_7, zn_8, zn_9, zn_10, zn_16, zn_20, zn_23, zn_24, zn_25, zn_26, zn_40, zn_207, zn_4761, zn_99, zn_130, zn_lt_t, zn_lt_f, zn_le_t, zn_le_f, zn_eq_t, zn_eq_f, zn_ix, zn_cl, zq_le_f, zq_le_t, zq_lt_f, zq_lt_t, zn_add, zn_mul, zn_sub, or_false, false_or, or_self, true_or, or_true, and_true, true_and, and_false, false_and, not_true_eq_false, not_false_eq_true, if_true, if_false, os1, os2, os3, os4, os5, os6, os7, os8, os9, os10, os11, os12, os13, os14, os15, os16, os17, os18, os19, os20, os21, os22, os23, os24]
      have ek := (hc w hw).1
      by_cases he : aKd A w = k
      · refine ⟨-1000002, v_kinds, ac_next, ac_kept, ac_sorts, ac_firsts, ac_seconds, 0, m_acts, m_poem, m_was, ?_, ?_, hF, hG, hT, hW, hC, hZ0⟩
        · unfold mX6_become mX6_become_b0
          rw [hw6, os1, if_neg (by decide), h6, os1, if_neg (by decide), zn_cl (by omega), if_neg c1, ek, if_pos (by rw [he])]
        · unfold mX7_become mX7_become_b0
          rw [hw7, os1, if_neg (by decide), hin, os1, if_neg (by decide), r_kindOf hpr ha hw, os1, if_pos (by rw [he])]
      · have hne : ¬ nI (aKd A w) = nI k := fun q => he (zn_inj (by omega) (by omega) q)
        obtain ⟨p, hp, en, next', kept', acts', was', q1, q2, q3⟩ := RActs_new (s := 0) (a := w) (b := aKd A w) (k := 0) (q := 0) (A' := setK A w k) hA ha (by omega) hpr (Or.inl ⟨rfl, by rw [setK_W]; exact hw, by omega⟩) (undo_become hw k 0 0) rfl
        have hact := q3 ac_takenKinds ac_takenSpellings (fun _ _ => ⟨rfl, rfl⟩) (fun h => absurd h (by decide)) hA.1
        have ha' := AOK_setK ha hw (k := k) (by omega)
        have hc' := CW_setK (k := k) (spelled := v_spelled) (kinds := v_kinds) hw (fun v hv => ⟨fun _ => (hc v hv).1, (hc v hv).2⟩)
        have e7 : (7 : Int32) + (10 : Int32) * nI w = nI (7 + 10 * w) := by rw [zn_7, zn_10, zn_mul, zn_add]
        have k2 : ¬ (nI (7 + 10 * w) < 0 ∨ 207 ≤ 7 + 10 * w) := by simp (disch := omega) only [↓reduceIte, Nat.reduceAdd, Nat.reduceMul, Nat.reduceSub, Nat.zero_add, zn_0, zn_1, zn_2, zn_3, zn_4, zn_5, zn_6, zn_7, zn_8, zn_9, zn_10, zn_16, zn_20, zn_23, zn_24, zn_25, zn_26, zn_40, zn_207, zn_4761, zn_99, zn_130, zn_lt_t, zn_lt_f, zn_le_t, zn_le_f, zn_eq_t, zn_eq_f, zn_ix, zn_cl, zq_le_f, zq_le_t, zq_lt_f, zq_lt_t, zn_add, zn_mul, zn_sub, or_false, false_or, or_self, true_or, or_true, and_true, true_and, and_false, false_and, not_true_eq_false, not_false_eq_true, if_true, if_false, os1, os2, os3, os4, os5, os6, os7, os8, os9, os10, os11, os12, os13, os14, os15, os16, os17, os18, os19, os20, os21, os22, os23, os24]
        refine ⟨nI (aKd A w), upd v_kinds w (nI k), next', kept', upd ac_sorts p (nI 0), upd ac_firsts p (nI w), upd ac_seconds p (nI (aKd A w)), 0, acts', upd m_poem (7 + 10 * w) (nI k), was', ?_, ?_, hF, hG, hT, hW, hC, hP, hD, hI0, hI1, setK A w k, ha', ⟨rfl, rfl, rfl, by rw [setK_W], hz, hc', hsp⟩, PR_setK hpr hw, hact⟩
        · unfold mX6_become mX6_become_b0
          have q1' : mX0_keep ac_next ac_kept ac_sorts ac_firsts ac_seconds 0 (nI w) (nI (aKd A w)) = _ := q1
          rw [hw6, os1, if_neg (by decide), h6, os1, if_neg (by decide), zn_cl (by omega), if_neg c1, ek, if_neg hne, q1', os5, if_neg c1]
        · unfold mX7_become mX7_become_b0
          rw [hw7, os1, if_neg (by decide), hin, os1, if_neg (by decide), r_kindOf hpr ha hw, os1, if_neg hne, q2, os2, e7, zn_cl (by omega), if_neg k2]
    · rw [if_neg hk] at h6 hin
      refine ⟨-1000001, v_kinds, ac_next, ac_kept, ac_sorts, ac_firsts, ac_seconds, 0, m_acts, m_poem, m_was, ?_, ?_, hF, hG, hT, hW, hC, hZ0⟩
      · unfold mX6_become mX6_become_b0
        rw [hw6, os1, if_neg (by decide), h6]
        rfl
      · unfold mX7_become mX7_become_b0
        rw [hw7, os1, if_neg (by decide), hin]
        rfl
  · refine ⟨-1000001, v_kinds, ac_next, ac_kept, ac_sorts, ac_firsts, ac_seconds, 0, m_acts, m_poem, m_was, ?_, ?_, hF, hG, hT, hW, hC, hZ0⟩
    · unfold mX6_become mX6_become_b0
      rw [c_hw_f hn (by omega)]; rfl
    · unfold mX7_become mX7_become_b0
      rw [r_iw_f hpr ha hn]; rfl
theorem st12 : Step12 RelW := by
  intro x_begun x_latestFault x_latestFinding rd_length rd_tape v_foot v_feet v_lines v_words v_sizes v_kinds v_spelled d_spelled i0_foot i0_feet i0_lines i0_words i0_sizes i0_kinds i0_spelled i1_foot i1_feet i1_lines i1_words i1_sizes i1_kinds i1_spelled ac_next ac_kept ac_sorts ac_firsts ac_seconds ac_takenKinds ac_takenSpellings x_bodies m_thrown m_status m_acts m_taped m_latest m_traced m_lane m_many m_item m_poem m_was m_tape m_isKept m_kept m_trace x_lane x_rsz x_item L la sa ln sy sn lt st a1 a2 hR
  obtain ⟨hF, hG, hT, hW, hC, hZ⟩ := hR
  have hZ0 := hZ
  obtain ⟨hP, hD, hI0, hI1, A, ha, hpc, hpr, hA⟩ := hZ
  have hpc0 := hpc
  obtain ⟨p1, p2, p3, p4, hz, hc, hsp⟩ := hpc
  subst p1 p2 p3 p4
  replace hz : CZ A v_sizes := hz
  replace hc : CW A v_kinds v_spelled := hc
  obtain ⟨-, -, w20, l4⟩ := aok_sz ha
  have hth := r_there hpr ha
  have h6 := metre6 a1 a2
  have h7 := metre7 a1 a2
  by_cases h0 : aL A = 0
  · rw [if_pos h0] at hth
    refine ⟨-1000002, nI A.1, nI A.2.1, ac_next, ac_kept, ac_sorts, ac_firsts, ac_seconds, 0, m_acts, m_poem, m_was, ?_, ?_, hF, hG, hT, hW, hC, hZ0⟩
    · unfold mX6_metre mX6_metre_b0
      rw [h0, if_pos (by rfl)]
    · unfold mX7_metre mX7_metre_b0
      rw [hth]
      rfl
  rw [if_neg h0] at hth
  have k0 : ¬ nI (aL A) = 0 := nI_ne0 (by omega) (by omega)
  by_cases hm : (0 ≤ a1.toInt ∧ a1.toInt < 4) ∧ (1 ≤ a2.toInt ∧ a2.toInt ≤ 5)
  · rw [if_pos hm] at h6 h7
    obtain ⟨foot, hf, rfl⟩ := i32_nat (p := a1) (n := 4) hm.1.1 (by omega) (by omega)
    obtain ⟨feet, hfe, rfl⟩ := i32_nat (p := a2) (n := 6) (by omega) (by omega) (by omega)
    rw [nI_toInt (n := feet) (by omega)] at hm
    have hf3 := ha.1
    have hf5 := ha.2.1
    obtain ⟨p, hp, en, next', kept', acts', was', q1, q2, q3⟩ := RActs_new (s := 4) (a := A.1) (b := A.2.1) (k := 0) (q := 0) (A' := (foot, feet, A.2.2.1, A.2.2.2)) hA ha (by omega) hpr (Or.inr (Or.inr (Or.inr (Or.inr ⟨rfl, by omega, by omega⟩)))) rfl rfl
    have hact := q3 ac_takenKinds ac_takenSpellings (fun _ _ => ⟨rfl, rfl⟩) (fun h => absurd h (by decide)) hA.1
    have ha' : AOK L ln lt (foot, feet, A.2.2.1, A.2.2.2) := by
      obtain ⟨k1, k2, k3, k4, k5, k6, k7⟩ := ha
      exact ⟨by show foot ≤ 3; omega, by show feet ≤ 5; omega, fun _ => by show 1 ≤ feet; omega, k4, k5, k6, k7⟩
    have r1 : m_poem (1 : Int32).toNatClampNeg = nI A.1 := hpr.2.1
    have r2 : m_poem (2 : Int32).toNatClampNeg = nI A.2.1 := hpr.2.2.1
    refine ⟨(10 : Int32) * nI A.1 + nI A.2.1, nI foot, nI feet, next', kept', upd ac_sorts p (nI 4), upd ac_firsts p (nI A.1), upd ac_seconds p (nI A.2.1), 0, acts', upd (upd m_poem 1 (nI foot)) 2 (nI feet), was', ?_, ?_, hF, hG, hT, hW, hC, hP, hD, hI0, hI1, (foot, feet, A.2.2.1, A.2.2.2), ha', ⟨rfl, rfl, rfl, rfl, hz, hc, hsp⟩, ?_, hact⟩
    · unfold mX6_metre mX6_metre_b0
      have q1' : mX0_keep ac_next ac_kept ac_sorts ac_firsts ac_seconds 4 (nI A.1) (nI A.2.1) = _ := q1
      rw [if_neg k0, h6, os1, if_neg (by decide), q1', os5]
    · unfold mX7_metre mX7_metre_b0
      rw [hth, os1, if_neg (by decide), h7, os1, if_neg (by decide), q2, os2, r1, r2]
      rfl
    · obtain ⟨k1, k2, k3, k4, k5⟩ := hpr
      refine ⟨?_, ?_, ?_, fun l hl => ?_, fun v hv => ?_⟩
      · rw [zn_up, zn_up, if_neg (by omega), if_neg (by omega)]; exact k1
      · rw [zn_up, zn_up, if_neg (by omega), if_pos rfl]
      · rw [zn_up, if_pos rfl]
      · rw [zn_up, zn_up, if_neg (by omega), if_neg (by omega)]; exact k4 l hl
      · obtain ⟨m1, m2, m3⟩ := k5 v hv
        refine ⟨?_, ?_, fun i hi q => ?_⟩
        · rw [zn_up, zn_up, if_neg (by omega), if_neg (by omega)]; exact m1
        · rw [zn_up, zn_up, if_neg (by omega), if_neg (by omega)]; exact m2
        · rw [zn_up, zn_up, if_neg (by omega), if_neg (by omega)]; exact m3 i hi q
  · rw [if_neg hm] at h6 h7
    refine ⟨-1000001, nI A.1, nI A.2.1, ac_next, ac_kept, ac_sorts, ac_firsts, ac_seconds, 0, m_acts, m_poem, m_was, ?_, ?_, hF, hG, hT, hW, hC, hZ0⟩
    · unfold mX6_metre mX6_metre_b0
      rw [if_neg k0, h6]
      rfl
    · unfold mX7_metre mX7_metre_b0
      rw [hth, os1, if_neg (by decide), h7]
      rfl
theorem st11 : Step11 RelW := by
  intro x_begun x_latestFault x_latestFinding rd_length rd_tape v_foot v_feet v_lines v_words v_sizes v_kinds v_spelled d_spelled i0_foot i0_feet i0_lines i0_words i0_sizes i0_kinds i0_spelled i1_foot i1_feet i1_lines i1_words i1_sizes i1_kinds i1_spelled ac_next ac_kept ac_sorts ac_firsts ac_seconds ac_takenKinds ac_takenSpellings x_bodies m_thrown m_status m_acts m_taped m_latest m_traced m_lane m_many m_item m_poem m_was m_tape m_isKept m_kept m_trace x_lane x_rsz x_item L la sa ln sy sn lt st a1 a2 hR
  obtain ⟨hF, hG, hT, hW, hC, hZ⟩ := hR
  have hZ0 := hZ
  obtain ⟨hP, hD, hI0, hI1, A, ha, hpc, hpr, hA⟩ := hZ
  have hpc0 := hpc
  obtain ⟨p1, p2, p3, p4, hz, hc, hsp⟩ := hpc
  subst p1 p2 p3 p4
  replace hz : CZ A v_sizes := hz
  replace hc : CW A v_kinds v_spelled := hc
  obtain ⟨-, -, w20, l4⟩ := aok_sz ha
  rcases rng a1 (aW A) (by omega) with ⟨a, h1, rfl⟩ | hn
  · have hw6 : mX2_hasWord (nI (aW A)) (nI a) = some (nI 1) := c_hw_t h1 (by omega)
    have hw7 : mX7_isWord m_poem (nI a) = some (nI 1) := r_iw_t hpr ha h1
    obtain ⟨hln, -, -⟩ := aLn_in ha h1
    rcases rng a2 (aW A) (by omega) with ⟨b, h2, rfl⟩ | hn
    · have hv6 : mX2_hasWord (nI (aW A)) (nI b) = some (nI 1) := c_hw_t h2 (by omega)
      have hv7 : mX7_isWord m_poem (nI b) = some (nI 1) := r_iw_t hpr ha h2
      by_cases hab : a = b
      · refine ⟨-1000002, v_kinds, v_spelled, ac_next, ac_kept, ac_sorts, ac_firsts, ac_seconds, 0, m_acts, m_poem, m_was, ?_, ?_, hF, hG, hT, hW, hC, hZ0⟩
        · unfold mX6_swap mX6_swap_b0
          rw [hw6, os1, if_neg (by decide), hv6, os1, if_neg (by decide), if_pos (by rw [hab])]
        · unfold mX7_swap mX7_swap_b0
          rw [hw7, os1, if_neg (by decide), hv7, os1, if_neg (by decide), if_pos (by rw [hab])]
      · have hne : ¬ nI a = nI b := fun q => hab (zn_inj (by omega) (by omega) q)
        obtain ⟨kd, sp, x1, x2⟩ := c_exchange hpc0 ha h1 h2
        obtain ⟨p, hp, en, next', kept', acts', was', q1, q2, q3⟩ := RActs_new (s := 3) (a := a) (b := b) (k := 0) (q := 0) (A' := excA A a b) hA ha (by omega) hpr (Or.inr (Or.inr (Or.inr (Or.inl ⟨rfl, by rw [excA_W]; exact h1, by rw [excA_W]; exact h2⟩)))) (undo_swap h1 h2 0 0) rfl
        have hact := q3 ac_takenKinds ac_takenSpellings (fun _ _ => ⟨rfl, rfl⟩) (fun h => absurd h (by decide)) hA.1
        obtain ⟨row', y1, y2⟩ := r_swap_loop (by omega : a < 20) (by omega : b < 20) hab m_poem acts' was' 10 0 m_poem (by omega) (fun x => by rw [if_neg (by omega), if_neg (by omega)]) FU (zn_fu (by omega))
        refine ⟨nI (AD a b + 1), kd, sp, next', kept', upd ac_sorts p (nI 3), upd ac_firsts p (nI a), upd ac_seconds p (nI b), 0, acts', row', was', ?_, ?_, hF, hG, hT, hW, hC, hP, hD, hI0, hI1, excA A a b, AOK_exc ha h1 h2, x2, PR_exc hpr ha h1 h2 hab y2, hact⟩
        · unfold mX6_swap mX6_swap_b0
          have q1' : mX0_keep ac_next ac_kept ac_sorts ac_firsts ac_seconds 3 (nI a) (nI b) = _ := q1
          rw [hw6, os1, if_neg (by decide), hv6, os1, if_neg (by decide), if_neg hne, x1, os2, q1', os5, ad_k (by omega) (by omega), nI_1]
        · unfold mX7_swap mX7_swap_b0
          rw [hw7, os1, if_neg (by decide), hv7, os1, if_neg (by decide), if_neg hne, q2, os2]
          exact y1
    · refine ⟨-1000001, v_kinds, v_spelled, ac_next, ac_kept, ac_sorts, ac_firsts, ac_seconds, 0, m_acts, m_poem, m_was, ?_, ?_, hF, hG, hT, hW, hC, hZ0⟩
      · unfold mX6_swap mX6_swap_b0
        rw [hw6, os1, if_neg (by decide), c_hw_f hn (by omega)]; rfl
      · unfold mX7_swap mX7_swap_b0
        rw [hw7, os1, if_neg (by decide), r_iw_f hpr ha hn]; rfl
  · refine ⟨-1000001, v_kinds, v_spelled, ac_next, ac_kept, ac_sorts, ac_firsts, ac_seconds, 0, m_acts, m_poem, m_was, ?_, ?_, hF, hG, hT, hW, hC, hZ0⟩
    · unfold mX6_swap mX6_swap_b0
      rw [c_hw_f hn (by omega)]; rfl
    · unfold mX7_swap mX7_swap_b0
      rw [r_iw_f hpr ha hn]; rfl
