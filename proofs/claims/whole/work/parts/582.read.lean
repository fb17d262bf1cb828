-- uses: 581.poem
/-! a poem read -/
theorem poem_zero (tape : Nat → Int32) (th acts taped cur st tok val f fa latest : Int32) (poem : Nat → Int32) : ∀ (d k : Nat) (row : Nat → Int32), k + d = 207 → (∀ j, j < k → row j = 0) → ∀ N, d < N → ∃ row', mX7_poem_b11 tape N th acts taped cur st tok val f fa latest poem row (nI k) = mX7_poem_b11 tape (0 + 1) th acts taped cur st tok val f fa latest poem row' (nI 207) ∧ ∀ j, j < 207 → row' j = 0
  | _, _, _, _, _, 0, hN => absurd hN (by omega)
  | 0, k, row, hk, h, N + 1, _ => by
    have e : k = 207 := by omega
    subst e
    refine ⟨row, ?_, h⟩
    rw [mX7_poem_b11, if_pos (by decide), mX7_poem_b11, if_pos (by decide)]
  | d + 1, k, row, hk, h, N + 1, hN => by
    have c1 : ¬ (nI k < 0 ∨ 207 ≤ k) := by simp (disch := omega) only [↓reduceIte, Nat.reduceAdd, Nat.reduceMul, Nat.reduceSub, Nat.zero_add, zn_0, zn_1, zn_2, zn_3, zn_4, zn_5, zn_6, zn_7, zn_8, zn_9, zn_10, zn_16, zn_20, zn_23, zn_24, zn_25, zn_26, zn_40, zn_207, zn_4761, zn_99, zn_130, zn_lt_t, zn_lt_f, zn_le_t, zn_le_f, zn_eq_t, zn_eq_f, zn_ix, zn_cl, zq_le_f, zq_le_t, zq_lt_f, zq_lt_t, zn_add, zn_mul, zn_sub, or_false, false_or, or_self, true_or, or_true, and_true, true_and, and_false, false_and, not_true_eq_false, not_false_eq_true, if_true, if_false, os1, os2, os3, os4, os5, os6, os7, os8, os9, os10, os11, os12, os13, os14, os15, os16, os17, os18, os19, os20, os21, os22, os23, os24]
    rw [mX7_poem_b11, if_neg (show ¬ (207 : Int32) ≤ nI k from nI_ge (b := 207) (by omega) (by omega)), zn_cl (by omega), if_neg c1, nI_1]
    apply poem_zero tape th acts taped cur st tok val f fa latest poem d (k + 1) _ (by omega) ?_ N (by omega)
    intro j hj
    rw [zn_up]
    by_cases g : j = k
    · rw [if_pos g]
    · rw [if_neg g]; exact h j (by omega)
theorem isl_ex (tok val f p : Int32) : ∃ r, mX7_isLetter tok val f p = some r := by
  unfold mX7_isLetter mX7_isLetter_b0
  (repeat' split) <;> exact ⟨_, rfl⟩
theorem law_both {n : Nat} {t : Nat → Nat} {tape : Nat → Int32} (hn : n ≤ 130) (hta : ∀ j, tape j = nI (t j)) (ht : ∀ j, t j < 256) {cur tok val : Int32} (hk : TOK n t 0 cur tok val) (th acts fa latest d1 d2 : Int32) (poem row : Nat → Int32) :
    (∃ ft fe c cur' tok' val', ft ≤ 3 ∧ (1 ≤ fe ∧ fe ≤ 5) ∧ c ≤ n ∧ TOK n t c cur' tok' val' ∧ mX3_readLaw (nI n) tape 0 0 0 d1 d2 = some (1, nI c, 0, 0, nI ft, nI fe) ∧ mX7_poem_b11 tape (0 + 1) th acts (nI n) cur (nI 0) tok val 0 fa latest poem row (nI 207) = ob7 (mX7_readLine (nI n) tape cur' (nI c) tok' val' 0 fa (upd (upd row 1 (nI ft)) 2 (nI fe)) 0) (fun u0 u1 u2 u3 u4 u5 u6 => mX7_poem_b82 tape FU th acts (nI n) u0 u1 u2 u3 u4 u5 latest poem u6)) ∨
    (∃ f p' at' ft fe, 1 ≤ f ∧ f ≤ 4 ∧ mX3_readLaw (nI n) tape 0 0 0 d1 d2 = some (0, at', nI f, nI p', ft, fe) ∧ ∃ c s tk v r, mX7_poem_b11 tape (0 + 1) th acts (nI n) cur (nI 0) tok val 0 fa latest poem row (nI 207) = some (-1000100 - nI p', th, acts, 0, c, s, tk, v, nI f, nI p', nI f, poem, r)) := by
  obtain ⟨r, hr⟩ := isl_ex tok val 0 113
  have pb : ∀ (cu s tk v fa' : Int32) (rw' : Nat → Int32) (p1 : Int32) (f : Nat), 1 ≤ f → f ≤ 4 → ∃ r', ob7 (mX7_readLine (nI n) tape cu s tk v (nI f) fa' rw' p1) (fun u0 u1 u2 u3 u4 u5 u6 => mX7_poem_b82 tape FU th acts (nI n) u0 u1 u2 u3 u4 u5 latest poem u6) = some (-1000100 - fa', th, acts, 0, cu, s, tk, v, nI f, fa', nI f, poem, r') := by
    intro cu s tk v fa' rw' p1 f h1 h4
    have hf : ¬ nI f ≤ 0 := nI_ge (a := 0) (by omega) (by omega)
    obtain ⟨row', e⟩ := r_line_bad (nI n) tape p1 cu s tk v fa' rw' hf
    refine ⟨row', ?_⟩
    rw [e, os7, show FU = 999999 + 1 from rfl, poem_bad _ _ _ _ _ _ _ _ _ _ _ _ hf]
  have nz : ∀ f : Nat, f = 1 ∨ f = 2 → ¬ nI f = 0 := by
    intro f hf; rcases hf with rfl | rfl <;> decide
  rw [mX7_poem_b11, if_pos (by decide), hr, os1]
  unfold mX3_readLaw mX3_readLaw_b0
  rcases q_both hn hta ht (by omega : 0 ≤ n) hk 0 fa with ⟨c1, k1, v1, hc1, x1, x2, x3⟩ | ⟨x1, x2⟩
  · have x1' : mX3_readSign (nI n) tape 0 0 0 (113 : Int32) = some (1, nI (0 + 1), 0, 0) := x1
    rw [hr, os1] at x2
    rw [x1', os4, if_neg (by decide), x2, os6]
    rcases num_both hn hta ht (by omega : 0 + 1 ≤ n) x3 0 fa (by omega : 0 < 10) (by omega : 3 < 10) with ⟨ft, e2, c2, k2, v2, hft, he2, -, -, y1, y2, y3⟩ | ⟨f, hf, y1, y2, -⟩
    · have y1' : mX3_readNumber (nI n) tape (nI (0 + 1)) 0 0 0 ((4 : Int32) - (1 : Int32)) = some (nI ft, nI e2, 0, 0) := y1
      have y2' : mX7_number (nI n) tape c1 (nI (0 + 1)) k1 v1 0 fa (0 : Int32) (3 : Int32) = some (nI ft, c2, nI e2, k2, v2, 0, fa) := y2
      rw [y1', os4, if_pos rfl, y2', os7]
      rcases sign_both hn hta ht he2.2 y3 0 fa (Or.inl rfl : (44 : Nat) = 44 ∨ (44 : Nat) = 59) with ⟨c3, k3, v3, hc3, -, -, z1, z2, z3⟩ | ⟨-, -, z1, z2⟩
      · have z1' : mX3_readSign (nI n) tape (nI e2) 0 0 (44 : Int32) = some (1, nI (e2 + 1), 0, 0) := z1
        have z2' : mX7_mustSign (nI n) tape c2 (nI e2) k2 v2 0 fa (44 : Int32) = some (c3, nI (e2 + 1), k3, v3, 0, fa) := z2
        rw [z1', os4, if_neg (by decide), z2', os6]
        rcases num_both hn hta ht (by omega : e2 + 1 ≤ n) z3 0 fa (by omega : 1 < 10) (by omega : 5 < 10) with ⟨fe, e4, c4, k4, v4, hfe, he4, -, -, w1, w2, w3⟩ | ⟨f, hf, w1, w2, -⟩
        · have w1' : mX3_readNumber (nI n) tape (nI (e2 + 1)) 0 0 1 (5 : Int32) = some (nI fe, nI e4, 0, 0) := w1
          have w2' : mX7_number (nI n) tape c3 (nI (e2 + 1)) k3 v3 0 fa (1 : Int32) (5 : Int32) = some (nI fe, c4, nI e4, k4, v4, 0, fa) := w2
          rw [w1', os4, if_pos rfl, w2', os7]
          rcases sign_both hn hta ht he4.2 w3 0 fa (Or.inr rfl : (59 : Nat) = 44 ∨ (59 : Nat) = 59) with ⟨c5, k5, v5, hc5, -, -, u1, u2, u3⟩ | ⟨-, -, u1, u2⟩
          · have u1' : mX3_readSign (nI n) tape (nI e4) 0 0 (59 : Int32) = some (1, nI (e4 + 1), 0, 0) := u1
            have u2' : mX7_mustSign (nI n) tape c4 (nI e4) k4 v4 0 fa (59 : Int32) = some (c5, nI (e4 + 1), k5, v5, 0, fa) := u2
            rw [u1', os4, if_neg (by decide), u2', os6]
            exact Or.inl ⟨ft, fe, e4 + 1, c5, k5, v5, hft.2, hfe, by omega, u3, rfl, rfl⟩
          · have u1' : mX3_readSign (nI n) tape (nI e4) 0 0 (59 : Int32) = some (0, nI e4, 1, nI e4) := u1
            have u2' : mX7_mustSign (nI n) tape c4 (nI e4) k4 v4 0 fa (59 : Int32) = some (c4, nI e4, k4, v4, nI 1, nI e4) := u2
            rw [u1', os4, if_pos rfl, u2', os6]
            obtain ⟨r', g⟩ := pb c4 (nI e4) k4 v4 (nI e4) (upd (upd row (1 : Int32).toNatClampNeg (nI ft)) (2 : Int32).toNatClampNeg (nI fe)) 0 1 (by omega) (by omega)
            exact Or.inr ⟨1, e4, _, _, _, by omega, by omega, rfl, _, _, _, _, _, g⟩
        · have hf0 := nz f hf
          have w1' : mX3_readNumber (nI n) tape (nI (e2 + 1)) 0 0 1 (5 : Int32) = some (-1000000, nI (e2 + 1), nI f, nI (e2 + 1)) := w1
          have w2' : mX7_number (nI n) tape c3 (nI (e2 + 1)) k3 v3 0 fa (1 : Int32) (5 : Int32) = some (nI 1, c3, nI (e2 + 1), k3, v3, nI f, nI (e2 + 1)) := w2
          rw [w1', os4, if_neg hf0, w2', os7, r_mustSign_bad _ _ _ _ _ _ _ _ hf0, os6]
          obtain ⟨r', g⟩ := pb c3 (nI (e2 + 1)) k3 v3 (nI (e2 + 1)) (upd (upd row (1 : Int32).toNatClampNeg (nI ft)) (2 : Int32).toNatClampNeg (nI 1)) 0 f (by omega) (by omega)
          exact Or.inr ⟨f, e2 + 1, _, _, _, by omega, by omega, rfl, _, _, _, _, _, g⟩
      · have z1' : mX3_readSign (nI n) tape (nI e2) 0 0 (44 : Int32) = some (0, nI e2, 1, nI e2) := z1
        have z2' : mX7_mustSign (nI n) tape c2 (nI e2) k2 v2 0 fa (44 : Int32) = some (c2, nI e2, k2, v2, nI 1, nI e2) := z2
        have hf0 := nz 1 (Or.inl rfl)
        rw [z1', os4, if_pos rfl, z2', os6, r_number_bad _ _ _ _ _ _ _ _ _ hf0, os7, r_mustSign_bad _ _ _ _ _ _ _ _ hf0, os6]
        obtain ⟨r', g⟩ := pb c2 (nI e2) k2 v2 (nI e2) (upd (upd row (1 : Int32).toNatClampNeg (nI ft)) (2 : Int32).toNatClampNeg 1) 0 1 (by omega) (by omega)
        exact Or.inr ⟨1, e2, _, _, _, by omega, by omega, rfl, _, _, _, _, _, g⟩
    · have hf0 := nz f hf
      have y1' : mX3_readNumber (nI n) tape (nI (0 + 1)) 0 0 0 ((4 : Int32) - (1 : Int32)) = some (-1000000, nI (0 + 1), nI f, nI (0 + 1)) := y1
      have y2' : mX7_number (nI n) tape c1 (nI (0 + 1)) k1 v1 0 fa (0 : Int32) (3 : Int32) = some (nI 0, c1, nI (0 + 1), k1, v1, nI f, nI (0 + 1)) := y2
      rw [y1', os4, if_neg hf0, y2', os7, r_mustSign_bad _ _ _ _ _ _ _ _ hf0, os6, r_number_bad _ _ _ _ _ _ _ _ _ hf0, os7, r_mustSign_bad _ _ _ _ _ _ _ _ hf0, os6]
      obtain ⟨r', g⟩ := pb c1 (nI (0 + 1)) k1 v1 (nI (0 + 1)) (upd (upd row (1 : Int32).toNatClampNeg (nI 0)) (2 : Int32).toNatClampNeg 1) 0 f (by omega) (by omega)
      exact Or.inr ⟨f, 0 + 1, _, _, _, by omega, by omega, rfl, _, _, _, _, _, g⟩
  · have x1' : mX3_readSign (nI n) tape 0 0 0 (113 : Int32) = some (0, nI 0, 1, nI 0) := x1
    have hf0 := nz 1 (Or.inl rfl)
    rw [hr, os1] at x2
    have x2' : mX7_must (nI n) tape cur (nI 0) tok val 0 fa r = some (cur, nI 0, tok, val, nI 1, nI 0) := x2
    rw [x1', os4, if_pos rfl, x2', os6, r_number_bad _ _ _ _ _ _ _ _ _ hf0, os7, r_mustSign_bad _ _ _ _ _ _ _ _ hf0, os6, r_number_bad _ _ _ _ _ _ _ _ _ hf0, os7, r_mustSign_bad _ _ _ _ _ _ _ _ hf0, os6]
    obtain ⟨r', g⟩ := pb cur (nI 0) tok val (nI 0) (upd (upd row (1 : Int32).toNatClampNeg 0) (2 : Int32).toNatClampNeg 1) 0 1 (by omega) (by omega)
    exact Or.inr ⟨1, 0, _, _, _, by omega, by omega, rfl, _, _, _, _, _, g⟩
