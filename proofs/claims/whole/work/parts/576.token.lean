-- uses: 575.put
/-! tokens of a tape -/
theorem zn_48 : (48 : Int32) = nI 48 := rfl
theorem zn_57 : (57 : Int32) = nI 57 := rfl
theorem zn_97 : (97 : Int32) = nI 97 := rfl
theorem zn_122 : (122 : Int32) = nI 122 := rfl
theorem zn_44 : (44 : Int32) = nI 44 := rfl
theorem zn_59 : (59 : Int32) = nI 59 := rfl
theorem zn_113 : (113 : Int32) = nI 113 := rfl
def FG (n : Nat) (t : Nat → Nat) (i : Nat) : Prop := i < n ∧ 48 ≤ t i ∧ t i ≤ 57
def LTR (n : Nat) (t : Nat → Nat) (i : Nat) : Prop := i < n ∧ 97 ≤ t i ∧ t i ≤ 122
/-- a number at c with value v that ends at e -/
def NG (n : Nat) (t : Nat → Nat) (c v e : Nat) : Prop := (FG n t c ∧ ¬ FG n t (c + 1) ∧ v = t c - 48 ∧ e = c + 1) ∨ (FG n t c ∧ FG n t (c + 1) ∧ ¬ FG n t (c + 2) ∧ v = 10 * (t c - 48) + (t (c + 1) - 48) ∧ e = c + 2)
def TOK (n : Nat) (t : Nat → Nat) (c : Nat) (cur tok val : Int32) : Prop :=
  (c = n ∧ tok = 1) ∨ (LTR n t c ∧ tok = 2 ∧ val = nI (t c) ∧ cur = nI (c + 1)) ∨ (∃ v e, NG n t c v e ∧ tok = 3 ∧ val = nI v ∧ cur = nI e) ∨ ((FG n t c ∧ FG n t (c + 1) ∧ FG n t (c + 2)) ∧ tok = 0) ∨ (c < n ∧ (t c = 44 ∨ t c = 59) ∧ tok = 4 ∧ val = nI (t c) ∧ cur = nI (c + 1)) ∨ ((c < n ∧ ¬ LTR n t c ∧ ¬ FG n t c ∧ ¬ t c = 44 ∧ ¬ t c = 59) ∧ tok = 0)
theorem c_byteAt {n : Nat} {t : Nat → Nat} {tape : Nat → Int32} (hn : n ≤ 130) (hta : ∀ j, tape j = nI (t j)) (ht : ∀ j, t j < 256) {c : Nat} (hc : c < 1000) : mX3_byteAt (nI n) tape (nI c) = some (if c < n then nI (t c) else -1) := by
  unfold mX3_byteAt mX3_byteAt_b0
  rw [if_neg (nI_pos (by omega))]
  by_cases h : c < n
  · rw [if_neg (nI_ge h (by omega)), if_neg (show ¬ (130 : Int32) ≤ nI c from nI_ge (b := 130) (by omega) (by omega)), if_neg (nI_ix (by omega) (by omega)), zn_cl (by omega), hta, if_pos h]
  · rw [if_pos (nI_le (by omega) (by omega)), if_neg h]
theorem c_fig_t {n : Nat} {t : Nat → Nat} {tape : Nat → Int32} (hn : n ≤ 130) (hta : ∀ j, tape j = nI (t j)) (ht : ∀ j, t j < 256) {c : Nat} (h : FG n t c) : mX3_isFigure (nI n) tape (nI c) = some 1 := by
  obtain ⟨h1, h2, h3⟩ := h
  unfold mX3_isFigure mX3_isFigure_b0
  rw [c_byteAt hn hta ht (by omega), if_pos h1, os1, os1, if_neg (show ¬ nI (t c) < (48 : Int32) from nI_nlt (b := 48) h2 (by omega)), if_neg (show ¬ (57 : Int32) < nI (t c) from nI_nlt (a := 57) h3 (by omega))]
theorem c_fig_f {n : Nat} {t : Nat → Nat} {tape : Nat → Int32} (hn : n ≤ 130) (hta : ∀ j, tape j = nI (t j)) (ht : ∀ j, t j < 256) {c : Nat} (hc : c < 1000) (h : ¬ FG n t c) : mX3_isFigure (nI n) tape (nI c) = some 0 := by
  unfold mX3_isFigure mX3_isFigure_b0
  rw [c_byteAt hn hta ht hc, os1, os1]
  by_cases h1 : c < n
  · have := ht c
    rw [if_pos h1]
    by_cases h2 : t c < 48
    · rw [if_pos (show nI (t c) < (48 : Int32) from nI_lt (b := 48) h2 (by omega))]
    · rw [if_neg (show ¬ nI (t c) < (48 : Int32) from nI_nlt (b := 48) (by omega) (by omega)), if_pos (show (57 : Int32) < nI (t c) from nI_lt (a := 57) (Nat.lt_of_not_le fun q => h ⟨h1, by omega, q⟩) (by omega))]
  · rw [if_neg h1, if_pos (by decide)]
theorem c_let_t {n : Nat} {t : Nat → Nat} {tape : Nat → Int32} (hn : n ≤ 130) (hta : ∀ j, tape j = nI (t j)) (ht : ∀ j, t j < 256) {c : Nat} (h : LTR n t c) : mX3_isLetter (nI n) tape (nI c) = some 1 := by
  obtain ⟨h1, h2, h3⟩ := h
  unfold mX3_isLetter mX3_isLetter_b0
  rw [c_byteAt hn hta ht (by omega), if_pos h1, os1, os1, if_neg (show ¬ nI (t c) < (97 : Int32) from nI_nlt (b := 97) h2 (by omega)), if_neg (show ¬ (122 : Int32) < nI (t c) from nI_nlt (a := 122) h3 (by omega))]
theorem c_let_f {n : Nat} {t : Nat → Nat} {tape : Nat → Int32} (hn : n ≤ 130) (hta : ∀ j, tape j = nI (t j)) (ht : ∀ j, t j < 256) {c : Nat} (hc : c < 1000) (h : ¬ LTR n t c) : mX3_isLetter (nI n) tape (nI c) = some 0 := by
  unfold mX3_isLetter mX3_isLetter_b0
  rw [c_byteAt hn hta ht hc, os1, os1]
  by_cases h1 : c < n
  · have := ht c
    rw [if_pos h1]
    by_cases h2 : t c < 97
    · rw [if_pos (show nI (t c) < (97 : Int32) from nI_lt (b := 97) h2 (by omega))]
    · rw [if_neg (show ¬ nI (t c) < (97 : Int32) from nI_nlt (b := 97) (by omega) (by omega)), if_pos (show (122 : Int32) < nI (t c) from nI_lt (a := 122) (Nat.lt_of_not_le fun q => h ⟨h1, by omega, q⟩) (by omega))]
  · rw [if_neg h1, if_pos (by decide)]
theorem c_sign_t {n : Nat} {t : Nat → Nat} {tape : Nat → Int32} (hn : n ≤ 130) (hta : ∀ j, tape j = nI (t j)) (ht : ∀ j, t j < 256) {c s : Nat} (hc : c < n) (hs : t c = s) (f p : Int32) : mX3_readSign (nI n) tape (nI c) f p (nI s) = some (1, nI (c + 1), f, p) := by
  unfold mX3_readSign mX3_readSign_b0
  rw [c_byteAt hn hta ht (by omega), if_pos hc, os1, hs, if_pos rfl, nI_1]
theorem c_sign_f {n : Nat} {t : Nat → Nat} {tape : Nat → Int32} (hn : n ≤ 130) (hta : ∀ j, tape j = nI (t j)) (ht : ∀ j, t j < 256) {c s : Nat} (hc : c < 1000) (hs1 : s < 256) (hs : ¬ (c < n ∧ t c = s)) (f p : Int32) : mX3_readSign (nI n) tape (nI c) f p (nI s) = some (0, nI c, 1, nI c) := by
  have e : ¬ (if c < n then nI (t c) else (-1 : Int32)) = nI s := by
    have := ht c
    by_cases h : c < n
    · rw [if_pos h]; intro q; exact hs ⟨h, zn_inj (by omega) (by omega) q⟩
    · rw [if_neg h, i32_eq, nI_toInt (by omega)]
      have : (-1 : Int32).toInt = -1 := rfl
      omega
  unfold mX3_readSign mX3_readSign_b0
  rw [c_byteAt hn hta ht hc, os1, if_neg e]
  rfl
theorem c_num_89 {n : Nat} {t : Nat → Nat} {tape : Nat → Int32} (hn : n ≤ 130) (hta : ∀ j, tape j = nI (t j)) (ht : ∀ j, t j < 256) {c v e lo hi : Nat} (h : NG n t c v e) (hlo : lo < 100) (hhi : hi < 100) (p : Int32) : mX3_readNumber (nI n) tape (nI c) 0 p (nI lo) (nI hi) = if lo ≤ v ∧ v ≤ hi then some (nI v, nI e, 0, p) else some (-1000000, nI c, 2, nI c) := by
  have fin : ∀ k, c + k = e → v < 1000 → mX3_readNumber_b131 (nI n) tape (nI lo) (nI hi) (nI c) 0 p (nI k) (nI v) = if lo ≤ v ∧ v ≤ hi then some (nI v, nI e, 0, p) else some (-1000000, nI c, 2, nI c) := by
    intro k hk hv
    unfold mX3_readNumber_b131 mX3_readNumber_b143 mX3_failAt mX3_failAt_b0
    by_cases h1 : v < lo
    · rw [if_pos (nI_lt h1 (by omega)), if_neg (by omega)]; rfl
    · rw [if_neg (nI_nlt (by omega) (by omega))]
      by_cases h2 : v ≤ hi
      · rw [if_pos (nI_le h2 (by omega)), if_pos (by omega), zn_add, hk]
      · rw [if_neg (nI_ge (by omega) (by omega)), if_neg (by omega)]; rfl
  unfold mX3_readNumber mX3_readNumber_b0
  rcases h with ⟨h1, h2, h3, h4⟩ | ⟨h1, h2, h3, h4, h5⟩
  · have q1 := h1.1
    have q2 := h1.2.1
    have q3 := h1.2.2
    have e3 : nI (t c) - (48 : Int32) = nI v := by rw [zn_48, zn_sub q2, h3]
    rw [c_fig_t hn hta ht h1, os1, if_neg (by decide), nI_1, c_fig_f hn hta ht (by omega) h2, os1, if_pos rfl]
    unfold mX3_readNumber_b41 mX3_readNumber_b42
    rw [c_fig_t hn hta ht h1, os1, if_neg (by decide), if_pos rfl, nI_1, c_fig_f hn hta ht (by omega) h2, os1, if_pos rfl]
    unfold mX3_readNumber_b89
    rw [c_byteAt hn hta ht (by omega), if_pos q1, os1, if_neg (by decide), e3]
    exact fin 1 (by omega) (by omega)
  · have q1 := h1.1
    have q2 := h1.2.1
    have q3 := h1.2.2
    have r1 := h2.1
    have r2 := h2.2.1
    have r3 := h2.2.2
    have e2 : nI c + (2 : Int32) = nI (c + 2) := by rw [zn_2, zn_add]
    have e3 : (10 : Int32) * (nI (t c) - (48 : Int32)) + nI (t (c + 1)) - (48 : Int32) = nI v := by
      rw [zn_48, zn_10, zn_sub q2, zn_mul, zn_add, zn_sub (by omega), h4]; congr 1; omega
    rw [c_fig_t hn hta ht h1, os1, if_neg (by decide), nI_1, c_fig_t hn hta ht h2, os1, if_neg (by decide), e2, c_fig_f hn hta ht (by omega) h3, os1, if_pos rfl]
    unfold mX3_readNumber_b41 mX3_readNumber_b42
    rw [c_fig_t hn hta ht h1, os1, if_neg (by decide), if_pos rfl, nI_1, c_fig_t hn hta ht h2, os1, if_neg (by decide)]
    unfold mX3_readNumber_b89
    rw [c_byteAt hn hta ht (by omega), if_pos q1, os1, if_pos rfl, nI_1, c_byteAt hn hta ht (by omega), if_pos r1, os1, e3]
    exact fin 2 (by omega) (by omega)
theorem c_num_f {n : Nat} {t : Nat → Nat} {tape : Nat → Int32} (hn : n ≤ 130) (hta : ∀ j, tape j = nI (t j)) (ht : ∀ j, t j < 256) {c : Nat} (hc : c < 500) (h : ¬ ∃ v e, NG n t c v e) (p lo hi : Int32) : mX3_readNumber (nI n) tape (nI c) 0 p lo hi = some (-1000000, nI c, 1, nI c) := by
  unfold mX3_readNumber mX3_readNumber_b0
  by_cases h1 : FG n t c
  · have h2 : FG n t (c + 1) := by
      apply Classical.byContradiction; intro q; exact h ⟨_, _, Or.inl ⟨h1, q, rfl, rfl⟩⟩
    have h3 : FG n t (c + 2) := by
      apply Classical.byContradiction; intro q; exact h ⟨_, _, Or.inr ⟨h1, h2, q, rfl, rfl⟩⟩
    have e2 : nI c + (2 : Int32) = nI (c + 2) := by rw [zn_2, zn_add]
    rw [c_fig_t hn hta ht h1, os1, if_neg (by decide), nI_1, c_fig_t hn hta ht h2, os1, if_neg (by decide), e2, c_fig_t hn hta ht h3, os1, if_neg (by decide)]
    unfold mX3_readNumber_b42
    rw [c_fig_t hn hta ht h1, os1, if_neg (by decide), if_neg (by decide)]
    rfl
  · rw [c_fig_f hn hta ht (by omega) h1, os1, if_pos rfl]
    unfold mX3_readNumber_b41 mX3_readNumber_b42
    rw [c_fig_f hn hta ht (by omega) h1, os1, if_pos rfl]
    rfl
theorem r_fig_stop {n : Nat} {t : Nat → Nat} {tape : Nat → Int32} (hn : n ≤ 130) (hta : ∀ j, tape j = nI (t j)) (ht : ∀ j, t j < 256) {i : Nat} (hi : i ≤ n) (h : ¬ FG n t i) (m : Nat) (st tok val : Int32) : mX7_nextToken_b165 (nI n) tape (m + 1) (nI i) st tok val = mX7_nextToken_b255 (nI n) tape (nI i) st tok val := by
  rw [mX7_nextToken_b165]
  by_cases h1 : i < n
  · have := ht i
    have hin := in_i (nI (t i)) 48 57
    rw [nI_toInt (by omega), show (48 : Int64).toInt = 48 from rfl, show (57 : Int64).toInt = 57 from rfl, if_neg (fun q => h ⟨h1, by omega, by omega⟩)] at hin
    rw [if_neg (nI_ge h1 (by omega)), if_neg (nI_ix (by omega) (by omega)), zn_cl (by omega), hta, hin, os1, if_pos rfl]
  · rw [if_pos (nI_le (by omega) (by omega))]
theorem r_fig_go {n : Nat} {t : Nat → Nat} {tape : Nat → Int32} (hn : n ≤ 130) (hta : ∀ j, tape j = nI (t j)) (ht : ∀ j, t j < 256) {i : Nat} (h : FG n t i) (m : Nat) {c : Nat} (hc : c ≤ i) (tok val : Int32) : mX7_nextToken_b165 (nI n) tape (m + 1) (nI i) (nI c) tok val = if 2 ≤ i - c then mX7_nextToken_b165 (nI n) tape m (nI (i + 1)) (nI c) tok val else mX7_nextToken_b165 (nI n) tape m (nI (i + 1)) (nI c) tok (10 * val + nI (t i) - 48) := by
  obtain ⟨h1, h2, h3⟩ := h
  rw [mX7_nextToken_b165]
  have hin := in_i (nI (t i)) 48 57
  rw [nI_toInt (by omega), show (48 : Int64).toInt = 48 from rfl, show (57 : Int64).toInt = 57 from rfl, if_pos (by omega)] at hin
  rw [if_neg (nI_ge h1 (by omega)), if_neg (nI_ix (by omega) (by omega)), zn_cl (by omega), hta, hin, os1, if_neg (by decide), zn_sub hc]
  unfold mX7_nextToken_b239
  by_cases g : 2 ≤ i - c
  · rw [if_pos (show (2 : Int32) ≤ nI (i - c) from nI_le (a := 2) g (by omega)), if_pos g, nI_1]
  · have cc : ¬ (nI i < 0 ∨ 130 ≤ i) := by simp (disch := omega) only [↓reduceIte, Nat.reduceAdd, Nat.reduceMul, Nat.reduceSub, Nat.zero_add, zn_0, zn_1, zn_2, zn_3, zn_4, zn_5, zn_6, zn_7, zn_8, zn_9, zn_10, zn_16, zn_20, zn_23, zn_24, zn_25, zn_26, zn_40, zn_207, zn_4761, zn_99, zn_130, zn_lt_t, zn_lt_f, zn_le_t, zn_le_f, zn_eq_t, zn_eq_f, zn_ix, zn_cl, zq_le_f, zq_le_t, zq_lt_f, zq_lt_t, zn_add, zn_mul, zn_sub, or_false, false_or, or_self, true_or, or_true, and_true, true_and, and_false, false_and, not_true_eq_false, not_false_eq_true, if_true, if_false, os1, os2, os3, os4, os5, os6, os7, os8, os9, os10, os11, os12, os13, os14, os15, os16, os17, os18, os19, os20, os21, os22, os23, os24]
    rw [if_neg (show ¬ (2 : Int32) ≤ nI (i - c) from nI_ge (b := 2) (by omega) (by omega)), if_neg g, if_neg cc, nI_1]
theorem r_fig_long {n : Nat} {t : Nat → Nat} {tape : Nat → Int32} (hn : n ≤ 130) (hta : ∀ j, tape j = nI (t j)) (ht : ∀ j, t j < 256) {c : Nat} (tok val : Int32) : ∀ (d i : Nat), i + d = n → c + 3 ≤ i → ∀ m, d < m → ∃ cur', mX7_nextToken_b165 (nI n) tape m (nI i) (nI c) tok val = some (cur', nI c, 0, val)
  | _, _, _, _, 0, hm => absurd hm (by omega)
  | 0, i, hi, hc, m + 1, _ => by
    rw [r_fig_stop hn hta ht (by omega) (fun q => absurd q.1 (by omega))]
    unfold mX7_nextToken_b255
    rw [zn_sub (by omega), if_neg (show ¬ nI (i - c) ≤ (2 : Int32) from nI_ge (a := 2) (by omega) (by omega))]
    exact ⟨nI i, rfl⟩
  | d + 1, i, hi, hc, m + 1, hm => by
    by_cases h : FG n t i
    · rw [r_fig_go hn hta ht h m (by omega), if_pos (by omega)]
      exact r_fig_long hn hta ht tok val d (i + 1) (by omega) (by omega) m (by omega)
    · rw [r_fig_stop hn hta ht (by omega) h]
      unfold mX7_nextToken_b255
      rw [zn_sub (by omega), if_neg (show ¬ nI (i - c) ≤ (2 : Int32) from nI_ge (a := 2) (by omega) (by omega))]
      exact ⟨nI i, rfl⟩
theorem r_next {n : Nat} {t : Nat → Nat} {tape : Nat → Int32} (hn : n ≤ 130) (hta : ∀ j, tape j = nI (t j)) (ht : ∀ j, t j < 256) {c : Nat} (hc : c ≤ n) (st tok val : Int32) : ∃ cur' tok' val', mX7_nextToken (nI n) tape (nI c) st tok val = some (cur', nI c, tok', val') ∧ TOK n t c cur' tok' val' := by
  unfold mX7_nextToken mX7_nextToken_b0
  by_cases h0 : c = n
  · subst h0
    rw [if_pos (nI_le (Nat.le_refl _) (by omega))]
    unfold mX7_nextToken_b34
    rw [if_pos rfl]
    unfold mX7_nextToken_b118
    rw [if_pos (nI_le (Nat.le_refl _) (by omega))]
    unfold mX7_nextToken_b142
    rw [if_neg (by decide)]
    exact ⟨_, _, _, rfl, Or.inl ⟨rfl, rfl⟩⟩
  · have h1 : c < n := by omega
    have hb := ht c
    have cn : ¬ nI n ≤ nI c := nI_ge h1 (by omega)
    have hl := in_i (nI (t c)) 97 122
    have hf := in_i (nI (t c)) 48 57
    rw [nI_toInt (by omega), show (97 : Int64).toInt = 97 from rfl, show (122 : Int64).toInt = 122 from rfl] at hl
    rw [nI_toInt (by omega), show (48 : Int64).toInt = 48 from rfl, show (57 : Int64).toInt = 57 from rfl] at hf
    have tail : ∀ k : Int32, ¬ k = 3 → mX7_nextToken_b118 (nI n) tape (nI c) (nI c) tok (nI (t c)) k = some (nI (c + 1), nI c, k, nI (t c)) := by
      intro k hk
      unfold mX7_nextToken_b118 mX7_nextToken_b142
      rw [if_neg cn, if_neg hk, nI_1]
    rw [if_neg cn, if_neg (nI_ix (by omega) (by omega)), zn_cl (by omega), hta]
    unfold mX7_nextToken_b34
    rw [if_neg (fun q => h0 (zn_inj (by omega) (by omega) q))]
    by_cases g1 : 97 ≤ t c ∧ t c ≤ 122
    · rw [if_pos (by omega)] at hl
      rw [hl, os1, if_neg (by decide), tail 2 (by decide)]
      exact ⟨_, _, _, rfl, Or.inr (Or.inl ⟨⟨h1, g1⟩, rfl, rfl, rfl⟩)⟩
    · rw [if_neg (by omega)] at hl
      rw [hl, os1, if_pos rfl]
      by_cases g2 : 48 ≤ t c ∧ t c ≤ 57
      · have hfc : FG n t c := ⟨h1, g2⟩
        rw [if_pos (by omega)] at hf
        rw [hf, os1, if_neg (by decide)]
        unfold mX7_nextToken_b118 mX7_nextToken_b142
        rw [if_neg cn, if_pos rfl, nI_1, zn_48, zn_sub g2.1]
        by_cases g3 : FG n t (c + 1)
        · have g3' := g3
          obtain ⟨r1, r2, r3⟩ := g3'
          have hb1 := ht (c + 1)
          have ev : (10 : Int32) * nI (t c - 48) + nI (t (c + 1)) - 48 = nI (10 * (t c - 48) + (t (c + 1) - 48)) := by
            rw [zn_48, zn_10, zn_mul, zn_add, zn_sub (by omega)]; congr 1; omega
          rw [show FU = 999999 + 1 from rfl, r_fig_go hn hta ht g3 _ (by omega), if_neg (by omega), ev]
          by_cases g4 : FG n t (c + 2)
          · rw [show 999999 = 999998 + 1 from rfl, r_fig_go hn hta ht (i := c + 1 + 1) g4 _ (by omega), if_pos (by omega)]
            obtain ⟨cur', x⟩ := r_fig_long hn hta ht (c := c) 3 (nI (10 * (t c - 48) + (t (c + 1) - 48))) (n - (c + 3)) (c + 3) (by have := g4.1; omega) (by omega) 999998 (by omega)
            exact ⟨cur', 0, _, x, Or.inr (Or.inr (Or.inr (Or.inl ⟨⟨hfc, g3, g4⟩, rfl⟩)))⟩
          · rw [show 999999 = 999998 + 1 from rfl, r_fig_stop hn hta ht (i := c + 1 + 1) (by omega) g4]
            unfold mX7_nextToken_b255
            rw [zn_sub (by omega), if_pos (show nI (c + 1 + 1 - c) ≤ (2 : Int32) from nI_le (b := 2) (by omega) (by omega))]
            exact ⟨_, _, _, rfl, Or.inr (Or.inr (Or.inl ⟨_, c + 2, Or.inr ⟨hfc, g3, g4, rfl, rfl⟩, rfl, rfl, rfl⟩))⟩
        · rw [show FU = 999999 + 1 from rfl, r_fig_stop hn hta ht (by omega) g3]
          unfold mX7_nextToken_b255
          rw [zn_sub (by omega), if_pos (show nI (c + 1 - c) ≤ (2 : Int32) from nI_le (b := 2) (by omega) (by omega))]
          exact ⟨_, _, _, rfl, Or.inr (Or.inr (Or.inl ⟨_, c + 1, Or.inl ⟨hfc, g3, rfl, rfl⟩, rfl, rfl, rfl⟩))⟩
      · rw [if_neg (by omega)] at hf
        rw [hf, os1, if_pos rfl]
        unfold mX7_nextToken_b113
        by_cases g3 : t c = 44
        · rw [if_pos (show nI (t c) = (44 : Int32) by rw [g3]; rfl), tail 4 (by decide)]
          exact ⟨_, _, _, rfl, Or.inr (Or.inr (Or.inr (Or.inr (Or.inl ⟨h1, Or.inl g3, rfl, rfl, rfl⟩))))⟩
        · rw [if_neg (show ¬ nI (t c) = (44 : Int32) from fun q => g3 (zn_inj (b := 44) (by omega) (by omega) q))]
          by_cases g4 : t c = 59
          · rw [if_pos (show nI (t c) = (59 : Int32) by rw [g4]; rfl), tail 4 (by decide)]
            exact ⟨_, _, _, rfl, Or.inr (Or.inr (Or.inr (Or.inr (Or.inl ⟨h1, Or.inr g4, rfl, rfl, rfl⟩))))⟩
          · rw [if_neg (show ¬ nI (t c) = (59 : Int32) from fun q => g4 (zn_inj (b := 59) (by omega) (by omega) q)), tail 0 (by decide)]
            exact ⟨_, _, _, rfl, Or.inr (Or.inr (Or.inr (Or.inr (Or.inr ⟨⟨h1, fun q => g1 q.2, fun q => g2 q.2, g3, g4⟩, rfl⟩))))⟩
