-- uses: 576.token
/-! numbers, signs, letters on both sides -/
theorem ng_facts {n : Nat} {t : Nat → Nat} {c v e : Nat} (h : NG n t c v e) : v < 100 ∧ c < e ∧ e ≤ n := by
  rcases h with ⟨⟨a1, a2, a3⟩, -, h3, h4⟩ | ⟨⟨a1, a2, a3⟩, ⟨b1, b2, b3⟩, -, h4, h5⟩
  · omega
  · omega
theorem tok_ng {n : Nat} {t : Nat → Nat} {c : Nat} {cur tok val : Int32} (h : TOK n t c cur tok val) : (∃ v e, NG n t c v e ∧ tok = 3 ∧ val = nI v ∧ cur = nI e) ∨ ((¬ ∃ v e, NG n t c v e) ∧ ¬ tok = 3) := by
  have no : ¬ FG n t c → ¬ ∃ v e, NG n t c v e := by
    intro h ⟨v, e, q⟩
    rcases q with ⟨q, -⟩ | ⟨q, -⟩ <;> exact h q
  rcases h with ⟨h, r⟩ | ⟨h, r, -⟩ | h | ⟨h, r⟩ | ⟨h, g, r, -⟩ | ⟨h, r⟩
  · exact Or.inr ⟨no (fun q => by have := q.1; omega), by rw [r]; decide⟩
  · exact Or.inr ⟨no (fun q => by have := q.2.2; have := h.2.1; omega), by rw [r]; decide⟩
  · exact Or.inl h
  · refine Or.inr ⟨?_, by rw [r]; decide⟩
    intro ⟨v, e, q⟩
    rcases q with ⟨-, q, -⟩ | ⟨-, -, q, -⟩
    · exact q h.2.1
    · exact q h.2.2
  · exact Or.inr ⟨no (fun q => by have := q.2; omega), by rw [r]; decide⟩
  · exact Or.inr ⟨no h.2.2.1, by rw [r]; decide⟩
theorem tok_let {n : Nat} {t : Nat → Nat} {c : Nat} {cur tok val : Int32} (h : TOK n t c cur tok val) : (LTR n t c ∧ tok = 2 ∧ val = nI (t c) ∧ cur = nI (c + 1)) ∨ (¬ LTR n t c ∧ ¬ tok = 2) := by
  rcases h with ⟨h, r⟩ | h | ⟨v, e, h, r, -⟩ | ⟨h, r⟩ | ⟨h, g, r, -⟩ | ⟨h, r⟩
  · exact Or.inr ⟨fun q => by have := q.1; omega, by rw [r]; decide⟩
  · exact Or.inl h
  · refine Or.inr ⟨fun q => ?_, by rw [r]; decide⟩
    have := q.2.1
    rcases h with ⟨a, -⟩ | ⟨a, -⟩ <;> (have := a.2.2; omega)
  · exact Or.inr ⟨fun q => by have := q.2.1; have := h.1.2.2; omega, by rw [r]; decide⟩
  · exact Or.inr ⟨fun q => by have := q.2.1; omega, by rw [r]; decide⟩
  · exact Or.inr ⟨h.2.1, by rw [r]; decide⟩
theorem tok_sign {n : Nat} {t : Nat → Nat} {c : Nat} {cur tok val : Int32} (ht : ∀ j, t j < 256) (h : TOK n t c cur tok val) {s : Nat} (hs : s = 44 ∨ s = 59) : ((c < n ∧ t c = s) ∧ tok = 4 ∧ val = nI s ∧ cur = nI (c + 1)) ∨ (¬ (c < n ∧ t c = s) ∧ ¬ (tok = 4 ∧ val = nI s)) := by
  have hb := ht c
  rcases h with ⟨h, r⟩ | ⟨h, r, -⟩ | ⟨v, e, h, r, -⟩ | ⟨h, r⟩ | ⟨h, g, r, r2, r3⟩ | ⟨h, r⟩
  · exact Or.inr ⟨fun q => by omega, fun q => by rw [r] at q; exact absurd q.1 (by decide)⟩
  · exact Or.inr ⟨fun q => by have := h.2.1; omega, fun q => by rw [r] at q; exact absurd q.1 (by decide)⟩
  · refine Or.inr ⟨fun q => ?_, fun q => by rw [r] at q; exact absurd q.1 (by decide)⟩
    rcases h with ⟨a, -⟩ | ⟨a, -⟩ <;> (have := a.2; omega)
  · exact Or.inr ⟨fun q => by have := h.1.2; omega, fun q => by rw [r] at q; exact absurd q.1 (by decide)⟩
  · by_cases q : t c = s
    · exact Or.inl ⟨⟨h, q⟩, r, by rw [r2, q], r3⟩
    · exact Or.inr ⟨fun z => q z.2, fun z => q (zn_inj (by omega) (by omega) (r2.symm.trans z.2))⟩
  · exact Or.inr ⟨fun q => by omega, fun q => by rw [r] at q; exact absurd q.1 (by decide)⟩
theorem r_must_ok {n : Nat} {t : Nat → Nat} {tape : Nat → Int32} (hn : n ≤ 130) (hta : ∀ j, tape j = nI (t j)) (ht : ∀ j, t j < 256) {e : Nat} (he : e ≤ n) (st tok val fa p1 : Int32) (hp : ¬ p1 = 0) : ∃ cur' tok' val', mX7_must (nI n) tape (nI e) st tok val 0 fa p1 = some (cur', nI e, tok', val', 0, fa) ∧ TOK n t e cur' tok' val' := by
  obtain ⟨cur', tok', val', x1, x2⟩ := r_next hn hta ht he st tok val
  refine ⟨cur', tok', val', ?_, x2⟩
  unfold mX7_must mX7_must_b0 mX7_must_b9
  rw [if_neg hp, if_pos rfl, x1]; rfl
theorem r_must_no (taped : Int32) (tape : Nat → Int32) (cur st tok val fa : Int32) : mX7_must taped tape cur st tok val 0 fa 0 = some (cur, st, tok, val, 1, st) := rfl
theorem r_must_bad (taped : Int32) (tape : Nat → Int32) (cur st tok val fa p1 : Int32) {f : Int32} (hf : ¬ f = 0) : mX7_must taped tape cur st tok val f fa p1 = some (cur, st, tok, val, f, fa) := by
  unfold mX7_must mX7_must_b0 mX7_must_b9 mX7_bad mX7_bad_b0
  by_cases h : p1 = 0
  · rw [if_pos h, if_neg hf, os2, if_neg hf]
  · rw [if_neg h, if_neg hf]
theorem r_number_bad (taped : Int32) (tape : Nat → Int32) (cur st tok val fa lo hi : Int32) {f : Int32} (hf : ¬ f = 0) : mX7_number taped tape cur st tok val f fa lo hi = some (lo, cur, st, tok, val, f, fa) := by
  unfold mX7_number mX7_number_b0 mX7_number_b20 mX7_number_b47 mX7_number_b62
  rw [if_neg hf, if_neg hf, if_neg hf, r_must_bad _ _ _ _ _ _ _ _ hf]; rfl
theorem r_mustSign_bad (taped : Int32) (tape : Nat → Int32) (cur st tok val fa s : Int32) {f : Int32} (hf : ¬ f = 0) : mX7_mustSign taped tape cur st tok val f fa s = some (cur, st, tok, val, f, fa) := by
  unfold mX7_mustSign mX7_mustSign_b0 mX7_mustSign_b21 mX7_mustSign_b22
  rw [r_must_bad _ _ _ _ _ _ _ _ hf, r_must_bad _ _ _ _ _ _ _ _ hf, os6]
  (repeat' split) <;> rfl
theorem num_both {n : Nat} {t : Nat → Nat} {tape : Nat → Int32} (hn : n ≤ 130) (hta : ∀ j, tape j = nI (t j)) (ht : ∀ j, t j < 256) {c : Nat} (hc : c ≤ n) {cur tok val : Int32} (hk : TOK n t c cur tok val) (p fa : Int32) {lo hi : Nat} (hlo : lo < 10) (hhi : hi < 10) :
    (∃ v e cur' tok' val', (lo ≤ v ∧ v ≤ hi) ∧ (c < e ∧ e ≤ n) ∧ tok = 3 ∧ val = nI v ∧ mX3_readNumber (nI n) tape (nI c) 0 p (nI lo) (nI hi) = some (nI v, nI e, 0, p) ∧ mX7_number (nI n) tape cur (nI c) tok val 0 fa (nI lo) (nI hi) = some (nI v, cur', nI e, tok', val', 0, fa) ∧ TOK n t e cur' tok' val') ∨
    (∃ f, (f = 1 ∨ f = 2) ∧ mX3_readNumber (nI n) tape (nI c) 0 p (nI lo) (nI hi) = some (-1000000, nI c, nI f, nI c) ∧ mX7_number (nI n) tape cur (nI c) tok val 0 fa (nI lo) (nI hi) = some (nI lo, cur, nI c, tok, val, nI f, nI c) ∧ ((f = 1 ∧ ¬ tok = 3) ∨ (f = 2 ∧ tok = 3 ∧ ∃ v, v < 100 ∧ val = nI v ∧ ¬ (lo ≤ v ∧ v ≤ hi)))) := by
  rcases tok_ng hk with ⟨v, e, h, h1, h2, h3⟩ | ⟨h, h1⟩
  · obtain ⟨g1, g2, g3⟩ := ng_facts h
    have cl := c_num_89 hn hta ht h (by omega : lo < 100) (by omega : hi < 100) p
    have hin := in_i (nI v) (nI lo).toInt64 (nI hi).toInt64
    rw [Int32.toInt_toInt64, Int32.toInt_toInt64, nI_toInt (by omega), nI_toInt (by omega), nI_toInt (by omega)] at hin
    by_cases hr : lo ≤ v ∧ v ≤ hi
    · rw [if_pos hr] at cl
      rw [if_pos (by omega)] at hin
      obtain ⟨cur', tok', val', x1, x2⟩ := r_must_ok hn hta ht g3 (nI c) tok val fa 1 (by decide)
      refine Or.inl ⟨v, e, cur', tok', val', hr, ⟨g2, g3⟩, h1, h2, cl, ?_, x2⟩
      unfold mX7_number mX7_number_b0 mX7_number_b20 mX7_number_b47 mX7_number_b62
      rw [if_pos rfl, if_pos h1, if_pos rfl, h2, hin, os1, if_neg (by decide), if_pos rfl, h3]
      rw [h2] at x1
      rw [x1]; rfl
    · rw [if_neg hr] at cl
      rw [if_neg (by omega)] at hin
      refine Or.inr ⟨2, Or.inr rfl, cl, ?_, Or.inr ⟨rfl, h1, v, g1, h2, hr⟩⟩
      unfold mX7_number mX7_number_b0 mX7_number_b20 mX7_number_b47 mX7_number_b62 mX7_bad mX7_bad_b0
      rw [if_pos rfl, if_pos h1, if_pos rfl, h2, hin, os1, if_pos rfl, if_pos rfl, os2, if_neg (by decide), r_must_bad _ _ _ _ _ _ _ _ (by decide)]; rfl
  · have cl := c_num_f hn hta ht (by omega : c < 500) h p (nI lo) (nI hi)
    refine Or.inr ⟨1, Or.inl rfl, cl, ?_, Or.inl ⟨rfl, h1⟩⟩
    unfold mX7_number mX7_number_b0 mX7_number_b20 mX7_number_b47 mX7_number_b62 mX7_bad mX7_bad_b0
    rw [if_pos rfl, if_neg h1, if_pos rfl, os2, if_neg (by decide), if_neg (by decide), r_must_bad _ _ _ _ _ _ _ _ (by decide)]; rfl
theorem sign_both {n : Nat} {t : Nat → Nat} {tape : Nat → Int32} (hn : n ≤ 130) (hta : ∀ j, tape j = nI (t j)) (ht : ∀ j, t j < 256) {c : Nat} (hc : c ≤ n) {cur tok val : Int32} (hk : TOK n t c cur tok val) (p fa : Int32) {s : Nat} (hs : s = 44 ∨ s = 59) :
    (∃ cur' tok' val', (c < n ∧ t c = s) ∧ tok = 4 ∧ val = nI s ∧ mX3_readSign (nI n) tape (nI c) 0 p (nI s) = some (1, nI (c + 1), 0, p) ∧ mX7_mustSign (nI n) tape cur (nI c) tok val 0 fa (nI s) = some (cur', nI (c + 1), tok', val', 0, fa) ∧ TOK n t (c + 1) cur' tok' val') ∨
    (¬ (c < n ∧ t c = s) ∧ ¬ (tok = 4 ∧ val = nI s) ∧ mX3_readSign (nI n) tape (nI c) 0 p (nI s) = some (0, nI c, 1, nI c) ∧ mX7_mustSign (nI n) tape cur (nI c) tok val 0 fa (nI s) = some (cur, nI c, tok, val, 1, nI c)) := by
  rcases tok_sign ht hk hs with ⟨h, h1, h2, h3⟩ | ⟨h, h1⟩
  · obtain ⟨cur', tok', val', x1, x2⟩ := r_must_ok hn hta ht (by omega : c + 1 ≤ n) (nI c) tok val fa 1 (by decide)
    refine Or.inl ⟨cur', tok', val', h, h1, h2, c_sign_t hn hta ht h.1 h.2 0 p, ?_, x2⟩
    unfold mX7_mustSign mX7_mustSign_b0 mX7_mustSign_b22
    rw [if_pos h1, if_pos h2, h3, x1]; rfl
  · refine Or.inr ⟨h, h1, c_sign_f hn hta ht (by omega) (by omega) h 0 p, ?_⟩
    unfold mX7_mustSign mX7_mustSign_b0 mX7_mustSign_b21 mX7_mustSign_b22
    by_cases g : tok = 4
    · rw [if_pos g, if_neg (fun q => h1 ⟨g, q⟩), r_must_no]; rfl
    · rw [if_neg g, r_must_no]; rfl
theorem q_both {n : Nat} {t : Nat → Nat} {tape : Nat → Int32} (hn : n ≤ 130) (hta : ∀ j, tape j = nI (t j)) (ht : ∀ j, t j < 256) {c : Nat} (hc : c ≤ n) {cur tok val : Int32} (hk : TOK n t c cur tok val) (p fa : Int32) :
    (∃ cur' tok' val', c < n ∧ mX3_readSign (nI n) tape (nI c) 0 p (nI 113) = some (1, nI (c + 1), 0, p) ∧ ob1 (mX7_isLetter tok val 0 (113 : Int32)) (fun r => mX7_must (nI n) tape cur (nI c) tok val 0 fa r) = some (cur', nI (c + 1), tok', val', 0, fa) ∧ TOK n t (c + 1) cur' tok' val') ∨
    (mX3_readSign (nI n) tape (nI c) 0 p (nI 113) = some (0, nI c, 1, nI c) ∧ ob1 (mX7_isLetter tok val 0 (113 : Int32)) (fun r => mX7_must (nI n) tape cur (nI c) tok val 0 fa r) = some (cur, nI c, tok, val, 1, nI c)) := by
  have hb := ht c
  unfold mX7_isLetter mX7_isLetter_b0
  rw [if_pos rfl]
  rcases tok_let hk with ⟨h, h1, h2, h3⟩ | ⟨h, h1⟩
  · by_cases g : t c = 113
    · obtain ⟨cur', tok', val', x1, x2⟩ := r_must_ok hn hta ht (by have := h.1; omega : c + 1 ≤ n) (nI c) tok val fa 1 (by decide)
      refine Or.inl ⟨cur', tok', val', h.1, c_sign_t hn hta ht h.1 g 0 p, ?_, x2⟩
      rw [if_pos h1, if_pos (show val = (113 : Int32) by rw [h2, g]; rfl), os1, h3]; exact x1
    · refine Or.inr ⟨c_sign_f hn hta ht (by omega) (by omega) (fun q => g q.2) 0 p, ?_⟩
      rw [if_pos h1, if_neg (show ¬ val = (113 : Int32) from fun q => g (zn_inj (b := 113) (by omega) (by omega) (h2.symm.trans q))), os1]; rfl
  · refine Or.inr ⟨c_sign_f hn hta ht (by omega) (by omega) (fun q => h ⟨q.1, by omega, by omega⟩) 0 p, ?_⟩
    rw [if_neg h1, os1]; rfl
/-- letters from e on, at most eight -/
def LE8 (n : Nat) (t : Nat → Nat) (e m : Nat) : Prop := m ≤ 8 ∧ (∀ i, i < m → LTR n t (e + i)) ∧ (m = 8 ∨ ¬ LTR n t (e + m))
theorem le8_ex (n : Nat) (t : Nat → Nat) (e : Nat) : ∃ m, LE8 n t e m := by
  have st : ∀ k, (∀ i, i < k → LTR n t (e + i)) ∨ ∃ m, m < k ∧ (∀ i, i < m → LTR n t (e + i)) ∧ ¬ LTR n t (e + m) := by
    intro k
    induction k with
    | zero => exact Or.inl (fun i hi => absurd hi (by omega))
    | succ k ih =>
      rcases ih with h | ⟨m, h1, h2⟩
      · by_cases g : LTR n t (e + k)
        · refine Or.inl (fun i hi => ?_)
          by_cases z : i = k
          · rw [z]; exact g
          · exact h i (by omega)
        · exact Or.inr ⟨k, by omega, h, g⟩
      · exact Or.inr ⟨m, by omega, h2⟩
  rcases st 8 with h | ⟨m, h1, h2, h3⟩
  · exact ⟨8, Nat.le_refl _, h, Or.inl rfl⟩
  · exact ⟨m, by omega, h2, Or.inr h3⟩
def LF (t : Nat → Nat) (e i : Nat) : Int32 := nI (t (e + i) - 97)
theorem anyB_cg {f g : Nat → Bool} : ∀ {n : Nat}, (∀ i, i < n → f i = g i) → anyB f n = anyB g n
  | 0, _ => rfl
  | n + 1, h => by
    show (anyB f n || f n) = (anyB g n || g n)
    rw [anyB_cg (fun i hi => h i (by omega)), h n (by omega)]
theorem cut_cg {f g : Nat → Int32} {n : Nat} (h : ∀ i, i < n → f i = g i) : cutF n f = cutF n g := by
  funext j
  unfold cutF
  by_cases q : j < n
  · rw [if_pos q, if_pos q, h j q]
  · rw [if_neg q, if_neg q]
theorem c_let_loop {n : Nat} {t : Nat → Nat} {tape : Nat → Int32} (hn : n ≤ 130) (hta : ∀ j, tape j = nI (t j)) (ht : ∀ j, t j < 256) (Po : Int32 → Int32 → Int32 → Int32 → (Nat → Int32) → Int32 → (Nat → Int32) → (Nat → Int32) → (Nat → Nat) → List Nat → (Nat → Nat) → (Nat → Nat) → (Nat → Int32) → (Nat → Int32) → (Nat → Int32) → (Nat → Nat → Int32) → (Nat → Nat → Int32) → Prop) {e m : Nat} (he : e ≤ n) (hm : LE8 n t e m) (pl p2 p ws : Int32) (sz kd : Nat → Int32) (sp : Nat → Nat) (L : List Nat) (la sa : Nat → Nat) (ln sy sn : Nat → Int32) (lt st : Nat → Nat → Int32) (H : ∀ lf', (∀ i, i < m → lf' i = LF t e i) → qX3_readLetters_b66 Po (nI n) tape pl p2 (nI (e + m)) 0 p lf' ws sz kd sp L la sa ln sy sn lt st (nI e) (nI m)) : ∀ (d k : Nat) (lf : Nat → Int32), k + d = m → (∀ i, i < k → lf i = LF t e i) → ∀ N, d < N → qX3_readLetters_b11 Po (nI n) tape pl p2 N (nI (e + k)) 0 p lf ws sz kd sp L la sa ln sy sn lt st (nI e) (nI k) (nI k)
  | _, _, _, _, _, 0, hN => absurd hN (by omega)
  | 0, k, lf, hk, h, N + 1, _ => by
    have ek : k = m := by omega
    subst ek
    obtain ⟨m8, -, hl⟩ := hm
    refine ⟨fun _ => H lf h, fun h8 => ⟨0, c_let_f hn hta ht (by omega) ?_, fun _ => H lf h, fun q => absurd rfl q⟩⟩
    rcases hl with g | g
    · rw [g] at h8; exact absurd (by decide) h8
    · exact g
  | d + 1, k, lf, hk, h, N + 1, hN => by
    obtain ⟨m8, hl, hz⟩ := hm
    have hlk := hl k (by omega)
    refine ⟨fun q => absurd q (nI_ge (b := 8) (by omega) (by omega)), fun _ => ⟨1, c_let_t hn hta ht hlk, fun q => absurd q (by decide), fun _ => ⟨_, c_byteAt hn hta ht (by omega), nI_ix (by omega) (by omega), ?_⟩⟩⟩
    rw [if_pos hlk.1, zn_cl (by omega), nI_1, nI_1, zn_97, zn_sub hlk.2.1]
    apply c_let_loop hn hta ht Po he ⟨m8, hl, hz⟩ pl p2 p ws sz kd sp L la sa ln sy sn lt st H d (k + 1) _ (by omega) ?_ N (by omega)
    intro i hi
    rw [zn_up]
    by_cases g : i = k
    · rw [if_pos g, g]; rfl
    · rw [if_neg g]; exact h i (by omega)
