-- uses: 562.edit
/-! spellings that are made; pools that grow -/
def cutF (n : Nat) (f : Nat → Int32) (j : Nat) : Int32 := if j < n then f j else 0
theorem cut_up (k : Nat) (f : Nat → Int32) : upd (cutF k f) k (f k) = cutF (k + 1) f := by
  funext j
  unfold upd cutF
  by_cases h : j = k
  · rw [if_pos h, if_pos (by omega), h]
  · rw [if_neg h]
    by_cases h2 : j < k
    · rw [if_pos h2, if_pos (by omega)]
    · rw [if_neg h2, if_neg (by omega)]
theorem spell_end {n n1 : Nat} (hn : 1 ≤ n ∧ n ≤ 8) (f : Nat → Int32) (p2 : Int32) (sa : Nat → Int32) (hsa : ∀ p, p < n → RN (cutF n f) p = true → sa (RT (cutF n f) p) = nI p) (x4 : Int32) (m : Nat) : mX5_init_b48 (nI n) n1 f n p2 (m + 1) 0 0 sa (cutF n f) (nI (RT (cutF n f) n)) x4 (nI n) = some (nI (SY (cutF n f) n), nI (SN (cutF n f) n), sa, cutF n f) := by
  have hr := RT_le (cutF n f) n
  have hh := (RT_half (cutF n f) n).1
  have e1 : nI n - 1 = nI (n - 1) := by rw [zn_1, zn_sub hn.1]
  rw [mX5_init_b48, if_pos (nI_le (Nat.le_refl _) (by omega))]
  by_cases h1 : 1 < RT (cutF n f) n
  · have c1 : ¬ (nI (n - 1) < 0 ∨ n ≤ n - 1) := by simp (disch := omega) only [↓reduceIte, Nat.reduceAdd, Nat.reduceMul, Nat.reduceSub, Nat.zero_add, zn_0, zn_1, zn_2, zn_3, zn_4, zn_5, zn_6, zn_7, zn_8, zn_9, zn_10, zn_16, zn_20, zn_23, zn_24, zn_25, zn_26, zn_40, zn_207, zn_4761, zn_99, zn_130, zn_lt_t, zn_lt_f, zn_le_t, zn_le_f, zn_eq_t, zn_eq_f, zn_ix, zn_cl, zq_le_f, zq_le_t, zq_lt_f, zq_lt_t, zn_add, zn_mul, zn_sub, or_false, false_or, or_self, true_or, or_true, and_true, true_and, and_false, false_and, not_true_eq_false, not_false_eq_true, if_true, if_false, os1, os2, os3, os4, os5, os6, os7, os8, os9, os10, os11, os12, os13, os14, os15, os16, os17, os18, os19, os20, os21, os22, os23, os24]
    rw [if_neg (show ¬ nI (RT (cutF n f) n) ≤ (1 : Int32) from nI_ge (a := 1) h1 (by omega)), e1, zn_cl (by omega), if_neg c1]
    by_cases h4 : cutF n f (n - 1) = 4
    · have e2 : nI (RT (cutF n f) n) - 1 = nI (RT (cutF n f) n - 1) := by rw [zn_1, zn_sub (by omega)]
      have c2 : ¬ (nI (RT (cutF n f) n - 1) < 0 ∨ 4 ≤ RT (cutF n f) n - 1) := by simp (disch := omega) only [↓reduceIte, Nat.reduceAdd, Nat.reduceMul, Nat.reduceSub, Nat.zero_add, zn_0, zn_1, zn_2, zn_3, zn_4, zn_5, zn_6, zn_7, zn_8, zn_9, zn_10, zn_16, zn_20, zn_23, zn_24, zn_25, zn_26, zn_40, zn_207, zn_4761, zn_99, zn_130, zn_lt_t, zn_lt_f, zn_le_t, zn_le_f, zn_eq_t, zn_eq_f, zn_ix, zn_cl, zq_le_f, zq_le_t, zq_lt_f, zq_lt_t, zn_add, zn_mul, zn_sub, or_false, false_or, or_self, true_or, or_true, and_true, true_and, and_false, false_and, not_true_eq_false, not_false_eq_true, if_true, if_false, os1, os2, os3, os4, os5, os6, os7, os8, os9, os10, os11, os12, os13, os14, os15, os16, os17, os18, os19, os20, os21, os22, os23, os24]
      obtain ⟨t1, t2, t3⟩ := TP_ok (cutF n f) (RT (cutF n f) n - 1) n (by omega)
      have hst := hsa _ t1 t2
      rw [t3] at hst
      rw [if_pos h4, e2, zn_cl (by omega), if_neg c2, hst]
      by_cases hp : TP (cutF n f) (RT (cutF n f) n - 1) n = n - 1
      · have hm : ME (cutF n f) n = true := by
          unfold ME
          rw [hp] at t2
          simp [h4, t2, h1]
        rw [if_pos (by rw [hp]), mX5_init_b158, if_neg (by decide), mX5_init_b173, if_neg (by decide), e1, e2]
        unfold SY SN
        rw [if_pos hm, if_pos hm]
      · have hm : ¬ ME (cutF n f) n = true := by
          unfold ME
          intro q
          simp at q
          have hq := RT_succ_of q.1.2
          rw [show n - 1 + 1 = n by omega] at hq
          have h5 := hsa (n - 1) (by omega) q.1.2
          rw [show RT (cutF n f) (n - 1) = RT (cutF n f) n - 1 by omega, hst] at h5
          exact hp (zn_inj (by omega) (by omega) h5)
        rw [if_neg (fun q => hp (zn_inj (by omega) (by omega) q)), mX5_init_b157, mX5_init_b158, if_pos rfl, mX5_init_b173, if_pos rfl]
        unfold SY SN
        rw [if_neg hm, if_neg hm]
    · have hm : ¬ ME (cutF n f) n = true := by
        unfold ME
        intro q
        simp at q
        exact h4 q.1.1
      rw [if_neg h4, mX5_init_b157, mX5_init_b158, if_pos rfl, mX5_init_b173, if_pos rfl]
      unfold SY SN
      rw [if_neg hm, if_neg hm]
  · have hm : ¬ ME (cutF n f) n = true := by
      unfold ME
      intro q
      simp at q
      exact h1 q.2
    rw [if_pos (show nI (RT (cutF n f) n) ≤ (1 : Int32) from nI_le (b := 1) (by omega) (by omega)), mX5_init_b157, mX5_init_b158, if_pos rfl, mX5_init_b173, if_pos rfl]
    unfold SY SN
    rw [if_neg hm, if_neg hm]
def inR (f : Nat → Int32) (k : Nat) : Bool := decide (0 < k) && VW (f (k - 1))
theorem RN_inR (f : Nat → Int32) (k : Nat) : RN f k = (VW (f k) && !inR f k) := by
  unfold RN inR
  by_cases h : k = 0
  · simp [h]
  · have : 0 < k := by omega
    simp [h, this]
theorem spell_loop {n n1 : Nat} (hn : 1 ≤ n ∧ n ≤ 8) (hn1 : n ≤ n1) (h31 : n1 < 1000) (f : Nat → Int32) (p2 : Int32) : ∀ (d k : Nat) (sa : Nat → Int32), k + d = n → (∀ p, p < k → RN (cutF n f) p = true → sa (RT (cutF n f) p) = nI p) → ∀ m, d < m → ∃ sa', mX5_init_b48 (nI n) n1 f n p2 m 0 0 sa (cutF k f) (nI (RT (cutF n f) k)) (b2i (inR (cutF n f) k)) (nI k) = some (nI (SY (cutF n f) n), nI (SN (cutF n f) n), sa', cutF n f) ∧ ∀ p, p < n → RN (cutF n f) p = true → sa' (RT (cutF n f) p) = nI p
  | _, _, _, _, _, 0, hm => absurd hm (by omega)
  | 0, k, sa, hk, hsa, m + 1, _ => by
    have e : k = n := by omega
    subst e
    exact ⟨sa, spell_end hn f p2 sa hsa _ m, hsa⟩
  | d + 1, k, sa, hk, hsa, m + 1, hm => by
    have c1 : ¬ (nI k < 0 ∨ n1 ≤ k) := by simp (disch := omega) only [↓reduceIte, Nat.reduceAdd, Nat.reduceMul, Nat.reduceSub, Nat.zero_add, zn_0, zn_1, zn_2, zn_3, zn_4, zn_5, zn_6, zn_7, zn_8, zn_9, zn_10, zn_16, zn_20, zn_23, zn_24, zn_25, zn_26, zn_40, zn_207, zn_4761, zn_99, zn_130, zn_lt_t, zn_lt_f, zn_le_t, zn_le_f, zn_eq_t, zn_eq_f, zn_ix, zn_cl, zq_le_f, zq_le_t, zq_lt_f, zq_lt_t, zn_add, zn_mul, zn_sub, or_false, false_or, or_self, true_or, or_true, and_true, true_and, and_false, false_and, not_true_eq_false, not_false_eq_true, if_true, if_false, os1, os2, os3, os4, os5, os6, os7, os8, os9, os10, os11, os12, os13, os14, os15, os16, os17, os18, os19, os20, os21, os22, os23, os24]
    have c2 : ¬ (nI k < 0 ∨ n ≤ k) := by simp (disch := omega) only [↓reduceIte, Nat.reduceAdd, Nat.reduceMul, Nat.reduceSub, Nat.zero_add, zn_0, zn_1, zn_2, zn_3, zn_4, zn_5, zn_6, zn_7, zn_8, zn_9, zn_10, zn_16, zn_20, zn_23, zn_24, zn_25, zn_26, zn_40, zn_207, zn_4761, zn_99, zn_130, zn_lt_t, zn_lt_f, zn_le_t, zn_le_f, zn_eq_t, zn_eq_f, zn_ix, zn_cl, zq_le_f, zq_le_t, zq_lt_f, zq_lt_t, zn_add, zn_mul, zn_sub, or_false, false_or, or_self, true_or, or_true, and_true, true_and, and_false, false_and, not_true_eq_false, not_false_eq_true, if_true, if_false, os1, os2, os3, os4, os5, os6, os7, os8, os9, os10, os11, os12, os13, os14, os15, os16, os17, os18, os19, os20, os21, os22, os23, os24]
    have hv : upd (cutF k f) k (f k) k = cutF n f k := by
      unfold upd cutF; rw [if_pos rfl, if_pos (by omega)]
    have hin : inR (cutF n f) (k + 1) = VW (cutF n f k) := by unfold inR; simp
    have hrn := RN_inR (cutF n f) k
    rw [mX5_init_b48, if_neg (nI_ge (by omega) (by omega)), zn_cl (by omega), if_neg c1, if_neg c2, if_neg c2, hv, c_vowel, os1, cut_up, nI_1]
    cases hvw : VW (cutF n f k)
    · have hrf : RN (cutF n f) k = false := by rw [hrn, hvw]; rfl
      have ih := spell_loop hn hn1 h31 f p2 d (k + 1) sa (by omega) (by
        intro p hp hr
        by_cases e : p = k
        · rw [e, hrf] at hr; exact absurd hr (by decide)
        · exact hsa p (by omega) hr) m (by omega)
      rw [RT_succ_no hrf, hin, hvw] at ih
      rw [b2i_f, if_pos (by rfl)]
      exact ih
    · rw [b2i_t, if_neg (by decide)]
      cases hir : inR (cutF n f) k
      · have hrt : RN (cutF n f) k = true := by rw [hrn, hvw, hir]; rfl
        have hs := RT_succ_of hrt
        have hh := (RT_half (cutF n f) (k + 1)).1
        have c3 : ¬ (4 : Int32) ≤ nI (RT (cutF n f) k) := nI_ge (b := 4) (by omega) (by omega)
        have c4 : ¬ (nI (RT (cutF n f) k) < 0 ∨ 4 ≤ RT (cutF n f) k) := by simp (disch := omega) only [↓reduceIte, Nat.reduceAdd, Nat.reduceMul, Nat.reduceSub, Nat.zero_add, zn_0, zn_1, zn_2, zn_3, zn_4, zn_5, zn_6, zn_7, zn_8, zn_9, zn_10, zn_16, zn_20, zn_23, zn_24, zn_25, zn_26, zn_40, zn_207, zn_4761, zn_99, zn_130, zn_lt_t, zn_lt_f, zn_le_t, zn_le_f, zn_eq_t, zn_eq_f, zn_ix, zn_cl, zq_le_f, zq_le_t, zq_lt_f, zq_lt_t, zn_add, zn_mul, zn_sub, or_false, false_or, or_self, true_or, or_true, and_true, true_and, and_false, false_and, not_true_eq_false, not_false_eq_true, if_true, if_false, os1, os2, os3, os4, os5, os6, os7, os8, os9, os10, os11, os12, os13, os14, os15, os16, os17, os18, os19, os20, os21, os22, os23, os24]
        have ih := spell_loop hn hn1 h31 f p2 d (k + 1) (upd sa (RT (cutF n f) k) (nI k)) (by omega) (by
          intro p hp hr
          rw [zn_up]
          by_cases e : p = k
          · rw [if_pos (by rw [e]), e]
          · have h1 := RT_succ_of hr
            have h2 := RT_mono (cutF n f) (a := p + 1) (k - (p + 1))
            rw [show p + 1 + (k - (p + 1)) = k by omega] at h2
            rw [if_neg (by omega)]
            exact hsa p (by omega) hr) m (by omega)
        rw [hs, hin, hvw] at ih
        rw [b2i_f, if_pos (by rfl), if_neg c3, zn_cl (by omega), if_neg c4, nI_1]
        exact ih
      · have hrf : RN (cutF n f) k = false := by rw [hrn, hvw, hir]; rfl
        have ih := spell_loop hn hn1 h31 f p2 d (k + 1) sa (by omega) (by
          intro p hp hr
          by_cases e : p = k
          · rw [e, hrf] at hr; exact absurd hr (by decide)
          · exact hsa p (by omega) hr) m (by omega)
        rw [RT_succ_no hrf, hin, hvw] at ih
        rw [b2i_t, if_neg (by decide)]
        exact ih
theorem c_spell {n n1 : Nat} (hn : 1 ≤ n ∧ n ≤ 8) (hn1 : n ≤ n1) (h31 : n1 < 1000) (f : Nat → Int32) (p2 : Int32) : ∃ sa, mX5_init_b40 (nI n) n1 f n p2 0 0 (fun _ => 0) (fun _ => 0) = some (nI (SY (cutF n f) n), nI (SN (cutF n f) n), sa, cutF n f) ∧ ∀ p, p < n → RN (cutF n f) p = true → sa (RT (cutF n f) p) = nI p := by
  have e : (fun _ => (0 : Int32)) = cutF 0 f := by funext j; unfold cutF; rw [if_neg (by omega)]
  obtain ⟨sa, h1, h2⟩ := spell_loop hn hn1 h31 f p2 n 0 (fun _ => 0) (by omega) (fun p hp => absurd hp (by omega)) FU (zn_fu (by omega))
  refine ⟨sa, ?_, h2⟩
  rw [← e] at h1
  exact h1
theorem spl_k : ∀ n, n < 9 → 1 ≤ n → spl_len 40 (nI n) = nI n ∧ spl_len 8 (nI n) = nI n := by decide +kernel
theorem RT_0 (f : Nat → Int32) : ∀ n, RT f n = 0 → ∀ i, i < n → VW (f i) = false
  | 0, _, i, hi => absurd hi (by omega)
  | n + 1, h, i, hi => by
    have e : RT f (n + 1) = RT f n + (if RN f n then 1 else 0) := rfl
    have h0 : RT f n = 0 := by omega
    have ih := RT_0 f n h0
    by_cases hin : i < n
    · exact ih i hin
    · have hi' : i = n := by omega
      subst hi'
      have hr : RN f i = false := by
        cases hb : RN f i
        · rfl
        · rw [hb] at e; simp at e; omega
      rw [RN_inR] at hr
      have hn : inR f i = false := by
        unfold inR
        by_cases h1 : 0 < i
        · rw [ih (i - 1) (by omega)]; simp
        · simp [h1]
      rw [hn] at hr
      simpa using hr
theorem RT_vowel {f : Nat → Int32} {n i : Nat} (hi : i < n) (h : VW (f i) = true) : 1 ≤ RT f n := by
  apply Nat.pos_of_ne_zero
  intro q
  have := RT_0 f n q i hi
  rw [h] at this
  exact absurd this (by decide)
theorem c_hasV_loop {n n1 : Nat} (hn : n ≤ n1) (h31 : n1 < 1000) (f : Nat → Int32) : ∀ (d k : Nat), k + d = n → anyB (fun i => VW (f i)) k = false → ∀ m, d < m → mX6_hasVowel_b2 n1 f (nI n) m (nI k) = some (b2i (anyB (fun i => VW (f i)) n))
  | _, _, _, _, 0, hm => absurd hm (by omega)
  | 0, k, hk, h, m + 1, _ => by
    have e : k = n := by omega
    subst e
    rw [mX6_hasVowel_b2, if_pos (nI_le (Nat.le_refl _) (by omega)), h]
    rfl
  | d + 1, k, hk, h, m + 1, hm => by
    have c1 : ¬ (nI k < 0 ∨ n1 ≤ k) := by simp (disch := omega) only [↓reduceIte, Nat.reduceAdd, Nat.reduceMul, Nat.reduceSub, Nat.zero_add, zn_0, zn_1, zn_2, zn_3, zn_4, zn_5, zn_6, zn_7, zn_8, zn_9, zn_10, zn_16, zn_20, zn_23, zn_24, zn_25, zn_26, zn_40, zn_207, zn_4761, zn_99, zn_130, zn_lt_t, zn_lt_f, zn_le_t, zn_le_f, zn_eq_t, zn_eq_f, zn_ix, zn_cl, zq_le_f, zq_le_t, zq_lt_f, zq_lt_t, zn_add, zn_mul, zn_sub, or_false, false_or, or_self, true_or, or_true, and_true, true_and, and_false, false_and, not_true_eq_false, not_false_eq_true, if_true, if_false, os1, os2, os3, os4, os5, os6, os7, os8, os9, os10, os11, os12, os13, os14, os15, os16, os17, os18, os19, os20, os21, os22, os23, os24]
    have ea : anyB (fun i => VW (f i)) (k + 1) = (anyB (fun i => VW (f i)) k || VW (f k)) := rfl
    rw [mX6_hasVowel_b2, if_neg (nI_ge (by omega) (by omega)), if_neg (nI_ge (by omega) (by omega)), zn_cl (by omega), if_neg c1, c_vowel, os1, nI_1]
    cases hv : VW (f k)
    · rw [h, hv] at ea
      rw [b2i_f, if_pos (by rfl)]
      exact c_hasV_loop hn h31 f d (k + 1) (by omega) ea m (by omega)
    · rw [b2i_t, if_neg (by decide), anyB_of (by omega : k < n) hv]
      rfl
theorem c_hasV {n n1 : Nat} (hn : n ≤ n1) (h31 : n1 < 1000) (f : Nat → Int32) : mX6_hasVowel n1 f (nI n) = some (b2i (anyB (fun i => VW (f i)) n)) :=
  c_hasV_loop hn h31 f n 0 (by omega) rfl FU (zn_fu (by omega))
theorem anyB_ex {f : Nat → Bool} : ∀ {n : Nat}, anyB f n = true → ∃ i, i < n ∧ f i = true
  | 0, h => absurd h (by simp [anyB])
  | n + 1, h => by
    unfold anyB at h
    rw [Bool.or_eq_true] at h
    rcases h with h | h
    · obtain ⟨i, h1, h2⟩ := anyB_ex h
      exact ⟨i, by omega, h2⟩
    · exact ⟨n, by omega, h⟩
/-- a pool that holds another -/
def EXT (L : List Nat) (ln : Nat → Int32) (lt : Nat → Nat → Int32) (L' : List Nat) (ln' : Nat → Int32) (lt' : Nat → Nat → Int32) : Prop := ∀ a ∈ L, a ∈ L' ∧ ln' a = ln a ∧ lt' a = lt a
section
variable {L L' : List Nat} {ln ln' : Nat → Int32} {lt lt' : Nat → Nat → Int32} {A : AP}
theorem EXT_refl : EXT L ln lt L ln lt := fun a h => ⟨h, rfl, rfl⟩
theorem EXT_trans {L2 : List Nat} {ln2 : Nat → Int32} {lt2 : Nat → Nat → Int32} (h1 : EXT L ln lt L' ln' lt') (h2 : EXT L' ln' lt' L2 ln2 lt2) : EXT L ln lt L2 ln2 lt2 := by
  intro a h
  obtain ⟨x1, x2, x3⟩ := h1 a h
  obtain ⟨y1, y2, y3⟩ := h2 a x1
  exact ⟨y1, y2.trans x2, y3.trans x3⟩
theorem EXT_one {q : Nat} (hq : ¬ q ∈ L) (v : Int32) (f : Nat → Int32) : EXT L ln lt (L ++ [q]) (va_up ln q v) (va_up lt q f) := by
  intro a h
  have : ¬ a = q := fun e => hq (e ▸ h)
  exact ⟨List.mem_append_left _ h, by rw [zn_vup, if_neg this], by rw [zn_vup, if_neg this]⟩
theorem AOK_ext (hx : EXT L ln lt L' ln' lt') (ha : AOK L ln lt A) : AOK L' ln' lt' A := by
  obtain ⟨k1, k2, k3, k4, k5, k6, k7⟩ := ha
  refine ⟨k1, k2, k3, k4, k5, k6, fun w hw => ?_⟩
  obtain ⟨m1, m2, n, m3, m4, m5, m6⟩ := k7 w hw
  obtain ⟨x1, x2, x3⟩ := hx _ m2
  exact ⟨m1, x1, n, m3, m4, by rw [x2]; exact m5, by rw [x3]; exact m6⟩
theorem PR_ext {row : Nat → Int32} (hx : EXT L ln lt L' ln' lt') (ha : AOK L ln lt A) (h : PR ln lt A row) : PR ln' lt' A row := by
  obtain ⟨k1, k2, k3, k4, k5⟩ := h
  refine ⟨k1, k2, k3, k4, fun w hw => ?_⟩
  obtain ⟨-, m2, -⟩ := ha.2.2.2.2.2.2 w hw
  obtain ⟨x1, x2, x3⟩ := hx _ m2
  obtain ⟨p1, p2, p3⟩ := k5 w hw
  exact ⟨p1, by rw [x2]; exact p2, fun i hi q => by rw [x3]; rw [x2] at q; exact p3 i hi q⟩
theorem PC_ext {f e li w : Int32} {z k : Nat → Int32} {s : Nat → Nat} (hx : EXT L ln lt L' ln' lt') (h : PC L A f e li w z k s) : PC L' A f e li w z k s := by
  obtain ⟨p1, p2, p3, p4, p5, p6, p7⟩ := h
  exact ⟨p1, p2, p3, p4, p5, p6, fun j hj => (hx _ (p7 j hj)).1⟩
theorem RImg_ext {f e li w is : Int32} {z k row : Nat → Int32} {s : Nat → Nat} (hx : EXT L ln lt L' ln' lt') (h : RImg L ln lt f e li w z k s is row) : RImg L' ln' lt' f e li w z k s is row := by
  obtain ⟨h1, h2 | ⟨h2, A, h3, h4, h5, h6⟩⟩ := h
  · exact ⟨fun j hj => (hx _ (h1 j hj)).1, Or.inl h2⟩
  · exact ⟨fun j hj => (hx _ (h1 j hj)).1, Or.inr ⟨h2, A, AOK_ext hx h3, h4, PC_ext hx h5, PR_ext hx h3 h6⟩⟩
theorem AR_ext {so fi se tk : Nat → Int32} {ts : Nat → Nat} (hx : EXT L ln lt L' ln' lt') : ∀ (hs : List AP) (A : AP) (p : Nat), AR L ln lt so fi se tk ts hs A p → AR L' ln' lt' so fi se tk ts hs A p
  | [], _, _, _ => trivial
  | B :: hs, A, p, h => by
    obtain ⟨h1, h7, h8, h9, h10⟩ := h
    exact ⟨h1, AOK_ext hx h7, h8, h9, AR_ext hx hs B _ h10⟩
theorem AR_aok {so fi se tk : Nat → Int32} {ts : Nat → Nat} : ∀ (hs : List AP) (A : AP) (p j : Nat), j < hs.length → AR L ln lt so fi se tk ts hs A p → AOK L ln lt (hs.getD j (0, 0, [], []))
  | [], _, _, _, hj, _ => absurd hj (by simp)
  | B :: hs, A, p, 0, _, h => h.2.1
  | B :: hs, A, p, j + 1, hj, h => AR_aok hs B _ j (by simpa using hj) h.2.2.2.2
theorem RActs_ext {next kept acts : Int32} {so fi se tk was : Nat → Int32} {ts : Nat → Nat} (hx : EXT L ln lt L' ln' lt') (h : RActs L ln lt A next kept so fi se tk ts acts was) : RActs L' ln' lt' A next kept so fi se tk ts acts was := by
  obtain ⟨hts, p, hs, hp, hlen, hn, hk, hac, har, hwas⟩ := h
  exact ⟨fun j hj => (hx _ (hts j hj)).1, p, hs, hp, hlen, hn, hk, hac, AR_ext hx hs A p har, fun j hj => PR_ext hx (AR_aok hs A p j hj har) (hwas j hj)⟩
theorem POOL_one {sy sn : Nat → Int32} {st : Nat → Nat → Int32} (hp : POOL L ln sy sn lt st) {q : Nat} (hq : ¬ q ∈ L) {n : Nat} (hn : n ≤ 8) {F sa : Nat → Int32} (hsa : ∀ p, p < n → RN F p = true → sa (RT F p) = nI p) : POOL (L ++ [q]) (va_up ln q (nI n)) (va_up sy q (nI (SY F n))) (va_up sn q (nI (SN F n))) (va_up lt q F) (va_up st q sa) := by
  intro a ha
  by_cases e : a = q
  · subst e
    refine ⟨n, hn, ?_, ?_, ?_, ?_⟩
    · rw [zn_vup, if_pos rfl]
    · rw [zn_vup, zn_vup, if_pos rfl, if_pos rfl]
    · rw [zn_vup, zn_vup, if_pos rfl, if_pos rfl]
    · rw [zn_vup, zn_vup, if_pos rfl, if_pos rfl]; exact hsa
  · have ha' : a ∈ L := by
      rw [List.mem_append] at ha
      rcases ha with h | h
      · exact h
      · exact absurd (by simpa using h) e
    obtain ⟨m, h1, h2, h3, h4, h5⟩ := hp a ha'
    refine ⟨m, h1, ?_, ?_, ?_, ?_⟩
    · rw [zn_vup, if_neg e]; exact h2
    · rw [zn_vup, zn_vup, if_neg e, if_neg e]; exact h3
    · rw [zn_vup, zn_vup, if_neg e, if_neg e]; exact h4
    · rw [zn_vup, zn_vup, if_neg e, if_neg e]; exact h5
theorem AOK_ins (ha : AOK L ln lt A) {w l k q n : Nat} (hw : w ≤ aW A) (hl : l < aL A) (hs : aSz A l < 5) (hk : 1 ≤ k ∧ k ≤ 5) (hq : q ∈ L) (hn : 1 ≤ n ∧ n ≤ 8) (hln : ln q = nI n) (hrt : 1 ≤ RT (lt q) n) : AOK L ln lt (insA A l w k q) := by
  obtain ⟨k1, k2, k3, k4, k5, k6, k7⟩ := ha
  refine ⟨k1, k2, fun h => k3 (by rw [insA_L] at h; exact h), by rw [insA_L]; exact k4, fun v hv => ?_, ?_, fun v hv => ?_⟩
  · rw [insA_L] at hv
    rw [insA_sz hl]
    have := k5 v hv
    have := k5 l hl
    split <;> omega
  · rw [insA_W hw]
    have := sum_set A.2.2.1 l (aSz A l + 1) hl
    show aW A + 1 = (A.2.2.1.set l (aSz A l + 1)).sum
    have e : A.2.2.1.getD l 0 = aSz A l := rfl
    omega
  · rw [insA_W hw] at hv
    rw [insA_kd hw, insA_q hw]
    by_cases g : v < w
    · simp only [if_pos g]; exact k7 v (by omega)
    · by_cases g2 : v = w
      · simp only [if_neg g, if_pos g2]
        exact ⟨hk, hq, n, hn.1, hn.2, hln, hrt⟩
      · simp only [if_neg g, if_neg g2]
        exact k7 (v - 1) (by omega)
end
