-- uses: 571.odds 550.near
/-! stressed -/
def hitO (lw : Option (Nat × Nat)) (v : Nat) : Bool := match lw with | none => false | some (l, _) => decide (l ≤ v)
theorem popN_32 {c E : Nat} (hc : c < 2 ^ E) (hE : E ≤ 8) : cnt (B (nI c)) 32 = popN c E := by
  have h1 : cnt (B (nI c)) 32 = cnt (fun k => c.testBit k) 32 := cnt_congr 32 (fun i hi => by rw [B_nI]; simp [hi])
  have h2 := cnt_end (fun k => c.testBit k) E (32 - E) (by
    intro j h1 h2
    exact Nat.testBit_lt_two_pow (Nat.lt_of_lt_of_le hc (Nat.pow_le_pow_right (by omega) h1)))
  rw [show E + (32 - E) = 32 by omega] at h2
  rw [h1, h2]; rfl
section
variable {L : List Nat} {ln sy sn : Nat → Int32} {lt st : Nat → Nat → Int32} {A : AP} {row : Nat → Int32} {kinds sizes : Nat → Int32} {spelled : Nat → Nat}
abbrev aE_ (ln : Nat → Int32) (lt : Nat → Nat → Int32) (A : AP) (l : Nat) : Nat := cnt (gEi (aG ln lt A l)) (aPs ln lt A l (aSz A l))
/-- whether a line costs no more, if those by bits are strong -/
def aHit (ln : Nat → Int32) (lt : Nat → Nat → Int32) (A : AP) (l v c : Nat) : Bool := hitO (aSC ln lt A l A.1 A.2.1 (SB (nI c) (aG ln lt A l))) v
abbrev aH (ln : Nat → Int32) (lt : Nat → Nat → Int32) (A : AP) (l v : Nat) (n k : Nat) : Nat := cnt (fun c => aHit ln lt A l v c && decide (popN c (aE_ ln lt A l) = k)) n
theorem st_bits (ha : AOK L ln lt A) {l c : Nat} (hl : l < aL A) (hc : c < 256) : (∀ j, j < 32 → B (nI (msk (gSt (aG ln lt A l)) (aPs ln lt A l (aSz A l))) ||| nI (msk (pdB (gEi (aG ln lt A l)) c) (aPs ln lt A l (aSz A l)))) j = (decide (j < aPs ln lt A l (aSz A l)) && decide (SB (nI c) (aG ln lt A l) j = 1))) ∧ ∀ j, j < aPs ln lt A l (aSz A l) → B ((nI (msk (gSt (aG ln lt A l)) (aPs ln lt A l (aSz A l))) ||| nI (msk (pdB (gEi (aG ln lt A l)) c) (aPs ln lt A l (aSz A l)))) ^^^ ((-1) : Int32)) j = decide (SB (nI c) (aG ln lt A l) j = 0) := by
  have h20 := aPs_20 (ln := ln) ha hl (Nat.le_refl _)
  have hpos : ¬ nI c < 0 := nI_pos (by omega)
  have key : ∀ j, j < aPs ln lt A l (aSz A l) → (B (nI (msk (gSt (aG ln lt A l)) (aPs ln lt A l (aSz A l))) ||| nI (msk (pdB (gEi (aG ln lt A l)) c) (aPs ln lt A l (aSz A l)))) j = decide (SB (nI c) (aG ln lt A l) j = 1)) ∧ (!B (nI (msk (gSt (aG ln lt A l)) (aPs ln lt A l (aSz A l))) ||| nI (msk (pdB (gEi (aG ln lt A l)) c) (aPs ln lt A l (aSz A l)))) j) = decide (SB (nI c) (aG ln lt A l) j = 0) := by
    intro j hj
    have hle := LG_le (ln := ln) (lt := lt) (A := A) l (aSz A l) j
    have hcn := cnt_le (gEi (aG ln lt A l)) j
    have h32 : cnt (gEi (aG ln lt A l)) j < 32 := by omega
    have hb : B (nI c) (cnt (gEi (aG ln lt A l)) j) = c.testBit (cnt (gEi (aG ln lt A l)) j) := by rw [B_nI]; simp [h32]
    rw [B_or, B_msk _ (by omega), B_msk _ (by omega)]
    unfold SB
    rw [hb]
    have hc3 : aG ln lt A l j = 0 ∨ aG ln lt A l j = 1 ∨ aG ln lt A l j = 2 := by
      show LG ln lt A l (aSz A l) j = 0 ∨ LG ln lt A l (aSz A l) j = 1 ∨ LG ln lt A l (aSz A l) j = 2
      omega
    have e1 : gSt (aG ln lt A l) j = decide (aG ln lt A l j = 1) := rfl
    have e2 : pdB (gEi (aG ln lt A l)) c j = (decide (aG ln lt A l j = 2) && c.testBit (cnt (gEi (aG ln lt A l)) j)) := rfl
    rw [e1, e2]
    generalize c.testBit (cnt (gEi (aG ln lt A l)) j) = t
    rcases hc3 with e | e | e
    · rw [e]; simp [hj]
    · rw [e]; simp [hj]
    · rw [e]; cases t <;> simp [hj, hpos]
  refine ⟨fun j hj => ?_, fun j hj => ?_⟩
  · by_cases h : j < aPs ln lt A l (aSz A l)
    · rw [(key j h).1]; simp [h]
    · rw [B_or, B_msk _ (by omega), B_msk _ (by omega)]; simp [h]
  · have h32 : j < 32 := by omega
    rw [B_not, ← (key j hj).2]; simp [h32]
theorem c_hits_loop (ha : AOK L ln lt A) {l : Nat} (hl : l < aL A) {la : Nat → Int32} {f1 f2 f3 f4 : Nat → Int32} (ho : OPTS (aPs ln lt A l) (aSz A l) A.1 A.2.1 (oN (JN ln lt A l) (sG ln lt A l) (aSz A l) (aPs ln lt A l) A.1 A.2.1 (2 ^ aSz A l)) f1 f2 f3 f4) {v : Nat} (hv : v < 100) (hE : aE_ ln lt A l ≤ 8) (q1 q2 ej es ew : Int32) : ∀ (d c : Nat) (h : Nat → Int32) (x le wy : Int32), c + d = 2 ^ aE_ ln lt A l → (c < 2 ^ aE_ ln lt A l → x = nI (msk (pdB (gEi (aG ln lt A l)) c) (aPs ln lt A l (aSz A l)))) → (∀ k, k < 9 → h k = nI (aH ln lt A l v c k)) → ∀ n, d < n → ∃ h' le' wy', mX6_countHits_b50 q1 q2 ew (nI (aPs ln lt A l (aSz A l))) (nI (msk (gSt (aG ln lt A l)) (aPs ln lt A l (aSz A l)))) (nI (msk (gEi (aG ln lt A l)) (aPs ln lt A l (aSz A l)))) ej es la (nI v) (nI (aE_ ln lt A l)) n (nI (oN (JN ln lt A l) (sG ln lt A l) (aSz A l) (aPs ln lt A l) A.1 A.2.1 (2 ^ aSz A l)).length) le wy f1 f2 f3 f4 h x (nI c) = some (nI (oN (JN ln lt A l) (sG ln lt A l) (aSz A l) (aPs ln lt A l) A.1 A.2.1 (2 ^ aSz A l)).length, le', wy', f1, f2, f3, f4, h') ∧ ∀ k, k < 9 → h' k = nI (aH ln lt A l v (2 ^ aE_ ln lt A l) k)
  | _, _, _, _, _, _, _, _, _, 0, hn => absurd hn (by omega)
  | 0, c, h, x, le, wy, hc, hx, hh, n + 1, _ => by
    have h256 : 2 ^ aE_ ln lt A l ≤ 2 ^ 8 := Nat.pow_le_pow_right (by omega) hE
    have e : c = 2 ^ aE_ ln lt A l := by omega
    refine ⟨h, le, wy, ?_, ?_⟩
    · have hs : (1 : Int32) <<< (nI (aE_ ln lt A l) &&& 31) = nI (2 ^ aE_ ln lt A l) := by
        have key : ∀ k, k < 9 → (1 : Int32) <<< (nI k &&& 31) = nI (2 ^ k) := by decide +kernel
        exact key _ (by omega)
      rw [mX6_countHits_b50, hs, if_pos (nI_le (by omega) (by omega))]
    · intro k hk; rw [hh k hk, e]
  | d + 1, c, h, x, le, wy, hc, hx, hh, n + 1, hn => by
    have h256 : 2 ^ aE_ ln lt A l ≤ 2 ^ 8 := Nat.pow_le_pow_right (by omega) hE
    obtain ⟨m1, m5, g3, g4, g5, g6⟩ := aok_l ha hl
    have hI := STEPS_INC (a_STEPS ha hl)
    have h20 := aPs_20 (ln := ln) ha hl (Nat.le_refl _)
    have hJ : JN ln lt A l (aSz A l - 1) = false := JN_last l (by omega)
    have hcl : c < 2 ^ aE_ ln lt A l := by omega
    have hs : (1 : Int32) <<< (nI (aE_ ln lt A l) &&& 31) = nI (2 ^ aE_ ln lt A l) := by
      have key : ∀ k, k < 9 → (1 : Int32) <<< (nI k &&& 31) = nI (2 ^ k) := by decide +kernel
      exact key _ (by omega)
    obtain ⟨b1, b2⟩ := st_bits ha hl (c := c) (by omega)
    have hf4 : A.1 < 4 := by have := ha.1; omega
    have hj := c_judge hI m1 m5 h20 hf4 ha.2.1 hJ ho (g := SB (nI c) (aG ln lt A l)) b1 b2 le wy
    have hlb := aSC_LB ha hl hf4 ha.2.1 (SB (nI c) (aG ln lt A l))
    have hpop := popN_32 hcl hE
    have hpl := popN_le c (aE_ ln lt A l)
    have nxt : c + 1 < 2 ^ aE_ ln lt A l → (x - nI (msk (gEi (aG ln lt A l)) (aPs ln lt A l (aSz A l)))) &&& nI (msk (gEi (aG ln lt A l)) (aPs ln lt A l (aSz A l))) = nI (msk (pdB (gEi (aG ln lt A l)) (c + 1)) (aPs ln lt A l (aSz A l))) := by
      intro q
      rw [hx hcl]
      exact next_set _ (by omega) q
    have eH : ∀ k, aH ln lt A l v (c + 1) k = aH ln lt A l v c k + (aHit ln lt A l v c && decide (popN c (aE_ ln lt A l) = k)).toNat := fun k => rfl
    have fin : ∀ le' wy' (h2 : Nat → Int32), (∀ k, k < 9 → h2 k = nI (aH ln lt A l v (c + 1) k)) → ∃ h' le'' wy'', mX6_countHits_b119 q1 q2 ew (nI (aPs ln lt A l (aSz A l))) (nI (msk (gSt (aG ln lt A l)) (aPs ln lt A l (aSz A l)))) (nI (msk (gEi (aG ln lt A l)) (aPs ln lt A l (aSz A l)))) ej es la (nI v) (nI (aE_ ln lt A l)) (mX6_countHits_b50 q1 q2 ew (nI (aPs ln lt A l (aSz A l))) (nI (msk (gSt (aG ln lt A l)) (aPs ln lt A l (aSz A l)))) (nI (msk (gEi (aG ln lt A l)) (aPs ln lt A l (aSz A l)))) ej es la (nI v) (nI (aE_ ln lt A l)) n) (nI (oN (JN ln lt A l) (sG ln lt A l) (aSz A l) (aPs ln lt A l) A.1 A.2.1 (2 ^ aSz A l)).length) le' wy' f1 f2 f3 f4 h2 x (nI c) = some (nI (oN (JN ln lt A l) (sG ln lt A l) (aSz A l) (aPs ln lt A l) A.1 A.2.1 (2 ^ aSz A l)).length, le'', wy'', f1, f2, f3, f4, h') ∧ ∀ k, k < 9 → h' k = nI (aH ln lt A l v (2 ^ aE_ ln lt A l) k) := by
      intro le' wy' h2 hh2
      rw [mX6_countHits_b119, nI_1]
      exact c_hits_loop ha hl ho hv hE q1 q2 ej es ew d (c + 1) h2 _ le' wy' (by omega) nxt hh2 n (by omega)
    rw [mX6_countHits_b50, hs, if_neg (nI_ge hcl (by omega)), hx hcl, hj, os2, ← hx hcl]
    cases hsc : SCN (JN ln lt A l) (sG ln lt A l) (aSz A l) (aPs ln lt A l) A.1 A.2.1 (SB (nI c) (aG ln lt A l)) with
    | none =>
      have hb : aHit ln lt A l v c = false := by unfold aHit aSC; rw [hsc]; rfl
      rw [if_pos (show eL none = -1000000 from rfl)]
      apply fin
      intro k hk
      rw [eH, hb, hh k hk]; rfl
    | some p =>
      obtain ⟨l0, w0⟩ := p
      have hl0 := hlb l0 w0 hsc
      rw [if_neg (show ¬ eL (some (l0, w0)) = -1000000 from nI_none hl0)]
      by_cases hle : l0 ≤ v
      · have hb : aHit ln lt A l v c = true := by unfold aHit aSC; rw [hsc]; simp [hitO, hle]
        have ci : ¬ (nI (popN c (aE_ ln lt A l)) < 0 ∨ 9 ≤ popN c (aE_ ln lt A l)) := by simp (disch := omega) only [↓reduceIte, Nat.reduceAdd, Nat.reduceMul, Nat.reduceSub, Nat.zero_add, zn_0, zn_1, zn_2, zn_3, zn_4, zn_5, zn_6, zn_7, zn_8, zn_9, zn_10, zn_16, zn_20, zn_23, zn_24, zn_25, zn_26, zn_40, zn_207, zn_4761, zn_99, zn_130, zn_lt_t, zn_lt_f, zn_le_t, zn_le_f, zn_eq_t, zn_eq_f, zn_ix, zn_cl, zq_le_f, zq_le_t, zq_lt_f, zq_lt_t, zn_add, zn_mul, zn_sub, or_false, false_or, or_self, true_or, or_true, and_true, true_and, and_false, false_and, not_true_eq_false, not_false_eq_true, if_true, if_false, os1, os2, os3, os4, os5, os6, os7, os8, os9, os10, os11, os12, os13, os14, os15, os16, os17, os18, os19, os20, os21, os22, os23, os24]
        rw [if_neg (show ¬ nI v < eL (some (l0, w0)) from nI_nlt hle (by omega)), c_pop, hpop, os1, zn_cl (by omega), if_neg ci, if_neg ci]
        apply fin
        intro k hk
        rw [zn_up, eH, hb]
        by_cases e : k = popN c (aE_ ln lt A l)
        · rw [if_pos e, hh _ (by omega), nI_1, ← e]
          simp
        · have e' : ¬ popN c (aE_ ln lt A l) = k := fun q => e q.symm
          rw [if_neg e, hh k hk]
          simp [e']
      · have hb : aHit ln lt A l v c = false := by unfold aHit aSC; rw [hsc]; simp [hitO, hle]
        rw [if_pos (show nI v < eL (some (l0, w0)) from nI_lt (by omega) (by omega))]
        apply fin
        intro k hk
        rw [eH, hb, hh k hk]; rfl
theorem c_hits_0 (q1 q2 ew es st_ ei ej esg : Int32) (la : Nat → Int32) (v E : Int32) (K le wy : Int32) (f1 f2 f3 f4 : Nat → Int32) : ∀ (d k : Nat) (h : Nat → Int32), k + d = 9 → (∀ j, j < k → h j = nI 0) → ∀ n, d < n → ∃ h', mX6_countHits_b2 q1 q2 ew es st_ ei ej esg la v E n K le wy f1 f2 f3 f4 h (nI k) = ob5 (mX1_fit ew es ej esg la K f1 f2 f3 f4 q1 q2) (fun u0 u1 u2 u3 u4 => mX6_countHits_b50 q1 q2 ew es st_ ei ej esg la v E FU u0 le wy u1 u2 u3 u4 h' (0 : Int32) (0 : Int32)) ∧ ∀ j, j < 9 → h' j = nI 0
  | _, _, _, _, _, 0, hn => absurd hn (by omega)
  | 0, k, h, hk, hh, n + 1, _ => by
    have e : k = 9 := by omega
    subst e
    exact ⟨h, by rw [mX6_countHits_b2, if_pos (by decide)], hh⟩
  | d + 1, k, h, hk, hh, n + 1, hn => by
    have c1 : ¬ (9 : Int32) ≤ nI k := nI_ge (b := 9) (by omega) (by omega)
    have c2 : ¬ (nI k < 0 ∨ 9 ≤ k) := by simp (disch := omega) only [↓reduceIte, Nat.reduceAdd, Nat.reduceMul, Nat.reduceSub, Nat.zero_add, zn_0, zn_1, zn_2, zn_3, zn_4, zn_5, zn_6, zn_7, zn_8, zn_9, zn_10, zn_16, zn_20, zn_23, zn_24, zn_25, zn_26, zn_40, zn_207, zn_4761, zn_99, zn_130, zn_lt_t, zn_lt_f, zn_le_t, zn_le_f, zn_eq_t, zn_eq_f, zn_ix, zn_cl, zq_le_f, zq_le_t, zq_lt_f, zq_lt_t, zn_add, zn_mul, zn_sub, or_false, false_or, or_self, true_or, or_true, and_true, true_and, and_false, false_and, not_true_eq_false, not_false_eq_true, if_true, if_false, os1, os2, os3, os4, os5, os6, os7, os8, os9, os10, os11, os12, os13, os14, os15, os16, os17, os18, os19, os20, os21, os22, os23, os24]
    rw [mX6_countHits_b2, if_neg c1, zn_cl (by omega), if_neg c2, nI_1]
    apply c_hits_0 q1 q2 ew es st_ ei ej esg la v E K le wy f1 f2 f3 f4 d (k + 1) _ (by omega) ?_ n (by omega)
    intro j hj
    rw [zn_up]
    by_cases e : j = k
    · rw [if_pos e]; rfl
    · rw [if_neg e]; exact hh j (by omega)
theorem c_hits (ha : AOK L ln lt A) {l : Nat} (hl : l < aL A) {la : Nat → Int32} (hla : ∀ k, k < aSz A l → la k = nI (aPs ln lt A l (k + 1) - 1)) {v : Nat} (hv : v < 100) (hE : aE_ ln lt A l ≤ 8) (K le wy : Int32) (f1 f2 f3 f4 h : Nat → Int32) : ∃ K' le' wy' g1 g2 g3 g4 h', mX6_countHits (nI A.1) (nI A.2.1) (nI (aSz A l)) (nI (aPs ln lt A l (aSz A l))) (nI (msk (gSt (aG ln lt A l)) (aPs ln lt A l (aSz A l)))) (nI (msk (gEi (aG ln lt A l)) (aPs ln lt A l (aSz A l)))) (nI (msk (JN ln lt A l) (aSz A l))) (nI (msk (sG ln lt A l) (aSz A l))) la K le wy f1 f2 f3 f4 h (nI v) (nI (aE_ ln lt A l)) = some (K', le', wy', g1, g2, g3, g4, h') ∧ ∀ k, k < 9 → h' k = nI (aH ln lt A l v (2 ^ aE_ ln lt A l) k) := by
  obtain ⟨m1, m5, g3, g4, g5, g6⟩ := aok_l ha hl
  have hI := STEPS_INC (a_STEPS ha hl)
  have h20 := aPs_20 (ln := ln) ha hl (Nat.le_refl _)
  have hJ : JN ln lt A l (aSz A l - 1) = false := JN_last l (by omega)
  have hf4 : A.1 < 4 := by have := ha.1; omega
  have h256 : 2 ^ aE_ ln lt A l ≤ 2 ^ 8 := Nat.pow_le_pow_right (by omega) hE
  obtain ⟨g1, g2, g3, g4, q1, q2⟩ := c_fit (G := sG ln lt A l) hI m1 m5 h20 hla hf4 (ha.2.2.1 (by omega)) ha.2.1 hJ K f1 f2 f3 f4
  obtain ⟨h0, x1, x2⟩ := c_hits_0 (nI A.1) (nI A.2.1) (nI (aSz A l)) (nI (aPs ln lt A l (aSz A l))) (nI (msk (gSt (aG ln lt A l)) (aPs ln lt A l (aSz A l)))) (nI (msk (gEi (aG ln lt A l)) (aPs ln lt A l (aSz A l)))) (nI (msk (JN ln lt A l) (aSz A l))) (nI (msk (sG ln lt A l) (aSz A l))) la (nI v) (nI (aE_ ln lt A l)) K le wy f1 f2 f3 f4 9 0 h (by omega) (fun j hj => absurd hj (by omega)) FU (zn_fu (by omega))
  have hz0 : ∀ g : Nat → Bool, ∀ s, msk (pdB g 0) s = 0 := by
    intro g s
    induction s with
    | zero => rfl
    | succ s ih =>
      show msk (pdB g 0) s + (if pdB g 0 s then 2 ^ s else 0) = 0
      rw [ih]
      have : pdB g 0 s = false := by unfold pdB; simp
      rw [this]; rfl
  obtain ⟨h', le', wy', y1, y2⟩ := c_hits_loop (la := la) ha hl q2 hv hE (nI A.1) (nI A.2.1) (nI (msk (JN ln lt A l) (aSz A l))) (nI (msk (sG ln lt A l) (aSz A l))) (nI (aSz A l)) (2 ^ aE_ ln lt A l) 0 h0 0 le wy (by omega) (fun _ => by rw [hz0]; rfl) (fun k hk => by rw [x2 k hk]; rfl) FU (zn_fu (by omega))
  refine ⟨nI (oN (JN ln lt A l) (sG ln lt A l) (aSz A l) (aPs ln lt A l) A.1 A.2.1 (2 ^ aSz A l)).length, le', wy', g1, g2, g3, g4, h', ?_, y2⟩
  have x1' : mX6_countHits (nI A.1) (nI A.2.1) (nI (aSz A l)) (nI (aPs ln lt A l (aSz A l))) (nI (msk (gSt (aG ln lt A l)) (aPs ln lt A l (aSz A l)))) (nI (msk (gEi (aG ln lt A l)) (aPs ln lt A l (aSz A l)))) (nI (msk (JN ln lt A l) (aSz A l))) (nI (msk (sG ln lt A l) (aSz A l))) la K le wy f1 f2 f3 f4 h (nI v) (nI (aE_ ln lt A l)) = _ := x1
  rw [x1', q1, os5]
  exact y1
/-- what is above -/
def aAb (ln : Nat → Int32) (lt : Nat → Nat → Int32) (A : AP) (l v p : Nat) : Nat := sumN (fun c => if aHit ln lt A l v c then od p c (aE_ ln lt A l) else 0) (2 ^ aE_ ln lt A l)
theorem aAb_le (l v : Nat) {p : Nat} (hp : p ≤ 10) : aAb ln lt A l v p ≤ 10 ^ aE_ ln lt A l := by
  rw [← od_all hp]
  apply sumN_mono
  intro c _
  split
  · exact Nat.le_refl _
  · exact Nat.zero_le _
theorem aAb_h (l v p : Nat) : sumN (fun k => aH ln lt A l v (2 ^ aE_ ln lt A l) k * (p ^ k * (10 - p) ^ (aE_ ln lt A l - k))) (aE_ ln lt A l + 1) = aAb ln lt A l v p := by
  rw [hits_sum (aHit ln lt A l v) (fun k => p ^ k * (10 - p) ^ (aE_ ln lt A l - k)) (aE_ ln lt A l)]
  unfold aAb
  apply sumN_congr
  intro c _
  split
  · rw [od_pop]
  · rfl
end
