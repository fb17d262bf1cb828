-- uses: 579.line
/-! the words of a line -/
def LineF (Po : Int32 → Int32 → Int32 → Int32 → (Nat → Int32) → Int32 → Int32 → (Nat → Int32) → (Nat → Int32) → (Nat → Nat) → List Nat → (Nat → Nat) → (Nat → Nat) → (Nat → Int32) → (Nat → Int32) → (Nat → Int32) → (Nat → Nat → Int32) → (Nat → Nat → Int32) → Prop) (X : Option LR) (L0 : List Nat) (ln0 : Nat → Int32) (lt0 : Nat → Nat → Int32) : Prop := ∀ (at' : Int32) (f p' : Nat) (lf' : Nat → Int32) (li ws : Int32) (sz kd : Nat → Int32) (sp : Nat → Nat) (L : List Nat) (la sa : Nat → Nat) (ln sy sn : Nat → Int32) (lt st : Nat → Nat → Int32), 1 ≤ f → f ≤ 4 → (∃ c s tk v r, X = some (c, s, tk, v, nI f, nI p', r)) → EXT L0 ln0 lt0 L ln lt → POOL L ln sy sn lt st → (∀ j, j < 20 → sp j ∈ L) → Po 0 at' (nI f) (nI p') lf' li ws sz kd sp L la sa ln sy sn lt st
def LineS (Po : Int32 → Int32 → Int32 → Int32 → (Nat → Int32) → Int32 → Int32 → (Nat → Int32) → (Nat → Int32) → (Nat → Nat) → List Nat → (Nat → Nat) → (Nat → Nat) → (Nat → Int32) → (Nat → Int32) → (Nat → Int32) → (Nat → Nat → Int32) → (Nat → Nat → Int32) → Prop) (X : Option LR) (n : Nat) (t : Nat → Nat) (f0 e0 p fa : Int32) (a : Nat) (L0 : List Nat) (ln0 : Nat → Int32) (lt0 : Nat → Nat → Int32) : Prop := ∀ (A : AP) (c : Nat) (cur tok val : Int32) (row lf' sz kd : Nat → Int32) (sp : Nat → Nat) (L : List Nat) (la sa : Nat → Nat) (ln sy sn : Nat → Int32) (lt st : Nat → Nat → Int32), X = some (cur, nI c, tok, val, 0, fa, row) → c ≤ n → TOK n t c cur tok val → AOK L ln lt A → 1 ≤ A.2.1 → aL A = a → PC L A f0 e0 (nI a) (nI (aW A)) sz kd sp → PR ln lt A row → EXT L0 ln0 lt0 L ln lt → POOL L ln sy sn lt st → Po 1 (nI c) 0 p lf' (nI a) (nI (aW A)) sz kd sp L la sa ln sy sn lt st
theorem line_end {n : Nat} {t : Nat → Nat} {tape : Nat → Int32} (hn : n ≤ 130) (hta : ∀ j, tape j = nI (t j)) (ht : ∀ j, t j < 256) (Po : Int32 → Int32 → Int32 → Int32 → (Nat → Int32) → Int32 → Int32 → (Nat → Int32) → (Nat → Int32) → (Nat → Nat) → List Nat → (Nat → Nat) → (Nat → Nat) → (Nat → Int32) → (Nat → Int32) → (Nat → Int32) → (Nat → Nat → Int32) → (Nat → Nat → Int32) → Prop) {X : Option LR} {f0 e0 p fa : Int32} {a : Nat} {L0 : List Nat} {ln0 : Nat → Int32} {lt0 : Nat → Nat → Int32} (HF : LineF Po X L0 ln0 lt0) (HS : LineS Po X n t f0 e0 p fa a L0 ln0 lt0) {c : Nat} (hc : c ≤ n) {cur tok val p1 : Int32} (hk : TOK n t c cur tok val) {A : AP} {row : Nat → Int32} (lf : Nat → Int32) {sz kd : Nat → Int32} {sp : Nat → Nat} {L : List Nat} {la sa : Nat → Nat} {ln sy sn : Nat → Int32} {lt st : Nat → Nat → Int32} (hX : X = mX7_readLine_b110 (nI n) tape p1 cur (nI c) tok val 0 fa row) (h1 : 1 ≤ a) (ha : AOK L ln lt A) (he : 1 ≤ A.2.1) (hL : aL A = a) (hpc : PC L A f0 e0 (nI a) (nI (aW A)) sz kd sp) (hpw : PW ln lt A row) (h0 : row 0 = nI (a - 1)) (hx : EXT L0 ln0 lt0 L ln lt) (hP : POOL L ln sy sn lt st) {cn : Nat} (hcn : ¬ 5 < cn) : qX3_readLine_b127 Po (nI n) tape (nI c) 0 p lf (nI a) (nI (aW A)) sz kd sp L la sa ln sy sn lt st cn := by
  refine ⟨hcn, ?_⟩
  rcases sign_both hn hta ht hc hk p fa (Or.inr rfl : (59 : Nat) = 44 ∨ (59 : Nat) = 59) with ⟨cur', tok', val', hb, -, -, x1, x2, x3⟩ | ⟨-, -, x1, x2⟩
  · refine ⟨1, nI (c + 1), 0, p, x1, fun q => q (Or.inr rfl), hcn, ?_⟩
    have x2' : mX7_mustSign (nI n) tape cur (nI c) tok val 0 fa (59 : Int32) = some (cur', nI (c + 1), tok', val', 0, fa) := x2
    unfold mX7_readLine_b110 at hX
    rw [x2', os6] at hX
    have e0' : row (0 : Int32).toNatClampNeg = nI (a - 1) := h0
    rw [e0', nI_1, show a - 1 + 1 = a by omega] at hX
    obtain ⟨k1, k2, k3, k4⟩ := hpw
    refine HS A (c + 1) cur' tok' val' _ lf sz kd sp L la sa ln sy sn lt st hX (by omega) x3 ha he hL hpc ⟨?_, ?_, ?_, ?_, ?_⟩ hx hP
    · rw [hL]; rfl
    · exact k1
    · exact k2
    · intro l hl
      show (if 3 + l = 0 then _ else _) = _
      rw [if_neg (by omega)]; exact k3 l hl
    · intro w hw
      obtain ⟨j1, j2, j3⟩ := k4 w hw
      refine ⟨?_, ?_, fun i hi q => ?_⟩
      · show (if 7 + 10 * w = 0 then _ else _) = _
        rw [if_neg (by omega)]; exact j1
      · show (if 8 + 10 * w = 0 then _ else _) = _
        rw [if_neg (by omega)]; exact j2
      · show (if 9 + 10 * w + i = 0 then _ else _) = _
        rw [if_neg (by omega)]; exact j3 i hi q
  · refine ⟨0, nI c, 1, nI c, x1, fun q => q (Or.inl rfl), hcn, ?_⟩
    have x2' : mX7_mustSign (nI n) tape cur (nI c) tok val 0 fa (59 : Int32) = some (cur, nI c, tok, val, 1, nI c) := x2
    unfold mX7_readLine_b110 at hX
    rw [x2', os6] at hX
    exact HF _ 1 c lf _ _ sz kd sp L la sa ln sy sn lt st (by omega) (by omega) ⟨_, _, _, _, _, hX⟩ hx hP hpc.2.2.2.2.2.2
theorem line_loop {n : Nat} {t : Nat → Nat} {tape : Nat → Int32} (hn : n ≤ 130) (hta : ∀ j, tape j = nI (t j)) (ht : ∀ j, t j < 256) (Po : Int32 → Int32 → Int32 → Int32 → (Nat → Int32) → Int32 → Int32 → (Nat → Int32) → (Nat → Int32) → (Nat → Nat) → List Nat → (Nat → Nat) → (Nat → Nat) → (Nat → Int32) → (Nat → Int32) → (Nat → Int32) → (Nat → Nat → Int32) → (Nat → Nat → Int32) → Prop) {X : Option LR} {f0 e0 p fa p1 : Int32} {a : Nat} {L0 : List Nat} {ln0 : Nat → Int32} {lt0 : Nat → Nat → Int32} (HF : LineF Po X L0 ln0 lt0) (HS : LineS Po X n t f0 e0 p fa a L0 ln0 lt0) (h1 : 1 ≤ a) (h4 : a ≤ 4) : ∀ (d : Nat) (A : AP) (s v e N N2 : Nat) (cur stt tok val cur1 tok1 val1 : Int32) (row lf sz kd : Nat → Int32) (sp : Nat → Nat) (L : List Nat) (la sa : Nat → Nat) (ln sy sn : Nat → Int32) (lt st : Nat → Nat → Int32), d + s = 5 → 1 ≤ d → aSz A (a - 1) = s → aL A = a → WOK L ln lt A → PC L A f0 e0 (nI a) (nI (aW A)) sz kd sp → PW ln lt A row → row 0 = nI (a - 1) → POOL L ln sy sn lt st → EXT L0 ln0 lt0 L ln lt → e ≤ n → 1 ≤ v ∧ v ≤ 5 → mX7_number (nI n) tape cur stt tok val 0 fa 1 5 = some (nI v, cur1, nI e, tok1, val1, 0, fa) → TOK n t e cur1 tok1 val1 → d < N → d < N2 → X = ob7 (mX7_readWord (nI n) tape cur stt tok val 0 fa row (nI (a - 1))) (fun u0 u1 u2 u3 u4 u5 u6 => mX7_readLine_b60 (nI n) tape p1 N2 u0 u1 u2 u3 u4 u5 u6 (nI (a - 1))) → qX3_readLine_b54 Po (nI n) tape N (nI e) 0 p lf (nI a) (nI (aW A)) sz kd sp L la sa ln sy sn lt st s (nI v) (nI (s + 1)) := by
  intro d
  induction d with
  | zero => intro A s v e N N2 cur stt tok val cur1 tok1 val1 row lf sz kd sp L la sa ln sy sn lt st _ h; exact absurd h (by omega)
  | succ d ih =>
    intro A s v e N N2 cur stt tok val cur1 tok1 val1 row lf sz kd sp L la sa ln sy sn lt st hd _ hs hL ha hpc hpw h0 hP hx he hv hnum hk hN hN2 hX
    obtain ⟨N, rfl⟩ : ∃ k, N = k + 1 := ⟨N - 1, by omega⟩
    obtain ⟨N2, rfl⟩ : ∃ k, N2 = k + 1 := ⟨N2 - 1, by omega⟩
    have hW := wok_room ha (by omega : a - 1 < 4) (by omega)
    obtain ⟨m, hm⟩ := le8_ex n t e
    obtain ⟨w0, w4, w1⟩ := r_word hn hta ht he hm hW (by omega : a - 1 < 4) (w_wordsOf hpw ha) hnum hk
    have hsp := hpc.2.2.2.2.2.2
    refine ⟨fun q => absurd q (nI_nlt (a := 5) (by omega) (by omega)), fun _ => ⟨by omega, ?_⟩⟩
    subst hL
    refine c_letters hn hta ht _ he hm p lf hpc hP h1 h4 hW ?_ ?_
    · intro at' lf' f p' hcase
      refine ⟨fun _ => ⟨by omega, ?_⟩, fun q => absurd rfl q⟩
      rcases hcase with ⟨m0, rfl, rfl⟩ | ⟨m1, hno, rfl, rfl⟩ | ⟨m1, hyes, hlt, rfl, rfl⟩
      · obtain ⟨row', x1⟩ := w0 m0
        rw [x1, os7] at hX
        obtain ⟨row2, x2⟩ := r60_bad (nI n) tape p1 cur1 (nI p') tok1 val1 (nI p') (nI (aL A - 1)) row' (f := 1) (by decide) N2
        exact HF _ 1 p' _ _ _ sz kd sp L la sa ln sy sn lt st (by omega) (by omega) ⟨_, _, _, _, _, hX.trans x2⟩ hx hP hsp
      · obtain ⟨cur', st', tok', val', row', x1⟩ := w4 m1 hno
        rw [x1, os7] at hX
        obtain ⟨row2, x2⟩ := r60_bad (nI n) tape p1 cur' st' tok' val' (nI p') (nI (aL A - 1)) row' (f := 4) (by decide) N2
        exact HF _ 4 p' _ _ _ sz kd sp L la sa ln sy sn lt st (by omega) (by omega) ⟨_, _, _, _, _, hX.trans x2⟩ hx hP hsp
      · obtain ⟨cur', tok', val', row', x1, x2, x3⟩ := w1 m1 hyes
        have hcn : e + m ≤ n := by have := hlt.1; omega
        have t2 : tok' = 2 := by
          rcases tok_let x2 with ⟨-, z, -⟩ | ⟨z, -⟩
          · exact z
          · exact absurd hlt z
        rw [x1, os7, r60_110 _ _ _ _ _ _ _ _ _ (by omega : aL A - 1 < 4) (Or.inl (fun q => by rw [t2] at q; exact absurd q.1 (by decide))) N2] at hX
        rcases sign_both hn hta ht hcn x2 p fa (Or.inr rfl : (59 : Nat) = 44 ∨ (59 : Nat) = 59) with ⟨_, _, _, -, z, -⟩ | ⟨-, -, -, x4⟩
        · rw [t2] at z; exact absurd z (by decide)
        · have x4' : mX7_mustSign (nI n) tape cur' (nI (e + m)) tok' val' 0 fa (59 : Int32) = some (cur', nI (e + m), tok', val', 1, nI (e + m)) := x4
          unfold mX7_readLine_b110 at hX
          rw [x4', os6] at hX
          exact HF _ 1 (e + m) _ _ _ sz kd sp L la sa ln sy sn lt st (by omega) (by omega) ⟨_, _, _, _, _, hX⟩ hx hP hsp
    · intro m1 hyes hnl lf' q L' la' sa' ln' sy' sn' lt' st' kd' sp' hex hP' hqL hlnq hltq hpc'
      obtain ⟨cur', tok', val', row', x1, x2, x3⟩ := w1 m1 hyes
      have m8 := hm.1
      have hcn : e + m ≤ n := by have := (hm.2.1 (m - 1) (by omega)).1; omega
      obtain ⟨i0, hi0, hv0⟩ := anyB_ex hyes
      have hrt : 1 ≤ RT (cutF m (LF t e)) m := RT_vowel hi0 (by unfold cutF; rw [if_pos hi0]; exact hv0)
      have hal : aL A - 1 + 1 = aL A := by omega
      have ha2 := WOK_ins (WOK_ext hex ha) (l := aL A - 1) (k := v) (q := q) (n := m) hal (by omega) hv hqL ⟨m1, m8⟩ hlnq (by rw [hltq]; exact hrt)
      have hpw2 := PW_ins (PW_ext hex ha hpw) (WOK_ext hex ha) (l := aL A - 1) (k := v) (q := q) (m := m) hW hal hlnq m8 hltq x3
      have hL2 : aL (insA A (aL A - 1) (aW A) v q) = aL A := insA_L _ _ _ _
      have hW2 : aW (insA A (aL A - 1) (aW A) v q) = aW A + 1 := insA_W (Nat.le_refl _) _ _ _
      have hs2 : aSz (insA A (aL A - 1) (aW A) v q) (aL A - 1) = s + 1 := by rw [insA_sz (by omega), if_pos rfl, hs]
      have ha3 := wok_aok ha2 (fun _ => by rw [hL2, hs2]; omega)
      have h0' : row' 0 = nI (aL A - 1) := by
        rw [x3, if_neg (by omega), if_neg (by omega), if_neg (by omega), if_neg (by omega)]; exact h0
      have hr3 : row' (3 + (aL A - 1)) = nI (s + 1) := by
        rw [hpw2.2.2.1 _ (by omega), hs2]
      have hx2 := EXT_trans hx hex
      have hsp' := hpc'.2.2.2.2.2.2
      rw [x1, os7] at hX
      rw [← hW2] at hpc' ⊢
      have fin : (¬ (tok' = 4 ∧ val' = 44) ∨ row' (3 + (aL A - 1)) = nI 5) → qX3_readLine_b127 Po (nI n) tape (nI (e + m)) 0 p lf' (nI (aL A)) (nI (aW (insA A (aL A - 1) (aW A) v q))) (upd sz (aL A - 1) (nI (aSz A (aL A - 1) + 1))) kd' sp' L' la' sa' ln' sy' sn' lt' st' (s + 1) := by
        intro hq
        rw [r60_110 _ _ _ _ _ _ _ _ _ (by omega : aL A - 1 < 4) hq N2] at hX
        exact line_end hn hta ht Po HF HS hcn x2 lf' hX h1 ha3 ha2.2.1.1 hL2 hpc' hpw2 h0' hx2 hP' (by omega)
      refine ⟨fun z => absurd z (by decide), fun _ => ⟨fun h5 => ?_, fun h5 => ⟨by omega, _, c_byteAt hn hta ht (by omega), fun h44 => ⟨by omega, ?_⟩, fun h44 => ?_⟩⟩⟩
      · have : s + 1 = 5 := zn_inj (b := 5) (by omega) (by omega) h5
        exact fin (Or.inr (by rw [hr3, this]))
      · have hs5 : s + 1 < 5 := by
          apply Nat.lt_of_not_le; intro z
          exact h5 (by rw [show s + 1 = 5 by omega]; rfl)
        have hbt := ht (e + m)
        have hb : e + m < n ∧ t (e + m) = 44 := by
          by_cases z : e + m < n
          · rw [if_pos z] at h44
            exact ⟨z, zn_inj (b := 44) (by omega) (by omega) h44⟩
          · rw [if_neg z] at h44; exact absurd h44 (by decide)
        rcases sign_both hn hta ht hcn x2 p fa (Or.inl rfl : (44 : Nat) = 44 ∨ (44 : Nat) = 59) with ⟨cur2, tok2, val2, -, y1, y2, -, y3, y4⟩ | ⟨z, -⟩
        · have y3' : mX7_mustSign (nI n) tape cur' (nI (e + m)) tok' val' 0 fa (44 : Int32) = some (cur2, nI (e + m + 1), tok2, val2, 0, fa) := y3
          rw [r60_word _ _ _ _ _ _ _ _ _ (by omega : aL A - 1 < 4) y1 y2 hr3 hs5 y3' N2] at hX
          rw [nI_1]
          rcases num_both hn hta ht (by omega : e + m + 1 ≤ n) y4 p fa (by omega : 1 < 10) (by omega : 5 < 10) with ⟨v2, e2, cur3, tok3, val3, hv2, he2, -, -, z1, z2, z3⟩ | ⟨f, hf, z1, z2, -⟩
          · refine ⟨_, _, _, _, z1, fun _ => ?_, fun z => absurd rfl z⟩
            rw [nI_1]
            exact ih _ (s + 1) v2 e2 N N2 cur2 (nI (e + m + 1)) tok2 val2 cur3 tok3 val3 row' lf' _ kd' sp' L' la' sa' ln' sy' sn' lt' st' (by omega) (by omega) hs2 hL2 ha2 hpc' hpw2 h0' hP' hx2 he2.2 hv2 z2 z3 (by omega) (by omega) hX
          · have hf0 : ¬ nI f = 0 := by rcases hf with rfl | rfl <;> decide
            obtain ⟨row3, z4⟩ := r_word_f hf0 (W := aW A + 1) (l := aL A - 1) (by have := wok_room ha2 (by omega : aL A - 1 < 4) (by omega); omega) (by omega) (by rw [← hW2]; exact w_wordsOf hpw2 ha2) z2
            rw [z4, os7] at hX
            obtain ⟨N3, rfl⟩ : ∃ k, N2 = k + 1 := ⟨N2 - 1, by omega⟩
            obtain ⟨row4, z5⟩ := r60_bad (nI n) tape p1 cur2 (nI (e + m + 1)) tok2 val2 (nI (e + m + 1)) (nI (aL A - 1)) row3 hf0 N3
            refine ⟨_, _, _, _, z1, fun z => absurd z hf0, fun _ => ⟨by omega, ?_⟩⟩
            exact HF _ f (e + m + 1) _ _ _ _ kd' sp' L' la' sa' ln' sy' sn' lt' st' (by omega) (by omega) ⟨_, _, _, _, _, hX.trans z5⟩ hx2 hP' hsp'
        · exact absurd hb z
      · refine fin (Or.inl (fun z => h44 ?_))
        rcases tok_sign ht x2 (Or.inl rfl : (44 : Nat) = 44 ∨ (44 : Nat) = 59) with ⟨w, -⟩ | ⟨-, w⟩
        · rw [if_pos w.1, w.2]; rfl
        · exact absurd z w
