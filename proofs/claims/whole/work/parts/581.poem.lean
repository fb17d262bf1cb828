-- uses: 580.lines
/-! the lines of a poem -/
theorem line_both {n : Nat} {t : Nat → Nat} {tape : Nat → Int32} (hn : n ≤ 130) (hta : ∀ j, tape j = nI (t j)) (ht : ∀ j, t j < 256) (Po : Int32 → Int32 → Int32 → Int32 → (Nat → Int32) → Int32 → Int32 → (Nat → Int32) → (Nat → Int32) → (Nat → Nat) → List Nat → (Nat → Nat) → (Nat → Nat) → (Nat → Int32) → (Nat → Int32) → (Nat → Int32) → (Nat → Nat → Int32) → (Nat → Nat → Int32) → Prop) {X : Option LR} {f0 e0 p fa : Int32} {A : AP} {row sz kd : Nat → Int32} {sp : Nat → Nat} {L : List Nat} {la sa : Nat → Nat} {ln sy sn : Nat → Int32} {lt st : Nat → Nat → Int32} (HF : LineF Po X L ln lt) (HS : aL A < 4 → LineS Po X n t f0 e0 p fa (aL A + 1) L ln lt) {c : Nat} (hc : c ≤ n) {cur tok val : Int32} (hk : TOK n t c cur tok val) (htk : aL A = 4 → tok = 3) (ha : AOK L ln lt A) (he : 1 ≤ A.2.1) (hpc : PC L A f0 e0 (nI (aL A)) (nI (aW A)) sz kd sp) (hpr : PR ln lt A row) (hP : POOL L ln sy sn lt st) (lf : Nat → Int32) (hX : X = mX7_readLine (nI n) tape cur (nI c) tok val 0 fa row (nI (aL A))) : qX3_readLine (nI n) tape (nI c) 0 p lf (nI (aL A)) (nI (aW A)) sz kd sp L la sa ln sy sn lt st Po := by
  have l4 : aL A ≤ 4 := ha.2.2.2.1
  have hsp := hpc.2.2.2.2.2.2
  unfold mX7_readLine mX7_readLine_b0 at hX
  refine ⟨fun h => ⟨by omega, ?_⟩, fun h => ⟨by omega, ?_⟩⟩
  · have h4 : aL A = 4 := by
      apply Classical.byContradiction; intro q
      exact nI_ge (b := 4) (a := aL A) (by omega) (by omega) h
    rw [if_pos (show nI (aL A) = (4 : Int32) by rw [h4]; rfl), if_pos rfl, if_pos (htk h4)] at hX
    unfold mX7_readLine_b41 mX7_bad mX7_bad_b0 at hX
    rw [if_pos rfl, os2, if_pos rfl, os2] at hX
    rcases num_both hn hta ht hc hk p fa (by omega : 1 < 10) (by omega : 5 < 10) with ⟨v, e, cur1, tok1, val1, hv, he2, -, z0, z1, z2, z3⟩ | ⟨f, hf, z1, z2, z3⟩
    · have hin := in_i (nI v) 1 5
      rw [nI_toInt (by omega), show (1 : Int64).toInt = 1 from rfl, show (5 : Int64).toInt = 5 from rfl, if_pos (by omega)] at hin
      rw [z0, hin, os1, if_neg (by decide)] at hX
      obtain ⟨row', y⟩ := r44_bad (nI n) tape (nI (aL A)) cur (nI c) tok (nI v) (nI c) row (f := 3) (by decide)
      exact ⟨_, _, _, _, z1, fun _ => ⟨fun _ => ⟨by omega, 0, 3, nI c, rfl, fun q => q (Or.inl rfl), by omega, HF _ 3 c lf _ _ sz kd sp L la sa ln sy sn lt st (by omega) (by omega) ⟨_, _, _, _, _, hX.trans y⟩ EXT_refl hP hsp⟩, fun q => absurd rfl q⟩, fun q => absurd rfl q⟩
    · rcases z3 with ⟨-, q⟩ | ⟨rfl, -, v, hv, z0, hr⟩
      · exact absurd (htk h4) q
      · have hin := in_i (nI v) 1 5
        rw [nI_toInt (by omega), show (1 : Int64).toInt = 1 from rfl, show (5 : Int64).toInt = 5 from rfl, if_neg (by omega)] at hin
        rw [z0, hin, os1, if_pos rfl] at hX
        obtain ⟨row', y⟩ := r44_bad (nI n) tape (nI (aL A)) cur (nI c) tok (nI v) (nI c) row (f := 2) (by decide)
        exact ⟨_, _, _, _, z1, fun q => absurd q (by decide), fun _ => ⟨by omega, HF _ 2 c lf _ _ sz kd sp L la sa ln sy sn lt st (by omega) (by omega) ⟨_, _, _, _, _, hX.trans y⟩ EXT_refl hP hsp⟩⟩
  · have h4 : aL A < 4 := by
      apply Nat.lt_of_not_le; intro q
      exact h (nI_le (a := 4) q (by omega))
    have hwk := WOK_addL ha he h4
    have hs0 : aSz (addL A) (aL A) = 0 := by rw [addL_sz, aSz_out (by omega)]
    have hW0 : aW (addL A) < 20 := wok_room hwk h4 (by omega)
    have hW : aW A < 20 := hW0
    rw [if_neg (show ¬ nI (aL A) = (4 : Int32) from fun q => absurd (zn_inj (b := 4) (by omega) (by omega) q) (by omega))] at hX
    unfold mX7_readLine_b44 mX7_readLine_b54 at hX
    rw [if_neg (show ¬ (4 : Int32) ≤ nI (aL A) from nI_ge (b := 4) h4 (by omega))] at hX
    rcases num_both hn hta ht hc hk p fa (by omega : 1 < 10) (by omega : 5 < 10) with ⟨v, e, cur1, tok1, val1, hv, he2, -, z0, z1, z2, z3⟩ | ⟨f, hf, z1, z2, z3⟩
    · obtain ⟨b1, b2⟩ := c_begin hpc h4
      refine ⟨_, _, _, _, z1, fun _ => ⟨fun q => absurd q (by decide), fun _ => ⟨by omega, _, _, b1, ?_⟩⟩, fun q => absurd rfl q⟩
      exact line_loop hn hta ht Po (a := aL A + 1) (p1 := nI (aL A)) HF (HS h4) (by omega) (by omega) 5 (addL A) 0 v e FU FU cur (nI c) tok val cur1 tok1 val1 row lf _ kd sp L la sa ln sy sn lt st (by omega) (by omega) hs0 addL_L hwk b2 (PW_addL hpr) hpr.1 hP EXT_refl he2.2 hv z2 z3 (zn_fu (by omega)) (zn_fu (by omega)) hX
    · have hf0 : ¬ nI f = 0 := by rcases hf with rfl | rfl <;> decide
      obtain ⟨row3, z4⟩ := r_word_f hf0 (W := aW A) (l := aL A) hW h4 (r_wordsOf hpr ha) z2
      rw [z4, os7] at hX
      obtain ⟨row4, z5⟩ := r60_bad (nI n) tape (nI (aL A)) cur (nI c) tok val (nI c) (nI (aL A)) row3 hf0 999999
      exact ⟨_, _, _, _, z1, fun q => absurd q hf0, fun _ => ⟨by omega, HF _ f c lf _ _ sz kd sp L la sa ln sy sn lt st (by omega) (by omega) ⟨_, _, _, _, _, hX.trans z5⟩ EXT_refl hP hsp⟩⟩
theorem c_line_no {n : Nat} {t : Nat → Nat} {tape : Nat → Int32} (hn : n ≤ 130) (hta : ∀ j, tape j = nI (t j)) (ht : ∀ j, t j < 256) (Po : Int32 → Int32 → Int32 → Int32 → (Nat → Int32) → Int32 → Int32 → (Nat → Int32) → (Nat → Int32) → (Nat → Nat) → List Nat → (Nat → Nat) → (Nat → Nat) → (Nat → Int32) → (Nat → Int32) → (Nat → Int32) → (Nat → Nat → Int32) → (Nat → Nat → Int32) → Prop) {c : Nat} (hc : c ≤ n) {cur tok val : Int32} (hk : TOK n t c cur tok val) (htk : ¬ tok = 3) (p li ws : Int32) (lf sz kd : Nat → Int32) (sp : Nat → Nat) (L : List Nat) (la sa : Nat → Nat) (ln sy sn : Nat → Int32) (lt st : Nat → Nat → Int32) (H : Po 0 (nI c) (nI 1) (nI c) lf li ws sz kd sp L la sa ln sy sn lt st) : qX3_readLine (nI n) tape (nI c) 0 p lf li ws sz kd sp L la sa ln sy sn lt st Po := by
  rcases num_both hn hta ht hc hk p 0 (by omega : 1 < 10) (by omega : 5 < 10) with ⟨v, e, cur1, tok1, val1, -, -, q, -⟩ | ⟨f, hf, z1, z2, z3⟩
  · exact absurd q htk
  · rcases z3 with ⟨rfl, -⟩ | ⟨-, q, -⟩
    · exact ⟨fun _ => ⟨by omega, _, _, _, _, z1, fun q => absurd q (by decide), fun _ => ⟨by omega, H⟩⟩, fun _ => ⟨by omega, _, _, _, _, z1, fun q => absurd q (by decide), fun _ => ⟨by omega, H⟩⟩⟩
    · exact absurd q htk
abbrev PRT : Type := Int32 × Int32 × Int32 × Int32 × Int32 × Int32 × Int32 × Int32 × Int32 × Int32 × Int32 × (Nat → Int32) × (Nat → Int32)
def PoemF (Po : Int32 → Int32 → Int32 → (Nat → Int32) → Int32 → Int32 → Int32 → Int32 → (Nat → Int32) → (Nat → Int32) → (Nat → Nat) → List Nat → (Nat → Nat) → (Nat → Nat) → (Nat → Int32) → (Nat → Int32) → (Nat → Int32) → (Nat → Nat → Int32) → (Nat → Nat → Int32) → Prop) (Y : Option PRT) (n : Nat) (th acts : Int32) (poem : Nat → Int32) (L0 : List Nat) (ln0 : Nat → Int32) (lt0 : Nat → Nat → Int32) : Prop := ∀ (at' : Int32) (f p' : Nat) (lf' : Nat → Int32) (f0 e0 li ws : Int32) (sz kd : Nat → Int32) (sp : Nat → Nat) (L : List Nat) (la sa : Nat → Nat) (ln sy sn : Nat → Int32) (lt st : Nat → Nat → Int32), 1 ≤ f → f ≤ 4 → (∃ c s tk v r, Y = some (-1000100 - nI p', th, acts, 0, c, s, tk, v, nI f, nI p', nI f, poem, r)) → EXT L0 ln0 lt0 L ln lt → POOL L ln sy sn lt st → (∀ j, j < 20 → sp j ∈ L) → Po at' (nI f) (nI p') lf' f0 e0 li ws sz kd sp L la sa ln sy sn lt st
def PoemS (Po : Int32 → Int32 → Int32 → (Nat → Int32) → Int32 → Int32 → Int32 → Int32 → (Nat → Int32) → (Nat → Int32) → (Nat → Nat) → List Nat → (Nat → Nat) → (Nat → Nat) → (Nat → Int32) → (Nat → Int32) → (Nat → Int32) → (Nat → Nat → Int32) → (Nat → Nat → Int32) → Prop) (Y : Option PRT) (n : Nat) (th latest f0 e0 p : Int32) (L0 : List Nat) (ln0 : Nat → Int32) (lt0 : Nat → Nat → Int32) : Prop := ∀ (A : AP) (lf' sz kd : Nat → Int32) (sp : Nat → Nat) (L : List Nat) (la sa : Nat → Nat) (ln sy sn : Nat → Int32) (lt st : Nat → Nat → Int32), (∃ c s tk v fl poem' row, Y = some (nI (aL A), th, 0, 0, c, s, tk, v, 0, fl, latest, poem', row) ∧ PR ln lt A poem') → AOK L ln lt A → PC L A f0 e0 (nI (aL A)) (nI (aW A)) sz kd sp → EXT L0 ln0 lt0 L ln lt → POOL L ln sy sn lt st → Po (nI n) 0 p lf' f0 e0 (nI (aL A)) (nI (aW A)) sz kd sp L la sa ln sy sn lt st
theorem poem_bad (tape : Nat → Int32) (th acts taped cur st tok val fa latest : Int32) (poem row : Nat → Int32) {f : Int32} (hf : ¬ f ≤ 0) (N : Nat) : mX7_poem_b82 tape (N + 1) th acts taped cur st tok val f fa latest poem row = some (-1000100 - fa, th, acts, 0, cur, st, tok, val, f, fa, f, poem, row) := by
  have hf0 : ¬ f = 0 := fun q => hf (by rw [q]; decide)
  rw [mX7_poem_b82, if_neg hf0]
  unfold mX7_poem_b110 mX7_failed mX7_failed_b0 mX7_failed_b20 mX7_failed_b44
  rw [if_neg hf0, if_neg hf, if_neg hf, os5, if_neg (by decide)]
theorem poem_more (tape : Nat → Int32) (th acts taped cur st tok val fa latest : Int32) (poem row : Nat → Int32) (h3 : ¬ tok = 3) (h1 : ¬ tok = 1) (N : Nat) : mX7_poem_b82 tape (N + 1) th acts taped cur st tok val 0 fa latest poem row = some (-1000100 - st, th, acts, 0, cur, st, tok, val, 1, st, 1, poem, row) := by
  rw [mX7_poem_b82, if_pos rfl, if_neg h3]
  unfold mX7_poem_b110 mX7_failed mX7_failed_b0 mX7_failed_b20 mX7_failed_b44 mX7_bad mX7_bad_b0
  rw [if_pos rfl, if_neg h1, if_pos rfl, os2, if_neg (by decide), if_neg (by decide), os5, if_neg (by decide)]
theorem poem_copy (tape : Nat → Int32) (th acts taped cur st tok val f fa latest : Int32) (row : Nat → Int32) : ∀ (d k : Nat) (poem : Nat → Int32), k + d = 207 → (∀ j, j < k → poem j = row j) → ∀ N, d < N → ∃ poem', mX7_poem_b132 tape N th acts taped cur st tok val f fa latest poem row (nI k) = some (poem' 0, th, acts, taped, cur, st, tok, val, f, fa, latest, poem', row) ∧ ∀ j, j < 207 → poem' j = row j
  | _, _, _, _, _, 0, hN => absurd hN (by omega)
  | 0, k, poem, hk, h, N + 1, _ => by
    have e : k = 207 := by omega
    subst e
    refine ⟨poem, ?_, h⟩
    rw [mX7_poem_b132, if_pos (by decide)]
    rfl
  | d + 1, k, poem, hk, h, N + 1, hN => by
    have c1 : ¬ (nI k < 0 ∨ 207 ≤ k) := by simp (disch := omega) only [↓reduceIte, Nat.reduceAdd, Nat.reduceMul, Nat.reduceSub, Nat.zero_add, zn_0, zn_1, zn_2, zn_3, zn_4, zn_5, zn_6, zn_7, zn_8, zn_9, zn_10, zn_16, zn_20, zn_23, zn_24, zn_25, zn_26, zn_40, zn_207, zn_4761, zn_99, zn_130, zn_lt_t, zn_lt_f, zn_le_t, zn_le_f, zn_eq_t, zn_eq_f, zn_ix, zn_cl, zq_le_f, zq_le_t, zq_lt_f, zq_lt_t, zn_add, zn_mul, zn_sub, or_false, false_or, or_self, true_or, or_true, and_true, true_and, and_false, false_and, not_true_eq_false, not_false_eq_true, if_true, if_false, os1, os2, os3, os4, os5, os6, os7, os8, os9, os10, os11, os12, os13, os14, os15, os16, os17, os18, os19, os20, os21, os22, os23, os24]
    rw [mX7_poem_b132, if_neg (show ¬ (207 : Int32) ≤ nI k from nI_ge (b := 207) (by omega) (by omega)), zn_cl (by omega), if_neg c1, if_neg c1, nI_1]
    apply poem_copy tape th acts taped cur st tok val f fa latest row d (k + 1) _ (by omega) ?_ N (by omega)
    intro j hj
    rw [zn_up]
    by_cases g : j = k
    · rw [if_pos g, g]
    · rw [if_neg g]; exact h j (by omega)
theorem tok_end {n : Nat} {t : Nat → Nat} {cur tok val : Int32} (h : TOK n t n cur tok val) : tok = 1 := by
  rcases h with ⟨-, r⟩ | ⟨h, -⟩ | ⟨v, e, h, -⟩ | ⟨h, -⟩ | ⟨h, -⟩ | ⟨h, -⟩
  · exact r
  · have := h.1; omega
  · have := ng_facts h; omega
  · have := h.1.1; omega
  · omega
  · have := h.1; omega
theorem tok_one {n : Nat} {t : Nat → Nat} {c : Nat} {cur tok val : Int32} (h : TOK n t c cur tok val) (hc : c < n) : ¬ tok = 1 := by
  rcases h with ⟨q, r⟩ | ⟨h, r, -⟩ | ⟨v, e, h, r, -⟩ | ⟨h, r⟩ | ⟨h, g, r, -⟩ | ⟨h, r⟩
  · omega
  · rw [r]; decide
  · rw [r]; decide
  · rw [r]; decide
  · rw [r]; decide
  · rw [r]; decide
theorem poem_loop {n : Nat} {t : Nat → Nat} {tape : Nat → Int32} (hn : n ≤ 130) (hta : ∀ j, tape j = nI (t j)) (ht : ∀ j, t j < 256) (Po : Int32 → Int32 → Int32 → (Nat → Int32) → Int32 → Int32 → Int32 → Int32 → (Nat → Int32) → (Nat → Int32) → (Nat → Nat) → List Nat → (Nat → Nat) → (Nat → Nat) → (Nat → Int32) → (Nat → Int32) → (Nat → Int32) → (Nat → Nat → Int32) → (Nat → Nat → Int32) → Prop) {Y : Option PRT} {f0 e0 p fa th acts latest : Int32} {poem : Nat → Int32} {L0 : List Nat} {ln0 : Nat → Int32} {lt0 : Nat → Nat → Int32} (HF : PoemF Po Y n th acts poem L0 ln0 lt0) (HS : PoemS Po Y n th latest f0 e0 p L0 ln0 lt0) : ∀ (d : Nat) (A : AP) (c N N2 : Nat) (cur tok val : Int32) (row lf sz kd : Nat → Int32) (sp : Nat → Nat) (L : List Nat) (la sa : Nat → Nat) (ln sy sn : Nat → Int32) (lt st : Nat → Nat → Int32), d + aL A = 5 → 1 ≤ d → 1 ≤ aL A → AOK L ln lt A → 1 ≤ A.2.1 → PC L A f0 e0 (nI (aL A)) (nI (aW A)) sz kd sp → PR ln lt A row → POOL L ln sy sn lt st → EXT L0 ln0 lt0 L ln lt → c ≤ n → TOK n t c cur tok val → d < N → d < N2 → Y = mX7_poem_b82 tape N2 th acts (nI n) cur (nI c) tok val 0 fa latest poem row → qX3_readInto_b49 Po (nI n) tape N (nI c) 0 p lf f0 e0 (nI (aL A)) (nI (aW A)) sz kd sp L la sa ln sy sn lt st (aL A) 1 (nI (aL A)) := by
  intro d
  induction d with
  | zero => intro A c N N2 cur tok val row lf sz kd sp L la sa ln sy sn lt st _ h; exact absurd h (by omega)
  | succ d ih =>
    intro A c N N2 cur tok val row lf sz kd sp L la sa ln sy sn lt st hd _ h1 ha he hpc hpr hP hx hc hk hN hN2 hY
    obtain ⟨N, rfl⟩ : ∃ k, N = k + 2 := ⟨N - 2, by omega⟩
    obtain ⟨N2, rfl⟩ : ∃ k, N2 = k + 2 := ⟨N2 - 2, by omega⟩
    have hsp := hpc.2.2.2.2.2.2
    refine ⟨fun q => absurd q (nI_nlt (a := 4) (by omega) (by omega)), fun _ => ⟨fun q => absurd q (by decide), fun _ => ⟨fun q => ⟨by omega, ?_⟩, fun q => ⟨by omega, ?_⟩⟩⟩⟩
    · have hcn : c = n := by
        apply Classical.byContradiction; intro z
        exact nI_ge (by omega : c < n) (by omega) q
      subst hcn
      have ht1 := tok_end hk
      obtain ⟨poem', y1, y2⟩ := poem_copy tape th 0 0 cur (nI c) tok val 0 fa latest row 207 0 poem (by omega) (fun j hj => absurd hj (by omega)) FU (zn_fu (by omega))
      have hpr' := PR_congr hpr ha y2
      refine HS A lf sz kd sp L la sa ln sy sn lt st ⟨cur, nI c, tok, val, fa, poem', row, ?_, hpr'⟩ ha hpc hx hP
      rw [hY, mX7_poem_b82, if_pos rfl, if_neg (by rw [ht1]; decide)]
      unfold mX7_poem_b110 mX7_failed mX7_failed_b0 mX7_failed_b20 mX7_failed_b44
      rw [if_pos rfl, if_pos ht1, if_pos (by decide), if_pos (by decide), os5, if_pos rfl]
      rw [hpr'.1] at y1
      exact y1
    · have hcn : c < n := by
        apply Nat.lt_of_not_le; intro z
        exact q (nI_le z (by omega))
      by_cases h3 : tok = 3
      · have e0' : row (0 : Int32).toNatClampNeg = nI (aL A) := hpr.1
        rw [mX7_poem_b82, if_pos rfl, if_pos h3, e0'] at hY
        refine line_both hn hta ht _ (X := mX7_readLine (nI n) tape cur (nI c) tok val 0 fa row (nI (aL A))) (f0 := f0) (e0 := e0) (fa := fa) ?_ ?_ hc hk (fun _ => h3) ha he hpc hpr hP lf rfl
        · intro at' f p' lf' li ws sz' kd' sp' L' la' sa' ln' sy' sn' lt' st' g1 g2 ⟨a1, a2, a3, a4, a5, g3⟩ g4 g5 g6
          rw [g3, os7, poem_bad _ _ _ _ _ _ _ _ _ _ _ _ (nI_ge (a := 0) (by omega) (by omega)) N2] at hY
          have fin := HF at' f p' lf' f0 e0 li ws sz' kd' sp' L' la' sa' ln' sy' sn' lt' st' g1 g2 ⟨_, _, _, _, _, hY⟩ (EXT_trans hx g4) g5 g6
          exact ⟨fun _ => ⟨by omega, fin⟩, fun _ => ⟨fun _ => ⟨by omega, fin⟩, fun z => absurd rfl z⟩⟩
        · intro h4 A' c' cur' tok' val' row' lf' sz' kd' sp' L' la' sa' ln' sy' sn' lt' st' g1 g2 g3 g4 g5 g6 g7 g8 g9 g10
          rw [g1, os7] at hY
          rw [nI_1, ← g6]
          rw [← g6] at g7
          exact ih A' c' (N + 1) (N2 + 1) cur' tok' val' row' lf' sz' kd' sp' L' la' sa' ln' sy' sn' lt' st' (by omega) (by omega) (by omega) g4 g5 g7 g8 g10 (EXT_trans hx g9) g2 g3 (by omega) (by omega) hY
      · rw [poem_more _ _ _ _ _ _ _ _ _ _ _ _ h3 (tok_one hk hcn)] at hY
        refine c_line_no hn hta ht _ hc hk h3 p _ _ lf sz kd sp L la sa ln sy sn lt st ?_
        have fin := HF (nI c) 1 c lf f0 e0 (nI (aL A)) (nI (aW A)) sz kd sp L la sa ln sy sn lt st (by omega) (by omega) ⟨_, _, _, _, _, hY⟩ hx hP hsp
        exact ⟨fun _ => ⟨by omega, fin⟩, fun _ => ⟨fun _ => ⟨by omega, fin⟩, fun z => absurd rfl z⟩⟩
