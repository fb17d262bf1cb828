-- uses: 582.read
/-! a poem read: the step -/
theorem b49_stop (Po : Int32 → Int32 → Int32 → (Nat → Int32) → Int32 → Int32 → Int32 → Int32 → (Nat → Int32) → (Nat → Int32) → (Nat → Nat) → List Nat → (Nat → Nat) → (Nat → Nat) → (Nat → Int32) → (Nat → Int32) → (Nat → Int32) → (Nat → Nat → Int32) → (Nat → Nat → Int32) → Prop) (tape : Nat → Int32) (rl ra rf rp : Int32) (lf : Nat → Int32) (f0 e0 li ws : Int32) (sz kd : Nat → Int32) (sp : Nat → Nat) (L : List Nat) (la sa : Nat → Nat) (ln sy sn : Nat → Int32) (lt st : Nat → Nat → Int32) {cn : Nat} (hcn : ¬ 5 < cn) (x4 : Int32) (H : Po ra rf rp lf f0 e0 li ws sz kd sp L la sa ln sy sn lt st) (N : Nat) : qX3_readInto_b49 Po rl tape (N + 1) ra rf rp lf f0 e0 li ws sz kd sp L la sa ln sy sn lt st cn 0 x4 :=
  ⟨fun _ => ⟨hcn, H⟩, fun _ => ⟨fun _ => ⟨hcn, H⟩, fun z => absurd rfl z⟩⟩
theorem read_both {n : Nat} {t : Nat → Nat} {tape : Nat → Int32} (hn : n ≤ 130) (hta : ∀ j, tape j = nI (t j)) (ht : ∀ j, t j < 256) (Po : Int32 → Int32 → Int32 → (Nat → Int32) → Int32 → Int32 → Int32 → Int32 → (Nat → Int32) → (Nat → Int32) → (Nat → Nat) → List Nat → (Nat → Nat) → (Nat → Nat) → (Nat → Int32) → (Nat → Int32) → (Nat → Int32) → (Nat → Nat → Int32) → (Nat → Nat → Int32) → Prop) {Y : Option PRT} {th acts fa latest cur tok val : Int32} {poem row : Nat → Int32} {sz kd : Nat → Int32} {sp : Nat → Nat} {L : List Nat} {la sa : Nat → Nat} {ln sy sn : Nat → Int32} {lt st : Nat → Nat → Int32} (ra rf rp : Int32) (lf : Nat → Int32) (d1 d2 d3 d4 : Int32) (hP : POOL L ln sy sn lt st) (hD : ∀ j, j < 20 → sp j ∈ L) (hk : TOK n t 0 cur tok val) (hz : ∀ j, j < 207 → row j = 0) (hY : Y = mX7_poem_b11 tape (0 + 1) th acts (nI n) cur (nI 0) tok val 0 fa latest poem row (nI 207)) (HF : PoemF Po Y n th acts poem L ln lt) (HS : ∀ f0 e0, PoemS Po Y n th latest f0 e0 0 L ln lt) : qX3_readInto (nI n) tape ra rf rp lf d1 d2 d3 d4 sz kd sp L la sa ln sy sn lt st Po := by
  refine ⟨by omega, ?_⟩
  rcases law_both hn hta ht hk th acts fa latest d1 d2 poem row with ⟨ft, fe, c, cur', tok', val', hft, hfe, hc, hk', x1, x2⟩ | ⟨f, p', at', ft, fe, h1, h4, x1, x2⟩
  · refine ⟨_, _, _, _, _, _, x1, fun q => absurd q (by decide), fun _ => ⟨by omega, ?_⟩⟩
    have hA0 : AOK L ln lt ((ft, fe, [], []) : AP) := ⟨hft, hfe.2, fun _ => hfe.1, Nat.zero_le 4, fun l hl => absurd hl (by show ¬ l < 0; omega), rfl, fun w hw => absurd hw (by show ¬ w < 0; omega)⟩
    have hpc0 : PC L ((ft, fe, [], []) : AP) (nI ft) (nI fe) (nI 0) (nI 0) sz kd sp := ⟨rfl, rfl, rfl, rfl, fun l hl => absurd hl (by show ¬ l < 0; omega), fun w hw => absurd hw (by show ¬ w < 0; omega), hD⟩
    have hpr0 : PR ln lt ((ft, fe, [], []) : AP) (upd (upd row 1 (nI ft)) 2 (nI fe)) := by
      refine ⟨?_, rfl, rfl, fun l hl => ?_, fun w hw => absurd hw (by show ¬ w < 0; omega)⟩
      · rw [zn_up, if_neg (by omega), zn_up, if_neg (by omega), hz 0 (by omega)]; rfl
      · rw [zn_up, if_neg (by omega), zn_up, if_neg (by omega), hz _ (by omega)]
        show (0 : Int32) = nI (([] : List Nat).getD l 0)
        rw [List.getD_nil]; rfl
    rw [x2] at hY
    refine line_both hn hta ht _ (X := mX7_readLine (nI n) tape cur' (nI c) tok' val' 0 fa (upd (upd row 1 (nI ft)) 2 (nI fe)) 0) (A := (ft, fe, [], [])) (f0 := nI ft) (e0 := nI fe) (fa := fa) ?_ ?_ hc hk' (fun q => absurd q (by show ¬ (0 : Nat) = 4; omega)) hA0 hfe.1 hpc0 hpr0 hP lf rfl
    · intro at' f p' lf' li ws sz' kd' sp' L' la' sa' ln' sy' sn' lt' st' g1 g2 ⟨a1, a2, a3, a4, a5, g3⟩ g4 g5 g6
      rw [g3, os7, show FU = 999999 + 1 from rfl, poem_bad _ _ _ _ _ _ _ _ _ _ _ _ (nI_ge (a := 0) (by omega) (by omega)) 999999] at hY
      have fin := HF at' f p' lf' (nI ft) (nI fe) li ws sz' kd' sp' L' la' sa' ln' sy' sn' lt' st' g1 g2 ⟨_, _, _, _, _, hY⟩ g4 g5 g6
      exact ⟨fun _ => b49_stop Po tape (nI n) _ _ _ _ _ _ _ _ _ _ _ _ _ _ _ _ _ _ _ (by omega) _ fin 999999, fun z => absurd rfl z⟩
    · intro h4 A' c' cur2 tok2 val2 row2 lf' sz' kd' sp' L' la' sa' ln' sy' sn' lt' st' g1 g2 g3 g4 g5 g6 g7 g8 g9 g10
      rw [g1, os7] at hY
      refine ⟨fun z => absurd z (by decide), fun _ => ?_⟩
      have g6' : aL A' = 1 := g6
      have fin := poem_loop hn hta ht Po HF (HS (nI ft) (nI fe)) 4 A' c' FU FU cur2 tok2 val2 row2 lf' sz' kd' sp' L' la' sa' ln' sy' sn' lt' st' (by omega) (by omega) (by omega) g4 g5 (by rw [g6']; exact g7) g8 g10 g9 g2 g3 (zn_fu (by omega)) (zn_fu (by omega)) hY
      rw [g6'] at fin
      exact fin
  · obtain ⟨c, s, tk, v, r, x3⟩ := x2
    have fin := fun ws li => HF at' f p' lf ft fe li ws sz kd sp L la sa ln sy sn lt st h1 h4 ⟨_, _, _, _, _, hY.trans x3⟩ EXT_refl hP hD
    exact ⟨_, _, _, _, _, _, x1, fun _ => b49_stop Po tape (nI n) _ _ _ _ _ _ _ _ _ _ _ _ _ _ _ _ _ _ _ (by omega) _ (fin _ _) 999999, fun q => absurd rfl q⟩
theorem st5 : Step5 RelW := by
  intro x_begun x_latestFault x_latestFinding rd_length rd_at rd_fault rd_place rd_letters rd_tape v_foot v_feet v_lines v_words v_sizes v_kinds v_spelled d_foot d_feet d_lines d_words d_sizes d_kinds d_spelled i0_foot i0_feet i0_lines i0_words i0_sizes i0_kinds i0_spelled i1_foot i1_feet i1_lines i1_words i1_sizes i1_kinds i1_spelled ac_next ac_kept ac_sorts ac_firsts ac_seconds ac_takenKinds ac_takenSpellings x_bodies m_thrown m_status m_acts m_taped m_cursor m_start m_token m_value m_fault m_faultAt m_latest m_traced m_lane m_many m_item m_poem m_fresh m_was m_tape m_isKept m_kept m_trace x_lane x_rsz x_item L la sa ln sy sn lt st hR
  obtain ⟨hF, hG, hT, hW, hC, hZ⟩ := hR
  obtain ⟨⟨n, hn, rfl⟩, hTt, hTp, hTb⟩ := hT
  subst hTt hTp
  have hZ0 := hZ
  obtain ⟨hP, hD, hI0, hI1, A, ha, hpc, hpr, hA⟩ := hZ
  have hpc0 := hpc
  obtain ⟨p1, p2, p3, p4, hz, hc, hsp⟩ := hpc
  subst p1 p2 p3 p4
  replace hz : CZ A v_sizes := hz
  replace hc : CW A v_kinds v_spelled := hc
  obtain ⟨-, -, w20, l4⟩ := aok_sz ha
  obtain ⟨t, hta, ht⟩ : ∃ t : Nat → Nat, (∀ j, m_tape j = nI (t j)) ∧ ∀ j, t j < 256 := ⟨fun j => Classical.choose (hTb j), fun j => (Classical.choose_spec (hTb j)).2, fun j => (Classical.choose_spec (hTb j)).1⟩
  obtain ⟨cur, tok, val, g1, hk⟩ := r_next hn hta ht (by omega : 0 ≤ n) m_start m_token m_value
  obtain ⟨row, g2, g3⟩ := poem_zero m_tape 0 m_acts (nI n) cur (nI 0) tok val 0 m_faultAt m_latest m_poem 207 0 m_fresh (by omega) (fun j hj => absurd hj (by omega)) FU (zn_fu (by omega))
  have hM : mX7_poem m_tape m_thrown m_acts (nI n) m_cursor m_start m_token m_value m_fault m_faultAt m_latest m_poem m_fresh = mX7_poem_b11 m_tape (0 + 1) 0 m_acts (nI n) cur (nI 0) tok val 0 m_faultAt m_latest m_poem row (nI 207) := by
    have g1' : mX7_nextToken (nI n) m_tape (0 : Int32) m_start m_token m_value = some (cur, nI 0, tok, val) := g1
    unfold mX7_poem mX7_poem_b0 mX7_begin mX7_begin_b0
    rw [g1', os4, os5]
    exact g2
  unfold qX6_poem qX6_poem_b0
  refine read_both hn hta ht _ rd_at rd_fault rd_place rd_letters d_foot d_feet d_lines d_words hP hD hk g3 hM ?_ ?_
  · intro at' f p' lf' f0 e0 li ws sz kd sp L' la' sa' ln' sy' sn' lt' st' h1 h4 ⟨c, s, tk, v, r, hY⟩ hx hP' hsp'
    refine ⟨fun q => absurd (zn_inj (b := 0) (by omega) (by omega) q) (by omega), fun _ => ?_⟩
    exact ⟨_, _, _, _, _, _, _, _, _, _, _, _, hY, hF, rfl, ⟨⟨0, by omega, rfl⟩, rfl, rfl, hTb⟩, hW, hC, hP', hsp', RImg_ext hx hI0, RImg_ext hx hI1, A, AOK_ext hx ha, PC_ext hx hpc0, PR_ext hx ha hpr, RActs_ext hx hA⟩
  · intro f0 e0 A' lf' sz kd sp L' la' sa' ln' sy' sn' lt' st' ⟨c, s, tk, v, fl, poem', row', hY, hpr'⟩ ha' hpc' hx hP'
    refine ⟨fun _ => ?_, fun q => absurd rfl q⟩
    have hsp' := hpc'.2.2.2.2.2.2
    obtain ⟨z', kd', sp', y1, y2, y3⟩ := c_becomeAs (sizes := sz) (kinds := kd) hsp' f0 e0 (nI (aL A')) (nI (aW A')) (nI A.1) (nI A.2.1) (nI (aL A)) (nI (aW A)) v_sizes v_kinds v_spelled
    obtain ⟨r1, p, hs, r2, r3, r4, r5, r6, r7, r8⟩ := RActs_ext hx hA
    exact ⟨_, _, _, _, z', kd', sp', y1, _, _, _, _, _, _, _, _, _, _, _, _, hY, hF, hG, ⟨⟨0, by omega, rfl⟩, rfl, rfl, hTb⟩, hW, hC, hP', hsp', RImg_ext hx hI0, RImg_ext hx hI1, A', ha', PC_congr hpc' ha' y2 y3, hpr', r1, p, [], r2, Nat.zero_le _, r4, rfl, rfl, trivial, fun j hj => absurd hj (by show ¬ j < 0; omega)⟩
