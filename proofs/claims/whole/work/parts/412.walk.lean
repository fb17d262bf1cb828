def mX6_count_b0 (L : List Nat) (ln : Nat → Int32) (sy : Nat → Int32) (x_taped : Int32) (v_lines : Int32) (v_words : Int32) (v_spelled : Nat → Nat) (ac_kept : Int32) (x_lane : Nat → Int32) (p1 : Int32)   : Option (Int32) := (if p1 = 0 then ob1 (mX6_rowsThere x_lane) (fun r_2 => some r_2) else (if p1 = 1 then some v_words else (if p1 = 2 then some v_lines else (if p1 = 3 then ob1 (mX2_allLetters L ln v_words v_spelled) (fun r_6 => some r_6) else (if p1 = 4 then ob1 (mX2_allSyllables L sy v_words v_spelled) (fun r_8 => some r_8) else (if p1 = 5 then some ac_kept else (if p1 = 6 then some x_taped else some (-1000001 : Int32))))))))
def mX6_count (L : List Nat) (ln : Nat → Int32) (sy : Nat → Int32) (x_taped : Int32) (v_lines : Int32) (v_words : Int32) (v_spelled : Nat → Nat) (ac_kept : Int32) (x_lane : Nat → Int32) (p1 : Int32) : Option (Int32) := mX6_count_b0 L ln sy x_taped v_lines v_words v_spelled ac_kept x_lane p1  
abbrev WX6_count (K : Nat → ClassId) (x_a xA_rows xA_tape rd_a v_a d_a xA_images ac_a er_a xA_hits xA_bodies vA_sizes vA_kinds vA_spelled vA_scheme acA_sorts acA_firsts acA_seconds acA_takenKinds acA_takenSpellings : Nat) (x_ra x_rb : Nat → Nat) (x_taped : Int32) (x_begun : Int32) (x_latestFault : Int32) (x_latestFinding : Int32) (v_foot : Int32) (v_feet : Int32) (v_lines : Int32) (v_words : Int32) (v_sizes : Nat → Int32) (v_kinds : Nat → Int32) (v_spelled : Nat → Nat) (v_scheme : Nat → Int32) (ac_next : Int32) (ac_kept : Int32) (ac_sorts : Nat → Int32) (ac_firsts : Nat → Int32) (ac_seconds : Nat → Int32) (ac_takenKinds : Nat → Int32) (ac_takenSpellings : Nat → Nat) (x_lane : Nat → Int32) (x_rsz : Nat → Int32) (x_item : Nat → Nat → Int32) : va_W := ([(x_a, .inr (6, [.ref xA_rows, .ref xA_tape, .int x_taped, .ref rd_a, .ref v_a, .ref d_a, .ref xA_images, .ref ac_a, .ref er_a, .ref xA_hits, .ref xA_bodies, .int x_begun, .int x_latestFault, .int x_latestFinding])), aR K xA_rows 8 x_ra, (v_a, .inr (2, [.int v_foot, .int v_feet, .int v_lines, .int v_words, .ref vA_sizes, .ref vA_kinds, .ref vA_spelled, .ref vA_scheme])), aI K vA_sizes 4 v_sizes, aI K vA_kinds 20 v_kinds, aS K vA_spelled 20 v_spelled, aI K vA_scheme 4 v_scheme, (ac_a, .inr (0, [.ref acA_sorts, .ref acA_firsts, .ref acA_seconds, .ref acA_takenKinds, .ref acA_takenSpellings, .int ac_next, .int ac_kept])), aI K acA_sorts 24 ac_sorts, aI K acA_firsts 24 ac_firsts, aI K acA_seconds 24 ac_seconds, aI K acA_takenKinds 24 ac_takenKinds, aS K acA_takenSpellings 24 ac_takenSpellings] ++ wrs K x_ra x_rb x_lane x_rsz x_item)
def rmX6_count : Room := { frames := 2, cells := 0, slots := 0, locals := 42 }
theorem hdX6_count : yX6_count.cls = RX6 ∧ yX6_count.cls ≠ "java/lang/invoke/MethodHandle" ∧ yX6_count.cls ≠ "java/lang/invoke/VarHandle" ∧ (parseMethodDescriptor yX6_count.desc).map (fun d => d.parameters.length) = some 1 := by decide +kernel
set_option maxHeartbeats 4000000 in
set_option maxRecDepth 100000 in
theorem wX6_count_b0 {p : Program} {l : Launch} {e : Env} {s : State} {m : MethodId} {args : Array Value} {below : List Frame} {meth : Method} {c : Code} {Q : State → Prop} {G : va_G} {K : Nat → ClassId} {A : Nat → Prop} {tt : Nat → Nat} {L : List Nat} {la : Nat → Nat} {sa : Nat → Nat} {ln : Nat → Int32} {sy : Nat → Int32} {sn : Nat → Int32} {lt : Nat → Nat → Int32} {st : Nat → Nat → Int32} (C0 : CX p s m args c cX6_count 2 RX6 G K (EC G K tt L la sa ln sy sn lt st) A) (x_a xA_rows xA_tape rd_a v_a d_a xA_images ac_a er_a xA_hits xA_bodies vA_sizes vA_kinds vA_spelled vA_scheme acA_sorts acA_firsts acA_seconds acA_takenKinds acA_takenSpellings : Nat) (x_ra x_rb : Nat → Nat) (x_taped : Int32) (x_begun : Int32) (x_latestFault : Int32) (x_latestFinding : Int32) (v_foot : Int32) (v_feet : Int32) (v_lines : Int32) (v_words : Int32) (v_sizes : Nat → Int32) (v_kinds : Nat → Int32) (v_spelled : Nat → Nat) (v_scheme : Nat → Int32) (ac_next : Int32) (ac_kept : Int32) (ac_sorts : Nat → Int32) (ac_firsts : Nat → Int32) (ac_seconds : Nat → Int32) (ac_takenKinds : Nat → Int32) (ac_takenSpellings : Nat → Nat) (x_lane : Nat → Int32) (x_rsz : Nat → Int32) (x_item : Nat → Nat → Int32) (p1 : Int32) (r : Int32)  (kr : ∀ (H : Heap) (locs : List Loc) (ls : Array Slot) (pc : Nat), decode cX6_count pc = .ok (.ireturn, 1) → va_P G vwCl (WX6_count K x_a xA_rows xA_tape rd_a v_a d_a xA_images ac_a er_a xA_hits xA_bodies vA_sizes vA_kinds vA_spelled vA_scheme acA_sorts acA_firsts acA_seconds acA_takenKinds acA_takenSpellings x_ra x_rb x_taped x_begun x_latestFault x_latestFinding v_foot v_feet v_lines v_words v_sizes v_kinds v_spelled v_scheme ac_next ac_kept ac_sorts ac_firsts ac_seconds ac_takenKinds ac_takenSpellings x_lane x_rsz x_item) H → va_D A (WX6_count K x_a xA_rows xA_tape rd_a v_a d_a xA_images ac_a er_a xA_hits xA_bodies vA_sizes vA_kinds vA_spelled vA_scheme acA_sorts acA_firsts acA_seconds acA_takenKinds acA_takenSpellings x_ra x_rb x_taped x_begun x_latestFault x_latestFinding v_foot v_feet v_lines v_words v_sizes v_kinds v_spelled v_scheme ac_next ac_kept ac_sorts ac_firsts ac_seconds ac_takenKinds ac_takenSpellings x_lane x_rsz x_item) → va_S A s.heap H locs → W p l e rmX6_count s m args below meth c H locs 0 0 Q (F0 m pc ls [.int r]))  (hM : mX6_count_b0 L ln sy x_taped v_lines v_words v_spelled ac_kept x_lane p1   = some r) : ∀ (H : Heap) (locs : List Loc) (ls : Array Slot), va_P G vwCl (WX6_count K x_a xA_rows xA_tape rd_a v_a d_a xA_images ac_a er_a xA_hits xA_bodies vA_sizes vA_kinds vA_spelled vA_scheme acA_sorts acA_firsts acA_seconds acA_takenKinds acA_takenSpellings x_ra x_rb x_taped x_begun x_latestFault x_latestFinding v_foot v_feet v_lines v_words v_sizes v_kinds v_spelled v_scheme ac_next ac_kept ac_sorts ac_firsts ac_seconds ac_takenKinds ac_takenSpellings x_lane x_rsz x_item) H → va_D A (WX6_count K x_a xA_rows xA_tape rd_a v_a d_a xA_images ac_a er_a xA_hits xA_bodies vA_sizes vA_kinds vA_spelled vA_scheme acA_sorts acA_firsts acA_seconds acA_takenKinds acA_takenSpellings x_ra x_rb x_taped x_begun x_latestFault x_latestFinding v_foot v_feet v_lines v_words v_sizes v_kinds v_spelled v_scheme ac_next ac_kept ac_sorts ac_firsts ac_seconds ac_takenKinds ac_takenSpellings x_lane x_rsz x_item) → va_S A s.heap H locs → lv_has ls 2 [(0, .ref x_a), (1, .int p1)] → W p l e rmX6_count s m args below meth c H locs 0 0 Q (F0 m 0 ls []) := by
  obtain ⟨hx, hb, hml, hown, hts, hK, hA, hEo, hE⟩ := id C0
  intro H locs ls hP hD hS hl
  unfold mX6_count_b0 at hM
  refine lv_iload_n hx hb dX6_count_0 rfl (lv_at hl 1 rfl) ?_
  by_cases c_1 : p1 = 0
  · rw [if_pos c_1] at hM
    refine lv_tableIn (off := 43) (tgt := 44) hx hb dX6_count_1 (by rw [c_1]; decide) (by rw [c_1]; decide) (by rw [c_1]; decide) (by decide) ?_
    refine lv_aload_n hx hb dX6_count_44 rfl (lv_at hl 0 rfl) ?_
    obtain ⟨r_2, hC, hM⟩ := oe1 hM
    refine cV_i (As := []) (rest := []) C0 hP hD hS [0, 1, 13, 14, 15, 16, 17, 18, 19, 20, 21, 22, 23, 24, 25, 26, 27, 28] (kX6_rowsThere l G K tt L la sa ln sy sn lt st x_a xA_rows xA_tape rd_a v_a d_a xA_images ac_a er_a xA_hits xA_bodies x_ra x_rb x_taped x_begun x_latestFault x_latestFinding x_lane x_rsz x_item H.size r_2 hC) rfl rfl rfl tb746 tb748 tp12 tb1 tb749 hdX6_rowsThere (va_recv hK hP (ci := 6) (q0 := 0) rfl rfl) ⟨Nat.le_of_ble_eq_true rfl, Nat.le_of_ble_eq_true rfl⟩ rfl hl.1 (Nat.le_of_ble_eq_true rfl) rfl ⟨Nat.le_refl _, Nat.le_refl _⟩ dX6_count_45 (fun H locs hP hD hS => ?_)
    have hP : va_P G vwCl (WX6_count K x_a xA_rows xA_tape rd_a v_a d_a xA_images ac_a er_a xA_hits xA_bodies vA_sizes vA_kinds vA_spelled vA_scheme acA_sorts acA_firsts acA_seconds acA_takenKinds acA_takenSpellings x_ra x_rb x_taped x_begun x_latestFault x_latestFinding v_foot v_feet v_lines v_words v_sizes v_kinds v_spelled v_scheme ac_next ac_kept ac_sorts ac_firsts ac_seconds ac_takenKinds ac_takenSpellings x_lane x_rsz x_item) H := Eq.mp (congrArg (fun w => va_P G vwCl w H) (vz_id [0, 1, 13, 14, 15, 16, 17, 18, 19, 20, 21, 22, 23, 24, 25, 26, 27, 28] (WX6_rowsThere K x_a xA_rows xA_tape rd_a v_a d_a xA_images ac_a er_a xA_hits xA_bodies x_ra x_rb x_taped x_begun x_latestFault x_latestFinding x_lane x_rsz x_item) (WX6_count K x_a xA_rows xA_tape rd_a v_a d_a xA_images ac_a er_a xA_hits xA_bodies vA_sizes vA_kinds vA_spelled vA_scheme acA_sorts acA_firsts acA_seconds acA_takenKinds acA_takenSpellings x_ra x_rb x_taped x_begun x_latestFault x_latestFinding v_foot v_feet v_lines v_words v_sizes v_kinds v_spelled v_scheme ac_next ac_kept ac_sorts ac_firsts ac_seconds ac_takenKinds ac_takenSpellings x_lane x_rsz x_item) rfl)) hP
    have hD : va_D A (WX6_count K x_a xA_rows xA_tape rd_a v_a d_a xA_images ac_a er_a xA_hits xA_bodies vA_sizes vA_kinds vA_spelled vA_scheme acA_sorts acA_firsts acA_seconds acA_takenKinds acA_takenSpellings x_ra x_rb x_taped x_begun x_latestFault x_latestFinding v_foot v_feet v_lines v_words v_sizes v_kinds v_spelled v_scheme ac_next ac_kept ac_sorts ac_firsts ac_seconds ac_takenKinds ac_takenSpellings x_lane x_rsz x_item) := Eq.mp (congrArg (fun w => va_D A w) (vz_id [0, 1, 13, 14, 15, 16, 17, 18, 19, 20, 21, 22, 23, 24, 25, 26, 27, 28] (WX6_rowsThere K x_a xA_rows xA_tape rd_a v_a d_a xA_images ac_a er_a xA_hits xA_bodies x_ra x_rb x_taped x_begun x_latestFault x_latestFinding x_lane x_rsz x_item) (WX6_count K x_a xA_rows xA_tape rd_a v_a d_a xA_images ac_a er_a xA_hits xA_bodies vA_sizes vA_kinds vA_spelled vA_scheme acA_sorts acA_firsts acA_seconds acA_takenKinds acA_takenSpellings x_ra x_rb x_taped x_begun x_latestFault x_latestFinding v_foot v_feet v_lines v_words v_sizes v_kinds v_spelled v_scheme ac_next ac_kept ac_sorts ac_firsts ac_seconds ac_takenKinds ac_takenSpellings x_lane x_rsz x_item) rfl)) hD
    have q1 := Option.some.inj hM
    subst q1
    exact kr _ _ _ _ dX6_count_48 hP hD hS
  · rw [if_neg c_1] at hM
    by_cases c_3 : p1 = 1
    · rw [if_pos c_3] at hM
      refine lv_tableIn (off := 48) (tgt := 49) hx hb dX6_count_1 (by rw [c_3]; decide) (by rw [c_3]; decide) (by rw [c_3]; decide) (by decide) ?_
      refine lv_aload_n hx hb dX6_count_49 rfl (lv_at hl 0 rfl) ?_
      refine va_get (D := G) (ci := 6) (v := .ref v_a) (C := RX6) (T := TX6) (N := 14) hx hb hts inX6 hown hK hP 0 rfl rfl 4 (by decide) (hts _ tb247) (fun _ h9 => h9) rfl dX6_count_50 ?_
      refine va_get (D := G) (ci := 2) (v := .int v_words) (C := RX2) (T := TX2) (N := 8) hx hb hts inX2 hown hK hP 2 rfl rfl 3 (by decide) (hts _ tb184) (fun _ h9 => h9) rfl dX6_count_53 ?_
      have q1 := Option.some.inj hM
      subst q1
      exact kr _ _ _ _ dX6_count_56 hP hD hS
    · rw [if_neg c_3] at hM
      by_cases c_4 : p1 = 2
      · rw [if_pos c_4] at hM
        refine lv_tableIn (off := 56) (tgt := 57) hx hb dX6_count_1 (by rw [c_4]; decide) (by rw [c_4]; decide) (by rw [c_4]; decide) (by decide) ?_
        refine lv_aload_n hx hb dX6_count_57 rfl (lv_at hl 0 rfl) ?_
        refine va_get (D := G) (ci := 6) (v := .ref v_a) (C := RX6) (T := TX6) (N := 14) hx hb hts inX6 hown hK hP 0 rfl rfl 4 (by decide) (hts _ tb247) (fun _ h9 => h9) rfl dX6_count_58 ?_
        refine va_get (D := G) (ci := 2) (v := .int v_lines) (C := RX2) (T := TX2) (N := 8) hx hb hts inX2 hown hK hP 2 rfl rfl 2 (by decide) (hts _ tb181) (fun _ h9 => h9) rfl dX6_count_61 ?_
        have q1 := Option.some.inj hM
        subst q1
        exact kr _ _ _ _ dX6_count_64 hP hD hS
      · rw [if_neg c_4] at hM
        by_cases c_5 : p1 = 3
        · rw [if_pos c_5] at hM
          refine lv_tableIn (off := 64) (tgt := 65) hx hb dX6_count_1 (by rw [c_5]; decide) (by rw [c_5]; decide) (by rw [c_5]; decide) (by decide) ?_
          refine lv_aload_n hx hb dX6_count_65 rfl (lv_at hl 0 rfl) ?_
          refine va_get (D := G) (ci := 6) (v := .ref v_a) (C := RX6) (T := TX6) (N := 14) hx hb hts inX6 hown hK hP 0 rfl rfl 4 (by decide) (hts _ tb247) (fun _ h9 => h9) rfl dX6_count_66 ?_
          obtain ⟨r_6, hC, hM⟩ := oe1 hM
          refine cV_i (As := []) (rest := []) C0 hP hD hS [2, 3, 4, 5, 6] (kX2_allLetters l G K tt L la sa ln sy sn lt st v_a vA_sizes vA_kinds vA_spelled vA_scheme v_foot v_feet v_lines v_words v_sizes v_kinds v_spelled v_scheme H.size r_6 hC) rfl rfl rfl tb750 tb751 tb752 tb7 tb753 hdX2_allLetters (va_recv hK hP (ci := 2) (q0 := 2) rfl rfl) ⟨Nat.le_of_ble_eq_true rfl, Nat.le_of_ble_eq_true rfl⟩ rfl hl.1 (Nat.le_of_ble_eq_true rfl) rfl ⟨Nat.le_refl _, Nat.le_refl _⟩ dX6_count_69 (fun H locs hP hD hS => ?_)
          have hP : va_P G vwCl (WX6_count K x_a xA_rows xA_tape rd_a v_a d_a xA_images ac_a er_a xA_hits xA_bodies vA_sizes vA_kinds vA_spelled vA_scheme acA_sorts acA_firsts acA_seconds acA_takenKinds acA_takenSpellings x_ra x_rb x_taped x_begun x_latestFault x_latestFinding v_foot v_feet v_lines v_words v_sizes v_kinds v_spelled v_scheme ac_next ac_kept ac_sorts ac_firsts ac_seconds ac_takenKinds ac_takenSpellings x_lane x_rsz x_item) H := hP
          have hD : va_D A (WX6_count K x_a xA_rows xA_tape rd_a v_a d_a xA_images ac_a er_a xA_hits xA_bodies vA_sizes vA_kinds vA_spelled vA_scheme acA_sorts acA_firsts acA_seconds acA_takenKinds acA_takenSpellings x_ra x_rb x_taped x_begun x_latestFault x_latestFinding v_foot v_feet v_lines v_words v_sizes v_kinds v_spelled v_scheme ac_next ac_kept ac_sorts ac_firsts ac_seconds ac_takenKinds ac_takenSpellings x_lane x_rsz x_item) := hD
          have q1 := Option.some.inj hM
          subst q1
          exact kr _ _ _ _ dX6_count_72 hP hD hS
        · rw [if_neg c_5] at hM
          by_cases c_7 : p1 = 4
          · rw [if_pos c_7] at hM
            refine lv_tableIn (off := 72) (tgt := 73) hx hb dX6_count_1 (by rw [c_7]; decide) (by rw [c_7]; decide) (by rw [c_7]; decide) (by decide) ?_
            refine lv_aload_n hx hb dX6_count_73 rfl (lv_at hl 0 rfl) ?_
            refine va_get (D := G) (ci := 6) (v := .ref v_a) (C := RX6) (T := TX6) (N := 14) hx hb hts inX6 hown hK hP 0 rfl rfl 4 (by decide) (hts _ tb247) (fun _ h9 => h9) rfl dX6_count_74 ?_
            obtain ⟨r_8, hC, hM⟩ := oe1 hM
            refine cV_i (As := []) (rest := []) C0 hP hD hS [2, 3, 4, 5, 6] (kX2_allSyllables l G K tt L la sa ln sy sn lt st v_a vA_sizes vA_kinds vA_spelled vA_scheme v_foot v_feet v_lines v_words v_sizes v_kinds v_spelled v_scheme H.size r_8 hC) rfl rfl rfl tb754 tb755 tb756 tb7 tb757 hdX2_allSyllables (va_recv hK hP (ci := 2) (q0 := 2) rfl rfl) ⟨Nat.le_of_ble_eq_true rfl, Nat.le_of_ble_eq_true rfl⟩ rfl hl.1 (Nat.le_of_ble_eq_true rfl) rfl ⟨Nat.le_refl _, Nat.le_refl _⟩ dX6_count_77 (fun H locs hP hD hS => ?_)
            have hP : va_P G vwCl (WX6_count K x_a xA_rows xA_tape rd_a v_a d_a xA_images ac_a er_a xA_hits xA_bodies vA_sizes vA_kinds vA_spelled vA_scheme acA_sorts acA_firsts acA_seconds acA_takenKinds acA_takenSpellings x_ra x_rb x_taped x_begun x_latestFault x_latestFinding v_foot v_feet v_lines v_words v_sizes v_kinds v_spelled v_scheme ac_next ac_kept ac_sorts ac_firsts ac_seconds ac_takenKinds ac_takenSpellings x_lane x_rsz x_item) H := hP
            have hD : va_D A (WX6_count K x_a xA_rows xA_tape rd_a v_a d_a xA_images ac_a er_a xA_hits xA_bodies vA_sizes vA_kinds vA_spelled vA_scheme acA_sorts acA_firsts acA_seconds acA_takenKinds acA_takenSpellings x_ra x_rb x_taped x_begun x_latestFault x_latestFinding v_foot v_feet v_lines v_words v_sizes v_kinds v_spelled v_scheme ac_next ac_kept ac_sorts ac_firsts ac_seconds ac_takenKinds ac_takenSpellings x_lane x_rsz x_item) := hD
            have q1 := Option.some.inj hM
            subst q1
            exact kr _ _ _ _ dX6_count_80 hP hD hS
          · rw [if_neg c_7] at hM
            by_cases c_9 : p1 = 5
            · rw [if_pos c_9] at hM
              refine lv_tableIn (off := 80) (tgt := 81) hx hb dX6_count_1 (by rw [c_9]; decide) (by rw [c_9]; decide) (by rw [c_9]; decide) (by decide) ?_
              refine lv_aload_n hx hb dX6_count_81 rfl (lv_at hl 0 rfl) ?_
              refine va_get (D := G) (ci := 6) (v := .ref ac_a) (C := RX6) (T := TX6) (N := 14) hx hb hts inX6 hown hK hP 0 rfl rfl 7 (by decide) (hts _ tb250) (fun _ h9 => h9) rfl dX6_count_82 ?_
              refine va_get (D := G) (ci := 0) (v := .int ac_kept) (C := RX0) (T := TX0) (N := 7) hx hb hts inX0 hown hK hP 7 rfl rfl 6 (by decide) (hts _ tb227) (fun _ h9 => h9) rfl dX6_count_85 ?_
              have q1 := Option.some.inj hM
              subst q1
              exact kr _ _ _ _ dX6_count_88 hP hD hS
            · rw [if_neg c_9] at hM
              by_cases c_10 : p1 = 6
              · rw [if_pos c_10] at hM
                refine lv_tableIn (off := 88) (tgt := 89) hx hb dX6_count_1 (by rw [c_10]; decide) (by rw [c_10]; decide) (by rw [c_10]; decide) (by decide) ?_
                refine lv_aload_n hx hb dX6_count_89 rfl (lv_at hl 0 rfl) ?_
                refine va_get (D := G) (ci := 6) (v := .int x_taped) (C := RX6) (T := TX6) (N := 14) hx hb hts inX6 hown hK hP 0 rfl rfl 2 (by decide) (hts _ tb245) (fun _ h9 => h9) rfl dX6_count_90 ?_
                have q1 := Option.some.inj hM
                subst q1
                exact kr _ _ _ _ dX6_count_93 hP hD hS
              · rw [if_neg c_10] at hM
                refine lv_tableOut (tgt := 94) hx hb dX6_count_1 (by have q0 : p1.toInt ≠ 0 := (fun q => c_1 (Int32.toInt_inj.mp (q.trans (by decide)))); have q1 : p1.toInt ≠ 1 := (fun q => c_3 (Int32.toInt_inj.mp (q.trans (by decide)))); have q2 : p1.toInt ≠ 2 := (fun q => c_4 (Int32.toInt_inj.mp (q.trans (by decide)))); have q3 : p1.toInt ≠ 3 := (fun q => c_5 (Int32.toInt_inj.mp (q.trans (by decide)))); have q4 : p1.toInt ≠ 4 := (fun q => c_7 (Int32.toInt_inj.mp (q.trans (by decide)))); have q5 : p1.toInt ≠ 5 := (fun q => c_9 (Int32.toInt_inj.mp (q.trans (by decide)))); have q6 : p1.toInt ≠ 6 := (fun q => c_10 (Int32.toInt_inj.mp (q.trans (by decide)))); omega) (by decide) ?_
                refine lv_ldc (v := -1000001) hx hb hown (hts _ tb293) dX6_count_94 ?_
                have q1 := Option.some.inj hM
                subst q1
                exact kr _ _ _ _ dX6_count_96 hP hD hS
set_option maxHeartbeats 4000000 in
set_option maxRecDepth 100000 in
theorem kX6_count (l : Launch) (G : va_G) (K : Nat → ClassId) (tt : Nat → Nat) (L : List Nat) (la : Nat → Nat) (sa : Nat → Nat) (ln : Nat → Int32) (sy : Nat → Int32) (sn : Nat → Int32) (lt : Nat → Nat → Int32) (st : Nat → Nat → Int32) (x_a xA_rows xA_tape rd_a v_a d_a xA_images ac_a er_a xA_hits xA_bodies vA_sizes vA_kinds vA_spelled vA_scheme acA_sorts acA_firsts acA_seconds acA_takenKinds acA_takenSpellings : Nat) (x_ra x_rb : Nat → Nat) (x_taped : Int32) (x_begun : Int32) (x_latestFault : Int32) (x_latestFinding : Int32) (v_foot : Int32) (v_feet : Int32) (v_lines : Int32) (v_words : Int32) (v_sizes : Nat → Int32) (v_kinds : Nat → Int32) (v_spelled : Nat → Nat) (v_scheme : Nat → Int32) (ac_next : Int32) (ac_kept : Int32) (ac_sorts : Nat → Int32) (ac_firsts : Nat → Int32) (ac_seconds : Nat → Int32) (ac_takenKinds : Nat → Int32) (ac_takenSpellings : Nat → Nat) (x_lane : Nat → Int32) (x_rsz : Nat → Int32) (x_item : Nat → Nat → Int32) (p1 : Int32) (sz : Nat) (r : Int32)  (hM : mX6_count L ln sy x_taped v_lines v_words v_spelled ac_kept x_lane p1 = some r) : Met l yX6_count (mC yX6_count cX6_count 2 (some .int)) rmX6_count (va_Pc [.ref x_a, .int p1] (PCe G K (EC G K tt L la sa ln sy sn lt st) (WX6_count K x_a xA_rows xA_tape rd_a v_a d_a xA_images ac_a er_a xA_hits xA_bodies vA_sizes vA_kinds vA_spelled vA_scheme acA_sorts acA_firsts acA_seconds acA_takenKinds acA_takenSpellings x_ra x_rb x_taped x_begun x_latestFault x_latestFinding v_foot v_feet v_lines v_words v_sizes v_kinds v_spelled v_scheme ac_next ac_kept ac_sorts ac_firsts ac_seconds ac_takenKinds ac_takenSpellings x_lane x_rsz x_item) sz)) (va_Qi (fun (x : Int32) (_ : Unit) => x = r) (fun _ t => va_P G vwCl (WX6_count K x_a xA_rows xA_tape rd_a v_a d_a xA_images ac_a er_a xA_hits xA_bodies vA_sizes vA_kinds vA_spelled vA_scheme acA_sorts acA_firsts acA_seconds acA_takenKinds acA_takenSpellings x_ra x_rb x_taped x_begun x_latestFault x_latestFinding v_foot v_feet v_lines v_words v_sizes v_kinds v_spelled v_scheme ac_next ac_kept ac_sorts ac_firsts ac_seconds ac_takenKinds ac_takenSpellings x_lane x_rsz x_item) t.heap) (va_A (WX6_count K x_a xA_rows xA_tape rd_a v_a d_a xA_images ac_a er_a xA_hits xA_bodies vA_sizes vA_kinds vA_spelled vA_scheme acA_sorts acA_firsts acA_seconds acA_takenKinds acA_takenSpellings x_ra x_rb x_taped x_begun x_latestFault x_latestFinding v_foot v_feet v_lines v_words v_sizes v_kinds v_spelled v_scheme ac_next ac_kept ac_sorts ac_firsts ac_seconds ac_takenKinds ac_takenSpellings x_lane x_rsz x_item) sz)) rmX6_count.cells rmX6_count.slots (va_A (WX6_count K x_a xA_rows xA_tape rd_a v_a d_a xA_images ac_a er_a xA_hits xA_bodies vA_sizes vA_kinds vA_spelled vA_scheme acA_sorts acA_firsts acA_seconds acA_takenKinds acA_takenSpellings x_ra x_rb x_taped x_begun x_latestFault x_latestFinding v_foot v_feet v_lines v_words v_sizes v_kinds v_spelled v_scheme ac_next ac_kept ac_sorts ac_firsts ac_seconds ac_takenKinds ac_takenSpellings x_lane x_rsz x_item) sz) := by
  refine Met.ofW (cc := cX6_count) (maxL := 2) (ret := (some .int)) (by decide) rfl ?_
  intro p e s m args below meth c s₁ B hml hv
  obtain ⟨rfl, hsz, hP, hK, hD0, hE⟩ := hv
  have hx := B.exec
  have hb := B.bytes
  have hr := B.returns
  have hts0 := atoms_spec (ws := mC yX6_count cX6_count 2 (some .int)) B.pre
  have hts : ∀ w ∈ tbG, w.before _ s = true := fun w h => hts0 w (List.mem_cons_of_mem _ h)
  have hown : s.vm.findClass RX6 = some m.cls := findClass_of_methodNamed B.named
  subst hsz
  have hD := hD0.self (sz := s.heap.size)
  generalize hAe : va_A (WX6_count K x_a xA_rows xA_tape rd_a v_a d_a xA_images ac_a er_a xA_hits xA_bodies vA_sizes vA_kinds vA_spelled vA_scheme acA_sorts acA_firsts acA_seconds acA_takenKinds acA_takenSpellings x_ra x_rb x_taped x_begun x_latestFault x_latestFinding v_foot v_feet v_lines v_words v_sizes v_kinds v_spelled v_scheme ac_next ac_kept ac_sorts ac_firsts ac_seconds ac_takenKinds ac_takenSpellings x_lane x_rsz x_item) s.heap.size = A at hD hE ⊢
  have hA : ∀ q : Nat, s.heap.size ≤ q → A q := fun q h => by rw [← hAe]; exact Or.inr h
  have hS : va_S A s.heap s.heap [] := va_S.rf
  have hl := lv_entry ([.ref x_a, .int p1]) (n := 2) (Nat.le_of_ble_eq_true rfl)
  rw [lg_entry_eq]
  generalize (lg_sl ([.ref x_a, .int p1]) ++ List.replicate (2 - (lg_sl ([.ref x_a, .int p1])).length) Slot.unset).toArray = ls at hl ⊢
  have hl : lv_has ls 2 [(0, .ref x_a), (1, .int p1)] := hl
  exact wX6_count_b0 ⟨hx, hb, hml, hown, hts, hK, hA, EC_ok _ _ _ _ _ _ _ _ _ _ _, hE⟩ x_a xA_rows xA_tape rd_a v_a d_a xA_images ac_a er_a xA_hits xA_bodies vA_sizes vA_kinds vA_spelled vA_scheme acA_sorts acA_firsts acA_seconds acA_takenKinds acA_takenSpellings x_ra x_rb x_taped x_begun x_latestFault x_latestFinding v_foot v_feet v_lines v_words v_sizes v_kinds v_spelled v_scheme ac_next ac_kept ac_sorts ac_firsts ac_seconds ac_takenKinds ac_takenSpellings x_lane x_rsz x_item p1 r (fun H locs ls pc hdg hP hD hS => W.iret (v := r) hx hb hr (fun t ht hW => ⟨⟨r, (), rfl, rfl, (show va_P G vwCl _ t.heap by rw [ht]; exact hP)⟩, hS.F ht⟩) hS.2.2 hdg)   hM _ _ _ hP hD hS hl
