abbrev WX6_take (K : Nat → ClassId) (x_a xA_rows rd_a v_a d_a xA_images ac_a er_a xA_hits xA_bodies vA_sizes vA_kinds vA_spelled vA_scheme acA_sorts acA_firsts acA_seconds acA_takenKinds acA_takenSpellings : Nat) (x_begun : Int32) (x_latestFault : Int32) (x_latestFinding : Int32) (v_foot : Int32) (v_feet : Int32) (v_lines : Int32) (v_words : Int32) (v_sizes : Nat → Int32) (v_kinds : Nat → Int32) (v_spelled : Nat → Nat) (v_scheme : Nat → Int32) (ac_next : Int32) (ac_kept : Int32) (ac_sorts : Nat → Int32) (ac_firsts : Nat → Int32) (ac_seconds : Nat → Int32) (ac_takenKinds : Nat → Int32) (ac_takenSpellings : Nat → Nat) : va_W := [(x_a, .inr (6, [.ref xA_rows, .ref rd_a, .ref v_a, .ref d_a, .ref xA_images, .ref ac_a, .ref er_a, .ref xA_hits, .ref xA_bodies, .int x_begun, .int x_latestFault, .int x_latestFinding])), (v_a, .inr (2, [.int v_foot, .int v_feet, .int v_lines, .int v_words, .ref vA_sizes, .ref vA_kinds, .ref vA_spelled, .ref vA_scheme])), aI K vA_sizes 4 v_sizes, aI K vA_kinds 20 v_kinds, aS K vA_spelled 20 v_spelled, aI K vA_scheme 4 v_scheme, (ac_a, .inr (0, [.ref acA_sorts, .ref acA_firsts, .ref acA_seconds, .ref acA_takenKinds, .ref acA_takenSpellings, .int ac_next, .int ac_kept])), aI K acA_sorts 24 ac_sorts, aI K acA_firsts 24 ac_firsts, aI K acA_seconds 24 ac_seconds, aI K acA_takenKinds 24 ac_takenKinds, aS K acA_takenSpellings 24 ac_takenSpellings]
def rmX6_take : Room := { frames := 3, cells := 0, slots := 0, locals := 70 }
theorem hdX6_take : yX6_take.cls = RX6 ∧ yX6_take.cls ≠ "java/lang/invoke/MethodHandle" ∧ yX6_take.cls ≠ "java/lang/invoke/VarHandle" ∧ (parseMethodDescriptor yX6_take.desc).map (fun d => d.parameters.length) = some 1 := by decide +kernel
set_option maxHeartbeats 4000000 in
set_option maxRecDepth 100000 in
theorem wX6_take_b0 {p : Program} {l : Launch} {e : Env} {s : State} {m : MethodId} {args : Array Value} {below : List Frame} {meth : Method} {c : Code} {Q : State → Prop} {G : va_G} {K : Nat → ClassId} {A : Nat → Prop} {tt : Nat → Nat} {L : List Nat} {la : Nat → Nat} {sa : Nat → Nat} {ln : Nat → Int32} {sy : Nat → Int32} {sn : Nat → Int32} {lt : Nat → Nat → Int32} {st : Nat → Nat → Int32} (C0 : CX p s m args c cX6_take 3 RX6 G K (EC G K tt L la sa ln sy sn lt st) A) (x_a xA_rows rd_a v_a d_a xA_images ac_a er_a xA_hits xA_bodies vA_sizes vA_kinds vA_spelled vA_scheme acA_sorts acA_firsts acA_seconds acA_takenKinds acA_takenSpellings : Nat) (x_begun : Int32) (x_latestFault : Int32) (x_latestFinding : Int32) (v_foot : Int32) (v_feet : Int32) (v_lines : Int32) (v_scheme : Nat → Int32) (p1 : Int32) (r : Int32) (o_v_words : Int32) (o_v_sizes : Nat → Int32) (o_v_kinds : Nat → Int32) (o_v_spelled : Nat → Nat) (o_ac_next : Int32) (o_ac_kept : Int32) (o_ac_sorts : Nat → Int32) (o_ac_firsts : Nat → Int32) (o_ac_seconds : Nat → Int32) (o_ac_takenKinds : Nat → Int32) (o_ac_takenSpellings : Nat → Nat) (kr : ∀ (H : Heap) (locs : List Loc) (ls : Array Slot) (pc : Nat), decode cX6_take pc = .ok (.ireturn, 1) → va_P G vwCl (WX6_take K x_a xA_rows rd_a v_a d_a xA_images ac_a er_a xA_hits xA_bodies vA_sizes vA_kinds vA_spelled vA_scheme acA_sorts acA_firsts acA_seconds acA_takenKinds acA_takenSpellings x_begun x_latestFault x_latestFinding v_foot v_feet v_lines o_v_words o_v_sizes o_v_kinds o_v_spelled v_scheme o_ac_next o_ac_kept o_ac_sorts o_ac_firsts o_ac_seconds o_ac_takenKinds o_ac_takenSpellings) H → va_D A (WX6_take K x_a xA_rows rd_a v_a d_a xA_images ac_a er_a xA_hits xA_bodies vA_sizes vA_kinds vA_spelled vA_scheme acA_sorts acA_firsts acA_seconds acA_takenKinds acA_takenSpellings x_begun x_latestFault x_latestFinding v_foot v_feet v_lines o_v_words o_v_sizes o_v_kinds o_v_spelled v_scheme o_ac_next o_ac_kept o_ac_sorts o_ac_firsts o_ac_seconds o_ac_takenKinds o_ac_takenSpellings) → va_S A s.heap H locs → W p l e rmX6_take s m args below meth c H locs 0 0 Q (F0 m pc ls [.int r])) (v_words : Int32) (v_sizes : Nat → Int32) (v_kinds : Nat → Int32) (v_spelled : Nat → Nat) (ac_next : Int32) (ac_kept : Int32) (ac_sorts : Nat → Int32) (ac_firsts : Nat → Int32) (ac_seconds : Nat → Int32) (ac_takenKinds : Nat → Int32) (ac_takenSpellings : Nat → Nat) (hM : mX6_take_b0 L v_lines p1  v_words v_sizes v_kinds v_spelled ac_next ac_kept ac_sorts ac_firsts ac_seconds ac_takenKinds ac_takenSpellings = some (r, o_v_words, o_v_sizes, o_v_kinds, o_v_spelled, o_ac_next, o_ac_kept, o_ac_sorts, o_ac_firsts, o_ac_seconds, o_ac_takenKinds, o_ac_takenSpellings)) : ∀ (H : Heap) (locs : List Loc) (ls : Array Slot), va_P G vwCl (WX6_take K x_a xA_rows rd_a v_a d_a xA_images ac_a er_a xA_hits xA_bodies vA_sizes vA_kinds vA_spelled vA_scheme acA_sorts acA_firsts acA_seconds acA_takenKinds acA_takenSpellings x_begun x_latestFault x_latestFinding v_foot v_feet v_lines v_words v_sizes v_kinds v_spelled v_scheme ac_next ac_kept ac_sorts ac_firsts ac_seconds ac_takenKinds ac_takenSpellings) H → va_D A (WX6_take K x_a xA_rows rd_a v_a d_a xA_images ac_a er_a xA_hits xA_bodies vA_sizes vA_kinds vA_spelled vA_scheme acA_sorts acA_firsts acA_seconds acA_takenKinds acA_takenSpellings x_begun x_latestFault x_latestFinding v_foot v_feet v_lines v_words v_sizes v_kinds v_spelled v_scheme ac_next ac_kept ac_sorts ac_firsts ac_seconds ac_takenKinds ac_takenSpellings) → va_S A s.heap H locs → lv_has ls 3 [(0, .ref x_a), (1, .int p1)] → W p l e rmX6_take s m args below meth c H locs 0 0 Q (F0 m 0 ls []) := by
  obtain ⟨hx, hb, hml, hown, hts, hK, hA, hEo, hE⟩ := id C0
  intro H locs ls hP hD hS hl
  unfold mX6_take_b0 at hM
  refine lv_aload_n hx hb dX6_take_0 rfl (lv_at hl 0 rfl) ?_
  refine va_get (D := G) (ci := 6) (v := .ref v_a) (C := RX6) (T := TX6) (N := 12) hx hb hts inX6 hown hK hP 0 rfl rfl 2 (by decide) (hts _ tb247) (fun _ h9 => h9) rfl dX6_take_1 ?_
  refine lv_iload_n hx hb dX6_take_4 rfl (lv_at hl 1 rfl) ?_
  obtain ⟨r_1, hC, hM⟩ := oe1 hM
  refine cV_i (As := [.int p1]) (rest := []) C0 hP hD hS [1, 2, 3, 4, 5] (kX2_hasWord l G K tt L la sa ln sy sn lt st v_a vA_sizes vA_kinds vA_spelled vA_scheme v_foot v_feet v_lines v_words v_sizes v_kinds v_spelled v_scheme p1 H.size r_1 hC) rfl rfl rfl tb432 tb415 tb416 tb7 tb417 hdX2_hasWord (va_recv hK hP (ci := 2) (q0 := 1) rfl rfl) ⟨Nat.le_of_ble_eq_true rfl, Nat.le_of_ble_eq_true rfl⟩ rfl hl.1 (Nat.le_of_ble_eq_true rfl) rfl ⟨Nat.le_refl _, Nat.le_refl _⟩ dX6_take_5 (fun H locs hP hD hS => ?_)
  have hP : va_P G vwCl (WX6_take K x_a xA_rows rd_a v_a d_a xA_images ac_a er_a xA_hits xA_bodies vA_sizes vA_kinds vA_spelled vA_scheme acA_sorts acA_firsts acA_seconds acA_takenKinds acA_takenSpellings x_begun x_latestFault x_latestFinding v_foot v_feet v_lines v_words v_sizes v_kinds v_spelled v_scheme ac_next ac_kept ac_sorts ac_firsts ac_seconds ac_takenKinds ac_takenSpellings) H := hP
  have hD : va_D A (WX6_take K x_a xA_rows rd_a v_a d_a xA_images ac_a er_a xA_hits xA_bodies vA_sizes vA_kinds vA_spelled vA_scheme acA_sorts acA_firsts acA_seconds acA_takenKinds acA_takenSpellings x_begun x_latestFault x_latestFinding v_foot v_feet v_lines v_words v_sizes v_kinds v_spelled v_scheme ac_next ac_kept ac_sorts ac_firsts ac_seconds ac_takenKinds ac_takenSpellings) := hD
  refine lv_if_ne (tgt := 14) hx hb dX6_take_8 (by decide) (fun c_2 => ?_) (fun c_2 => ?_)
  · rw [if_neg c_2] at hM
    refine lv_aload_n hx hb dX6_take_14 rfl (lv_at hl 0 rfl) ?_
    refine va_get (D := G) (ci := 6) (v := .ref v_a) (C := RX6) (T := TX6) (N := 12) hx hb hts inX6 hown hK hP 0 rfl rfl 2 (by decide) (hts _ tb247) (fun _ h9 => h9) rfl dX6_take_15 ?_
    refine lv_iload_n hx hb dX6_take_18 rfl (lv_at hl 1 rfl) ?_
    obtain ⟨r_3, hC, hM⟩ := oe1 hM
    refine cV_i (As := [.int p1]) (rest := []) C0 hP hD hS [1, 2, 3, 4, 5] (kX2_lineOf l G K tt L la sa ln sy sn lt st v_a vA_sizes vA_kinds vA_spelled vA_scheme v_foot v_feet v_lines v_words v_sizes v_kinds v_spelled v_scheme p1 H.size r_3 hC) rfl rfl rfl tb459 tb460 tb461 tb7 tb462 hdX2_lineOf (va_recv hK hP (ci := 2) (q0 := 1) rfl rfl) ⟨Nat.le_of_ble_eq_true rfl, Nat.le_of_ble_eq_true rfl⟩ rfl hl.1 (Nat.le_of_ble_eq_true rfl) rfl ⟨Nat.le_refl _, Nat.le_refl _⟩ dX6_take_19 (fun H locs hP hD hS => ?_)
    have hP : va_P G vwCl (WX6_take K x_a xA_rows rd_a v_a d_a xA_images ac_a er_a xA_hits xA_bodies vA_sizes vA_kinds vA_spelled vA_scheme acA_sorts acA_firsts acA_seconds acA_takenKinds acA_takenSpellings x_begun x_latestFault x_latestFinding v_foot v_feet v_lines v_words v_sizes v_kinds v_spelled v_scheme ac_next ac_kept ac_sorts ac_firsts ac_seconds ac_takenKinds ac_takenSpellings) H := hP
    have hD : va_D A (WX6_take K x_a xA_rows rd_a v_a d_a xA_images ac_a er_a xA_hits xA_bodies vA_sizes vA_kinds vA_spelled vA_scheme acA_sorts acA_firsts acA_seconds acA_takenKinds acA_takenSpellings x_begun x_latestFault x_latestFinding v_foot v_feet v_lines v_words v_sizes v_kinds v_spelled v_scheme ac_next ac_kept ac_sorts ac_firsts ac_seconds ac_takenKinds ac_takenSpellings) := hD
    refine lv_istore_n (lv' := [(2, .int r_3), (0, .ref x_a), (1, .int p1)]) hx hb dX6_take_22 rfl hl (by decide) rfl (fun ls hl => ?_)
    refine lv_aload_n hx hb dX6_take_23 rfl (lv_at hl 1 rfl) ?_
    refine va_get (D := G) (ci := 6) (v := .ref v_a) (C := RX6) (T := TX6) (N := 12) hx hb hts inX6 hown hK hP 0 rfl rfl 2 (by decide) (hts _ tb247) (fun _ h9 => h9) rfl dX6_take_24 ?_
    refine va_get (D := G) (ci := 2) (v := .ref vA_sizes) (C := RX2) (T := TX2) (N := 8) hx hb hts inX2 hown hK hP 1 rfl rfl 4 (by decide) (hts _ tb189) (fun _ h9 => h9) rfl dX6_take_27 ?_
    refine lv_iload_n hx hb dX6_take_30 rfl (lv_at hl 0 rfl) ?_
    obtain ⟨g_4, hM⟩ := ng hM
    refine va_iald hx hb hK hP 2 0 rfl rfl g_4 dX6_take_31 ?_
    refine lv_iconst (v := 1) hx hb dX6_take_32 (by decide) ?_
    refine lv_icmp_gt (tgt := 39) hx hb dX6_take_33 (by decide) (fun c_5 => ?_) (fun c_5 => ?_)
    · rw [if_pos c_5] at hM
      refine lv_aload_n hx hb dX6_take_39 rfl (lv_at hl 1 rfl) ?_
      refine va_get (D := G) (ci := 6) (v := .ref ac_a) (C := RX6) (T := TX6) (N := 12) hx hb hts inX6 hown hK hP 0 rfl rfl 5 (by decide) (hts _ tb250) (fun _ h9 => h9) rfl dX6_take_40 ?_
      refine lv_iload_n hx hb dX6_take_43 rfl (lv_at hl 2 rfl) ?_
      refine lv_iload_n hx hb dX6_take_44 rfl (lv_at hl 0 rfl) ?_
      refine lv_aload_n hx hb dX6_take_45 rfl (lv_at hl 1 rfl) ?_
      refine va_get (D := G) (ci := 6) (v := .ref v_a) (C := RX6) (T := TX6) (N := 12) hx hb hts inX6 hown hK hP 0 rfl rfl 2 (by decide) (hts _ tb247) (fun _ h9 => h9) rfl dX6_take_46 ?_
      refine va_get (D := G) (ci := 2) (v := .ref vA_kinds) (C := RX2) (T := TX2) (N := 8) hx hb hts inX2 hown hK hP 1 rfl rfl 5 (by decide) (hts _ tb192) (fun _ h9 => h9) rfl dX6_take_49 ?_
      refine lv_iload_n hx hb dX6_take_52 rfl (lv_at hl 2 rfl) ?_
      obtain ⟨g_6, hM⟩ := ng hM
      refine va_iald hx hb hK hP 3 0 rfl rfl g_6 dX6_take_53 ?_
      refine lv_aload_n hx hb dX6_take_54 rfl (lv_at hl 1 rfl) ?_
      refine va_get (D := G) (ci := 6) (v := .ref v_a) (C := RX6) (T := TX6) (N := 12) hx hb hts inX6 hown hK hP 0 rfl rfl 2 (by decide) (hts _ tb247) (fun _ h9 => h9) rfl dX6_take_55 ?_
      refine va_get (D := G) (ci := 2) (v := .ref vA_spelled) (C := RX2) (T := TX2) (N := 8) hx hb hts inX2 hown hK hP 1 rfl rfl 6 (by decide) (hts _ tb195) (fun _ h9 => h9) rfl dX6_take_58 ?_
      refine lv_iload_n hx hb dX6_take_61 rfl (lv_at hl 2 rfl) ?_
      obtain ⟨g_7, hM⟩ := ng hM
      refine va_aldq hx hb hK hP 4 2 rfl rfl g_7 dX6_take_62 ?_
      show W p l e rmX6_take s m args below meth c H locs 0 0 Q (F0 m 63 ls [.ref (v_spelled p1.toNatClampNeg), .int (v_kinds p1.toNatClampNeg), .int r_3, .int p1, .ref ac_a])
      obtain ⟨u0_8, u1_8, u2_8, u3_8, u4_8, u5_8, u6_8, hC, hM⟩ := oe7 hM
      refine cV_v (As := [.int p1, .int r_3, .int (v_kinds p1.toNatClampNeg), .ref (v_spelled p1.toNatClampNeg)]) (rest := []) C0 hP hD hS [6, 7, 8, 9, 10, 11] (kX0_keepTaken l G K tt L la sa ln sy sn lt st ac_a acA_sorts acA_firsts acA_seconds acA_takenKinds acA_takenSpellings (v_spelled p1.toNatClampNeg) ac_next ac_kept ac_sorts ac_firsts ac_seconds ac_takenKinds ac_takenSpellings p1 r_3 (v_kinds p1.toNatClampNeg) H.size u0_8 u1_8 u2_8 u3_8 u4_8 u5_8 u6_8 hC) rfl rfl rfl tb463 tb464 tb465 tb8 tb466 hdX0_keepTaken (va_recv hK hP (ci := 0) (q0 := 6) rfl rfl) ⟨Nat.le_of_ble_eq_true rfl, Nat.le_of_ble_eq_true rfl⟩ rfl hl.1 (Nat.le_of_ble_eq_true rfl) rfl ⟨Nat.le_refl _, Nat.le_refl _⟩ dX6_take_63 (fun H locs hP hD hS => ?_)
      have hP : va_P G vwCl (WX6_take K x_a xA_rows rd_a v_a d_a xA_images ac_a er_a xA_hits xA_bodies vA_sizes vA_kinds vA_spelled vA_scheme acA_sorts acA_firsts acA_seconds acA_takenKinds acA_takenSpellings x_begun x_latestFault x_latestFinding v_foot v_feet v_lines v_words v_sizes v_kinds v_spelled v_scheme u0_8 u1_8 u2_8 u3_8 u4_8 u5_8 u6_8) H := hP
      have hD : va_D A (WX6_take K x_a xA_rows rd_a v_a d_a xA_images ac_a er_a xA_hits xA_bodies vA_sizes vA_kinds vA_spelled vA_scheme acA_sorts acA_firsts acA_seconds acA_takenKinds acA_takenSpellings x_begun x_latestFault x_latestFinding v_foot v_feet v_lines v_words v_sizes v_kinds v_spelled v_scheme u0_8 u1_8 u2_8 u3_8 u4_8 u5_8 u6_8) := hD
      refine lv_aload_n hx hb dX6_take_66 rfl (lv_at hl 1 rfl) ?_
      refine va_get (D := G) (ci := 6) (v := .ref v_a) (C := RX6) (T := TX6) (N := 12) hx hb hts inX6 hown hK hP 0 rfl rfl 2 (by decide) (hts _ tb247) (fun _ h9 => h9) rfl dX6_take_67 ?_
      refine lv_iload_n hx hb dX6_take_70 rfl (lv_at hl 0 rfl) ?_
      refine lv_iload_n hx hb dX6_take_71 rfl (lv_at hl 2 rfl) ?_
      obtain ⟨u0_9, u1_9, u2_9, u3_9, hC, hM⟩ := oe4 hM
      refine cV_v (As := [.int r_3, .int p1]) (rest := []) C0 hP hD hS [1, 2, 3, 4, 5] (kX2_remove l G K tt L la sa ln sy sn lt st v_a vA_sizes vA_kinds vA_spelled vA_scheme v_foot v_feet v_lines v_words v_sizes v_kinds v_spelled v_scheme r_3 p1 H.size u0_9 u1_9 u2_9 u3_9 hC) rfl rfl rfl tb468 tb419 tb420 tb7 tb421 hdX2_remove (va_recv hK hP (ci := 2) (q0 := 1) rfl rfl) ⟨Nat.le_of_ble_eq_true rfl, Nat.le_of_ble_eq_true rfl⟩ rfl hl.1 (Nat.le_of_ble_eq_true rfl) rfl ⟨Nat.le_refl _, Nat.le_refl _⟩ dX6_take_72 (fun H locs hP hD hS => ?_)
      have hP : va_P G vwCl (WX6_take K x_a xA_rows rd_a v_a d_a xA_images ac_a er_a xA_hits xA_bodies vA_sizes vA_kinds vA_spelled vA_scheme acA_sorts acA_firsts acA_seconds acA_takenKinds acA_takenSpellings x_begun x_latestFault x_latestFinding v_foot v_feet v_lines u0_9 u1_9 u2_9 u3_9 v_scheme u0_8 u1_8 u2_8 u3_8 u4_8 u5_8 u6_8) H := hP
      have hD : va_D A (WX6_take K x_a xA_rows rd_a v_a d_a xA_images ac_a er_a xA_hits xA_bodies vA_sizes vA_kinds vA_spelled vA_scheme acA_sorts acA_firsts acA_seconds acA_takenKinds acA_takenSpellings x_begun x_latestFault x_latestFinding v_foot v_feet v_lines u0_9 u1_9 u2_9 u3_9 v_scheme u0_8 u1_8 u2_8 u3_8 u4_8 u5_8 u6_8) := hD
      refine lv_aload_n hx hb dX6_take_75 rfl (lv_at hl 1 rfl) ?_
      refine va_get (D := G) (ci := 6) (v := .ref v_a) (C := RX6) (T := TX6) (N := 12) hx hb hts inX6 hown hK hP 0 rfl rfl 2 (by decide) (hts _ tb247) (fun _ h9 => h9) rfl dX6_take_76 ?_
      refine va_get (D := G) (ci := 2) (v := .ref vA_sizes) (C := RX2) (T := TX2) (N := 8) hx hb hts inX2 hown hK hP 1 rfl rfl 4 (by decide) (hts _ tb189) (fun _ h9 => h9) rfl dX6_take_79 ?_
      refine lv_iload_n hx hb dX6_take_82 rfl (lv_at hl 0 rfl) ?_
      obtain ⟨g_10, hM⟩ := ng hM
      refine va_iald hx hb hK hP 2 0 rfl rfl g_10 dX6_take_83 ?_
      have t0 := Option.some.inj hM
      obtain ⟨q1, t1⟩ := Prod.mk.inj t0
      obtain ⟨q2, t2⟩ := Prod.mk.inj t1
      obtain ⟨q3, t3⟩ := Prod.mk.inj t2
      obtain ⟨q4, t4⟩ := Prod.mk.inj t3
      obtain ⟨q5, t5⟩ := Prod.mk.inj t4
      obtain ⟨q6, t6⟩ := Prod.mk.inj t5
      obtain ⟨q7, t7⟩ := Prod.mk.inj t6
      obtain ⟨q8, t8⟩ := Prod.mk.inj t7
      obtain ⟨q9, t9⟩ := Prod.mk.inj t8
      obtain ⟨q10, t10⟩ := Prod.mk.inj t9
      obtain ⟨q11, t11⟩ := Prod.mk.inj t10
      subst q1
      subst q2
      subst q3
      subst q4
      subst q5
      subst q6
      subst q7
      subst q8
      subst q9
      subst q10
      subst q11
      subst t11
      exact kr _ _ _ _ dX6_take_84 hP hD hS
    · rw [if_neg c_5] at hM
      refine lv_ldc (v := -1000002) hx hb hown (hts _ tb409) dX6_take_36 ?_
      have t0 := Option.some.inj hM
      obtain ⟨q1, t1⟩ := Prod.mk.inj t0
      obtain ⟨q2, t2⟩ := Prod.mk.inj t1
      obtain ⟨q3, t3⟩ := Prod.mk.inj t2
      obtain ⟨q4, t4⟩ := Prod.mk.inj t3
      obtain ⟨q5, t5⟩ := Prod.mk.inj t4
      obtain ⟨q6, t6⟩ := Prod.mk.inj t5
      obtain ⟨q7, t7⟩ := Prod.mk.inj t6
      obtain ⟨q8, t8⟩ := Prod.mk.inj t7
      obtain ⟨q9, t9⟩ := Prod.mk.inj t8
      obtain ⟨q10, t10⟩ := Prod.mk.inj t9
      obtain ⟨q11, t11⟩ := Prod.mk.inj t10
      subst q1
      subst q2
      subst q3
      subst q4
      subst q5
      subst q6
      subst q7
      subst q8
      subst q9
      subst q10
      subst q11
      subst t11
      exact kr _ _ _ _ dX6_take_38 hP hD hS
  · rw [if_pos c_2] at hM
    refine lv_ldc (v := -1000001) hx hb hown (hts _ tb289) dX6_take_11 ?_
    have t0 := Option.some.inj hM
    obtain ⟨q1, t1⟩ := Prod.mk.inj t0
    obtain ⟨q2, t2⟩ := Prod.mk.inj t1
    obtain ⟨q3, t3⟩ := Prod.mk.inj t2
    obtain ⟨q4, t4⟩ := Prod.mk.inj t3
    obtain ⟨q5, t5⟩ := Prod.mk.inj t4
    obtain ⟨q6, t6⟩ := Prod.mk.inj t5
    obtain ⟨q7, t7⟩ := Prod.mk.inj t6
    obtain ⟨q8, t8⟩ := Prod.mk.inj t7
    obtain ⟨q9, t9⟩ := Prod.mk.inj t8
    obtain ⟨q10, t10⟩ := Prod.mk.inj t9
    obtain ⟨q11, t11⟩ := Prod.mk.inj t10
    subst q1
    subst q2
    subst q3
    subst q4
    subst q5
    subst q6
    subst q7
    subst q8
    subst q9
    subst q10
    subst q11
    subst t11
    exact kr _ _ _ _ dX6_take_13 hP hD hS
set_option maxHeartbeats 4000000 in
set_option maxRecDepth 100000 in
theorem kX6_take (l : Launch) (G : va_G) (K : Nat → ClassId) (tt : Nat → Nat) (L : List Nat) (la : Nat → Nat) (sa : Nat → Nat) (ln : Nat → Int32) (sy : Nat → Int32) (sn : Nat → Int32) (lt : Nat → Nat → Int32) (st : Nat → Nat → Int32) (x_a xA_rows rd_a v_a d_a xA_images ac_a er_a xA_hits xA_bodies vA_sizes vA_kinds vA_spelled vA_scheme acA_sorts acA_firsts acA_seconds acA_takenKinds acA_takenSpellings : Nat) (x_begun : Int32) (x_latestFault : Int32) (x_latestFinding : Int32) (v_foot : Int32) (v_feet : Int32) (v_lines : Int32) (v_words : Int32) (v_sizes : Nat → Int32) (v_kinds : Nat → Int32) (v_spelled : Nat → Nat) (v_scheme : Nat → Int32) (ac_next : Int32) (ac_kept : Int32) (ac_sorts : Nat → Int32) (ac_firsts : Nat → Int32) (ac_seconds : Nat → Int32) (ac_takenKinds : Nat → Int32) (ac_takenSpellings : Nat → Nat) (p1 : Int32) (sz : Nat) (r : Int32) (o_v_words : Int32) (o_v_sizes : Nat → Int32) (o_v_kinds : Nat → Int32) (o_v_spelled : Nat → Nat) (o_ac_next : Int32) (o_ac_kept : Int32) (o_ac_sorts : Nat → Int32) (o_ac_firsts : Nat → Int32) (o_ac_seconds : Nat → Int32) (o_ac_takenKinds : Nat → Int32) (o_ac_takenSpellings : Nat → Nat) (hM : mX6_take L v_lines v_words v_sizes v_kinds v_spelled ac_next ac_kept ac_sorts ac_firsts ac_seconds ac_takenKinds ac_takenSpellings p1 = some (r, o_v_words, o_v_sizes, o_v_kinds, o_v_spelled, o_ac_next, o_ac_kept, o_ac_sorts, o_ac_firsts, o_ac_seconds, o_ac_takenKinds, o_ac_takenSpellings)) : Met l yX6_take (mC yX6_take cX6_take 3 (some .int)) rmX6_take (va_Pc [.ref x_a, .int p1] (PCe G K (EC G K tt L la sa ln sy sn lt st) (WX6_take K x_a xA_rows rd_a v_a d_a xA_images ac_a er_a xA_hits xA_bodies vA_sizes vA_kinds vA_spelled vA_scheme acA_sorts acA_firsts acA_seconds acA_takenKinds acA_takenSpellings x_begun x_latestFault x_latestFinding v_foot v_feet v_lines v_words v_sizes v_kinds v_spelled v_scheme ac_next ac_kept ac_sorts ac_firsts ac_seconds ac_takenKinds ac_takenSpellings) sz)) (va_Qi (fun (x : Int32) (_ : Unit) => x = r) (fun _ t => va_P G vwCl (WX6_take K x_a xA_rows rd_a v_a d_a xA_images ac_a er_a xA_hits xA_bodies vA_sizes vA_kinds vA_spelled vA_scheme acA_sorts acA_firsts acA_seconds acA_takenKinds acA_takenSpellings x_begun x_latestFault x_latestFinding v_foot v_feet v_lines o_v_words o_v_sizes o_v_kinds o_v_spelled v_scheme o_ac_next o_ac_kept o_ac_sorts o_ac_firsts o_ac_seconds o_ac_takenKinds o_ac_takenSpellings) t.heap) (va_A (WX6_take K x_a xA_rows rd_a v_a d_a xA_images ac_a er_a xA_hits xA_bodies vA_sizes vA_kinds vA_spelled vA_scheme acA_sorts acA_firsts acA_seconds acA_takenKinds acA_takenSpellings x_begun x_latestFault x_latestFinding v_foot v_feet v_lines v_words v_sizes v_kinds v_spelled v_scheme ac_next ac_kept ac_sorts ac_firsts ac_seconds ac_takenKinds ac_takenSpellings) sz)) rmX6_take.cells rmX6_take.slots (va_A (WX6_take K x_a xA_rows rd_a v_a d_a xA_images ac_a er_a xA_hits xA_bodies vA_sizes vA_kinds vA_spelled vA_scheme acA_sorts acA_firsts acA_seconds acA_takenKinds acA_takenSpellings x_begun x_latestFault x_latestFinding v_foot v_feet v_lines v_words v_sizes v_kinds v_spelled v_scheme ac_next ac_kept ac_sorts ac_firsts ac_seconds ac_takenKinds ac_takenSpellings) sz) := by
  refine Met.ofW (cc := cX6_take) (maxL := 3) (ret := (some .int)) (by decide) rfl ?_
  intro p e s m args below meth c s₁ B hml hv
  obtain ⟨rfl, hsz, hP, hK, hD0, hE⟩ := hv
  have hx := B.exec
  have hb := B.bytes
  have hr := B.returns
  have hts0 := atoms_spec (ws := mC yX6_take cX6_take 3 (some .int)) B.pre
  have hts : ∀ w ∈ tbG, w.before _ s = true := fun w h => hts0 w (List.mem_cons_of_mem _ h)
  have hown : s.vm.findClass RX6 = some m.cls := findClass_of_methodNamed B.named
  subst hsz
  have hD := hD0.self (sz := s.heap.size)
  generalize hAe : va_A (WX6_take K x_a xA_rows rd_a v_a d_a xA_images ac_a er_a xA_hits xA_bodies vA_sizes vA_kinds vA_spelled vA_scheme acA_sorts acA_firsts acA_seconds acA_takenKinds acA_takenSpellings x_begun x_latestFault x_latestFinding v_foot v_feet v_lines v_words v_sizes v_kinds v_spelled v_scheme ac_next ac_kept ac_sorts ac_firsts ac_seconds ac_takenKinds ac_takenSpellings) s.heap.size = A at hD hE ⊢
  have hA : ∀ q : Nat, s.heap.size ≤ q → A q := fun q h => by rw [← hAe]; exact Or.inr h
  have hS : va_S A s.heap s.heap [] := va_S.rf
  have hl := lv_entry ([.ref x_a, .int p1]) (n := 3) (Nat.le_of_ble_eq_true rfl)
  rw [lg_entry_eq]
  generalize (lg_sl ([.ref x_a, .int p1]) ++ List.replicate (3 - (lg_sl ([.ref x_a, .int p1])).length) Slot.unset).toArray = ls at hl ⊢
  have hl : lv_has ls 3 [(0, .ref x_a), (1, .int p1)] := hl
  exact wX6_take_b0 ⟨hx, hb, hml, hown, hts, hK, hA, EC_ok _ _ _ _ _ _ _ _ _ _ _, hE⟩ x_a xA_rows rd_a v_a d_a xA_images ac_a er_a xA_hits xA_bodies vA_sizes vA_kinds vA_spelled vA_scheme acA_sorts acA_firsts acA_seconds acA_takenKinds acA_takenSpellings x_begun x_latestFault x_latestFinding v_foot v_feet v_lines v_scheme p1 r o_v_words o_v_sizes o_v_kinds o_v_spelled o_ac_next o_ac_kept o_ac_sorts o_ac_firsts o_ac_seconds o_ac_takenKinds o_ac_takenSpellings (fun H locs ls pc hdg hP hD hS => W.iret (v := r) hx hb hr (fun t ht hW => ⟨⟨r, (), rfl, rfl, (show va_P G vwCl _ t.heap by rw [ht]; exact hP)⟩, hS.F ht⟩) hS.2.2 hdg) v_words v_sizes v_kinds v_spelled ac_next ac_kept ac_sorts ac_firsts ac_seconds ac_takenKinds ac_takenSpellings  hM _ _ _ hP hD hS hl
abbrev WX6_swap (K : Nat → ClassId) (x_a xA_rows rd_a v_a d_a xA_images ac_a er_a xA_hits xA_bodies vA_sizes vA_kinds vA_spelled vA_scheme acA_sorts acA_firsts acA_seconds acA_takenKinds acA_takenSpellings : Nat) (x_begun : Int32) (x_latestFault : Int32) (x_latestFinding : Int32) (v_foot : Int32) (v_feet : Int32) (v_lines : Int32) (v_words : Int32) (v_sizes : Nat → Int32) (v_kinds : Nat → Int32) (v_spelled : Nat → Nat) (v_scheme : Nat → Int32) (ac_next : Int32) (ac_kept : Int32) (ac_sorts : Nat → Int32) (ac_firsts : Nat → Int32) (ac_seconds : Nat → Int32) (ac_takenKinds : Nat → Int32) (ac_takenSpellings : Nat → Nat) : va_W := [(x_a, .inr (6, [.ref xA_rows, .ref rd_a, .ref v_a, .ref d_a, .ref xA_images, .ref ac_a, .ref er_a, .ref xA_hits, .ref xA_bodies, .int x_begun, .int x_latestFault, .int x_latestFinding])), (v_a, .inr (2, [.int v_foot, .int v_feet, .int v_lines, .int v_words, .ref vA_sizes, .ref vA_kinds, .ref vA_spelled, .ref vA_scheme])), aI K vA_sizes 4 v_sizes, aI K vA_kinds 20 v_kinds, aS K vA_spelled 20 v_spelled, aI K vA_scheme 4 v_scheme, (ac_a, .inr (0, [.ref acA_sorts, .ref acA_firsts, .ref acA_seconds, .ref acA_takenKinds, .ref acA_takenSpellings, .int ac_next, .int ac_kept])), aI K acA_sorts 24 ac_sorts, aI K acA_firsts 24 ac_firsts, aI K acA_seconds 24 ac_seconds, aI K acA_takenKinds 24 ac_takenKinds, aS K acA_takenSpellings 24 ac_takenSpellings]
def rmX6_swap : Room := { frames := 2, cells := 0, slots := 0, locals := 46 }
theorem hdX6_swap : yX6_swap.cls = RX6 ∧ yX6_swap.cls ≠ "java/lang/invoke/MethodHandle" ∧ yX6_swap.cls ≠ "java/lang/invoke/VarHandle" ∧ (parseMethodDescriptor yX6_swap.desc).map (fun d => d.parameters.length) = some 2 := by decide +kernel
set_option maxHeartbeats 4000000 in
set_option maxRecDepth 100000 in
theorem wX6_swap_b0 {p : Program} {l : Launch} {e : Env} {s : State} {m : MethodId} {args : Array Value} {below : List Frame} {meth : Method} {c : Code} {Q : State → Prop} {G : va_G} {K : Nat → ClassId} {A : Nat → Prop} {tt : Nat → Nat} {L : List Nat} {la : Nat → Nat} {sa : Nat → Nat} {ln : Nat → Int32} {sy : Nat → Int32} {sn : Nat → Int32} {lt : Nat → Nat → Int32} {st : Nat → Nat → Int32} (C0 : CX p s m args c cX6_swap 3 RX6 G K (EC G K tt L la sa ln sy sn lt st) A) (x_a xA_rows rd_a v_a d_a xA_images ac_a er_a xA_hits xA_bodies vA_sizes vA_kinds vA_spelled vA_scheme acA_sorts acA_firsts acA_seconds acA_takenKinds acA_takenSpellings : Nat) (x_begun : Int32) (x_latestFault : Int32) (x_latestFinding : Int32) (v_foot : Int32) (v_feet : Int32) (v_lines : Int32) (v_words : Int32) (v_sizes : Nat → Int32) (v_scheme : Nat → Int32) (ac_takenKinds : Nat → Int32) (ac_takenSpellings : Nat → Nat) (p1 : Int32) (p2 : Int32) (r : Int32) (o_v_kinds : Nat → Int32) (o_v_spelled : Nat → Nat) (o_ac_next : Int32) (o_ac_kept : Int32) (o_ac_sorts : Nat → Int32) (o_ac_firsts : Nat → Int32) (o_ac_seconds : Nat → Int32) (kr : ∀ (H : Heap) (locs : List Loc) (ls : Array Slot) (pc : Nat), decode cX6_swap pc = .ok (.ireturn, 1) → va_P G vwCl (WX6_swap K x_a xA_rows rd_a v_a d_a xA_images ac_a er_a xA_hits xA_bodies vA_sizes vA_kinds vA_spelled vA_scheme acA_sorts acA_firsts acA_seconds acA_takenKinds acA_takenSpellings x_begun x_latestFault x_latestFinding v_foot v_feet v_lines v_words v_sizes o_v_kinds o_v_spelled v_scheme o_ac_next o_ac_kept o_ac_sorts o_ac_firsts o_ac_seconds ac_takenKinds ac_takenSpellings) H → va_D A (WX6_swap K x_a xA_rows rd_a v_a d_a xA_images ac_a er_a xA_hits xA_bodies vA_sizes vA_kinds vA_spelled vA_scheme acA_sorts acA_firsts acA_seconds acA_takenKinds acA_takenSpellings x_begun x_latestFault x_latestFinding v_foot v_feet v_lines v_words v_sizes o_v_kinds o_v_spelled v_scheme o_ac_next o_ac_kept o_ac_sorts o_ac_firsts o_ac_seconds ac_takenKinds ac_takenSpellings) → va_S A s.heap H locs → W p l e rmX6_swap s m args below meth c H locs 0 0 Q (F0 m pc ls [.int r])) (v_kinds : Nat → Int32) (v_spelled : Nat → Nat) (ac_next : Int32) (ac_kept : Int32) (ac_sorts : Nat → Int32) (ac_firsts : Nat → Int32) (ac_seconds : Nat → Int32) (hM : mX6_swap_b0 L v_words p1 p2  v_kinds v_spelled ac_next ac_kept ac_sorts ac_firsts ac_seconds = some (r, o_v_kinds, o_v_spelled, o_ac_next, o_ac_kept, o_ac_sorts, o_ac_firsts, o_ac_seconds)) : ∀ (H : Heap) (locs : List Loc) (ls : Array Slot), va_P G vwCl (WX6_swap K x_a xA_rows rd_a v_a d_a xA_images ac_a er_a xA_hits xA_bodies vA_sizes vA_kinds vA_spelled vA_scheme acA_sorts acA_firsts acA_seconds acA_takenKinds acA_takenSpellings x_begun x_latestFault x_latestFinding v_foot v_feet v_lines v_words v_sizes v_kinds v_spelled v_scheme ac_next ac_kept ac_sorts ac_firsts ac_seconds ac_takenKinds ac_takenSpellings) H → va_D A (WX6_swap K x_a xA_rows rd_a v_a d_a xA_images ac_a er_a xA_hits xA_bodies vA_sizes vA_kinds vA_spelled vA_scheme acA_sorts acA_firsts acA_seconds acA_takenKinds acA_takenSpellings x_begun x_latestFault x_latestFinding v_foot v_feet v_lines v_words v_sizes v_kinds v_spelled v_scheme ac_next ac_kept ac_sorts ac_firsts ac_seconds ac_takenKinds ac_takenSpellings) → va_S A s.heap H locs → lv_has ls 3 [(0, .ref x_a), (1, .int p1), (2, .int p2)] → W p l e rmX6_swap s m args below meth c H locs 0 0 Q (F0 m 0 ls []) := by
  obtain ⟨hx, hb, hml, hown, hts, hK, hA, hEo, hE⟩ := id C0
  intro H locs ls hP hD hS hl
  unfold mX6_swap_b0 at hM
  refine lv_aload_n hx hb dX6_swap_0 rfl (lv_at hl 0 rfl) ?_
  refine va_get (D := G) (ci := 6) (v := .ref v_a) (C := RX6) (T := TX6) (N := 12) hx hb hts inX6 hown hK hP 0 rfl rfl 2 (by decide) (hts _ tb247) (fun _ h9 => h9) rfl dX6_swap_1 ?_
  refine lv_iload_n hx hb dX6_swap_4 rfl (lv_at hl 1 rfl) ?_
  obtain ⟨r_1, hC, hM⟩ := oe1 hM
  refine cV_i (As := [.int p1]) (rest := []) C0 hP hD hS [1, 2, 3, 4, 5] (kX2_hasWord l G K tt L la sa ln sy sn lt st v_a vA_sizes vA_kinds vA_spelled vA_scheme v_foot v_feet v_lines v_words v_sizes v_kinds v_spelled v_scheme p1 H.size r_1 hC) rfl rfl rfl tb432 tb415 tb416 tb7 tb417 hdX2_hasWord (va_recv hK hP (ci := 2) (q0 := 1) rfl rfl) ⟨Nat.le_of_ble_eq_true rfl, Nat.le_of_ble_eq_true rfl⟩ rfl hl.1 (Nat.le_of_ble_eq_true rfl) rfl ⟨Nat.le_refl _, Nat.le_refl _⟩ dX6_swap_5 (fun H locs hP hD hS => ?_)
  have hP : va_P G vwCl (WX6_swap K x_a xA_rows rd_a v_a d_a xA_images ac_a er_a xA_hits xA_bodies vA_sizes vA_kinds vA_spelled vA_scheme acA_sorts acA_firsts acA_seconds acA_takenKinds acA_takenSpellings x_begun x_latestFault x_latestFinding v_foot v_feet v_lines v_words v_sizes v_kinds v_spelled v_scheme ac_next ac_kept ac_sorts ac_firsts ac_seconds ac_takenKinds ac_takenSpellings) H := hP
  have hD : va_D A (WX6_swap K x_a xA_rows rd_a v_a d_a xA_images ac_a er_a xA_hits xA_bodies vA_sizes vA_kinds vA_spelled vA_scheme acA_sorts acA_firsts acA_seconds acA_takenKinds acA_takenSpellings x_begun x_latestFault x_latestFinding v_foot v_feet v_lines v_words v_sizes v_kinds v_spelled v_scheme ac_next ac_kept ac_sorts ac_firsts ac_seconds ac_takenKinds ac_takenSpellings) := hD
  refine lv_if_eq (tgt := 22) hx hb dX6_swap_8 (by decide) (fun c_2 => ?_) (fun c_2 => ?_)
  · rw [if_pos c_2] at hM
    refine lv_ldc (v := -1000001) hx hb hown (hts _ tb289) dX6_swap_22 ?_
    have t0 := Option.some.inj hM
    obtain ⟨q1, t1⟩ := Prod.mk.inj t0
    obtain ⟨q2, t2⟩ := Prod.mk.inj t1
    obtain ⟨q3, t3⟩ := Prod.mk.inj t2
    obtain ⟨q4, t4⟩ := Prod.mk.inj t3
    obtain ⟨q5, t5⟩ := Prod.mk.inj t4
    obtain ⟨q6, t6⟩ := Prod.mk.inj t5
    obtain ⟨q7, t7⟩ := Prod.mk.inj t6
    subst q1
    subst q2
    subst q3
    subst q4
    subst q5
    subst q6
    subst q7
    subst t7
    exact kr _ _ _ _ dX6_swap_24 hP hD hS
  · rw [if_neg c_2] at hM
    refine lv_aload_n hx hb dX6_swap_11 rfl (lv_at hl 0 rfl) ?_
    refine va_get (D := G) (ci := 6) (v := .ref v_a) (C := RX6) (T := TX6) (N := 12) hx hb hts inX6 hown hK hP 0 rfl rfl 2 (by decide) (hts _ tb247) (fun _ h9 => h9) rfl dX6_swap_12 ?_
    refine lv_iload_n hx hb dX6_swap_15 rfl (lv_at hl 2 rfl) ?_
    obtain ⟨r_3, hC, hM⟩ := oe1 hM
    refine cV_i (As := [.int p2]) (rest := []) C0 hP hD hS [1, 2, 3, 4, 5] (kX2_hasWord l G K tt L la sa ln sy sn lt st v_a vA_sizes vA_kinds vA_spelled vA_scheme v_foot v_feet v_lines v_words v_sizes v_kinds v_spelled v_scheme p2 H.size r_3 hC) rfl rfl rfl tb432 tb415 tb416 tb7 tb417 hdX2_hasWord (va_recv hK hP (ci := 2) (q0 := 1) rfl rfl) ⟨Nat.le_of_ble_eq_true rfl, Nat.le_of_ble_eq_true rfl⟩ rfl hl.1 (Nat.le_of_ble_eq_true rfl) rfl ⟨Nat.le_refl _, Nat.le_refl _⟩ dX6_swap_16 (fun H locs hP hD hS => ?_)
    have hP : va_P G vwCl (WX6_swap K x_a xA_rows rd_a v_a d_a xA_images ac_a er_a xA_hits xA_bodies vA_sizes vA_kinds vA_spelled vA_scheme acA_sorts acA_firsts acA_seconds acA_takenKinds acA_takenSpellings x_begun x_latestFault x_latestFinding v_foot v_feet v_lines v_words v_sizes v_kinds v_spelled v_scheme ac_next ac_kept ac_sorts ac_firsts ac_seconds ac_takenKinds ac_takenSpellings) H := hP
    have hD : va_D A (WX6_swap K x_a xA_rows rd_a v_a d_a xA_images ac_a er_a xA_hits xA_bodies vA_sizes vA_kinds vA_spelled vA_scheme acA_sorts acA_firsts acA_seconds acA_takenKinds acA_takenSpellings x_begun x_latestFault x_latestFinding v_foot v_feet v_lines v_words v_sizes v_kinds v_spelled v_scheme ac_next ac_kept ac_sorts ac_firsts ac_seconds ac_takenKinds ac_takenSpellings) := hD
    refine lv_if_ne (tgt := 25) hx hb dX6_swap_19 (by decide) (fun c_4 => ?_) (fun c_4 => ?_)
    · rw [if_neg c_4] at hM
      refine lv_iload_n hx hb dX6_swap_25 rfl (lv_at hl 1 rfl) ?_
      refine lv_iload_n hx hb dX6_swap_26 rfl (lv_at hl 2 rfl) ?_
      refine lv_icmp_ne (tgt := 33) hx hb dX6_swap_27 (by decide) (fun c_5 => ?_) (fun c_5 => ?_)
      · rw [if_neg c_5] at hM
        refine lv_aload_n hx hb dX6_swap_33 rfl (lv_at hl 0 rfl) ?_
        refine va_get (D := G) (ci := 6) (v := .ref v_a) (C := RX6) (T := TX6) (N := 12) hx hb hts inX6 hown hK hP 0 rfl rfl 2 (by decide) (hts _ tb247) (fun _ h9 => h9) rfl dX6_swap_34 ?_
        refine lv_iload_n hx hb dX6_swap_37 rfl (lv_at hl 1 rfl) ?_
        refine lv_iload_n hx hb dX6_swap_38 rfl (lv_at hl 2 rfl) ?_
        obtain ⟨u0_6, u1_6, hC, hM⟩ := oe2 hM
        refine cV_v (As := [.int p1, .int p2]) (rest := []) C0 hP hD hS [1, 2, 3, 4, 5] (kX2_exchange l G K tt L la sa ln sy sn lt st v_a vA_sizes vA_kinds vA_spelled vA_scheme v_foot v_feet v_lines v_words v_sizes v_kinds v_spelled v_scheme p1 p2 H.size u0_6 u1_6 hC) rfl rfl rfl tb473 tb425 tb426 tb7 tb427 hdX2_exchange (va_recv hK hP (ci := 2) (q0 := 1) rfl rfl) ⟨Nat.le_of_ble_eq_true rfl, Nat.le_of_ble_eq_true rfl⟩ rfl hl.1 (Nat.le_of_ble_eq_true rfl) rfl ⟨Nat.le_refl _, Nat.le_refl _⟩ dX6_swap_39 (fun H locs hP hD hS => ?_)
        have hP : va_P G vwCl (WX6_swap K x_a xA_rows rd_a v_a d_a xA_images ac_a er_a xA_hits xA_bodies vA_sizes vA_kinds vA_spelled vA_scheme acA_sorts acA_firsts acA_seconds acA_takenKinds acA_takenSpellings x_begun x_latestFault x_latestFinding v_foot v_feet v_lines v_words v_sizes u0_6 u1_6 v_scheme ac_next ac_kept ac_sorts ac_firsts ac_seconds ac_takenKinds ac_takenSpellings) H := hP
        have hD : va_D A (WX6_swap K x_a xA_rows rd_a v_a d_a xA_images ac_a er_a xA_hits xA_bodies vA_sizes vA_kinds vA_spelled vA_scheme acA_sorts acA_firsts acA_seconds acA_takenKinds acA_takenSpellings x_begun x_latestFault x_latestFinding v_foot v_feet v_lines v_words v_sizes u0_6 u1_6 v_scheme ac_next ac_kept ac_sorts ac_firsts ac_seconds ac_takenKinds ac_takenSpellings) := hD
        refine lv_aload_n hx hb dX6_swap_42 rfl (lv_at hl 0 rfl) ?_
        refine va_get (D := G) (ci := 6) (v := .ref ac_a) (C := RX6) (T := TX6) (N := 12) hx hb hts inX6 hown hK hP 0 rfl rfl 5 (by decide) (hts _ tb250) (fun _ h9 => h9) rfl dX6_swap_43 ?_
        refine lv_iconst (v := 3) hx hb dX6_swap_46 (by decide) ?_
        refine lv_iload_n hx hb dX6_swap_47 rfl (lv_at hl 1 rfl) ?_
        refine lv_iload_n hx hb dX6_swap_48 rfl (lv_at hl 2 rfl) ?_
        obtain ⟨u0_7, u1_7, u2_7, u3_7, u4_7, hC, hM⟩ := oe5 hM
        refine cV_v (As := [.int (3 : Int32), .int p1, .int p2]) (rest := []) C0 hP hD hS [6, 7, 8, 9, 10, 11] (kX0_keep l G K tt L la sa ln sy sn lt st ac_a acA_sorts acA_firsts acA_seconds acA_takenKinds acA_takenSpellings ac_next ac_kept ac_sorts ac_firsts ac_seconds ac_takenKinds ac_takenSpellings (3 : Int32) p1 p2 H.size u0_7 u1_7 u2_7 u3_7 u4_7 hC) rfl rfl rfl tb436 tb437 tb438 tb8 tb439 hdX0_keep (va_recv hK hP (ci := 0) (q0 := 6) rfl rfl) ⟨Nat.le_of_ble_eq_true rfl, Nat.le_of_ble_eq_true rfl⟩ rfl hl.1 (Nat.le_of_ble_eq_true rfl) rfl ⟨Nat.le_refl _, Nat.le_refl _⟩ dX6_swap_49 (fun H locs hP hD hS => ?_)
        have hP : va_P G vwCl (WX6_swap K x_a xA_rows rd_a v_a d_a xA_images ac_a er_a xA_hits xA_bodies vA_sizes vA_kinds vA_spelled vA_scheme acA_sorts acA_firsts acA_seconds acA_takenKinds acA_takenSpellings x_begun x_latestFault x_latestFinding v_foot v_feet v_lines v_words v_sizes u0_6 u1_6 v_scheme u0_7 u1_7 u2_7 u3_7 u4_7 ac_takenKinds ac_takenSpellings) H := hP
        have hD : va_D A (WX6_swap K x_a xA_rows rd_a v_a d_a xA_images ac_a er_a xA_hits xA_bodies vA_sizes vA_kinds vA_spelled vA_scheme acA_sorts acA_firsts acA_seconds acA_takenKinds acA_takenSpellings x_begun x_latestFault x_latestFinding v_foot v_feet v_lines v_words v_sizes u0_6 u1_6 v_scheme u0_7 u1_7 u2_7 u3_7 u4_7 ac_takenKinds ac_takenSpellings) := hD
        refine lv_iload_n hx hb dX6_swap_52 rfl (lv_at hl 1 rfl) ?_
        refine lv_iload_n hx hb dX6_swap_53 rfl (lv_at hl 2 rfl) ?_
        refine lv_isub hx hb dX6_swap_54 ?_
        refine va_mabs hx hb (hml.trans hl.1.symm) hown (hts _ tb474) (hts _ tb475) (hts _ tb5) (hts _ tb476) (Nat.le_of_ble_eq_true rfl) (Nat.le_of_ble_eq_true rfl) (Nat.zero_le _) (Nat.zero_le _) dX6_swap_55 ?_
        refine lv_iconst (v := 1) hx hb dX6_swap_58 (by decide) ?_
        refine lv_iadd hx hb dX6_swap_59 ?_
        have t0 := Option.some.inj hM
        obtain ⟨q1, t1⟩ := Prod.mk.inj t0
        obtain ⟨q2, t2⟩ := Prod.mk.inj t1
        obtain ⟨q3, t3⟩ := Prod.mk.inj t2
        obtain ⟨q4, t4⟩ := Prod.mk.inj t3
        obtain ⟨q5, t5⟩ := Prod.mk.inj t4
        obtain ⟨q6, t6⟩ := Prod.mk.inj t5
        obtain ⟨q7, t7⟩ := Prod.mk.inj t6
        subst q1
        subst q2
        subst q3
        subst q4
        subst q5
        subst q6
        subst q7
        subst t7
        exact kr _ _ _ _ dX6_swap_60 hP hD hS
      · rw [if_pos c_5] at hM
        refine lv_ldc (v := -1000002) hx hb hown (hts _ tb409) dX6_swap_30 ?_
        have t0 := Option.some.inj hM
        obtain ⟨q1, t1⟩ := Prod.mk.inj t0
        obtain ⟨q2, t2⟩ := Prod.mk.inj t1
        obtain ⟨q3, t3⟩ := Prod.mk.inj t2
        obtain ⟨q4, t4⟩ := Prod.mk.inj t3
        obtain ⟨q5, t5⟩ := Prod.mk.inj t4
        obtain ⟨q6, t6⟩ := Prod.mk.inj t5
        obtain ⟨q7, t7⟩ := Prod.mk.inj t6
        subst q1
        subst q2
        subst q3
        subst q4
        subst q5
        subst q6
        subst q7
        subst t7
        exact kr _ _ _ _ dX6_swap_32 hP hD hS
    · rw [if_pos c_4] at hM
      refine lv_ldc (v := -1000001) hx hb hown (hts _ tb289) dX6_swap_22 ?_
      have t0 := Option.some.inj hM
      obtain ⟨q1, t1⟩ := Prod.mk.inj t0
      obtain ⟨q2, t2⟩ := Prod.mk.inj t1
      obtain ⟨q3, t3⟩ := Prod.mk.inj t2
      obtain ⟨q4, t4⟩ := Prod.mk.inj t3
      obtain ⟨q5, t5⟩ := Prod.mk.inj t4
      obtain ⟨q6, t6⟩ := Prod.mk.inj t5
      obtain ⟨q7, t7⟩ := Prod.mk.inj t6
      subst q1
      subst q2
      subst q3
      subst q4
      subst q5
      subst q6
      subst q7
      subst t7
      exact kr _ _ _ _ dX6_swap_24 hP hD hS
set_option maxHeartbeats 4000000 in
set_option maxRecDepth 100000 in
theorem kX6_swap (l : Launch) (G : va_G) (K : Nat → ClassId) (tt : Nat → Nat) (L : List Nat) (la : Nat → Nat) (sa : Nat → Nat) (ln : Nat → Int32) (sy : Nat → Int32) (sn : Nat → Int32) (lt : Nat → Nat → Int32) (st : Nat → Nat → Int32) (x_a xA_rows rd_a v_a d_a xA_images ac_a er_a xA_hits xA_bodies vA_sizes vA_kinds vA_spelled vA_scheme acA_sorts acA_firsts acA_seconds acA_takenKinds acA_takenSpellings : Nat) (x_begun : Int32) (x_latestFault : Int32) (x_latestFinding : Int32) (v_foot : Int32) (v_feet : Int32) (v_lines : Int32) (v_words : Int32) (v_sizes : Nat → Int32) (v_kinds : Nat → Int32) (v_spelled : Nat → Nat) (v_scheme : Nat → Int32) (ac_next : Int32) (ac_kept : Int32) (ac_sorts : Nat → Int32) (ac_firsts : Nat → Int32) (ac_seconds : Nat → Int32) (ac_takenKinds : Nat → Int32) (ac_takenSpellings : Nat → Nat) (p1 : Int32) (p2 : Int32) (sz : Nat) (r : Int32) (o_v_kinds : Nat → Int32) (o_v_spelled : Nat → Nat) (o_ac_next : Int32) (o_ac_kept : Int32) (o_ac_sorts : Nat → Int32) (o_ac_firsts : Nat → Int32) (o_ac_seconds : Nat → Int32) (hM : mX6_swap L v_words v_kinds v_spelled ac_next ac_kept ac_sorts ac_firsts ac_seconds p1 p2 = some (r, o_v_kinds, o_v_spelled, o_ac_next, o_ac_kept, o_ac_sorts, o_ac_firsts, o_ac_seconds)) : Met l yX6_swap (mC yX6_swap cX6_swap 3 (some .int)) rmX6_swap (va_Pc [.ref x_a, .int p1, .int p2] (PCe G K (EC G K tt L la sa ln sy sn lt st) (WX6_swap K x_a xA_rows rd_a v_a d_a xA_images ac_a er_a xA_hits xA_bodies vA_sizes vA_kinds vA_spelled vA_scheme acA_sorts acA_firsts acA_seconds acA_takenKinds acA_takenSpellings x_begun x_latestFault x_latestFinding v_foot v_feet v_lines v_words v_sizes v_kinds v_spelled v_scheme ac_next ac_kept ac_sorts ac_firsts ac_seconds ac_takenKinds ac_takenSpellings) sz)) (va_Qi (fun (x : Int32) (_ : Unit) => x = r) (fun _ t => va_P G vwCl (WX6_swap K x_a xA_rows rd_a v_a d_a xA_images ac_a er_a xA_hits xA_bodies vA_sizes vA_kinds vA_spelled vA_scheme acA_sorts acA_firsts acA_seconds acA_takenKinds acA_takenSpellings x_begun x_latestFault x_latestFinding v_foot v_feet v_lines v_words v_sizes o_v_kinds o_v_spelled v_scheme o_ac_next o_ac_kept o_ac_sorts o_ac_firsts o_ac_seconds ac_takenKinds ac_takenSpellings) t.heap) (va_A (WX6_swap K x_a xA_rows rd_a v_a d_a xA_images ac_a er_a xA_hits xA_bodies vA_sizes vA_kinds vA_spelled vA_scheme acA_sorts acA_firsts acA_seconds acA_takenKinds acA_takenSpellings x_begun x_latestFault x_latestFinding v_foot v_feet v_lines v_words v_sizes v_kinds v_spelled v_scheme ac_next ac_kept ac_sorts ac_firsts ac_seconds ac_takenKinds ac_takenSpellings) sz)) rmX6_swap.cells rmX6_swap.slots (va_A (WX6_swap K x_a xA_rows rd_a v_a d_a xA_images ac_a er_a xA_hits xA_bodies vA_sizes vA_kinds vA_spelled vA_scheme acA_sorts acA_firsts acA_seconds acA_takenKinds acA_takenSpellings x_begun x_latestFault x_latestFinding v_foot v_feet v_lines v_words v_sizes v_kinds v_spelled v_scheme ac_next ac_kept ac_sorts ac_firsts ac_seconds ac_takenKinds ac_takenSpellings) sz) := by
  refine Met.ofW (cc := cX6_swap) (maxL := 3) (ret := (some .int)) (by decide) rfl ?_
  intro p e s m args below meth c s₁ B hml hv
  obtain ⟨rfl, hsz, hP, hK, hD0, hE⟩ := hv
  have hx := B.exec
  have hb := B.bytes
  have hr := B.returns
  have hts0 := atoms_spec (ws := mC yX6_swap cX6_swap 3 (some .int)) B.pre
  have hts : ∀ w ∈ tbG, w.before _ s = true := fun w h => hts0 w (List.mem_cons_of_mem _ h)
  have hown : s.vm.findClass RX6 = some m.cls := findClass_of_methodNamed B.named
  subst hsz
  have hD := hD0.self (sz := s.heap.size)
  generalize hAe : va_A (WX6_swap K x_a xA_rows rd_a v_a d_a xA_images ac_a er_a xA_hits xA_bodies vA_sizes vA_kinds vA_spelled vA_scheme acA_sorts acA_firsts acA_seconds acA_takenKinds acA_takenSpellings x_begun x_latestFault x_latestFinding v_foot v_feet v_lines v_words v_sizes v_kinds v_spelled v_scheme ac_next ac_kept ac_sorts ac_firsts ac_seconds ac_takenKinds ac_takenSpellings) s.heap.size = A at hD hE ⊢
  have hA : ∀ q : Nat, s.heap.size ≤ q → A q := fun q h => by rw [← hAe]; exact Or.inr h
  have hS : va_S A s.heap s.heap [] := va_S.rf
  have hl := lv_entry ([.ref x_a, .int p1, .int p2]) (n := 3) (Nat.le_of_ble_eq_true rfl)
  rw [lg_entry_eq]
  generalize (lg_sl ([.ref x_a, .int p1, .int p2]) ++ List.replicate (3 - (lg_sl ([.ref x_a, .int p1, .int p2])).length) Slot.unset).toArray = ls at hl ⊢
  have hl : lv_has ls 3 [(0, .ref x_a), (1, .int p1), (2, .int p2)] := hl
  exact wX6_swap_b0 ⟨hx, hb, hml, hown, hts, hK, hA, EC_ok _ _ _ _ _ _ _ _ _ _ _, hE⟩ x_a xA_rows rd_a v_a d_a xA_images ac_a er_a xA_hits xA_bodies vA_sizes vA_kinds vA_spelled vA_scheme acA_sorts acA_firsts acA_seconds acA_takenKinds acA_takenSpellings x_begun x_latestFault x_latestFinding v_foot v_feet v_lines v_words v_sizes v_scheme ac_takenKinds ac_takenSpellings p1 p2 r o_v_kinds o_v_spelled o_ac_next o_ac_kept o_ac_sorts o_ac_firsts o_ac_seconds (fun H locs ls pc hdg hP hD hS => W.iret (v := r) hx hb hr (fun t ht hW => ⟨⟨r, (), rfl, rfl, (show va_P G vwCl _ t.heap by rw [ht]; exact hP)⟩, hS.F ht⟩) hS.2.2 hdg) v_kinds v_spelled ac_next ac_kept ac_sorts ac_firsts ac_seconds  hM _ _ _ hP hD hS hl
def rmX6_isMetre : Room := { frames := 0, cells := 0, slots := 0, locals := 0 }
theorem hdX6_isMetre : yX6_isMetre.cls ≠ "java/lang/invoke/MethodHandle" ∧ yX6_isMetre.cls ≠ "java/lang/invoke/VarHandle" ∧ (parseMethodDescriptor yX6_isMetre.desc).map (fun d => d.parameters.length) = some 2 := by decide +kernel
set_option maxHeartbeats 4000000 in
set_option maxRecDepth 100000 in
theorem wX6_isMetre_b0 {p : Program} {l : Launch} {e : Env} {s : State} {m : MethodId} {args : Array Value} {below : List Frame} {meth : Method} {c : Code} {Q : State → Prop} {G : va_G} {K : Nat → ClassId} {A : Nat → Prop} {tt : Nat → Nat} {L : List Nat} {la : Nat → Nat} {sa : Nat → Nat} {ln : Nat → Int32} {sy : Nat → Int32} {sn : Nat → Int32} {lt : Nat → Nat → Int32} {st : Nat → Nat → Int32} (C0 : CX p s m args c cX6_isMetre 2 RX6 G K (EC G K tt L la sa ln sy sn lt st) A)  (p1 : Int32) (p2 : Int32) (r : Int32)  (kr : ∀ (H : Heap) (locs : List Loc) (ls : Array Slot) (pc : Nat), decode cX6_isMetre pc = .ok (.ireturn, 1) → (r = 0 ∨ r = 1) → va_P G vwCl [] H → va_D A [] → va_S A s.heap H locs → W p l e rmX6_isMetre s m args below meth c H locs 0 0 Q (F0 m pc ls [.int r]))  (hM : mX6_isMetre_b0 p1 p2   = some r) : ∀ (H : Heap) (locs : List Loc) (ls : Array Slot), va_P G vwCl [] H → va_D A [] → va_S A s.heap H locs → lv_has ls 2 [(0, .int p1), (1, .int p2)] → W p l e rmX6_isMetre s m args below meth c H locs 0 0 Q (F0 m 0 ls []) := by
  obtain ⟨hx, hb, hml, hown, hts, hK, hA, hEo, hE⟩ := id C0
  intro H locs ls hP hD hS hl
  unfold mX6_isMetre_b0 at hM
  refine lv_iload_n hx hb dX6_isMetre_0 rfl (lv_at hl 0 rfl) ?_
  refine lv_if_lt (tgt := 26) hx hb dX6_isMetre_1 (by decide) (fun c_1 => ?_) (fun c_1 => ?_)
  · rw [if_pos c_1] at hM
    refine lv_iconst (v := 0) hx hb dX6_isMetre_26 (by decide) ?_
    have q1 := Option.some.inj hM
    subst q1
    exact kr _ _ _ _ dX6_isMetre_27 (by decide) hP hD hS
  · rw [if_neg c_1] at hM
    refine lv_iload_n hx hb dX6_isMetre_4 rfl (lv_at hl 0 rfl) ?_
    refine va_gets hx hb (sZ0 hE.2.2.1) hS hown (hts _ tb484) (fun _ h9 => h9) dX6_isMetre_5 ?_
    refine va_tlen hx hb (sV0 hE.2.2.1) hS (v := 4) rfl dX6_isMetre_8 ?_
    refine lv_icmp_ge (tgt := 26) hx hb dX6_isMetre_9 (by decide) (fun c_2 => ?_) (fun c_2 => ?_)
    · rw [if_pos c_2] at hM
      refine lv_iconst (v := 0) hx hb dX6_isMetre_26 (by decide) ?_
      have q1 := Option.some.inj hM
      subst q1
      exact kr _ _ _ _ dX6_isMetre_27 (by decide) hP hD hS
    · rw [if_neg c_2] at hM
      refine lv_iload_n hx hb dX6_isMetre_12 rfl (lv_at hl 1 rfl) ?_
      refine lv_iconst (v := 1) hx hb dX6_isMetre_13 (by decide) ?_
      refine lv_icmp_lt (tgt := 26) hx hb dX6_isMetre_14 (by decide) (fun c_3 => ?_) (fun c_3 => ?_)
      · rw [if_pos c_3] at hM
        refine lv_iconst (v := 0) hx hb dX6_isMetre_26 (by decide) ?_
        have q1 := Option.some.inj hM
        subst q1
        exact kr _ _ _ _ dX6_isMetre_27 (by decide) hP hD hS
      · rw [if_neg c_3] at hM
        refine lv_iload_n hx hb dX6_isMetre_17 rfl (lv_at hl 1 rfl) ?_
        refine lv_iconst (v := 5) hx hb dX6_isMetre_18 (by decide) ?_
        refine lv_icmp_gt (tgt := 26) hx hb dX6_isMetre_19 (by decide) (fun c_4 => ?_) (fun c_4 => ?_)
        · rw [if_pos c_4] at hM
          refine lv_iconst (v := 0) hx hb dX6_isMetre_26 (by decide) ?_
          have q1 := Option.some.inj hM
          subst q1
          exact kr _ _ _ _ dX6_isMetre_27 (by decide) hP hD hS
        · rw [if_neg c_4] at hM
          refine lv_iconst (v := 1) hx hb dX6_isMetre_22 (by decide) ?_
          refine lv_goto (tgt := 27) hx hb dX6_isMetre_23 (by decide) ?_
          have q1 := Option.some.inj hM
          subst q1
          exact kr _ _ _ _ dX6_isMetre_27 (by decide) hP hD hS
set_option maxHeartbeats 4000000 in
set_option maxRecDepth 100000 in
theorem kX6_isMetre (l : Launch) (G : va_G) (K : Nat → ClassId) (tt : Nat → Nat) (L : List Nat) (la : Nat → Nat) (sa : Nat → Nat) (ln : Nat → Int32) (sy : Nat → Int32) (sn : Nat → Int32) (lt : Nat → Nat → Int32) (st : Nat → Nat → Int32)  (p1 : Int32) (p2 : Int32) (sz : Nat) (r : Int32)  (hM : mX6_isMetre p1 p2 = some r) : Met l yX6_isMetre (mC yX6_isMetre cX6_isMetre 2 (some .boolean)) rmX6_isMetre (va_Pc [.int p1, .int p2] (PCe G K (EC G K tt L la sa ln sy sn lt st) [] sz)) (va_Qi (fun (x : Int32) (_ : Unit) => x = r) (fun _ t => va_P G vwCl [] t.heap) (va_A [] sz)) rmX6_isMetre.cells rmX6_isMetre.slots (va_A [] sz) := by
  refine Met.ofW (cc := cX6_isMetre) (maxL := 2) (ret := (some .boolean)) (by decide) rfl ?_
  intro p e s m args below meth c s₁ B hml hv
  obtain ⟨rfl, hsz, hP, hK, hD0, hE⟩ := hv
  have hx := B.exec
  have hb := B.bytes
  have hr := B.returns
  have hts0 := atoms_spec (ws := mC yX6_isMetre cX6_isMetre 2 (some .boolean)) B.pre
  have hts : ∀ w ∈ tbG, w.before _ s = true := fun w h => hts0 w (List.mem_cons_of_mem _ h)
  have hown : s.vm.findClass RX6 = some m.cls := findClass_of_methodNamed B.named
  subst hsz
  have hD := hD0.self (sz := s.heap.size)
  generalize hAe : va_A [] s.heap.size = A at hD hE ⊢
  have hA : ∀ q : Nat, s.heap.size ≤ q → A q := fun q h => by rw [← hAe]; exact Or.inr h
  have hS : va_S A s.heap s.heap [] := va_S.rf
  have hl := lv_entry ([.int p1, .int p2]) (n := 2) (Nat.le_of_ble_eq_true rfl)
  rw [lg_entry_eq]
  generalize (lg_sl ([.int p1, .int p2]) ++ List.replicate (2 - (lg_sl ([.int p1, .int p2])).length) Slot.unset).toArray = ls at hl ⊢
  have hl : lv_has ls 2 [(0, .int p1), (1, .int p2)] := hl
  exact wX6_isMetre_b0 ⟨hx, hb, hml, hown, hts, hK, hA, EC_ok _ _ _ _ _ _ _ _ _ _ _, hE⟩ p1 p2 r (fun H locs ls pc hdg hz hP hD hS => W.zret (v := r) (ty := .boolean) hx hb hr (nar_b hz) (fun t ht hW => ⟨⟨r, (), rfl, rfl, (show va_P G vwCl _ t.heap by rw [ht]; exact hP)⟩, hS.F ht⟩) hS.2.2 hdg)   hM _ _ _ hP hD hS hl
abbrev WX6_metre (K : Nat → ClassId) (x_a xA_rows rd_a v_a d_a xA_images ac_a er_a xA_hits xA_bodies vA_sizes vA_kinds vA_spelled vA_scheme acA_sorts acA_firsts acA_seconds acA_takenKinds acA_takenSpellings : Nat) (x_begun : Int32) (x_latestFault : Int32) (x_latestFinding : Int32) (v_foot : Int32) (v_feet : Int32) (v_lines : Int32) (v_words : Int32) (v_sizes : Nat → Int32) (v_kinds : Nat → Int32) (v_spelled : Nat → Nat) (v_scheme : Nat → Int32) (ac_next : Int32) (ac_kept : Int32) (ac_sorts : Nat → Int32) (ac_firsts : Nat → Int32) (ac_seconds : Nat → Int32) (ac_takenKinds : Nat → Int32) (ac_takenSpellings : Nat → Nat) : va_W := [(x_a, .inr (6, [.ref xA_rows, .ref rd_a, .ref v_a, .ref d_a, .ref xA_images, .ref ac_a, .ref er_a, .ref xA_hits, .ref xA_bodies, .int x_begun, .int x_latestFault, .int x_latestFinding])), (v_a, .inr (2, [.int v_foot, .int v_feet, .int v_lines, .int v_words, .ref vA_sizes, .ref vA_kinds, .ref vA_spelled, .ref vA_scheme])), aI K vA_sizes 4 v_sizes, aI K vA_kinds 20 v_kinds, aS K vA_spelled 20 v_spelled, aI K vA_scheme 4 v_scheme, (ac_a, .inr (0, [.ref acA_sorts, .ref acA_firsts, .ref acA_seconds, .ref acA_takenKinds, .ref acA_takenSpellings, .int ac_next, .int ac_kept])), aI K acA_sorts 24 ac_sorts, aI K acA_firsts 24 ac_firsts, aI K acA_seconds 24 ac_seconds, aI K acA_takenKinds 24 ac_takenKinds, aS K acA_takenSpellings 24 ac_takenSpellings]
def rmX6_metre : Room := { frames := 2, cells := 0, slots := 0, locals := 46 }
theorem hdX6_metre : yX6_metre.cls = RX6 ∧ yX6_metre.cls ≠ "java/lang/invoke/MethodHandle" ∧ yX6_metre.cls ≠ "java/lang/invoke/VarHandle" ∧ (parseMethodDescriptor yX6_metre.desc).map (fun d => d.parameters.length) = some 2 := by decide +kernel
set_option maxHeartbeats 4000000 in
set_option maxRecDepth 100000 in
theorem wX6_metre_b0 {p : Program} {l : Launch} {e : Env} {s : State} {m : MethodId} {args : Array Value} {below : List Frame} {meth : Method} {c : Code} {Q : State → Prop} {G : va_G} {K : Nat → ClassId} {A : Nat → Prop} {tt : Nat → Nat} {L : List Nat} {la : Nat → Nat} {sa : Nat → Nat} {ln : Nat → Int32} {sy : Nat → Int32} {sn : Nat → Int32} {lt : Nat → Nat → Int32} {st : Nat → Nat → Int32} (C0 : CX p s m args c cX6_metre 4 RX6 G K (EC G K tt L la sa ln sy sn lt st) A) (x_a xA_rows rd_a v_a d_a xA_images ac_a er_a xA_hits xA_bodies vA_sizes vA_kinds vA_spelled vA_scheme acA_sorts acA_firsts acA_seconds acA_takenKinds acA_takenSpellings : Nat) (x_begun : Int32) (x_latestFault : Int32) (x_latestFinding : Int32) (v_lines : Int32) (v_words : Int32) (v_sizes : Nat → Int32) (v_kinds : Nat → Int32) (v_spelled : Nat → Nat) (v_scheme : Nat → Int32) (ac_takenKinds : Nat → Int32) (ac_takenSpellings : Nat → Nat) (p1 : Int32) (p2 : Int32) (r : Int32) (o_v_foot : Int32) (o_v_feet : Int32) (o_ac_next : Int32) (o_ac_kept : Int32) (o_ac_sorts : Nat → Int32) (o_ac_firsts : Nat → Int32) (o_ac_seconds : Nat → Int32) (kr : ∀ (H : Heap) (locs : List Loc) (ls : Array Slot) (pc : Nat), decode cX6_metre pc = .ok (.ireturn, 1) → va_P G vwCl (WX6_metre K x_a xA_rows rd_a v_a d_a xA_images ac_a er_a xA_hits xA_bodies vA_sizes vA_kinds vA_spelled vA_scheme acA_sorts acA_firsts acA_seconds acA_takenKinds acA_takenSpellings x_begun x_latestFault x_latestFinding o_v_foot o_v_feet v_lines v_words v_sizes v_kinds v_spelled v_scheme o_ac_next o_ac_kept o_ac_sorts o_ac_firsts o_ac_seconds ac_takenKinds ac_takenSpellings) H → va_D A (WX6_metre K x_a xA_rows rd_a v_a d_a xA_images ac_a er_a xA_hits xA_bodies vA_sizes vA_kinds vA_spelled vA_scheme acA_sorts acA_firsts acA_seconds acA_takenKinds acA_takenSpellings x_begun x_latestFault x_latestFinding o_v_foot o_v_feet v_lines v_words v_sizes v_kinds v_spelled v_scheme o_ac_next o_ac_kept o_ac_sorts o_ac_firsts o_ac_seconds ac_takenKinds ac_takenSpellings) → va_S A s.heap H locs → W p l e rmX6_metre s m args below meth c H locs 0 0 Q (F0 m pc ls [.int r])) (v_foot : Int32) (v_feet : Int32) (ac_next : Int32) (ac_kept : Int32) (ac_sorts : Nat → Int32) (ac_firsts : Nat → Int32) (ac_seconds : Nat → Int32) (hM : mX6_metre_b0 v_lines p1 p2  v_foot v_feet ac_next ac_kept ac_sorts ac_firsts ac_seconds = some (r, o_v_foot, o_v_feet, o_ac_next, o_ac_kept, o_ac_sorts, o_ac_firsts, o_ac_seconds)) : ∀ (H : Heap) (locs : List Loc) (ls : Array Slot), va_P G vwCl (WX6_metre K x_a xA_rows rd_a v_a d_a xA_images ac_a er_a xA_hits xA_bodies vA_sizes vA_kinds vA_spelled vA_scheme acA_sorts acA_firsts acA_seconds acA_takenKinds acA_takenSpellings x_begun x_latestFault x_latestFinding v_foot v_feet v_lines v_words v_sizes v_kinds v_spelled v_scheme ac_next ac_kept ac_sorts ac_firsts ac_seconds ac_takenKinds ac_takenSpellings) H → va_D A (WX6_metre K x_a xA_rows rd_a v_a d_a xA_images ac_a er_a xA_hits xA_bodies vA_sizes vA_kinds vA_spelled vA_scheme acA_sorts acA_firsts acA_seconds acA_takenKinds acA_takenSpellings x_begun x_latestFault x_latestFinding v_foot v_feet v_lines v_words v_sizes v_kinds v_spelled v_scheme ac_next ac_kept ac_sorts ac_firsts ac_seconds ac_takenKinds ac_takenSpellings) → va_S A s.heap H locs → lv_has ls 4 [(0, .ref x_a), (1, .int p1), (2, .int p2)] → W p l e rmX6_metre s m args below meth c H locs 0 0 Q (F0 m 0 ls []) := by
  obtain ⟨hx, hb, hml, hown, hts, hK, hA, hEo, hE⟩ := id C0
  intro H locs ls hP hD hS hl
  unfold mX6_metre_b0 at hM
  refine lv_aload_n hx hb dX6_metre_0 rfl (lv_at hl 0 rfl) ?_
  refine va_get (D := G) (ci := 6) (v := .ref v_a) (C := RX6) (T := TX6) (N := 12) hx hb hts inX6 hown hK hP 0 rfl rfl 2 (by decide) (hts _ tb247) (fun _ h9 => h9) rfl dX6_metre_1 ?_
  refine va_get (D := G) (ci := 2) (v := .int v_lines) (C := RX2) (T := TX2) (N := 8) hx hb hts inX2 hown hK hP 1 rfl rfl 2 (by decide) (hts _ tb183) (fun _ h9 => h9) rfl dX6_metre_4 ?_
  refine lv_if_ne (tgt := 13) hx hb dX6_metre_7 (by decide) (fun c_1 => ?_) (fun c_1 => ?_)
  · rw [if_neg c_1] at hM
    refine lv_iload_n hx hb dX6_metre_13 rfl (lv_at hl 1 rfl) ?_
    refine lv_iload_n hx hb dX6_metre_14 rfl (lv_at hl 2 rfl) ?_
    obtain ⟨r_2, hC, hM⟩ := oe1 hM
    refine cS_i (As := [.int p1, .int p2]) (rest := []) C0 hP hD hS [] (kX6_isMetre l G K tt L la sa ln sy sn lt st p1 p2 H.size r_2 hC) rfl rfl rfl tb481 tb482 tb1 tb483 hdX6_isMetre ⟨Nat.le_of_ble_eq_true rfl, Nat.le_of_ble_eq_true rfl⟩ rfl hl.1 (Nat.le_of_ble_eq_true rfl) rfl ⟨Nat.le_refl _, Nat.le_refl _⟩ dX6_metre_15 (fun H locs hP hD hS => ?_)
    have hP : va_P G vwCl (WX6_metre K x_a xA_rows rd_a v_a d_a xA_images ac_a er_a xA_hits xA_bodies vA_sizes vA_kinds vA_spelled vA_scheme acA_sorts acA_firsts acA_seconds acA_takenKinds acA_takenSpellings x_begun x_latestFault x_latestFinding v_foot v_feet v_lines v_words v_sizes v_kinds v_spelled v_scheme ac_next ac_kept ac_sorts ac_firsts ac_seconds ac_takenKinds ac_takenSpellings) H := hP
    have hD : va_D A (WX6_metre K x_a xA_rows rd_a v_a d_a xA_images ac_a er_a xA_hits xA_bodies vA_sizes vA_kinds vA_spelled vA_scheme acA_sorts acA_firsts acA_seconds acA_takenKinds acA_takenSpellings x_begun x_latestFault x_latestFinding v_foot v_feet v_lines v_words v_sizes v_kinds v_spelled v_scheme ac_next ac_kept ac_sorts ac_firsts ac_seconds ac_takenKinds ac_takenSpellings) := hD
    refine lv_if_ne (tgt := 24) hx hb dX6_metre_18 (by decide) (fun c_3 => ?_) (fun c_3 => ?_)
    · rw [if_neg c_3] at hM
      refine lv_bipush (v := 10) hx hb dX6_metre_24 (by decide) ?_
      refine lv_aload_n hx hb dX6_metre_26 rfl (lv_at hl 0 rfl) ?_
      refine va_get (D := G) (ci := 6) (v := .ref v_a) (C := RX6) (T := TX6) (N := 12) hx hb hts inX6 hown hK hP 0 rfl rfl 2 (by decide) (hts _ tb247) (fun _ h9 => h9) rfl dX6_metre_27 ?_
      refine va_get (D := G) (ci := 2) (v := .int v_foot) (C := RX2) (T := TX2) (N := 8) hx hb hts inX2 hown hK hP 1 rfl rfl 0 (by decide) (hts _ tb176) (fun _ h9 => h9) rfl dX6_metre_30 ?_
      refine lv_imul hx hb dX6_metre_33 ?_
      refine lv_aload_n hx hb dX6_metre_34 rfl (lv_at hl 0 rfl) ?_
      refine va_get (D := G) (ci := 6) (v := .ref v_a) (C := RX6) (T := TX6) (N := 12) hx hb hts inX6 hown hK hP 0 rfl rfl 2 (by decide) (hts _ tb247) (fun _ h9 => h9) rfl dX6_metre_35 ?_
      refine va_get (D := G) (ci := 2) (v := .int v_feet) (C := RX2) (T := TX2) (N := 8) hx hb hts inX2 hown hK hP 1 rfl rfl 1 (by decide) (hts _ tb180) (fun _ h9 => h9) rfl dX6_metre_38 ?_
      refine lv_iadd hx hb dX6_metre_41 ?_
      refine lv_istore_n (lv' := [(3, .int (((10 : Int32) * v_foot) + v_feet)), (0, .ref x_a), (1, .int p1), (2, .int p2)]) hx hb dX6_metre_42 rfl hl (by decide) rfl (fun ls hl => ?_)
      refine lv_aload_n hx hb dX6_metre_43 rfl (lv_at hl 1 rfl) ?_
      refine va_get (D := G) (ci := 6) (v := .ref ac_a) (C := RX6) (T := TX6) (N := 12) hx hb hts inX6 hown hK hP 0 rfl rfl 5 (by decide) (hts _ tb250) (fun _ h9 => h9) rfl dX6_metre_44 ?_
      refine lv_iconst (v := 4) hx hb dX6_metre_47 (by decide) ?_
      refine lv_aload_n hx hb dX6_metre_48 rfl (lv_at hl 1 rfl) ?_
      refine va_get (D := G) (ci := 6) (v := .ref v_a) (C := RX6) (T := TX6) (N := 12) hx hb hts inX6 hown hK hP 0 rfl rfl 2 (by decide) (hts _ tb247) (fun _ h9 => h9) rfl dX6_metre_49 ?_
      refine va_get (D := G) (ci := 2) (v := .int v_foot) (C := RX2) (T := TX2) (N := 8) hx hb hts inX2 hown hK hP 1 rfl rfl 0 (by decide) (hts _ tb176) (fun _ h9 => h9) rfl dX6_metre_52 ?_
      refine lv_aload_n hx hb dX6_metre_55 rfl (lv_at hl 1 rfl) ?_
      refine va_get (D := G) (ci := 6) (v := .ref v_a) (C := RX6) (T := TX6) (N := 12) hx hb hts inX6 hown hK hP 0 rfl rfl 2 (by decide) (hts _ tb247) (fun _ h9 => h9) rfl dX6_metre_56 ?_
      refine va_get (D := G) (ci := 2) (v := .int v_feet) (C := RX2) (T := TX2) (N := 8) hx hb hts inX2 hown hK hP 1 rfl rfl 1 (by decide) (hts _ tb180) (fun _ h9 => h9) rfl dX6_metre_59 ?_
      obtain ⟨u0_4, u1_4, u2_4, u3_4, u4_4, hC, hM⟩ := oe5 hM
      refine cV_v (As := [.int (4 : Int32), .int v_foot, .int v_feet]) (rest := []) C0 hP hD hS [6, 7, 8, 9, 10, 11] (kX0_keep l G K tt L la sa ln sy sn lt st ac_a acA_sorts acA_firsts acA_seconds acA_takenKinds acA_takenSpellings ac_next ac_kept ac_sorts ac_firsts ac_seconds ac_takenKinds ac_takenSpellings (4 : Int32) v_foot v_feet H.size u0_4 u1_4 u2_4 u3_4 u4_4 hC) rfl rfl rfl tb436 tb437 tb438 tb8 tb439 hdX0_keep (va_recv hK hP (ci := 0) (q0 := 6) rfl rfl) ⟨Nat.le_of_ble_eq_true rfl, Nat.le_of_ble_eq_true rfl⟩ rfl hl.1 (Nat.le_of_ble_eq_true rfl) rfl ⟨Nat.le_refl _, Nat.le_refl _⟩ dX6_metre_62 (fun H locs hP hD hS => ?_)
      have hP : va_P G vwCl (WX6_metre K x_a xA_rows rd_a v_a d_a xA_images ac_a er_a xA_hits xA_bodies vA_sizes vA_kinds vA_spelled vA_scheme acA_sorts acA_firsts acA_seconds acA_takenKinds acA_takenSpellings x_begun x_latestFault x_latestFinding v_foot v_feet v_lines v_words v_sizes v_kinds v_spelled v_scheme u0_4 u1_4 u2_4 u3_4 u4_4 ac_takenKinds ac_takenSpellings) H := hP
      have hD : va_D A (WX6_metre K x_a xA_rows rd_a v_a d_a xA_images ac_a er_a xA_hits xA_bodies vA_sizes vA_kinds vA_spelled vA_scheme acA_sorts acA_firsts acA_seconds acA_takenKinds acA_takenSpellings x_begun x_latestFault x_latestFinding v_foot v_feet v_lines v_words v_sizes v_kinds v_spelled v_scheme u0_4 u1_4 u2_4 u3_4 u4_4 ac_takenKinds ac_takenSpellings) := hD
      refine lv_aload_n hx hb dX6_metre_65 rfl (lv_at hl 1 rfl) ?_
      refine va_get (D := G) (ci := 6) (v := .ref v_a) (C := RX6) (T := TX6) (N := 12) hx hb hts inX6 hown hK hP 0 rfl rfl 2 (by decide) (hts _ tb247) (fun _ h9 => h9) rfl dX6_metre_66 ?_
      refine lv_iload_n hx hb dX6_metre_69 rfl (lv_at hl 2 rfl) ?_
      refine va_put (D := G) (ci := 2) (v := .int p1) (ty := .int) (C := RX2) (T := TX2) (N := 8) hx hb hts inX2 tyX2 tyX2_ok nmX2 hown hK hP hD hS 1 rfl rfl 0 (by decide) (hts _ tb176) (fun _ h9 => h9) rfl (tyX2_ok 0 (by decide)) rfl rfl (Nat.le_of_ble_eq_true rfl) dX6_metre_70 (fun H locs hP hD hS => ?_)
      have hP : va_P G vwCl (WX6_metre K x_a xA_rows rd_a v_a d_a xA_images ac_a er_a xA_hits xA_bodies vA_sizes vA_kinds vA_spelled vA_scheme acA_sorts acA_firsts acA_seconds acA_takenKinds acA_takenSpellings x_begun x_latestFault x_latestFinding p1 v_feet v_lines v_words v_sizes v_kinds v_spelled v_scheme u0_4 u1_4 u2_4 u3_4 u4_4 ac_takenKinds ac_takenSpellings) H := hP
      have hD : va_D A (WX6_metre K x_a xA_rows rd_a v_a d_a xA_images ac_a er_a xA_hits xA_bodies vA_sizes vA_kinds vA_spelled vA_scheme acA_sorts acA_firsts acA_seconds acA_takenKinds acA_takenSpellings x_begun x_latestFault x_latestFinding p1 v_feet v_lines v_words v_sizes v_kinds v_spelled v_scheme u0_4 u1_4 u2_4 u3_4 u4_4 ac_takenKinds ac_takenSpellings) := hD
      refine lv_aload_n hx hb dX6_metre_73 rfl (lv_at hl 1 rfl) ?_
      refine va_get (D := G) (ci := 6) (v := .ref v_a) (C := RX6) (T := TX6) (N := 12) hx hb hts inX6 hown hK hP 0 rfl rfl 2 (by decide) (hts _ tb247) (fun _ h9 => h9) rfl dX6_metre_74 ?_
      refine lv_iload_n hx hb dX6_metre_77 rfl (lv_at hl 3 rfl) ?_
      refine va_put (D := G) (ci := 2) (v := .int p2) (ty := .int) (C := RX2) (T := TX2) (N := 8) hx hb hts inX2 tyX2 tyX2_ok nmX2 hown hK hP hD hS 1 rfl rfl 1 (by decide) (hts _ tb180) (fun _ h9 => h9) rfl (tyX2_ok 1 (by decide)) rfl rfl (Nat.le_of_ble_eq_true rfl) dX6_metre_78 (fun H locs hP hD hS => ?_)
      have hP : va_P G vwCl (WX6_metre K x_a xA_rows rd_a v_a d_a xA_images ac_a er_a xA_hits xA_bodies vA_sizes vA_kinds vA_spelled vA_scheme acA_sorts acA_firsts acA_seconds acA_takenKinds acA_takenSpellings x_begun x_latestFault x_latestFinding p1 p2 v_lines v_words v_sizes v_kinds v_spelled v_scheme u0_4 u1_4 u2_4 u3_4 u4_4 ac_takenKinds ac_takenSpellings) H := hP
      have hD : va_D A (WX6_metre K x_a xA_rows rd_a v_a d_a xA_images ac_a er_a xA_hits xA_bodies vA_sizes vA_kinds vA_spelled vA_scheme acA_sorts acA_firsts acA_seconds acA_takenKinds acA_takenSpellings x_begun x_latestFault x_latestFinding p1 p2 v_lines v_words v_sizes v_kinds v_spelled v_scheme u0_4 u1_4 u2_4 u3_4 u4_4 ac_takenKinds ac_takenSpellings) := hD
      refine lv_iload_n hx hb dX6_metre_81 rfl (lv_at hl 0 rfl) ?_
      have t0 := Option.some.inj hM
      obtain ⟨q1, t1⟩ := Prod.mk.inj t0
      obtain ⟨q2, t2⟩ := Prod.mk.inj t1
      obtain ⟨q3, t3⟩ := Prod.mk.inj t2
      obtain ⟨q4, t4⟩ := Prod.mk.inj t3
      obtain ⟨q5, t5⟩ := Prod.mk.inj t4
      obtain ⟨q6, t6⟩ := Prod.mk.inj t5
      obtain ⟨q7, t7⟩ := Prod.mk.inj t6
      subst q1
      subst q2
      subst q3
      subst q4
      subst q5
      subst q6
      subst q7
      subst t7
      exact kr _ _ _ _ dX6_metre_82 hP hD hS
    · rw [if_pos c_3] at hM
      refine lv_ldc (v := -1000001) hx hb hown (hts _ tb289) dX6_metre_21 ?_
      have t0 := Option.some.inj hM
      obtain ⟨q1, t1⟩ := Prod.mk.inj t0
      obtain ⟨q2, t2⟩ := Prod.mk.inj t1
      obtain ⟨q3, t3⟩ := Prod.mk.inj t2
      obtain ⟨q4, t4⟩ := Prod.mk.inj t3
      obtain ⟨q5, t5⟩ := Prod.mk.inj t4
      obtain ⟨q6, t6⟩ := Prod.mk.inj t5
      obtain ⟨q7, t7⟩ := Prod.mk.inj t6
      subst q1
      subst q2
      subst q3
      subst q4
      subst q5
      subst q6
      subst q7
      subst t7
      exact kr _ _ _ _ dX6_metre_23 hP hD hS
  · rw [if_pos c_1] at hM
    refine lv_ldc (v := -1000002) hx hb hown (hts _ tb409) dX6_metre_10 ?_
    have t0 := Option.some.inj hM
    obtain ⟨q1, t1⟩ := Prod.mk.inj t0
    obtain ⟨q2, t2⟩ := Prod.mk.inj t1
    obtain ⟨q3, t3⟩ := Prod.mk.inj t2
    obtain ⟨q4, t4⟩ := Prod.mk.inj t3
    obtain ⟨q5, t5⟩ := Prod.mk.inj t4
    obtain ⟨q6, t6⟩ := Prod.mk.inj t5
    obtain ⟨q7, t7⟩ := Prod.mk.inj t6
    subst q1
    subst q2
    subst q3
    subst q4
    subst q5
    subst q6
    subst q7
    subst t7
    exact kr _ _ _ _ dX6_metre_12 hP hD hS
set_option maxHeartbeats 4000000 in
set_option maxRecDepth 100000 in
theorem kX6_metre (l : Launch) (G : va_G) (K : Nat → ClassId) (tt : Nat → Nat) (L : List Nat) (la : Nat → Nat) (sa : Nat → Nat) (ln : Nat → Int32) (sy : Nat → Int32) (sn : Nat → Int32) (lt : Nat → Nat → Int32) (st : Nat → Nat → Int32) (x_a xA_rows rd_a v_a d_a xA_images ac_a er_a xA_hits xA_bodies vA_sizes vA_kinds vA_spelled vA_scheme acA_sorts acA_firsts acA_seconds acA_takenKinds acA_takenSpellings : Nat) (x_begun : Int32) (x_latestFault : Int32) (x_latestFinding : Int32) (v_foot : Int32) (v_feet : Int32) (v_lines : Int32) (v_words : Int32) (v_sizes : Nat → Int32) (v_kinds : Nat → Int32) (v_spelled : Nat → Nat) (v_scheme : Nat → Int32) (ac_next : Int32) (ac_kept : Int32) (ac_sorts : Nat → Int32) (ac_firsts : Nat → Int32) (ac_seconds : Nat → Int32) (ac_takenKinds : Nat → Int32) (ac_takenSpellings : Nat → Nat) (p1 : Int32) (p2 : Int32) (sz : Nat) (r : Int32) (o_v_foot : Int32) (o_v_feet : Int32) (o_ac_next : Int32) (o_ac_kept : Int32) (o_ac_sorts : Nat → Int32) (o_ac_firsts : Nat → Int32) (o_ac_seconds : Nat → Int32) (hM : mX6_metre v_lines v_foot v_feet ac_next ac_kept ac_sorts ac_firsts ac_seconds p1 p2 = some (r, o_v_foot, o_v_feet, o_ac_next, o_ac_kept, o_ac_sorts, o_ac_firsts, o_ac_seconds)) : Met l yX6_metre (mC yX6_metre cX6_metre 4 (some .int)) rmX6_metre (va_Pc [.ref x_a, .int p1, .int p2] (PCe G K (EC G K tt L la sa ln sy sn lt st) (WX6_metre K x_a xA_rows rd_a v_a d_a xA_images ac_a er_a xA_hits xA_bodies vA_sizes vA_kinds vA_spelled vA_scheme acA_sorts acA_firsts acA_seconds acA_takenKinds acA_takenSpellings x_begun x_latestFault x_latestFinding v_foot v_feet v_lines v_words v_sizes v_kinds v_spelled v_scheme ac_next ac_kept ac_sorts ac_firsts ac_seconds ac_takenKinds ac_takenSpellings) sz)) (va_Qi (fun (x : Int32) (_ : Unit) => x = r) (fun _ t => va_P G vwCl (WX6_metre K x_a xA_rows rd_a v_a d_a xA_images ac_a er_a xA_hits xA_bodies vA_sizes vA_kinds vA_spelled vA_scheme acA_sorts acA_firsts acA_seconds acA_takenKinds acA_takenSpellings x_begun x_latestFault x_latestFinding o_v_foot o_v_feet v_lines v_words v_sizes v_kinds v_spelled v_scheme o_ac_next o_ac_kept o_ac_sorts o_ac_firsts o_ac_seconds ac_takenKinds ac_takenSpellings) t.heap) (va_A (WX6_metre K x_a xA_rows rd_a v_a d_a xA_images ac_a er_a xA_hits xA_bodies vA_sizes vA_kinds vA_spelled vA_scheme acA_sorts acA_firsts acA_seconds acA_takenKinds acA_takenSpellings x_begun x_latestFault x_latestFinding v_foot v_feet v_lines v_words v_sizes v_kinds v_spelled v_scheme ac_next ac_kept ac_sorts ac_firsts ac_seconds ac_takenKinds ac_takenSpellings) sz)) rmX6_metre.cells rmX6_metre.slots (va_A (WX6_metre K x_a xA_rows rd_a v_a d_a xA_images ac_a er_a xA_hits xA_bodies vA_sizes vA_kinds vA_spelled vA_scheme acA_sorts acA_firsts acA_seconds acA_takenKinds acA_takenSpellings x_begun x_latestFault x_latestFinding v_foot v_feet v_lines v_words v_sizes v_kinds v_spelled v_scheme ac_next ac_kept ac_sorts ac_firsts ac_seconds ac_takenKinds ac_takenSpellings) sz) := by
  refine Met.ofW (cc := cX6_metre) (maxL := 4) (ret := (some .int)) (by decide) rfl ?_
  intro p e s m args below meth c s₁ B hml hv
  obtain ⟨rfl, hsz, hP, hK, hD0, hE⟩ := hv
  have hx := B.exec
  have hb := B.bytes
  have hr := B.returns
  have hts0 := atoms_spec (ws := mC yX6_metre cX6_metre 4 (some .int)) B.pre
  have hts : ∀ w ∈ tbG, w.before _ s = true := fun w h => hts0 w (List.mem_cons_of_mem _ h)
  have hown : s.vm.findClass RX6 = some m.cls := findClass_of_methodNamed B.named
  subst hsz
  have hD := hD0.self (sz := s.heap.size)
  generalize hAe : va_A (WX6_metre K x_a xA_rows rd_a v_a d_a xA_images ac_a er_a xA_hits xA_bodies vA_sizes vA_kinds vA_spelled vA_scheme acA_sorts acA_firsts acA_seconds acA_takenKinds acA_takenSpellings x_begun x_latestFault x_latestFinding v_foot v_feet v_lines v_words v_sizes v_kinds v_spelled v_scheme ac_next ac_kept ac_sorts ac_firsts ac_seconds ac_takenKinds ac_takenSpellings) s.heap.size = A at hD hE ⊢
  have hA : ∀ q : Nat, s.heap.size ≤ q → A q := fun q h => by rw [← hAe]; exact Or.inr h
  have hS : va_S A s.heap s.heap [] := va_S.rf
  have hl := lv_entry ([.ref x_a, .int p1, .int p2]) (n := 4) (Nat.le_of_ble_eq_true rfl)
  rw [lg_entry_eq]
  generalize (lg_sl ([.ref x_a, .int p1, .int p2]) ++ List.replicate (4 - (lg_sl ([.ref x_a, .int p1, .int p2])).length) Slot.unset).toArray = ls at hl ⊢
  have hl : lv_has ls 4 [(0, .ref x_a), (1, .int p1), (2, .int p2)] := hl
  exact wX6_metre_b0 ⟨hx, hb, hml, hown, hts, hK, hA, EC_ok _ _ _ _ _ _ _ _ _ _ _, hE⟩ x_a xA_rows rd_a v_a d_a xA_images ac_a er_a xA_hits xA_bodies vA_sizes vA_kinds vA_spelled vA_scheme acA_sorts acA_firsts acA_seconds acA_takenKinds acA_takenSpellings x_begun x_latestFault x_latestFinding v_lines v_words v_sizes v_kinds v_spelled v_scheme ac_takenKinds ac_takenSpellings p1 p2 r o_v_foot o_v_feet o_ac_next o_ac_kept o_ac_sorts o_ac_firsts o_ac_seconds (fun H locs ls pc hdg hP hD hS => W.iret (v := r) hx hb hr (fun t ht hW => ⟨⟨r, (), rfl, rfl, (show va_P G vwCl _ t.heap by rw [ht]; exact hP)⟩, hS.F ht⟩) hS.2.2 hdg) v_foot v_feet ac_next ac_kept ac_sorts ac_firsts ac_seconds  hM _ _ _ hP hD hS hl
abbrev WX2_strongOnes (K : Nat → ClassId) (po_a poA_sizes poA_kinds poA_spelled poA_scheme : Nat) (po_foot : Int32) (po_feet : Int32) (po_lines : Int32) (po_words : Int32) (po_sizes : Nat → Int32) (po_kinds : Nat → Int32) (po_spelled : Nat → Nat) (po_scheme : Nat → Int32) : va_W := [(po_a, .inr (2, [.int po_foot, .int po_feet, .int po_lines, .int po_words, .ref poA_sizes, .ref poA_kinds, .ref poA_spelled, .ref poA_scheme])), aI K poA_sizes 4 po_sizes, aI K poA_kinds 20 po_kinds, aS K poA_spelled 20 po_spelled, aI K poA_scheme 4 po_scheme]
def rmX2_strongOnes : Room := { frames := 0, cells := 0, slots := 0, locals := 0 }
theorem hdX2_strongOnes : yX2_strongOnes.cls = RX2 ∧ yX2_strongOnes.cls ≠ "java/lang/invoke/MethodHandle" ∧ yX2_strongOnes.cls ≠ "java/lang/invoke/VarHandle" ∧ (parseMethodDescriptor yX2_strongOnes.desc).map (fun d => d.parameters.length) = some 1 := by decide +kernel
set_option maxHeartbeats 4000000 in
set_option maxRecDepth 100000 in
theorem wX2_strongOnes_b0 {p : Program} {l : Launch} {e : Env} {s : State} {m : MethodId} {args : Array Value} {below : List Frame} {meth : Method} {c : Code} {Q : State → Prop} {G : va_G} {K : Nat → ClassId} {A : Nat → Prop} {tt : Nat → Nat} {L : List Nat} {la : Nat → Nat} {sa : Nat → Nat} {ln : Nat → Int32} {sy : Nat → Int32} {sn : Nat → Int32} {lt : Nat → Nat → Int32} {st : Nat → Nat → Int32} (C0 : CX p s m args c cX2_strongOnes 4 RX2 G K (EC G K tt L la sa ln sy sn lt st) A) (po_a poA_sizes poA_kinds poA_spelled poA_scheme : Nat) (po_foot : Int32) (po_feet : Int32) (po_lines : Int32) (po_words : Int32) (po_sizes : Nat → Int32) (po_kinds : Nat → Int32) (po_spelled : Nat → Nat) (po_scheme : Nat → Int32) (p1 : Int32) (r : Int32)  (kr : ∀ (H : Heap) (locs : List Loc) (ls : Array Slot) (pc : Nat), decode cX2_strongOnes pc = .ok (.ireturn, 1) → va_P G vwCl (WX2_strongOnes K po_a poA_sizes poA_kinds poA_spelled poA_scheme po_foot po_feet po_lines po_words po_sizes po_kinds po_spelled po_scheme) H → va_D A (WX2_strongOnes K po_a poA_sizes poA_kinds poA_spelled poA_scheme po_foot po_feet po_lines po_words po_sizes po_kinds po_spelled po_scheme) → va_S A s.heap H locs → W p l e rmX2_strongOnes s m args below meth c H locs 0 0 Q (F0 m pc ls [.int r]))  (hM : mX2_strongOnes_b0 L sy po_kinds po_spelled p1   = some r) : ∀ (H : Heap) (locs : List Loc) (ls : Array Slot), va_P G vwCl (WX2_strongOnes K po_a poA_sizes poA_kinds poA_spelled poA_scheme po_foot po_feet po_lines po_words po_sizes po_kinds po_spelled po_scheme) H → va_D A (WX2_strongOnes K po_a poA_sizes poA_kinds poA_spelled poA_scheme po_foot po_feet po_lines po_words po_sizes po_kinds po_spelled po_scheme) → va_S A s.heap H locs → lv_has ls 4 [(0, .ref po_a), (1, .int p1)] → W p l e rmX2_strongOnes s m args below meth c H locs 0 0 Q (F0 m 0 ls []) := by
  obtain ⟨hx, hb, hml, hown, hts, hK, hA, hEo, hE⟩ := id C0
  intro H locs ls hP hD hS hl
  unfold mX2_strongOnes_b0 at hM
  refine lv_aload_n hx hb dX2_strongOnes_0 rfl (lv_at hl 0 rfl) ?_
  refine va_get (D := G) (ci := 2) (v := .ref poA_spelled) (C := RX2) (T := TX2) (N := 8) hx hb hts inX2 hown hK hP 0 rfl rfl 6 (by decide) (hts _ tb193) (fun _ h9 => h9) rfl dX2_strongOnes_1 ?_
  refine lv_iload_n hx hb dX2_strongOnes_4 rfl (lv_at hl 1 rfl) ?_
  obtain ⟨g_1, hM⟩ := ng hM
  refine va_aldq hx hb hK hP 3 2 rfl rfl g_1 dX2_strongOnes_5 ?_
  show W p l e rmX2_strongOnes s m args below meth c H locs 0 0 Q (F0 m 6 ls [.ref (po_spelled p1.toNatClampNeg)])
  obtain ⟨g_2, hM⟩ := ng hM
  refine va_get (D := G) (ci := 5) (v := .int (sy (po_spelled p1.toNatClampNeg))) (C := RX5) (T := TX5) (N := 5) hx hb hts inX5 hown hK (sp_at hE hS (Decidable.not_not.mp g_2)) 0 rfl rfl 2 (by decide) (hts _ tb131) (fun _ h9 => h9) rfl dX2_strongOnes_6 ?_
  refine lv_istore_n (lv' := [(2, .int (sy (po_spelled p1.toNatClampNeg))), (0, .ref po_a), (1, .int p1)]) hx hb dX2_strongOnes_9 rfl hl (by decide) rfl (fun ls hl => ?_)
  refine lv_iconst (v := 1) hx hb dX2_strongOnes_10 (by decide) ?_
  refine lv_iload_n hx hb dX2_strongOnes_11 rfl (lv_at hl 0 rfl) ?_
  refine lv_ishl hx hb dX2_strongOnes_12 ?_
  refine lv_iconst (v := 1) hx hb dX2_strongOnes_13 (by decide) ?_
  refine lv_isub hx hb dX2_strongOnes_14 ?_
  refine lv_istore_n (lv' := [(3, .int (((1 : Int32) <<< ((sy (po_spelled p1.toNatClampNeg)) &&& 31)) - (1 : Int32))), (2, .int (sy (po_spelled p1.toNatClampNeg))), (0, .ref po_a), (1, .int p1)]) hx hb dX2_strongOnes_15 rfl hl (by decide) rfl (fun ls hl => ?_)
  refine lv_aload_n hx hb dX2_strongOnes_16 rfl (lv_at hl 2 rfl) ?_
  refine va_get (D := G) (ci := 2) (v := .ref poA_kinds) (C := RX2) (T := TX2) (N := 8) hx hb hts inX2 hown hK hP 0 rfl rfl 5 (by decide) (hts _ tb190) (fun _ h9 => h9) rfl dX2_strongOnes_17 ?_
  refine lv_iload_n hx hb dX2_strongOnes_20 rfl (lv_at hl 3 rfl) ?_
  obtain ⟨g_3, hM⟩ := ng hM
  refine va_iald hx hb hK hP 2 0 rfl rfl g_3 dX2_strongOnes_21 ?_
  by_cases c_4 : (po_kinds p1.toNatClampNeg) = 1
  · rw [if_pos c_4] at hM
    refine lv_tableIn (off := 26) (tgt := 48) hx hb dX2_strongOnes_22 (by rw [c_4]; decide) (by rw [c_4]; decide) (by rw [c_4]; decide) (by decide) ?_
    refine lv_iconst (v := 1) hx hb dX2_strongOnes_48 (by decide) ?_
    refine lv_iload_n hx hb dX2_strongOnes_49 rfl (lv_at hl 0 rfl) ?_
    refine lv_iand hx hb dX2_strongOnes_50 ?_
    have q1 := Option.some.inj hM
    subst q1
    exact kr _ _ _ _ dX2_strongOnes_51 hP hD hS
  · rw [if_neg c_4] at hM
    by_cases c_5 : (po_kinds p1.toNatClampNeg) = 2
    · rw [if_pos c_5] at hM
      refine lv_tableIn (off := 30) (tgt := 52) hx hb dX2_strongOnes_22 (by rw [c_5]; decide) (by rw [c_5]; decide) (by rw [c_5]; decide) (by decide) ?_
      refine lv_iload_n hx hb dX2_strongOnes_52 rfl (lv_at hl 0 rfl) ?_
      refine lv_iload_n hx hb dX2_strongOnes_53 rfl (lv_at hl 0 rfl) ?_
      refine lv_iconst (v := 1) hx hb dX2_strongOnes_54 (by decide) ?_
      refine lv_ishr hx hb dX2_strongOnes_55 ?_
      refine lv_ixor hx hb dX2_strongOnes_56 ?_
      have q1 := Option.some.inj hM
      subst q1
      exact kr _ _ _ _ dX2_strongOnes_57 hP hD hS
    · rw [if_neg c_5] at hM
      by_cases c_6 : (po_kinds p1.toNatClampNeg) = 3
      · rw [if_pos c_6] at hM
        refine lv_tableIn (off := 36) (tgt := 58) hx hb dX2_strongOnes_22 (by rw [c_6]; decide) (by rw [c_6]; decide) (by rw [c_6]; decide) (by decide) ?_
        refine lv_ldc (v := 1431655765) hx hb hown (hts _ tb494) dX2_strongOnes_58 ?_
        refine lv_iload_n hx hb dX2_strongOnes_60 rfl (lv_at hl 0 rfl) ?_
        refine lv_iand hx hb dX2_strongOnes_61 ?_
        have q1 := Option.some.inj hM
        subst q1
        exact kr _ _ _ _ dX2_strongOnes_62 hP hD hS
      · rw [if_neg c_6] at hM
        refine lv_tableOut (tgt := 63) hx hb dX2_strongOnes_22 (by have q0 : (po_kinds p1.toNatClampNeg).toInt ≠ 1 := (fun q => c_4 (Int32.toInt_inj.mp (q.trans (by decide)))); have q1 : (po_kinds p1.toNatClampNeg).toInt ≠ 2 := (fun q => c_5 (Int32.toInt_inj.mp (q.trans (by decide)))); have q2 : (po_kinds p1.toNatClampNeg).toInt ≠ 3 := (fun q => c_6 (Int32.toInt_inj.mp (q.trans (by decide)))); omega) (by decide) ?_
        refine lv_iconst (v := 0) hx hb dX2_strongOnes_63 (by decide) ?_
        have q1 := Option.some.inj hM
        subst q1
        exact kr _ _ _ _ dX2_strongOnes_64 hP hD hS
set_option maxHeartbeats 4000000 in
set_option maxRecDepth 100000 in
theorem kX2_strongOnes (l : Launch) (G : va_G) (K : Nat → ClassId) (tt : Nat → Nat) (L : List Nat) (la : Nat → Nat) (sa : Nat → Nat) (ln : Nat → Int32) (sy : Nat → Int32) (sn : Nat → Int32) (lt : Nat → Nat → Int32) (st : Nat → Nat → Int32) (po_a poA_sizes poA_kinds poA_spelled poA_scheme : Nat) (po_foot : Int32) (po_feet : Int32) (po_lines : Int32) (po_words : Int32) (po_sizes : Nat → Int32) (po_kinds : Nat → Int32) (po_spelled : Nat → Nat) (po_scheme : Nat → Int32) (p1 : Int32) (sz : Nat) (r : Int32)  (hM : mX2_strongOnes L sy po_kinds po_spelled p1 = some r) : Met l yX2_strongOnes (mC yX2_strongOnes cX2_strongOnes 4 (some .int)) rmX2_strongOnes (va_Pc [.ref po_a, .int p1] (PCe G K (EC G K tt L la sa ln sy sn lt st) (WX2_strongOnes K po_a poA_sizes poA_kinds poA_spelled poA_scheme po_foot po_feet po_lines po_words po_sizes po_kinds po_spelled po_scheme) sz)) (va_Qi (fun (x : Int32) (_ : Unit) => x = r) (fun _ t => va_P G vwCl (WX2_strongOnes K po_a poA_sizes poA_kinds poA_spelled poA_scheme po_foot po_feet po_lines po_words po_sizes po_kinds po_spelled po_scheme) t.heap) (va_A (WX2_strongOnes K po_a poA_sizes poA_kinds poA_spelled poA_scheme po_foot po_feet po_lines po_words po_sizes po_kinds po_spelled po_scheme) sz)) rmX2_strongOnes.cells rmX2_strongOnes.slots (va_A (WX2_strongOnes K po_a poA_sizes poA_kinds poA_spelled poA_scheme po_foot po_feet po_lines po_words po_sizes po_kinds po_spelled po_scheme) sz) := by
  refine Met.ofW (cc := cX2_strongOnes) (maxL := 4) (ret := (some .int)) (by decide) rfl ?_
  intro p e s m args below meth c s₁ B hml hv
  obtain ⟨rfl, hsz, hP, hK, hD0, hE⟩ := hv
  have hx := B.exec
  have hb := B.bytes
  have hr := B.returns
  have hts0 := atoms_spec (ws := mC yX2_strongOnes cX2_strongOnes 4 (some .int)) B.pre
  have hts : ∀ w ∈ tbG, w.before _ s = true := fun w h => hts0 w (List.mem_cons_of_mem _ h)
  have hown : s.vm.findClass RX2 = some m.cls := findClass_of_methodNamed B.named
  subst hsz
  have hD := hD0.self (sz := s.heap.size)
  generalize hAe : va_A (WX2_strongOnes K po_a poA_sizes poA_kinds poA_spelled poA_scheme po_foot po_feet po_lines po_words po_sizes po_kinds po_spelled po_scheme) s.heap.size = A at hD hE ⊢
  have hA : ∀ q : Nat, s.heap.size ≤ q → A q := fun q h => by rw [← hAe]; exact Or.inr h
  have hS : va_S A s.heap s.heap [] := va_S.rf
  have hl := lv_entry ([.ref po_a, .int p1]) (n := 4) (Nat.le_of_ble_eq_true rfl)
  rw [lg_entry_eq]
  generalize (lg_sl ([.ref po_a, .int p1]) ++ List.replicate (4 - (lg_sl ([.ref po_a, .int p1])).length) Slot.unset).toArray = ls at hl ⊢
  have hl : lv_has ls 4 [(0, .ref po_a), (1, .int p1)] := hl
  exact wX2_strongOnes_b0 ⟨hx, hb, hml, hown, hts, hK, hA, EC_ok _ _ _ _ _ _ _ _ _ _ _, hE⟩ po_a poA_sizes poA_kinds poA_spelled poA_scheme po_foot po_feet po_lines po_words po_sizes po_kinds po_spelled po_scheme p1 r (fun H locs ls pc hdg hP hD hS => W.iret (v := r) hx hb hr (fun t ht hW => ⟨⟨r, (), rfl, rfl, (show va_P G vwCl _ t.heap by rw [ht]; exact hP)⟩, hS.F ht⟩) hS.2.2 hdg)   hM _ _ _ hP hD hS hl
abbrev WX2_eitherOnes (K : Nat → ClassId) (po_a poA_sizes poA_kinds poA_spelled poA_scheme : Nat) (po_foot : Int32) (po_feet : Int32) (po_lines : Int32) (po_words : Int32) (po_sizes : Nat → Int32) (po_kinds : Nat → Int32) (po_spelled : Nat → Nat) (po_scheme : Nat → Int32) : va_W := [(po_a, .inr (2, [.int po_foot, .int po_feet, .int po_lines, .int po_words, .ref poA_sizes, .ref poA_kinds, .ref poA_spelled, .ref poA_scheme])), aI K poA_sizes 4 po_sizes, aI K poA_kinds 20 po_kinds, aS K poA_spelled 20 po_spelled, aI K poA_scheme 4 po_scheme]
def rmX2_eitherOnes : Room := { frames := 0, cells := 0, slots := 0, locals := 0 }
theorem hdX2_eitherOnes : yX2_eitherOnes.cls = RX2 ∧ yX2_eitherOnes.cls ≠ "java/lang/invoke/MethodHandle" ∧ yX2_eitherOnes.cls ≠ "java/lang/invoke/VarHandle" ∧ (parseMethodDescriptor yX2_eitherOnes.desc).map (fun d => d.parameters.length) = some 1 := by decide +kernel
set_option maxHeartbeats 4000000 in
set_option maxRecDepth 100000 in
theorem wX2_eitherOnes_b0 {p : Program} {l : Launch} {e : Env} {s : State} {m : MethodId} {args : Array Value} {below : List Frame} {meth : Method} {c : Code} {Q : State → Prop} {G : va_G} {K : Nat → ClassId} {A : Nat → Prop} {tt : Nat → Nat} {L : List Nat} {la : Nat → Nat} {sa : Nat → Nat} {ln : Nat → Int32} {sy : Nat → Int32} {sn : Nat → Int32} {lt : Nat → Nat → Int32} {st : Nat → Nat → Int32} (C0 : CX p s m args c cX2_eitherOnes 2 RX2 G K (EC G K tt L la sa ln sy sn lt st) A) (po_a poA_sizes poA_kinds poA_spelled poA_scheme : Nat) (po_foot : Int32) (po_feet : Int32) (po_lines : Int32) (po_words : Int32) (po_sizes : Nat → Int32) (po_kinds : Nat → Int32) (po_spelled : Nat → Nat) (po_scheme : Nat → Int32) (p1 : Int32) (r : Int32)  (kr : ∀ (H : Heap) (locs : List Loc) (ls : Array Slot) (pc : Nat), decode cX2_eitherOnes pc = .ok (.ireturn, 1) → va_P G vwCl (WX2_eitherOnes K po_a poA_sizes poA_kinds poA_spelled poA_scheme po_foot po_feet po_lines po_words po_sizes po_kinds po_spelled po_scheme) H → va_D A (WX2_eitherOnes K po_a poA_sizes poA_kinds poA_spelled poA_scheme po_foot po_feet po_lines po_words po_sizes po_kinds po_spelled po_scheme) → va_S A s.heap H locs → W p l e rmX2_eitherOnes s m args below meth c H locs 0 0 Q (F0 m pc ls [.int r]))  (hM : mX2_eitherOnes_b0 L sy po_kinds po_spelled p1   = some r) : ∀ (H : Heap) (locs : List Loc) (ls : Array Slot), va_P G vwCl (WX2_eitherOnes K po_a poA_sizes poA_kinds poA_spelled poA_scheme po_foot po_feet po_lines po_words po_sizes po_kinds po_spelled po_scheme) H → va_D A (WX2_eitherOnes K po_a poA_sizes poA_kinds poA_spelled poA_scheme po_foot po_feet po_lines po_words po_sizes po_kinds po_spelled po_scheme) → va_S A s.heap H locs → lv_has ls 2 [(0, .ref po_a), (1, .int p1)] → W p l e rmX2_eitherOnes s m args below meth c H locs 0 0 Q (F0 m 0 ls []) := by
  obtain ⟨hx, hb, hml, hown, hts, hK, hA, hEo, hE⟩ := id C0
  intro H locs ls hP hD hS hl
  unfold mX2_eitherOnes_b0 at hM
  refine lv_aload_n hx hb dX2_eitherOnes_0 rfl (lv_at hl 0 rfl) ?_
  refine va_get (D := G) (ci := 2) (v := .ref poA_kinds) (C := RX2) (T := TX2) (N := 8) hx hb hts inX2 hown hK hP 0 rfl rfl 5 (by decide) (hts _ tb190) (fun _ h9 => h9) rfl dX2_eitherOnes_1 ?_
  refine lv_iload_n hx hb dX2_eitherOnes_4 rfl (lv_at hl 1 rfl) ?_
  obtain ⟨g_1, hM⟩ := ng hM
  refine va_iald hx hb hK hP 2 0 rfl rfl g_1 dX2_eitherOnes_5 ?_
  refine lv_iconst (v := 4) hx hb dX2_eitherOnes_6 (by decide) ?_
  refine lv_icmp_ne (tgt := 26) hx hb dX2_eitherOnes_7 (by decide) (fun c_2 => ?_) (fun c_2 => ?_)
  · rw [if_neg c_2] at hM
    refine lv_iconst (v := 0) hx hb dX2_eitherOnes_26 (by decide) ?_
    have q1 := Option.some.inj hM
    subst q1
    exact kr _ _ _ _ dX2_eitherOnes_27 hP hD hS
  · rw [if_pos c_2] at hM
    refine lv_iconst (v := 1) hx hb dX2_eitherOnes_10 (by decide) ?_
    refine lv_aload_n hx hb dX2_eitherOnes_11 rfl (lv_at hl 0 rfl) ?_
    refine va_get (D := G) (ci := 2) (v := .ref poA_spelled) (C := RX2) (T := TX2) (N := 8) hx hb hts inX2 hown hK hP 0 rfl rfl 6 (by decide) (hts _ tb193) (fun _ h9 => h9) rfl dX2_eitherOnes_12 ?_
    refine lv_iload_n hx hb dX2_eitherOnes_15 rfl (lv_at hl 1 rfl) ?_
    obtain ⟨g_3, hM⟩ := ng hM
    refine va_aldq hx hb hK hP 3 2 rfl rfl g_3 dX2_eitherOnes_16 ?_
    show W p l e rmX2_eitherOnes s m args below meth c H locs 0 0 Q (F0 m 17 ls [.ref (po_spelled p1.toNatClampNeg), .int (1 : Int32)])
    obtain ⟨g_4, hM⟩ := ng hM
    refine va_get (D := G) (ci := 5) (v := .int (sy (po_spelled p1.toNatClampNeg))) (C := RX5) (T := TX5) (N := 5) hx hb hts inX5 hown hK (sp_at hE hS (Decidable.not_not.mp g_4)) 0 rfl rfl 2 (by decide) (hts _ tb131) (fun _ h9 => h9) rfl dX2_eitherOnes_17 ?_
    refine lv_ishl hx hb dX2_eitherOnes_20 ?_
    refine lv_iconst (v := 1) hx hb dX2_eitherOnes_21 (by decide) ?_
    refine lv_isub hx hb dX2_eitherOnes_22 ?_
    refine lv_goto (tgt := 27) hx hb dX2_eitherOnes_23 (by decide) ?_
    have q1 := Option.some.inj hM
    subst q1
    exact kr _ _ _ _ dX2_eitherOnes_27 hP hD hS
set_option maxHeartbeats 4000000 in
set_option maxRecDepth 100000 in
theorem kX2_eitherOnes (l : Launch) (G : va_G) (K : Nat → ClassId) (tt : Nat → Nat) (L : List Nat) (la : Nat → Nat) (sa : Nat → Nat) (ln : Nat → Int32) (sy : Nat → Int32) (sn : Nat → Int32) (lt : Nat → Nat → Int32) (st : Nat → Nat → Int32) (po_a poA_sizes poA_kinds poA_spelled poA_scheme : Nat) (po_foot : Int32) (po_feet : Int32) (po_lines : Int32) (po_words : Int32) (po_sizes : Nat → Int32) (po_kinds : Nat → Int32) (po_spelled : Nat → Nat) (po_scheme : Nat → Int32) (p1 : Int32) (sz : Nat) (r : Int32)  (hM : mX2_eitherOnes L sy po_kinds po_spelled p1 = some r) : Met l yX2_eitherOnes (mC yX2_eitherOnes cX2_eitherOnes 2 (some .int)) rmX2_eitherOnes (va_Pc [.ref po_a, .int p1] (PCe G K (EC G K tt L la sa ln sy sn lt st) (WX2_eitherOnes K po_a poA_sizes poA_kinds poA_spelled poA_scheme po_foot po_feet po_lines po_words po_sizes po_kinds po_spelled po_scheme) sz)) (va_Qi (fun (x : Int32) (_ : Unit) => x = r) (fun _ t => va_P G vwCl (WX2_eitherOnes K po_a poA_sizes poA_kinds poA_spelled poA_scheme po_foot po_feet po_lines po_words po_sizes po_kinds po_spelled po_scheme) t.heap) (va_A (WX2_eitherOnes K po_a poA_sizes poA_kinds poA_spelled poA_scheme po_foot po_feet po_lines po_words po_sizes po_kinds po_spelled po_scheme) sz)) rmX2_eitherOnes.cells rmX2_eitherOnes.slots (va_A (WX2_eitherOnes K po_a poA_sizes poA_kinds poA_spelled poA_scheme po_foot po_feet po_lines po_words po_sizes po_kinds po_spelled po_scheme) sz) := by
  refine Met.ofW (cc := cX2_eitherOnes) (maxL := 2) (ret := (some .int)) (by decide) rfl ?_
  intro p e s m args below meth c s₁ B hml hv
  obtain ⟨rfl, hsz, hP, hK, hD0, hE⟩ := hv
  have hx := B.exec
  have hb := B.bytes
  have hr := B.returns
  have hts0 := atoms_spec (ws := mC yX2_eitherOnes cX2_eitherOnes 2 (some .int)) B.pre
  have hts : ∀ w ∈ tbG, w.before _ s = true := fun w h => hts0 w (List.mem_cons_of_mem _ h)
  have hown : s.vm.findClass RX2 = some m.cls := findClass_of_methodNamed B.named
  subst hsz
  have hD := hD0.self (sz := s.heap.size)
  generalize hAe : va_A (WX2_eitherOnes K po_a poA_sizes poA_kinds poA_spelled poA_scheme po_foot po_feet po_lines po_words po_sizes po_kinds po_spelled po_scheme) s.heap.size = A at hD hE ⊢
  have hA : ∀ q : Nat, s.heap.size ≤ q → A q := fun q h => by rw [← hAe]; exact Or.inr h
  have hS : va_S A s.heap s.heap [] := va_S.rf
  have hl := lv_entry ([.ref po_a, .int p1]) (n := 2) (Nat.le_of_ble_eq_true rfl)
  rw [lg_entry_eq]
  generalize (lg_sl ([.ref po_a, .int p1]) ++ List.replicate (2 - (lg_sl ([.ref po_a, .int p1])).length) Slot.unset).toArray = ls at hl ⊢
  have hl : lv_has ls 2 [(0, .ref po_a), (1, .int p1)] := hl
  exact wX2_eitherOnes_b0 ⟨hx, hb, hml, hown, hts, hK, hA, EC_ok _ _ _ _ _ _ _ _ _ _ _, hE⟩ po_a poA_sizes poA_kinds poA_spelled poA_scheme po_foot po_feet po_lines po_words po_sizes po_kinds po_spelled po_scheme p1 r (fun H locs ls pc hdg hP hD hS => W.iret (v := r) hx hb hr (fun t ht hW => ⟨⟨r, (), rfl, rfl, (show va_P G vwCl _ t.heap by rw [ht]; exact hP)⟩, hS.F ht⟩) hS.2.2 hdg)   hM _ _ _ hP hD hS hl
abbrev WX6_word (K : Nat → ClassId) (x_a xA_rows rd_a v_a d_a xA_images ac_a er_a xA_hits xA_bodies vA_sizes vA_kinds vA_spelled vA_scheme : Nat) (x_begun : Int32) (x_latestFault : Int32) (x_latestFinding : Int32) (v_foot : Int32) (v_feet : Int32) (v_lines : Int32) (v_words : Int32) (v_sizes : Nat → Int32) (v_kinds : Nat → Int32) (v_spelled : Nat → Nat) (v_scheme : Nat → Int32) : va_W := [(x_a, .inr (6, [.ref xA_rows, .ref rd_a, .ref v_a, .ref d_a, .ref xA_images, .ref ac_a, .ref er_a, .ref xA_hits, .ref xA_bodies, .int x_begun, .int x_latestFault, .int x_latestFinding])), (v_a, .inr (2, [.int v_foot, .int v_feet, .int v_lines, .int v_words, .ref vA_sizes, .ref vA_kinds, .ref vA_spelled, .ref vA_scheme])), aI K vA_sizes 4 v_sizes, aI K vA_kinds 20 v_kinds, aS K vA_spelled 20 v_spelled, aI K vA_scheme 4 v_scheme]
def rmX6_word : Room := { frames := 1, cells := 0, slots := 0, locals := 23 }
theorem hdX6_word : yX6_word.cls = RX6 ∧ yX6_word.cls ≠ "java/lang/invoke/MethodHandle" ∧ yX6_word.cls ≠ "java/lang/invoke/VarHandle" ∧ (parseMethodDescriptor yX6_word.desc).map (fun d => d.parameters.length) = some 2 := by decide +kernel
set_option maxHeartbeats 4000000 in
set_option maxRecDepth 100000 in
theorem wX6_word_b0 {p : Program} {l : Launch} {e : Env} {s : State} {m : MethodId} {args : Array Value} {below : List Frame} {meth : Method} {c : Code} {Q : State → Prop} {G : va_G} {K : Nat → ClassId} {A : Nat → Prop} {tt : Nat → Nat} {L : List Nat} {la : Nat → Nat} {sa : Nat → Nat} {ln : Nat → Int32} {sy : Nat → Int32} {sn : Nat → Int32} {lt : Nat → Nat → Int32} {st : Nat → Nat → Int32} (C0 : CX p s m args c cX6_word 5 RX6 G K (EC G K tt L la sa ln sy sn lt st) A) (x_a xA_rows rd_a v_a d_a xA_images ac_a er_a xA_hits xA_bodies vA_sizes vA_kinds vA_spelled vA_scheme : Nat) (x_begun : Int32) (x_latestFault : Int32) (x_latestFinding : Int32) (v_foot : Int32) (v_feet : Int32) (v_lines : Int32) (v_words : Int32) (v_sizes : Nat → Int32) (v_kinds : Nat → Int32) (v_spelled : Nat → Nat) (v_scheme : Nat → Int32) (p1 : Int32) (p2 : Int32) (r : Int32)  (kr : ∀ (H : Heap) (locs : List Loc) (ls : Array Slot) (pc : Nat), decode cX6_word pc = .ok (.ireturn, 1) → va_P G vwCl (WX6_word K x_a xA_rows rd_a v_a d_a xA_images ac_a er_a xA_hits xA_bodies vA_sizes vA_kinds vA_spelled vA_scheme x_begun x_latestFault x_latestFinding v_foot v_feet v_lines v_words v_sizes v_kinds v_spelled v_scheme) H → va_D A (WX6_word K x_a xA_rows rd_a v_a d_a xA_images ac_a er_a xA_hits xA_bodies vA_sizes vA_kinds vA_spelled vA_scheme x_begun x_latestFault x_latestFinding v_foot v_feet v_lines v_words v_sizes v_kinds v_spelled v_scheme) → va_S A s.heap H locs → W p l e rmX6_word s m args below meth c H locs 0 0 Q (F0 m pc ls [.int r]))  (hM : mX6_word_b0 L ln sy lt v_lines v_words v_sizes v_kinds v_spelled p1 p2   = some r) : ∀ (H : Heap) (locs : List Loc) (ls : Array Slot), va_P G vwCl (WX6_word K x_a xA_rows rd_a v_a d_a xA_images ac_a er_a xA_hits xA_bodies vA_sizes vA_kinds vA_spelled vA_scheme x_begun x_latestFault x_latestFinding v_foot v_feet v_lines v_words v_sizes v_kinds v_spelled v_scheme) H → va_D A (WX6_word K x_a xA_rows rd_a v_a d_a xA_images ac_a er_a xA_hits xA_bodies vA_sizes vA_kinds vA_spelled vA_scheme x_begun x_latestFault x_latestFinding v_foot v_feet v_lines v_words v_sizes v_kinds v_spelled v_scheme) → va_S A s.heap H locs → lv_has ls 5 [(0, .ref x_a), (1, .int p1), (2, .int p2)] → W p l e rmX6_word s m args below meth c H locs 0 0 Q (F0 m 0 ls []) := by
  obtain ⟨hx, hb, hml, hown, hts, hK, hA, hEo, hE⟩ := id C0
  intro H locs ls hP hD hS hl
  unfold mX6_word_b0 at hM
  refine lv_aload_n hx hb dX6_word_0 rfl (lv_at hl 0 rfl) ?_
  refine va_get (D := G) (ci := 6) (v := .ref v_a) (C := RX6) (T := TX6) (N := 12) hx hb hts inX6 hown hK hP 0 rfl rfl 2 (by decide) (hts _ tb247) (fun _ h9 => h9) rfl dX6_word_1 ?_
  refine lv_iload_n hx hb dX6_word_4 rfl (lv_at hl 1 rfl) ?_
  obtain ⟨r_1, hC, hM⟩ := oe1 hM
  refine cV_i (As := [.int p1]) (rest := []) C0 hP hD hS [1, 2, 3, 4, 5] (kX2_hasWord l G K tt L la sa ln sy sn lt st v_a vA_sizes vA_kinds vA_spelled vA_scheme v_foot v_feet v_lines v_words v_sizes v_kinds v_spelled v_scheme p1 H.size r_1 hC) rfl rfl rfl tb432 tb415 tb416 tb7 tb417 hdX2_hasWord (va_recv hK hP (ci := 2) (q0 := 1) rfl rfl) ⟨Nat.le_of_ble_eq_true rfl, Nat.le_of_ble_eq_true rfl⟩ rfl hl.1 (Nat.le_of_ble_eq_true rfl) rfl ⟨Nat.le_refl _, Nat.le_refl _⟩ dX6_word_5 (fun H locs hP hD hS => ?_)
  have hP : va_P G vwCl (WX6_word K x_a xA_rows rd_a v_a d_a xA_images ac_a er_a xA_hits xA_bodies vA_sizes vA_kinds vA_spelled vA_scheme x_begun x_latestFault x_latestFinding v_foot v_feet v_lines v_words v_sizes v_kinds v_spelled v_scheme) H := hP
  have hD : va_D A (WX6_word K x_a xA_rows rd_a v_a d_a xA_images ac_a er_a xA_hits xA_bodies vA_sizes vA_kinds vA_spelled vA_scheme x_begun x_latestFault x_latestFinding v_foot v_feet v_lines v_words v_sizes v_kinds v_spelled v_scheme) := hD
  refine lv_if_ne (tgt := 14) hx hb dX6_word_8 (by decide) (fun c_2 => ?_) (fun c_2 => ?_)
  · rw [if_neg c_2] at hM
    refine lv_aload_n hx hb dX6_word_14 rfl (lv_at hl 0 rfl) ?_
    refine va_get (D := G) (ci := 6) (v := .ref v_a) (C := RX6) (T := TX6) (N := 12) hx hb hts inX6 hown hK hP 0 rfl rfl 2 (by decide) (hts _ tb247) (fun _ h9 => h9) rfl dX6_word_15 ?_
    refine va_get (D := G) (ci := 2) (v := .ref vA_spelled) (C := RX2) (T := TX2) (N := 8) hx hb hts inX2 hown hK hP 1 rfl rfl 6 (by decide) (hts _ tb195) (fun _ h9 => h9) rfl dX6_word_18 ?_
    refine lv_iload_n hx hb dX6_word_21 rfl (lv_at hl 1 rfl) ?_
    obtain ⟨g_3, hM⟩ := ng hM
    refine va_aldq hx hb hK hP 4 2 rfl rfl g_3 dX6_word_22 ?_
    show W p l e rmX6_word s m args below meth c H locs 0 0 Q (F0 m 23 ls [.ref (v_spelled p1.toNatClampNeg)])
    refine lv_astore_n (lv' := [(3, .ref (v_spelled p1.toNatClampNeg)), (0, .ref x_a), (1, .int p1), (2, .int p2)]) hx hb dX6_word_23 rfl hl (by decide) rfl (fun ls hl => ?_)
    refine lv_iload_n hx hb dX6_word_24 rfl (lv_at hl 3 rfl) ?_
    refine lv_bipush (v := 10) hx hb dX6_word_25 (by decide) ?_
    refine lv_icmp_lt (tgt := 58) hx hb dX6_word_27 (by decide) (fun c_4 => ?_) (fun c_4 => ?_)
    · rw [if_pos c_4] at hM
      refine lv_aload_n hx hb dX6_word_58 rfl (lv_at hl 1 rfl) ?_
      refine va_get (D := G) (ci := 6) (v := .ref v_a) (C := RX6) (T := TX6) (N := 12) hx hb hts inX6 hown hK hP 0 rfl rfl 2 (by decide) (hts _ tb247) (fun _ h9 => h9) rfl dX6_word_59 ?_
      refine lv_iload_n hx hb dX6_word_62 rfl (lv_at hl 2 rfl) ?_
      obtain ⟨r_5, hC, hM⟩ := oe1 hM
      refine cV_i (As := [.int p1]) (rest := []) C0 hP hD hS [1, 2, 3, 4, 5] (kX2_lineOf l G K tt L la sa ln sy sn lt st v_a vA_sizes vA_kinds vA_spelled vA_scheme v_foot v_feet v_lines v_words v_sizes v_kinds v_spelled v_scheme p1 H.size r_5 hC) rfl rfl rfl tb459 tb460 tb461 tb7 tb462 hdX2_lineOf (va_recv hK hP (ci := 2) (q0 := 1) rfl rfl) ⟨Nat.le_of_ble_eq_true rfl, Nat.le_of_ble_eq_true rfl⟩ rfl hl.1 (Nat.le_of_ble_eq_true rfl) rfl ⟨Nat.le_refl _, Nat.le_refl _⟩ dX6_word_63 (fun H locs hP hD hS => ?_)
      have hP : va_P G vwCl (WX6_word K x_a xA_rows rd_a v_a d_a xA_images ac_a er_a xA_hits xA_bodies vA_sizes vA_kinds vA_spelled vA_scheme x_begun x_latestFault x_latestFinding v_foot v_feet v_lines v_words v_sizes v_kinds v_spelled v_scheme) H := hP
      have hD : va_D A (WX6_word K x_a xA_rows rd_a v_a d_a xA_images ac_a er_a xA_hits xA_bodies vA_sizes vA_kinds vA_spelled vA_scheme x_begun x_latestFault x_latestFinding v_foot v_feet v_lines v_words v_sizes v_kinds v_spelled v_scheme) := hD
      refine lv_istore (lv' := [(4, .int r_5), (3, .ref (v_spelled p1.toNatClampNeg)), (0, .ref x_a), (1, .int p1), (2, .int p2)]) hx hb dX6_word_66 hl (by decide) rfl (fun ls hl => ?_)
      refine lv_iload_n hx hb dX6_word_68 rfl (lv_at hl 4 rfl) ?_
      by_cases c_6 : p2 = 0
      · rw [if_pos c_6] at hM
        refine lv_tableIn (off := 39) (tgt := 108) hx hb dX6_word_69 (by rw [c_6]; decide) (by rw [c_6]; decide) (by rw [c_6]; decide) (by decide) ?_
        refine lv_iload hx hb dX6_word_108 (lv_at hl 0 rfl) ?_
        have q1 := Option.some.inj hM
        subst q1
        exact kr _ _ _ _ dX6_word_110 hP hD hS
      · rw [if_neg c_6] at hM
        by_cases c_7 : p2 = 1
        · rw [if_pos c_7] at hM
          refine lv_tableIn (off := 42) (tgt := 111) hx hb dX6_word_69 (by rw [c_7]; decide) (by rw [c_7]; decide) (by rw [c_7]; decide) (by decide) ?_
          refine lv_iload_n hx hb dX6_word_111 rfl (lv_at hl 3 rfl) ?_
          refine lv_aload_n hx hb dX6_word_112 rfl (lv_at hl 2 rfl) ?_
          refine va_get (D := G) (ci := 6) (v := .ref v_a) (C := RX6) (T := TX6) (N := 12) hx hb hts inX6 hown hK hP 0 rfl rfl 2 (by decide) (hts _ tb247) (fun _ h9 => h9) rfl dX6_word_113 ?_
          refine lv_iload hx hb dX6_word_116 (lv_at hl 0 rfl) ?_
          obtain ⟨r_8, hC, hM⟩ := oe1 hM
          refine cV_i (As := [.int r_5]) (rest := [.int p1]) C0 hP hD hS [1, 2, 3, 4, 5] (kX2_firstOf l G K tt L la sa ln sy sn lt st v_a vA_sizes vA_kinds vA_spelled vA_scheme v_foot v_feet v_lines v_words v_sizes v_kinds v_spelled v_scheme r_5 H.size r_8 hC) rfl rfl rfl tb450 tb451 tb452 tb7 tb453 hdX2_firstOf (va_recv hK hP (ci := 2) (q0 := 1) rfl rfl) ⟨Nat.le_of_ble_eq_true rfl, Nat.le_of_ble_eq_true rfl⟩ rfl hl.1 (Nat.le_of_ble_eq_true rfl) rfl ⟨Nat.le_refl _, Nat.le_refl _⟩ dX6_word_118 (fun H locs hP hD hS => ?_)
          have hP : va_P G vwCl (WX6_word K x_a xA_rows rd_a v_a d_a xA_images ac_a er_a xA_hits xA_bodies vA_sizes vA_kinds vA_spelled vA_scheme x_begun x_latestFault x_latestFinding v_foot v_feet v_lines v_words v_sizes v_kinds v_spelled v_scheme) H := hP
          have hD : va_D A (WX6_word K x_a xA_rows rd_a v_a d_a xA_images ac_a er_a xA_hits xA_bodies vA_sizes vA_kinds vA_spelled vA_scheme x_begun x_latestFault x_latestFinding v_foot v_feet v_lines v_words v_sizes v_kinds v_spelled v_scheme) := hD
          refine lv_isub hx hb dX6_word_121 ?_
          have q1 := Option.some.inj hM
          subst q1
          exact kr _ _ _ _ dX6_word_122 hP hD hS
        · rw [if_neg c_7] at hM
          by_cases c_9 : p2 = 2
          · rw [if_pos c_9] at hM
            refine lv_tableIn (off := 54) (tgt := 123) hx hb dX6_word_69 (by rw [c_9]; decide) (by rw [c_9]; decide) (by rw [c_9]; decide) (by decide) ?_
            refine lv_aload_n hx hb dX6_word_123 rfl (lv_at hl 1 rfl) ?_
            obtain ⟨g_10, hM⟩ := ng hM
            refine va_get (D := G) (ci := 5) (v := .int (ln (v_spelled p1.toNatClampNeg))) (C := RX5) (T := TX5) (N := 5) hx hb hts inX5 hown hK (sp_at hE hS (Decidable.not_not.mp g_10)) 0 rfl rfl 0 (by decide) (hts _ tb124) (fun _ h9 => h9) rfl dX6_word_124 ?_
            have q1 := Option.some.inj hM
            subst q1
            exact kr _ _ _ _ dX6_word_127 hP hD hS
          · rw [if_neg c_9] at hM
            by_cases c_11 : p2 = 3
            · rw [if_pos c_11] at hM
              refine lv_tableIn (off := 59) (tgt := 128) hx hb dX6_word_69 (by rw [c_11]; decide) (by rw [c_11]; decide) (by rw [c_11]; decide) (by decide) ?_
              refine lv_aload_n hx hb dX6_word_128 rfl (lv_at hl 1 rfl) ?_
              obtain ⟨g_12, hM⟩ := ng hM
              refine va_get (D := G) (ci := 5) (v := .int (sy (v_spelled p1.toNatClampNeg))) (C := RX5) (T := TX5) (N := 5) hx hb hts inX5 hown hK (sp_at hE hS (Decidable.not_not.mp g_12)) 0 rfl rfl 2 (by decide) (hts _ tb132) (fun _ h9 => h9) rfl dX6_word_129 ?_
              have q1 := Option.some.inj hM
              subst q1
              exact kr _ _ _ _ dX6_word_132 hP hD hS
            · rw [if_neg c_11] at hM
              by_cases c_13 : p2 = 4
              · rw [if_pos c_13] at hM
                refine lv_tableIn (off := 64) (tgt := 133) hx hb dX6_word_69 (by rw [c_13]; decide) (by rw [c_13]; decide) (by rw [c_13]; decide) (by decide) ?_
                refine lv_aload_n hx hb dX6_word_133 rfl (lv_at hl 2 rfl) ?_
                refine va_get (D := G) (ci := 6) (v := .ref v_a) (C := RX6) (T := TX6) (N := 12) hx hb hts inX6 hown hK hP 0 rfl rfl 2 (by decide) (hts _ tb247) (fun _ h9 => h9) rfl dX6_word_134 ?_
                refine lv_iload_n hx hb dX6_word_137 rfl (lv_at hl 3 rfl) ?_
                obtain ⟨r_14, hC, hM⟩ := oe1 hM
                refine cV_i (As := [.int p1]) (rest := []) C0 hP hD hS [1, 2, 3, 4, 5] (kX2_strongOnes l G K tt L la sa ln sy sn lt st v_a vA_sizes vA_kinds vA_spelled vA_scheme v_foot v_feet v_lines v_words v_sizes v_kinds v_spelled v_scheme p1 H.size r_14 hC) rfl rfl rfl tb490 tb491 tb492 tb7 tb493 hdX2_strongOnes (va_recv hK hP (ci := 2) (q0 := 1) rfl rfl) ⟨Nat.le_of_ble_eq_true rfl, Nat.le_of_ble_eq_true rfl⟩ rfl hl.1 (Nat.le_of_ble_eq_true rfl) rfl ⟨Nat.le_refl _, Nat.le_refl _⟩ dX6_word_138 (fun H locs hP hD hS => ?_)
                have hP : va_P G vwCl (WX6_word K x_a xA_rows rd_a v_a d_a xA_images ac_a er_a xA_hits xA_bodies vA_sizes vA_kinds vA_spelled vA_scheme x_begun x_latestFault x_latestFinding v_foot v_feet v_lines v_words v_sizes v_kinds v_spelled v_scheme) H := hP
                have hD : va_D A (WX6_word K x_a xA_rows rd_a v_a d_a xA_images ac_a er_a xA_hits xA_bodies vA_sizes vA_kinds vA_spelled vA_scheme x_begun x_latestFault x_latestFinding v_foot v_feet v_lines v_words v_sizes v_kinds v_spelled v_scheme) := hD
                have q1 := Option.some.inj hM
                subst q1
                exact kr _ _ _ _ dX6_word_141 hP hD hS
              · rw [if_neg c_13] at hM
                by_cases c_15 : p2 = 5
                · rw [if_pos c_15] at hM
                  refine lv_tableIn (off := 73) (tgt := 142) hx hb dX6_word_69 (by rw [c_15]; decide) (by rw [c_15]; decide) (by rw [c_15]; decide) (by decide) ?_
                  refine lv_aload_n hx hb dX6_word_142 rfl (lv_at hl 2 rfl) ?_
                  refine va_get (D := G) (ci := 6) (v := .ref v_a) (C := RX6) (T := TX6) (N := 12) hx hb hts inX6 hown hK hP 0 rfl rfl 2 (by decide) (hts _ tb247) (fun _ h9 => h9) rfl dX6_word_143 ?_
                  refine lv_iload_n hx hb dX6_word_146 rfl (lv_at hl 3 rfl) ?_
                  obtain ⟨r_16, hC, hM⟩ := oe1 hM
                  refine cV_i (As := [.int p1]) (rest := []) C0 hP hD hS [1, 2, 3, 4, 5] (kX2_eitherOnes l G K tt L la sa ln sy sn lt st v_a vA_sizes vA_kinds vA_spelled vA_scheme v_foot v_feet v_lines v_words v_sizes v_kinds v_spelled v_scheme p1 H.size r_16 hC) rfl rfl rfl tb495 tb496 tb497 tb7 tb498 hdX2_eitherOnes (va_recv hK hP (ci := 2) (q0 := 1) rfl rfl) ⟨Nat.le_of_ble_eq_true rfl, Nat.le_of_ble_eq_true rfl⟩ rfl hl.1 (Nat.le_of_ble_eq_true rfl) rfl ⟨Nat.le_refl _, Nat.le_refl _⟩ dX6_word_147 (fun H locs hP hD hS => ?_)
                  have hP : va_P G vwCl (WX6_word K x_a xA_rows rd_a v_a d_a xA_images ac_a er_a xA_hits xA_bodies vA_sizes vA_kinds vA_spelled vA_scheme x_begun x_latestFault x_latestFinding v_foot v_feet v_lines v_words v_sizes v_kinds v_spelled v_scheme) H := hP
                  have hD : va_D A (WX6_word K x_a xA_rows rd_a v_a d_a xA_images ac_a er_a xA_hits xA_bodies vA_sizes vA_kinds vA_spelled vA_scheme x_begun x_latestFault x_latestFinding v_foot v_feet v_lines v_words v_sizes v_kinds v_spelled v_scheme) := hD
                  have q1 := Option.some.inj hM
                  subst q1
                  exact kr _ _ _ _ dX6_word_150 hP hD hS
                · rw [if_neg c_15] at hM
                  refine lv_tableOut (tgt := 151) hx hb dX6_word_69 (by have q0 : p2.toInt ≠ 0 := (fun q => c_6 (Int32.toInt_inj.mp (q.trans (by decide)))); have q1 : p2.toInt ≠ 1 := (fun q => c_7 (Int32.toInt_inj.mp (q.trans (by decide)))); have q2 : p2.toInt ≠ 2 := (fun q => c_9 (Int32.toInt_inj.mp (q.trans (by decide)))); have q3 : p2.toInt ≠ 3 := (fun q => c_11 (Int32.toInt_inj.mp (q.trans (by decide)))); have q4 : p2.toInt ≠ 4 := (fun q => c_13 (Int32.toInt_inj.mp (q.trans (by decide)))); have q5 : p2.toInt ≠ 5 := (fun q => c_15 (Int32.toInt_inj.mp (q.trans (by decide)))); omega) (by decide) ?_
                  refine lv_ldc (v := -1000001) hx hb hown (hts _ tb289) dX6_word_151 ?_
                  have q1 := Option.some.inj hM
                  subst q1
                  exact kr _ _ _ _ dX6_word_153 hP hD hS
    · rw [if_neg c_4] at hM
      refine lv_iload_n hx hb dX6_word_30 rfl (lv_at hl 3 rfl) ?_
      refine lv_bipush (v := 10) hx hb dX6_word_31 (by decide) ?_
      refine lv_isub hx hb dX6_word_33 ?_
      refine lv_istore (lv' := [(4, .int (p2 - (10 : Int32))), (3, .ref (v_spelled p1.toNatClampNeg)), (0, .ref x_a), (1, .int p1), (2, .int p2)]) hx hb dX6_word_34 hl (by decide) rfl (fun ls hl => ?_)
      refine lv_iload hx hb dX6_word_36 (lv_at hl 0 rfl) ?_
      refine lv_aload_n hx hb dX6_word_38 rfl (lv_at hl 1 rfl) ?_
      obtain ⟨g_17, hM⟩ := ng hM
      refine va_get (D := G) (ci := 5) (v := .int (ln (v_spelled p1.toNatClampNeg))) (C := RX5) (T := TX5) (N := 5) hx hb hts inX5 hown hK (sp_at hE hS (Decidable.not_not.mp g_17)) 0 rfl rfl 0 (by decide) (hts _ tb124) (fun _ h9 => h9) rfl dX6_word_39 ?_
      refine lv_icmp_ge (tgt := 55) hx hb dX6_word_42 (by decide) (fun c_18 => ?_) (fun c_18 => ?_)
      · rw [if_pos c_18] at hM
        refine lv_ldc (v := -1000000) hx hb hown (hts _ tb489) dX6_word_55 ?_
        have q1 := Option.some.inj hM
        subst q1
        exact kr _ _ _ _ dX6_word_57 hP hD hS
      · rw [if_neg c_18] at hM
        refine lv_aload_n hx hb dX6_word_45 rfl (lv_at hl 1 rfl) ?_
        obtain ⟨g_19, hM⟩ := ng hM
        refine va_get (D := G) (ci := 5) (v := .ref (la (v_spelled p1.toNatClampNeg))) (C := RX5) (T := TX5) (N := 5) hx hb hts inX5 hown hK (sp_at hE hS (Decidable.not_not.mp g_19)) 0 rfl rfl 1 (by decide) (hts _ tb127) (fun _ h9 => h9) rfl dX6_word_46 ?_
        refine lv_iload hx hb dX6_word_49 (lv_at hl 0 rfl) ?_
        obtain ⟨g_20, hM⟩ := ng hM
        refine va_iald hx hb hK (sp_at hE hS (Decidable.not_not.mp g_19)) 1 0 rfl rfl g_20 dX6_word_51 ?_
        refine lv_goto (tgt := 57) hx hb dX6_word_52 (by decide) ?_
        have q1 := Option.some.inj hM
        subst q1
        exact kr _ _ _ _ dX6_word_57 hP hD hS
  · rw [if_pos c_2] at hM
    refine lv_ldc (v := -1000001) hx hb hown (hts _ tb289) dX6_word_11 ?_
    have q1 := Option.some.inj hM
    subst q1
    exact kr _ _ _ _ dX6_word_13 hP hD hS
set_option maxHeartbeats 4000000 in
set_option maxRecDepth 100000 in
theorem kX6_word (l : Launch) (G : va_G) (K : Nat → ClassId) (tt : Nat → Nat) (L : List Nat) (la : Nat → Nat) (sa : Nat → Nat) (ln : Nat → Int32) (sy : Nat → Int32) (sn : Nat → Int32) (lt : Nat → Nat → Int32) (st : Nat → Nat → Int32) (x_a xA_rows rd_a v_a d_a xA_images ac_a er_a xA_hits xA_bodies vA_sizes vA_kinds vA_spelled vA_scheme : Nat) (x_begun : Int32) (x_latestFault : Int32) (x_latestFinding : Int32) (v_foot : Int32) (v_feet : Int32) (v_lines : Int32) (v_words : Int32) (v_sizes : Nat → Int32) (v_kinds : Nat → Int32) (v_spelled : Nat → Nat) (v_scheme : Nat → Int32) (p1 : Int32) (p2 : Int32) (sz : Nat) (r : Int32)  (hM : mX6_word L ln sy lt v_lines v_words v_sizes v_kinds v_spelled p1 p2 = some r) : Met l yX6_word (mC yX6_word cX6_word 5 (some .int)) rmX6_word (va_Pc [.ref x_a, .int p1, .int p2] (PCe G K (EC G K tt L la sa ln sy sn lt st) (WX6_word K x_a xA_rows rd_a v_a d_a xA_images ac_a er_a xA_hits xA_bodies vA_sizes vA_kinds vA_spelled vA_scheme x_begun x_latestFault x_latestFinding v_foot v_feet v_lines v_words v_sizes v_kinds v_spelled v_scheme) sz)) (va_Qi (fun (x : Int32) (_ : Unit) => x = r) (fun _ t => va_P G vwCl (WX6_word K x_a xA_rows rd_a v_a d_a xA_images ac_a er_a xA_hits xA_bodies vA_sizes vA_kinds vA_spelled vA_scheme x_begun x_latestFault x_latestFinding v_foot v_feet v_lines v_words v_sizes v_kinds v_spelled v_scheme) t.heap) (va_A (WX6_word K x_a xA_rows rd_a v_a d_a xA_images ac_a er_a xA_hits xA_bodies vA_sizes vA_kinds vA_spelled vA_scheme x_begun x_latestFault x_latestFinding v_foot v_feet v_lines v_words v_sizes v_kinds v_spelled v_scheme) sz)) rmX6_word.cells rmX6_word.slots (va_A (WX6_word K x_a xA_rows rd_a v_a d_a xA_images ac_a er_a xA_hits xA_bodies vA_sizes vA_kinds vA_spelled vA_scheme x_begun x_latestFault x_latestFinding v_foot v_feet v_lines v_words v_sizes v_kinds v_spelled v_scheme) sz) := by
  refine Met.ofW (cc := cX6_word) (maxL := 5) (ret := (some .int)) (by decide) rfl ?_
  intro p e s m args below meth c s₁ B hml hv
  obtain ⟨rfl, hsz, hP, hK, hD0, hE⟩ := hv
  have hx := B.exec
  have hb := B.bytes
  have hr := B.returns
  have hts0 := atoms_spec (ws := mC yX6_word cX6_word 5 (some .int)) B.pre
  have hts : ∀ w ∈ tbG, w.before _ s = true := fun w h => hts0 w (List.mem_cons_of_mem _ h)
  have hown : s.vm.findClass RX6 = some m.cls := findClass_of_methodNamed B.named
  subst hsz
  have hD := hD0.self (sz := s.heap.size)
  generalize hAe : va_A (WX6_word K x_a xA_rows rd_a v_a d_a xA_images ac_a er_a xA_hits xA_bodies vA_sizes vA_kinds vA_spelled vA_scheme x_begun x_latestFault x_latestFinding v_foot v_feet v_lines v_words v_sizes v_kinds v_spelled v_scheme) s.heap.size = A at hD hE ⊢
  have hA : ∀ q : Nat, s.heap.size ≤ q → A q := fun q h => by rw [← hAe]; exact Or.inr h
  have hS : va_S A s.heap s.heap [] := va_S.rf
  have hl := lv_entry ([.ref x_a, .int p1, .int p2]) (n := 5) (Nat.le_of_ble_eq_true rfl)
  rw [lg_entry_eq]
  generalize (lg_sl ([.ref x_a, .int p1, .int p2]) ++ List.replicate (5 - (lg_sl ([.ref x_a, .int p1, .int p2])).length) Slot.unset).toArray = ls at hl ⊢
  have hl : lv_has ls 5 [(0, .ref x_a), (1, .int p1), (2, .int p2)] := hl
  exact wX6_word_b0 ⟨hx, hb, hml, hown, hts, hK, hA, EC_ok _ _ _ _ _ _ _ _ _ _ _, hE⟩ x_a xA_rows rd_a v_a d_a xA_images ac_a er_a xA_hits xA_bodies vA_sizes vA_kinds vA_spelled vA_scheme x_begun x_latestFault x_latestFinding v_foot v_feet v_lines v_words v_sizes v_kinds v_spelled v_scheme p1 p2 r (fun H locs ls pc hdg hP hD hS => W.iret (v := r) hx hb hr (fun t ht hW => ⟨⟨r, (), rfl, rfl, (show va_P G vwCl _ t.heap by rw [ht]; exact hP)⟩, hS.F ht⟩) hS.2.2 hdg)   hM _ _ _ hP hD hS hl
abbrev WX2_lastOf (K : Nat → ClassId) (po_a poA_sizes poA_kinds poA_spelled poA_scheme : Nat) (po_foot : Int32) (po_feet : Int32) (po_lines : Int32) (po_words : Int32) (po_sizes : Nat → Int32) (po_kinds : Nat → Int32) (po_spelled : Nat → Nat) (po_scheme : Nat → Int32) : va_W := [(po_a, .inr (2, [.int po_foot, .int po_feet, .int po_lines, .int po_words, .ref poA_sizes, .ref poA_kinds, .ref poA_spelled, .ref poA_scheme])), aI K poA_sizes 4 po_sizes, aI K poA_kinds 20 po_kinds, aS K poA_spelled 20 po_spelled, aI K poA_scheme 4 po_scheme]
def rmX2_lastOf : Room := { frames := 1, cells := 0, slots := 0, locals := 23 }
theorem hdX2_lastOf : yX2_lastOf.cls = RX2 ∧ yX2_lastOf.cls ≠ "java/lang/invoke/MethodHandle" ∧ yX2_lastOf.cls ≠ "java/lang/invoke/VarHandle" ∧ (parseMethodDescriptor yX2_lastOf.desc).map (fun d => d.parameters.length) = some 1 := by decide +kernel
set_option maxHeartbeats 4000000 in
set_option maxRecDepth 100000 in
theorem wX2_lastOf_b0 {p : Program} {l : Launch} {e : Env} {s : State} {m : MethodId} {args : Array Value} {below : List Frame} {meth : Method} {c : Code} {Q : State → Prop} {G : va_G} {K : Nat → ClassId} {A : Nat → Prop} {tt : Nat → Nat} {L : List Nat} {la : Nat → Nat} {sa : Nat → Nat} {ln : Nat → Int32} {sy : Nat → Int32} {sn : Nat → Int32} {lt : Nat → Nat → Int32} {st : Nat → Nat → Int32} (C0 : CX p s m args c cX2_lastOf 2 RX2 G K (EC G K tt L la sa ln sy sn lt st) A) (po_a poA_sizes poA_kinds poA_spelled poA_scheme : Nat) (po_foot : Int32) (po_feet : Int32) (po_lines : Int32) (po_words : Int32) (po_sizes : Nat → Int32) (po_kinds : Nat → Int32) (po_spelled : Nat → Nat) (po_scheme : Nat → Int32) (p1 : Int32) (r : Int32)  (kr : ∀ (H : Heap) (locs : List Loc) (ls : Array Slot) (pc : Nat), decode cX2_lastOf pc = .ok (.ireturn, 1) → va_P G vwCl (WX2_lastOf K po_a poA_sizes poA_kinds poA_spelled poA_scheme po_foot po_feet po_lines po_words po_sizes po_kinds po_spelled po_scheme) H → va_D A (WX2_lastOf K po_a poA_sizes poA_kinds poA_spelled poA_scheme po_foot po_feet po_lines po_words po_sizes po_kinds po_spelled po_scheme) → va_S A s.heap H locs → W p l e rmX2_lastOf s m args below meth c H locs 0 0 Q (F0 m pc ls [.int r]))  (hM : mX2_lastOf_b0 po_sizes p1   = some r) : ∀ (H : Heap) (locs : List Loc) (ls : Array Slot), va_P G vwCl (WX2_lastOf K po_a poA_sizes poA_kinds poA_spelled poA_scheme po_foot po_feet po_lines po_words po_sizes po_kinds po_spelled po_scheme) H → va_D A (WX2_lastOf K po_a poA_sizes poA_kinds poA_spelled poA_scheme po_foot po_feet po_lines po_words po_sizes po_kinds po_spelled po_scheme) → va_S A s.heap H locs → lv_has ls 2 [(0, .ref po_a), (1, .int p1)] → W p l e rmX2_lastOf s m args below meth c H locs 0 0 Q (F0 m 0 ls []) := by
  obtain ⟨hx, hb, hml, hown, hts, hK, hA, hEo, hE⟩ := id C0
  intro H locs ls hP hD hS hl
  unfold mX2_lastOf_b0 at hM
  refine lv_aload_n hx hb dX2_lastOf_0 rfl (lv_at hl 0 rfl) ?_
  refine lv_iload_n hx hb dX2_lastOf_1 rfl (lv_at hl 1 rfl) ?_
  obtain ⟨r_1, hC, hM⟩ := oe1 hM
  refine cV_i (As := [.int p1]) (rest := []) C0 hP hD hS [0, 1, 2, 3, 4] (kX2_firstOf l G K tt L la sa ln sy sn lt st po_a poA_sizes poA_kinds poA_spelled poA_scheme po_foot po_feet po_lines po_words po_sizes po_kinds po_spelled po_scheme p1 H.size r_1 hC) rfl rfl rfl tb507 tb451 tb452 tb7 tb453 hdX2_firstOf (va_recv hK hP (ci := 2) (q0 := 0) rfl rfl) ⟨Nat.le_of_ble_eq_true rfl, Nat.le_of_ble_eq_true rfl⟩ rfl hl.1 (Nat.le_of_ble_eq_true rfl) rfl ⟨Nat.le_refl _, Nat.le_refl _⟩ dX2_lastOf_2 (fun H locs hP hD hS => ?_)
  have hP : va_P G vwCl (WX2_lastOf K po_a poA_sizes poA_kinds poA_spelled poA_scheme po_foot po_feet po_lines po_words po_sizes po_kinds po_spelled po_scheme) H := hP
  have hD : va_D A (WX2_lastOf K po_a poA_sizes poA_kinds poA_spelled poA_scheme po_foot po_feet po_lines po_words po_sizes po_kinds po_spelled po_scheme) := hD
  refine lv_aload_n hx hb dX2_lastOf_5 rfl (lv_at hl 0 rfl) ?_
  refine va_get (D := G) (ci := 2) (v := .ref poA_sizes) (C := RX2) (T := TX2) (N := 8) hx hb hts inX2 hown hK hP 0 rfl rfl 4 (by decide) (hts _ tb187) (fun _ h9 => h9) rfl dX2_lastOf_6 ?_
  refine lv_iload_n hx hb dX2_lastOf_9 rfl (lv_at hl 1 rfl) ?_
  obtain ⟨g_2, hM⟩ := ng hM
  refine va_iald hx hb hK hP 1 0 rfl rfl g_2 dX2_lastOf_10 ?_
  refine lv_iadd hx hb dX2_lastOf_11 ?_
  refine lv_iconst (v := 1) hx hb dX2_lastOf_12 (by decide) ?_
  refine lv_isub hx hb dX2_lastOf_13 ?_
  have q1 := Option.some.inj hM
  subst q1
  exact kr _ _ _ _ dX2_lastOf_14 hP hD hS
set_option maxHeartbeats 4000000 in
set_option maxRecDepth 100000 in
theorem kX2_lastOf (l : Launch) (G : va_G) (K : Nat → ClassId) (tt : Nat → Nat) (L : List Nat) (la : Nat → Nat) (sa : Nat → Nat) (ln : Nat → Int32) (sy : Nat → Int32) (sn : Nat → Int32) (lt : Nat → Nat → Int32) (st : Nat → Nat → Int32) (po_a poA_sizes poA_kinds poA_spelled poA_scheme : Nat) (po_foot : Int32) (po_feet : Int32) (po_lines : Int32) (po_words : Int32) (po_sizes : Nat → Int32) (po_kinds : Nat → Int32) (po_spelled : Nat → Nat) (po_scheme : Nat → Int32) (p1 : Int32) (sz : Nat) (r : Int32)  (hM : mX2_lastOf po_sizes p1 = some r) : Met l yX2_lastOf (mC yX2_lastOf cX2_lastOf 2 (some .int)) rmX2_lastOf (va_Pc [.ref po_a, .int p1] (PCe G K (EC G K tt L la sa ln sy sn lt st) (WX2_lastOf K po_a poA_sizes poA_kinds poA_spelled poA_scheme po_foot po_feet po_lines po_words po_sizes po_kinds po_spelled po_scheme) sz)) (va_Qi (fun (x : Int32) (_ : Unit) => x = r) (fun _ t => va_P G vwCl (WX2_lastOf K po_a poA_sizes poA_kinds poA_spelled poA_scheme po_foot po_feet po_lines po_words po_sizes po_kinds po_spelled po_scheme) t.heap) (va_A (WX2_lastOf K po_a poA_sizes poA_kinds poA_spelled poA_scheme po_foot po_feet po_lines po_words po_sizes po_kinds po_spelled po_scheme) sz)) rmX2_lastOf.cells rmX2_lastOf.slots (va_A (WX2_lastOf K po_a poA_sizes poA_kinds poA_spelled poA_scheme po_foot po_feet po_lines po_words po_sizes po_kinds po_spelled po_scheme) sz) := by
  refine Met.ofW (cc := cX2_lastOf) (maxL := 2) (ret := (some .int)) (by decide) rfl ?_
  intro p e s m args below meth c s₁ B hml hv
  obtain ⟨rfl, hsz, hP, hK, hD0, hE⟩ := hv
  have hx := B.exec
  have hb := B.bytes
  have hr := B.returns
  have hts0 := atoms_spec (ws := mC yX2_lastOf cX2_lastOf 2 (some .int)) B.pre
  have hts : ∀ w ∈ tbG, w.before _ s = true := fun w h => hts0 w (List.mem_cons_of_mem _ h)
  have hown : s.vm.findClass RX2 = some m.cls := findClass_of_methodNamed B.named
  subst hsz
  have hD := hD0.self (sz := s.heap.size)
  generalize hAe : va_A (WX2_lastOf K po_a poA_sizes poA_kinds poA_spelled poA_scheme po_foot po_feet po_lines po_words po_sizes po_kinds po_spelled po_scheme) s.heap.size = A at hD hE ⊢
  have hA : ∀ q : Nat, s.heap.size ≤ q → A q := fun q h => by rw [← hAe]; exact Or.inr h
  have hS : va_S A s.heap s.heap [] := va_S.rf
  have hl := lv_entry ([.ref po_a, .int p1]) (n := 2) (Nat.le_of_ble_eq_true rfl)
  rw [lg_entry_eq]
  generalize (lg_sl ([.ref po_a, .int p1]) ++ List.replicate (2 - (lg_sl ([.ref po_a, .int p1])).length) Slot.unset).toArray = ls at hl ⊢
  have hl : lv_has ls 2 [(0, .ref po_a), (1, .int p1)] := hl
  exact wX2_lastOf_b0 ⟨hx, hb, hml, hown, hts, hK, hA, EC_ok _ _ _ _ _ _ _ _ _ _ _, hE⟩ po_a poA_sizes poA_kinds poA_spelled poA_scheme po_foot po_feet po_lines po_words po_sizes po_kinds po_spelled po_scheme p1 r (fun H locs ls pc hdg hP hD hS => W.iret (v := r) hx hb hr (fun t ht hW => ⟨⟨r, (), rfl, rfl, (show va_P G vwCl _ t.heap by rw [ht]; exact hP)⟩, hS.F ht⟩) hS.2.2 hdg)   hM _ _ _ hP hD hS hl
abbrev WX2_tailStart (K : Nat → ClassId) (po_a poA_sizes poA_kinds poA_spelled poA_scheme : Nat) (po_foot : Int32) (po_feet : Int32) (po_lines : Int32) (po_words : Int32) (po_sizes : Nat → Int32) (po_kinds : Nat → Int32) (po_spelled : Nat → Nat) (po_scheme : Nat → Int32) : va_W := [(po_a, .inr (2, [.int po_foot, .int po_feet, .int po_lines, .int po_words, .ref poA_sizes, .ref poA_kinds, .ref poA_spelled, .ref poA_scheme])), aI K poA_sizes 4 po_sizes, aI K poA_kinds 20 po_kinds, aS K poA_spelled 20 po_spelled, aI K poA_scheme 4 po_scheme]
def rmX2_tailStart : Room := { frames := 1, cells := 0, slots := 0, locals := 23 }
theorem hdX2_tailStart : yX2_tailStart.cls = RX2 ∧ yX2_tailStart.cls ≠ "java/lang/invoke/MethodHandle" ∧ yX2_tailStart.cls ≠ "java/lang/invoke/VarHandle" ∧ (parseMethodDescriptor yX2_tailStart.desc).map (fun d => d.parameters.length) = some 1 := by decide +kernel
set_option maxHeartbeats 4000000 in
set_option maxRecDepth 100000 in
theorem wX2_tailStart_b54 {p : Program} {l : Launch} {e : Env} {s : State} {m : MethodId} {args : Array Value} {below : List Frame} {meth : Method} {c : Code} {Q : State → Prop} {G : va_G} {K : Nat → ClassId} {A : Nat → Prop} {tt : Nat → Nat} {L : List Nat} {la : Nat → Nat} {sa : Nat → Nat} {ln : Nat → Int32} {sy : Nat → Int32} {sn : Nat → Int32} {lt : Nat → Nat → Int32} {st : Nat → Nat → Int32} (C0 : CX p s m args c cX2_tailStart 5 RX2 G K (EC G K tt L la sa ln sy sn lt st) A) (po_a poA_sizes poA_kinds poA_spelled poA_scheme : Nat) (po_foot : Int32) (po_feet : Int32) (po_lines : Int32) (po_words : Int32) (po_sizes : Nat → Int32) (po_kinds : Nat → Int32) (po_spelled : Nat → Nat) (po_scheme : Nat → Int32) (p1 : Int32) (r : Int32)  (kr : ∀ (H : Heap) (locs : List Loc) (ls : Array Slot) (pc : Nat), decode cX2_tailStart pc = .ok (.ireturn, 1) → va_P G vwCl (WX2_tailStart K po_a poA_sizes poA_kinds poA_spelled poA_scheme po_foot po_feet po_lines po_words po_sizes po_kinds po_spelled po_scheme) H → va_D A (WX2_tailStart K po_a poA_sizes poA_kinds poA_spelled poA_scheme po_foot po_feet po_lines po_words po_sizes po_kinds po_spelled po_scheme) → va_S A s.heap H locs → W p l e rmX2_tailStart s m args below meth c H locs 0 0 Q (F0 m pc ls [.int r])) (x3 : Nat) (hM : mX2_tailStart_b54 L sy st po_kinds po_spelled p1  x3 = some r) : ∀ (H : Heap) (locs : List Loc) (ls : Array Slot), va_P G vwCl (WX2_tailStart K po_a poA_sizes poA_kinds poA_spelled poA_scheme po_foot po_feet po_lines po_words po_sizes po_kinds po_spelled po_scheme) H → va_D A (WX2_tailStart K po_a poA_sizes poA_kinds poA_spelled poA_scheme po_foot po_feet po_lines po_words po_sizes po_kinds po_spelled po_scheme) → va_S A s.heap H locs → lv_has ls 5 [(3, .ref x3)] → W p l e rmX2_tailStart s m args below meth c H locs 0 0 Q (F0 m 54 ls []) := by
  obtain ⟨hx, hb, hml, hown, hts, hK, hA, hEo, hE⟩ := id C0
  intro H locs ls hP hD hS hl
  unfold mX2_tailStart_b54 at hM
  refine lv_aload_n hx hb dX2_tailStart_54 rfl (lv_at hl 0 rfl) ?_
  obtain ⟨g_1, hM⟩ := ng hM
  refine va_get (D := G) (ci := 5) (v := .int (sy x3)) (C := RX5) (T := TX5) (N := 5) hx hb hts inX5 hown hK (sp_at hE hS (Decidable.not_not.mp g_1)) 0 rfl rfl 2 (by decide) (hts _ tb131) (fun _ h9 => h9) rfl dX2_tailStart_55 ?_
  refine lv_if_le (tgt := 75) hx hb dX2_tailStart_58 (by decide) (fun c_2 => ?_) (fun c_2 => ?_)
  · rw [if_pos c_2] at hM
    refine lv_iconst (v := 0) hx hb dX2_tailStart_75 (by decide) ?_
    have q1 := Option.some.inj hM
    subst q1
    exact kr _ _ _ _ dX2_tailStart_76 hP hD hS
  · rw [if_neg c_2] at hM
    refine lv_aload_n hx hb dX2_tailStart_61 rfl (lv_at hl 0 rfl) ?_
    obtain ⟨g_3, hM⟩ := ng hM
    refine va_get (D := G) (ci := 5) (v := .ref (sa x3)) (C := RX5) (T := TX5) (N := 5) hx hb hts inX5 hown hK (sp_at hE hS (Decidable.not_not.mp g_3)) 0 rfl rfl 3 (by decide) (hts _ tb134) (fun _ h9 => h9) rfl dX2_tailStart_62 ?_
    refine lv_aload_n hx hb dX2_tailStart_65 rfl (lv_at hl 0 rfl) ?_
    obtain ⟨g_4, hM⟩ := ng hM
    refine va_get (D := G) (ci := 5) (v := .int (sy x3)) (C := RX5) (T := TX5) (N := 5) hx hb hts inX5 hown hK (sp_at hE hS (Decidable.not_not.mp g_4)) 0 rfl rfl 2 (by decide) (hts _ tb131) (fun _ h9 => h9) rfl dX2_tailStart_66 ?_
    refine lv_iconst (v := 1) hx hb dX2_tailStart_69 (by decide) ?_
    refine lv_isub hx hb dX2_tailStart_70 ?_
    obtain ⟨g_5, hM⟩ := ng hM
    refine va_iald hx hb hK (sp_at hE hS (Decidable.not_not.mp g_3)) 2 0 rfl rfl g_5 dX2_tailStart_71 ?_
    refine lv_goto (tgt := 76) hx hb dX2_tailStart_72 (by decide) ?_
    have q1 := Option.some.inj hM
    subst q1
    exact kr _ _ _ _ dX2_tailStart_76 hP hD hS
set_option maxHeartbeats 4000000 in
set_option maxRecDepth 100000 in
theorem wX2_tailStart_b21 {p : Program} {l : Launch} {e : Env} {s : State} {m : MethodId} {args : Array Value} {below : List Frame} {meth : Method} {c : Code} {Q : State → Prop} {G : va_G} {K : Nat → ClassId} {A : Nat → Prop} {tt : Nat → Nat} {L : List Nat} {la : Nat → Nat} {sa : Nat → Nat} {ln : Nat → Int32} {sy : Nat → Int32} {sn : Nat → Int32} {lt : Nat → Nat → Int32} {st : Nat → Nat → Int32} (C0 : CX p s m args c cX2_tailStart 5 RX2 G K (EC G K tt L la sa ln sy sn lt st) A) (po_a poA_sizes poA_kinds poA_spelled poA_scheme : Nat) (po_foot : Int32) (po_feet : Int32) (po_lines : Int32) (po_words : Int32) (po_sizes : Nat → Int32) (po_kinds : Nat → Int32) (po_spelled : Nat → Nat) (po_scheme : Nat → Int32) (p1 : Int32) (r : Int32)  (kr : ∀ (H : Heap) (locs : List Loc) (ls : Array Slot) (pc : Nat), decode cX2_tailStart pc = .ok (.ireturn, 1) → va_P G vwCl (WX2_tailStart K po_a poA_sizes poA_kinds poA_spelled poA_scheme po_foot po_feet po_lines po_words po_sizes po_kinds po_spelled po_scheme) H → va_D A (WX2_tailStart K po_a poA_sizes poA_kinds poA_spelled poA_scheme po_foot po_feet po_lines po_words po_sizes po_kinds po_spelled po_scheme) → va_S A s.heap H locs → W p l e rmX2_tailStart s m args below meth c H locs 0 0 Q (F0 m pc ls [.int r])) (n : Nat) : ∀ (x2 : Int32) (x3 : Nat) (x4 : Int32), mX2_tailStart_b21 L sy st po_kinds po_spelled p1  n x2 x3 x4 = some r → ∀ (H : Heap) (locs : List Loc) (ls : Array Slot), va_P G vwCl (WX2_tailStart K po_a poA_sizes poA_kinds poA_spelled poA_scheme po_foot po_feet po_lines po_words po_sizes po_kinds po_spelled po_scheme) H → va_D A (WX2_tailStart K po_a poA_sizes poA_kinds poA_spelled poA_scheme po_foot po_feet po_lines po_words po_sizes po_kinds po_spelled po_scheme) → va_S A s.heap H locs → lv_has ls 5 [(2, .int x2), (3, .ref x3), (4, .int x4)] → W p l e rmX2_tailStart s m args below meth c H locs 0 0 Q (F0 m 21 ls []) := by
  obtain ⟨hx, hb, hml, hown, hts, hK, hA, hEo, hE⟩ := id C0
  induction n with
  | zero =>
    intro x2 x3 x4 hM
    cases hM
  | succ n ih =>
    intro x2 x3 x4 hM H locs ls hP hD hS hl
    rw [mX2_tailStart_b21] at hM
    refine lv_iload hx hb dX2_tailStart_21 (lv_at hl 2 rfl) ?_
    refine lv_if_lt (tgt := 54) hx hb dX2_tailStart_23 (by decide) (fun c_6 => ?_) (fun c_6 => ?_)
    · rw [if_pos c_6] at hM
      exact wX2_tailStart_b54 C0 po_a poA_sizes poA_kinds poA_spelled poA_scheme po_foot po_feet po_lines po_words po_sizes po_kinds po_spelled po_scheme p1 r kr  x3 hM _ _ _ hP hD hS (lv_sub hl [1] rfl)
    · rw [if_neg c_6] at hM
      refine lv_iload_n hx hb dX2_tailStart_26 rfl (lv_at hl 0 rfl) ?_
      refine lv_if_eq (tgt := 54) hx hb dX2_tailStart_27 (by decide) (fun c_7 => ?_) (fun c_7 => ?_)
      · rw [if_pos c_7] at hM
        exact wX2_tailStart_b54 C0 po_a poA_sizes poA_kinds poA_spelled poA_scheme po_foot po_feet po_lines po_words po_sizes po_kinds po_spelled po_scheme p1 r kr  x3 hM _ _ _ hP hD hS (lv_sub hl [1] rfl)
      · rw [if_neg c_7] at hM
        refine lv_iload_n hx hb dX2_tailStart_30 rfl (lv_at hl 0 rfl) ?_
        refine lv_iload hx hb dX2_tailStart_31 (lv_at hl 2 rfl) ?_
        refine lv_ishr hx hb dX2_tailStart_33 ?_
        refine lv_iconst (v := 1) hx hb dX2_tailStart_34 (by decide) ?_
        refine lv_iand hx hb dX2_tailStart_35 ?_
        refine lv_iconst (v := 1) hx hb dX2_tailStart_36 (by decide) ?_
        refine lv_icmp_ne (tgt := 48) hx hb dX2_tailStart_37 (by decide) (fun c_8 => ?_) (fun c_8 => ?_)
        · rw [if_neg c_8] at hM
          refine lv_iinc (v := (x4 + (-1))) (lv' := [(4, .int (x4 + (-1))), (2, .int x2), (3, .ref x3)]) hx hb dX2_tailStart_48 hl (k := 2) rfl rfl (by decide) rfl (fun ls hl => ?_)
          refine lv_goto (tgt := 21) hx hb dX2_tailStart_51 (by decide) ?_
          exact ih x2 x3 (x4 + (-1)) hM _ _ _ hP hD hS (lv_sub hl [1, 2, 0] rfl)
        · rw [if_pos c_8] at hM
          refine lv_aload_n hx hb dX2_tailStart_40 rfl (lv_at hl 1 rfl) ?_
          obtain ⟨g_9, hM⟩ := ng hM
          refine va_get (D := G) (ci := 5) (v := .ref (sa x3)) (C := RX5) (T := TX5) (N := 5) hx hb hts inX5 hown hK (sp_at hE hS (Decidable.not_not.mp g_9)) 0 rfl rfl 3 (by decide) (hts _ tb134) (fun _ h9 => h9) rfl dX2_tailStart_41 ?_
          refine lv_iload hx hb dX2_tailStart_44 (lv_at hl 2 rfl) ?_
          obtain ⟨g_10, hM⟩ := ng hM
          refine va_iald hx hb hK (sp_at hE hS (Decidable.not_not.mp g_9)) 2 0 rfl rfl g_10 dX2_tailStart_46 ?_
          have q1 := Option.some.inj hM
          subst q1
          exact kr _ _ _ _ dX2_tailStart_47 hP hD hS
set_option maxHeartbeats 4000000 in
set_option maxRecDepth 100000 in
theorem wX2_tailStart_b0 {p : Program} {l : Launch} {e : Env} {s : State} {m : MethodId} {args : Array Value} {below : List Frame} {meth : Method} {c : Code} {Q : State → Prop} {G : va_G} {K : Nat → ClassId} {A : Nat → Prop} {tt : Nat → Nat} {L : List Nat} {la : Nat → Nat} {sa : Nat → Nat} {ln : Nat → Int32} {sy : Nat → Int32} {sn : Nat → Int32} {lt : Nat → Nat → Int32} {st : Nat → Nat → Int32} (C0 : CX p s m args c cX2_tailStart 5 RX2 G K (EC G K tt L la sa ln sy sn lt st) A) (po_a poA_sizes poA_kinds poA_spelled poA_scheme : Nat) (po_foot : Int32) (po_feet : Int32) (po_lines : Int32) (po_words : Int32) (po_sizes : Nat → Int32) (po_kinds : Nat → Int32) (po_spelled : Nat → Nat) (po_scheme : Nat → Int32) (p1 : Int32) (r : Int32)  (kr : ∀ (H : Heap) (locs : List Loc) (ls : Array Slot) (pc : Nat), decode cX2_tailStart pc = .ok (.ireturn, 1) → va_P G vwCl (WX2_tailStart K po_a poA_sizes poA_kinds poA_spelled poA_scheme po_foot po_feet po_lines po_words po_sizes po_kinds po_spelled po_scheme) H → va_D A (WX2_tailStart K po_a poA_sizes poA_kinds poA_spelled poA_scheme po_foot po_feet po_lines po_words po_sizes po_kinds po_spelled po_scheme) → va_S A s.heap H locs → W p l e rmX2_tailStart s m args below meth c H locs 0 0 Q (F0 m pc ls [.int r]))  (hM : mX2_tailStart_b0 L sy st po_kinds po_spelled p1   = some r) : ∀ (H : Heap) (locs : List Loc) (ls : Array Slot), va_P G vwCl (WX2_tailStart K po_a poA_sizes poA_kinds poA_spelled poA_scheme po_foot po_feet po_lines po_words po_sizes po_kinds po_spelled po_scheme) H → va_D A (WX2_tailStart K po_a poA_sizes poA_kinds poA_spelled poA_scheme po_foot po_feet po_lines po_words po_sizes po_kinds po_spelled po_scheme) → va_S A s.heap H locs → lv_has ls 5 [(0, .ref po_a), (1, .int p1)] → W p l e rmX2_tailStart s m args below meth c H locs 0 0 Q (F0 m 0 ls []) := by
  obtain ⟨hx, hb, hml, hown, hts, hK, hA, hEo, hE⟩ := id C0
  intro H locs ls hP hD hS hl
  unfold mX2_tailStart_b0 at hM
  refine lv_aload_n hx hb dX2_tailStart_0 rfl (lv_at hl 0 rfl) ?_
  refine lv_iload_n hx hb dX2_tailStart_1 rfl (lv_at hl 1 rfl) ?_
  obtain ⟨r_11, hC, hM⟩ := oe1 hM
  refine cV_i (As := [.int p1]) (rest := []) C0 hP hD hS [0, 1, 2, 3, 4] (kX2_strongOnes l G K tt L la sa ln sy sn lt st po_a poA_sizes poA_kinds poA_spelled poA_scheme po_foot po_feet po_lines po_words po_sizes po_kinds po_spelled po_scheme p1 H.size r_11 hC) rfl rfl rfl tb516 tb491 tb492 tb7 tb493 hdX2_strongOnes (va_recv hK hP (ci := 2) (q0 := 0) rfl rfl) ⟨Nat.le_of_ble_eq_true rfl, Nat.le_of_ble_eq_true rfl⟩ rfl hl.1 (Nat.le_of_ble_eq_true rfl) rfl ⟨Nat.le_refl _, Nat.le_refl _⟩ dX2_tailStart_2 (fun H locs hP hD hS => ?_)
  have hP : va_P G vwCl (WX2_tailStart K po_a poA_sizes poA_kinds poA_spelled poA_scheme po_foot po_feet po_lines po_words po_sizes po_kinds po_spelled po_scheme) H := hP
  have hD : va_D A (WX2_tailStart K po_a poA_sizes poA_kinds poA_spelled poA_scheme po_foot po_feet po_lines po_words po_sizes po_kinds po_spelled po_scheme) := hD
  refine lv_istore_n (lv' := [(2, .int r_11), (0, .ref po_a), (1, .int p1)]) hx hb dX2_tailStart_5 rfl hl (by decide) rfl (fun ls hl => ?_)
  refine lv_aload_n hx hb dX2_tailStart_6 rfl (lv_at hl 1 rfl) ?_
  refine va_get (D := G) (ci := 2) (v := .ref poA_spelled) (C := RX2) (T := TX2) (N := 8) hx hb hts inX2 hown hK hP 0 rfl rfl 6 (by decide) (hts _ tb193) (fun _ h9 => h9) rfl dX2_tailStart_7 ?_
  refine lv_iload_n hx hb dX2_tailStart_10 rfl (lv_at hl 2 rfl) ?_
  obtain ⟨g_12, hM⟩ := ng hM
  refine va_aldq hx hb hK hP 3 2 rfl rfl g_12 dX2_tailStart_11 ?_
  show W p l e rmX2_tailStart s m args below meth c H locs 0 0 Q (F0 m 12 ls [.ref (po_spelled p1.toNatClampNeg)])
  refine lv_astore_n (lv' := [(3, .ref (po_spelled p1.toNatClampNeg)), (2, .int r_11), (0, .ref po_a), (1, .int p1)]) hx hb dX2_tailStart_12 rfl hl (by decide) rfl (fun ls hl => ?_)
  refine lv_aload_n hx hb dX2_tailStart_13 rfl (lv_at hl 0 rfl) ?_
  obtain ⟨g_13, hM⟩ := ng hM
  refine va_get (D := G) (ci := 5) (v := .int (sy (po_spelled p1.toNatClampNeg))) (C := RX5) (T := TX5) (N := 5) hx hb hts inX5 hown hK (sp_at hE hS (Decidable.not_not.mp g_13)) 0 rfl rfl 2 (by decide) (hts _ tb131) (fun _ h9 => h9) rfl dX2_tailStart_14 ?_
  refine lv_iconst (v := 1) hx hb dX2_tailStart_17 (by decide) ?_
  refine lv_isub hx hb dX2_tailStart_18 ?_
  refine lv_istore (lv' := [(4, .int ((sy (po_spelled p1.toNatClampNeg)) - (1 : Int32))), (3, .ref (po_spelled p1.toNatClampNeg)), (2, .int r_11), (0, .ref po_a), (1, .int p1)]) hx hb dX2_tailStart_19 hl (by decide) rfl (fun ls hl => ?_)
  exact wX2_tailStart_b21 C0 po_a poA_sizes poA_kinds poA_spelled poA_scheme po_foot po_feet po_lines po_words po_sizes po_kinds po_spelled po_scheme p1 r kr  FU r_11 (po_spelled p1.toNatClampNeg) ((sy (po_spelled p1.toNatClampNeg)) - (1 : Int32)) hM _ _ _ hP hD hS (lv_sub hl [2, 1, 0] rfl)
set_option maxHeartbeats 4000000 in
set_option maxRecDepth 100000 in
theorem kX2_tailStart (l : Launch) (G : va_G) (K : Nat → ClassId) (tt : Nat → Nat) (L : List Nat) (la : Nat → Nat) (sa : Nat → Nat) (ln : Nat → Int32) (sy : Nat → Int32) (sn : Nat → Int32) (lt : Nat → Nat → Int32) (st : Nat → Nat → Int32) (po_a poA_sizes poA_kinds poA_spelled poA_scheme : Nat) (po_foot : Int32) (po_feet : Int32) (po_lines : Int32) (po_words : Int32) (po_sizes : Nat → Int32) (po_kinds : Nat → Int32) (po_spelled : Nat → Nat) (po_scheme : Nat → Int32) (p1 : Int32) (sz : Nat) (r : Int32)  (hM : mX2_tailStart L sy st po_kinds po_spelled p1 = some r) : Met l yX2_tailStart (mC yX2_tailStart cX2_tailStart 5 (some .int)) rmX2_tailStart (va_Pc [.ref po_a, .int p1] (PCe G K (EC G K tt L la sa ln sy sn lt st) (WX2_tailStart K po_a poA_sizes poA_kinds poA_spelled poA_scheme po_foot po_feet po_lines po_words po_sizes po_kinds po_spelled po_scheme) sz)) (va_Qi (fun (x : Int32) (_ : Unit) => x = r) (fun _ t => va_P G vwCl (WX2_tailStart K po_a poA_sizes poA_kinds poA_spelled poA_scheme po_foot po_feet po_lines po_words po_sizes po_kinds po_spelled po_scheme) t.heap) (va_A (WX2_tailStart K po_a poA_sizes poA_kinds poA_spelled poA_scheme po_foot po_feet po_lines po_words po_sizes po_kinds po_spelled po_scheme) sz)) rmX2_tailStart.cells rmX2_tailStart.slots (va_A (WX2_tailStart K po_a poA_sizes poA_kinds poA_spelled poA_scheme po_foot po_feet po_lines po_words po_sizes po_kinds po_spelled po_scheme) sz) := by
  refine Met.ofW (cc := cX2_tailStart) (maxL := 5) (ret := (some .int)) (by decide) rfl ?_
  intro p e s m args below meth c s₁ B hml hv
  obtain ⟨rfl, hsz, hP, hK, hD0, hE⟩ := hv
  have hx := B.exec
  have hb := B.bytes
  have hr := B.returns
  have hts0 := atoms_spec (ws := mC yX2_tailStart cX2_tailStart 5 (some .int)) B.pre
  have hts : ∀ w ∈ tbG, w.before _ s = true := fun w h => hts0 w (List.mem_cons_of_mem _ h)
  have hown : s.vm.findClass RX2 = some m.cls := findClass_of_methodNamed B.named
  subst hsz
  have hD := hD0.self (sz := s.heap.size)
  generalize hAe : va_A (WX2_tailStart K po_a poA_sizes poA_kinds poA_spelled poA_scheme po_foot po_feet po_lines po_words po_sizes po_kinds po_spelled po_scheme) s.heap.size = A at hD hE ⊢
  have hA : ∀ q : Nat, s.heap.size ≤ q → A q := fun q h => by rw [← hAe]; exact Or.inr h
  have hS : va_S A s.heap s.heap [] := va_S.rf
  have hl := lv_entry ([.ref po_a, .int p1]) (n := 5) (Nat.le_of_ble_eq_true rfl)
  rw [lg_entry_eq]
  generalize (lg_sl ([.ref po_a, .int p1]) ++ List.replicate (5 - (lg_sl ([.ref po_a, .int p1])).length) Slot.unset).toArray = ls at hl ⊢
  have hl : lv_has ls 5 [(0, .ref po_a), (1, .int p1)] := hl
  exact wX2_tailStart_b0 ⟨hx, hb, hml, hown, hts, hK, hA, EC_ok _ _ _ _ _ _ _ _ _ _ _, hE⟩ po_a poA_sizes poA_kinds poA_spelled poA_scheme po_foot po_feet po_lines po_words po_sizes po_kinds po_spelled po_scheme p1 r (fun H locs ls pc hdg hP hD hS => W.iret (v := r) hx hb hr (fun t ht hW => ⟨⟨r, (), rfl, rfl, (show va_P G vwCl _ t.heap by rw [ht]; exact hP)⟩, hS.F ht⟩) hS.2.2 hdg)   hM _ _ _ hP hD hS hl
abbrev WX2_tailLetter (K : Nat → ClassId) (po_a poA_sizes poA_kinds poA_spelled poA_scheme : Nat) (po_foot : Int32) (po_feet : Int32) (po_lines : Int32) (po_words : Int32) (po_sizes : Nat → Int32) (po_kinds : Nat → Int32) (po_spelled : Nat → Nat) (po_scheme : Nat → Int32) : va_W := [(po_a, .inr (2, [.int po_foot, .int po_feet, .int po_lines, .int po_words, .ref poA_sizes, .ref poA_kinds, .ref poA_spelled, .ref poA_scheme])), aI K poA_sizes 4 po_sizes, aI K poA_kinds 20 po_kinds, aS K poA_spelled 20 po_spelled, aI K poA_scheme 4 po_scheme]
def rmX2_tailLetter : Room := { frames := 2, cells := 0, slots := 0, locals := 47 }
theorem hdX2_tailLetter : yX2_tailLetter.cls = RX2 ∧ yX2_tailLetter.cls ≠ "java/lang/invoke/MethodHandle" ∧ yX2_tailLetter.cls ≠ "java/lang/invoke/VarHandle" ∧ (parseMethodDescriptor yX2_tailLetter.desc).map (fun d => d.parameters.length) = some 2 := by decide +kernel
set_option maxHeartbeats 4000000 in
set_option maxRecDepth 100000 in
theorem wX2_tailLetter_b0 {p : Program} {l : Launch} {e : Env} {s : State} {m : MethodId} {args : Array Value} {below : List Frame} {meth : Method} {c : Code} {Q : State → Prop} {G : va_G} {K : Nat → ClassId} {A : Nat → Prop} {tt : Nat → Nat} {L : List Nat} {la : Nat → Nat} {sa : Nat → Nat} {ln : Nat → Int32} {sy : Nat → Int32} {sn : Nat → Int32} {lt : Nat → Nat → Int32} {st : Nat → Nat → Int32} (C0 : CX p s m args c cX2_tailLetter 4 RX2 G K (EC G K tt L la sa ln sy sn lt st) A) (po_a poA_sizes poA_kinds poA_spelled poA_scheme : Nat) (po_foot : Int32) (po_feet : Int32) (po_lines : Int32) (po_words : Int32) (po_sizes : Nat → Int32) (po_kinds : Nat → Int32) (po_spelled : Nat → Nat) (po_scheme : Nat → Int32) (p1 : Int32) (p2 : Int32) (r : Int32)  (kr : ∀ (H : Heap) (locs : List Loc) (ls : Array Slot) (pc : Nat), decode cX2_tailLetter pc = .ok (.ireturn, 1) → va_P G vwCl (WX2_tailLetter K po_a poA_sizes poA_kinds poA_spelled poA_scheme po_foot po_feet po_lines po_words po_sizes po_kinds po_spelled po_scheme) H → va_D A (WX2_tailLetter K po_a poA_sizes poA_kinds poA_spelled poA_scheme po_foot po_feet po_lines po_words po_sizes po_kinds po_spelled po_scheme) → va_S A s.heap H locs → W p l e rmX2_tailLetter s m args below meth c H locs 0 0 Q (F0 m pc ls [.int r]))  (hM : mX2_tailLetter_b0 L ln sy sn lt st po_kinds po_spelled p1 p2   = some r) : ∀ (H : Heap) (locs : List Loc) (ls : Array Slot), va_P G vwCl (WX2_tailLetter K po_a poA_sizes poA_kinds poA_spelled poA_scheme po_foot po_feet po_lines po_words po_sizes po_kinds po_spelled po_scheme) H → va_D A (WX2_tailLetter K po_a poA_sizes poA_kinds poA_spelled poA_scheme po_foot po_feet po_lines po_words po_sizes po_kinds po_spelled po_scheme) → va_S A s.heap H locs → lv_has ls 4 [(0, .ref po_a), (1, .int p1), (2, .int p2)] → W p l e rmX2_tailLetter s m args below meth c H locs 0 0 Q (F0 m 0 ls []) := by
  obtain ⟨hx, hb, hml, hown, hts, hK, hA, hEo, hE⟩ := id C0
  intro H locs ls hP hD hS hl
  unfold mX2_tailLetter_b0 at hM
  refine lv_aload_n hx hb dX2_tailLetter_0 rfl (lv_at hl 0 rfl) ?_
  refine lv_iload_n hx hb dX2_tailLetter_1 rfl (lv_at hl 1 rfl) ?_
  obtain ⟨r_1, hC, hM⟩ := oe1 hM
  refine cV_i (As := [.int p1]) (rest := []) C0 hP hD hS [0, 1, 2, 3, 4] (kX2_tailStart l G K tt L la sa ln sy sn lt st po_a poA_sizes poA_kinds poA_spelled poA_scheme po_foot po_feet po_lines po_words po_sizes po_kinds po_spelled po_scheme p1 H.size r_1 hC) rfl rfl rfl tb512 tb513 tb514 tb7 tb515 hdX2_tailStart (va_recv hK hP (ci := 2) (q0 := 0) rfl rfl) ⟨Nat.le_of_ble_eq_true rfl, Nat.le_of_ble_eq_true rfl⟩ rfl hl.1 (Nat.le_of_ble_eq_true rfl) rfl ⟨Nat.le_refl _, Nat.le_refl _⟩ dX2_tailLetter_2 (fun H locs hP hD hS => ?_)
  have hP : va_P G vwCl (WX2_tailLetter K po_a poA_sizes poA_kinds poA_spelled poA_scheme po_foot po_feet po_lines po_words po_sizes po_kinds po_spelled po_scheme) H := hP
  have hD : va_D A (WX2_tailLetter K po_a poA_sizes poA_kinds poA_spelled poA_scheme po_foot po_feet po_lines po_words po_sizes po_kinds po_spelled po_scheme) := hD
  refine lv_istore_n (lv' := [(3, .int r_1), (0, .ref po_a), (1, .int p1), (2, .int p2)]) hx hb dX2_tailLetter_5 rfl hl (by decide) rfl (fun ls hl => ?_)
  refine lv_iload_n hx hb dX2_tailLetter_6 rfl (lv_at hl 3 rfl) ?_
  refine lv_if_lt (tgt := 41) hx hb dX2_tailLetter_7 (by decide) (fun c_2 => ?_) (fun c_2 => ?_)
  · rw [if_pos c_2] at hM
    refine lv_ldc (v := -1000000) hx hb hown (hts _ tb517) dX2_tailLetter_41 ?_
    have q1 := Option.some.inj hM
    subst q1
    exact kr _ _ _ _ dX2_tailLetter_43 hP hD hS
  · rw [if_neg c_2] at hM
    refine lv_iload_n hx hb dX2_tailLetter_10 rfl (lv_at hl 3 rfl) ?_
    refine lv_aload_n hx hb dX2_tailLetter_11 rfl (lv_at hl 1 rfl) ?_
    refine va_get (D := G) (ci := 2) (v := .ref poA_spelled) (C := RX2) (T := TX2) (N := 8) hx hb hts inX2 hown hK hP 0 rfl rfl 6 (by decide) (hts _ tb193) (fun _ h9 => h9) rfl dX2_tailLetter_12 ?_
    refine lv_iload_n hx hb dX2_tailLetter_15 rfl (lv_at hl 2 rfl) ?_
    obtain ⟨g_3, hM⟩ := ng hM
    refine va_aldq hx hb hK hP 3 2 rfl rfl g_3 dX2_tailLetter_16 ?_
    show W p l e rmX2_tailLetter s m args below meth c H locs 0 0 Q (F0 m 17 ls [.ref (po_spelled p1.toNatClampNeg), .int p2])
    obtain ⟨g_4, hM⟩ := ng hM
    refine va_get (D := G) (ci := 5) (v := .int (sn (po_spelled p1.toNatClampNeg))) (C := RX5) (T := TX5) (N := 5) hx hb hts inX5 hown hK (sp_at hE hS (Decidable.not_not.mp g_4)) 0 rfl rfl 4 (by decide) (hts _ tb136) (fun _ h9 => h9) rfl dX2_tailLetter_17 ?_
    refine lv_iload_n hx hb dX2_tailLetter_20 rfl (lv_at hl 0 rfl) ?_
    refine lv_isub hx hb dX2_tailLetter_21 ?_
    refine lv_icmp_ge (tgt := 41) hx hb dX2_tailLetter_22 (by decide) (fun c_5 => ?_) (fun c_5 => ?_)
    · rw [if_pos c_5] at hM
      refine lv_ldc (v := -1000000) hx hb hown (hts _ tb517) dX2_tailLetter_41 ?_
      have q1 := Option.some.inj hM
      subst q1
      exact kr _ _ _ _ dX2_tailLetter_43 hP hD hS
    · rw [if_neg c_5] at hM
      refine lv_aload_n hx hb dX2_tailLetter_25 rfl (lv_at hl 1 rfl) ?_
      refine va_get (D := G) (ci := 2) (v := .ref poA_spelled) (C := RX2) (T := TX2) (N := 8) hx hb hts inX2 hown hK hP 0 rfl rfl 6 (by decide) (hts _ tb193) (fun _ h9 => h9) rfl dX2_tailLetter_26 ?_
      refine lv_iload_n hx hb dX2_tailLetter_29 rfl (lv_at hl 2 rfl) ?_
      obtain ⟨g_6, hM⟩ := ng hM
      refine va_aldq hx hb hK hP 3 2 rfl rfl g_6 dX2_tailLetter_30 ?_
      show W p l e rmX2_tailLetter s m args below meth c H locs 0 0 Q (F0 m 31 ls [.ref (po_spelled p1.toNatClampNeg)])
      obtain ⟨g_7, hM⟩ := ng hM
      refine va_get (D := G) (ci := 5) (v := .ref (la (po_spelled p1.toNatClampNeg))) (C := RX5) (T := TX5) (N := 5) hx hb hts inX5 hown hK (sp_at hE hS (Decidable.not_not.mp g_7)) 0 rfl rfl 1 (by decide) (hts _ tb128) (fun _ h9 => h9) rfl dX2_tailLetter_31 ?_
      refine lv_iload_n hx hb dX2_tailLetter_34 rfl (lv_at hl 0 rfl) ?_
      refine lv_iload_n hx hb dX2_tailLetter_35 rfl (lv_at hl 3 rfl) ?_
      refine lv_iadd hx hb dX2_tailLetter_36 ?_
      obtain ⟨g_8, hM⟩ := ng hM
      refine va_iald hx hb hK (sp_at hE hS (Decidable.not_not.mp g_7)) 1 0 rfl rfl g_8 dX2_tailLetter_37 ?_
      refine lv_goto (tgt := 43) hx hb dX2_tailLetter_38 (by decide) ?_
      have q1 := Option.some.inj hM
      subst q1
      exact kr _ _ _ _ dX2_tailLetter_43 hP hD hS
set_option maxHeartbeats 4000000 in
set_option maxRecDepth 100000 in
theorem kX2_tailLetter (l : Launch) (G : va_G) (K : Nat → ClassId) (tt : Nat → Nat) (L : List Nat) (la : Nat → Nat) (sa : Nat → Nat) (ln : Nat → Int32) (sy : Nat → Int32) (sn : Nat → Int32) (lt : Nat → Nat → Int32) (st : Nat → Nat → Int32) (po_a poA_sizes poA_kinds poA_spelled poA_scheme : Nat) (po_foot : Int32) (po_feet : Int32) (po_lines : Int32) (po_words : Int32) (po_sizes : Nat → Int32) (po_kinds : Nat → Int32) (po_spelled : Nat → Nat) (po_scheme : Nat → Int32) (p1 : Int32) (p2 : Int32) (sz : Nat) (r : Int32)  (hM : mX2_tailLetter L ln sy sn lt st po_kinds po_spelled p1 p2 = some r) : Met l yX2_tailLetter (mC yX2_tailLetter cX2_tailLetter 4 (some .int)) rmX2_tailLetter (va_Pc [.ref po_a, .int p1, .int p2] (PCe G K (EC G K tt L la sa ln sy sn lt st) (WX2_tailLetter K po_a poA_sizes poA_kinds poA_spelled poA_scheme po_foot po_feet po_lines po_words po_sizes po_kinds po_spelled po_scheme) sz)) (va_Qi (fun (x : Int32) (_ : Unit) => x = r) (fun _ t => va_P G vwCl (WX2_tailLetter K po_a poA_sizes poA_kinds poA_spelled poA_scheme po_foot po_feet po_lines po_words po_sizes po_kinds po_spelled po_scheme) t.heap) (va_A (WX2_tailLetter K po_a poA_sizes poA_kinds poA_spelled poA_scheme po_foot po_feet po_lines po_words po_sizes po_kinds po_spelled po_scheme) sz)) rmX2_tailLetter.cells rmX2_tailLetter.slots (va_A (WX2_tailLetter K po_a poA_sizes poA_kinds poA_spelled poA_scheme po_foot po_feet po_lines po_words po_sizes po_kinds po_spelled po_scheme) sz) := by
  refine Met.ofW (cc := cX2_tailLetter) (maxL := 4) (ret := (some .int)) (by decide) rfl ?_
  intro p e s m args below meth c s₁ B hml hv
  obtain ⟨rfl, hsz, hP, hK, hD0, hE⟩ := hv
  have hx := B.exec
  have hb := B.bytes
  have hr := B.returns
  have hts0 := atoms_spec (ws := mC yX2_tailLetter cX2_tailLetter 4 (some .int)) B.pre
  have hts : ∀ w ∈ tbG, w.before _ s = true := fun w h => hts0 w (List.mem_cons_of_mem _ h)
  have hown : s.vm.findClass RX2 = some m.cls := findClass_of_methodNamed B.named
  subst hsz
  have hD := hD0.self (sz := s.heap.size)
  generalize hAe : va_A (WX2_tailLetter K po_a poA_sizes poA_kinds poA_spelled poA_scheme po_foot po_feet po_lines po_words po_sizes po_kinds po_spelled po_scheme) s.heap.size = A at hD hE ⊢
  have hA : ∀ q : Nat, s.heap.size ≤ q → A q := fun q h => by rw [← hAe]; exact Or.inr h
  have hS : va_S A s.heap s.heap [] := va_S.rf
  have hl := lv_entry ([.ref po_a, .int p1, .int p2]) (n := 4) (Nat.le_of_ble_eq_true rfl)
  rw [lg_entry_eq]
  generalize (lg_sl ([.ref po_a, .int p1, .int p2]) ++ List.replicate (4 - (lg_sl ([.ref po_a, .int p1, .int p2])).length) Slot.unset).toArray = ls at hl ⊢
  have hl : lv_has ls 4 [(0, .ref po_a), (1, .int p1), (2, .int p2)] := hl
  exact wX2_tailLetter_b0 ⟨hx, hb, hml, hown, hts, hK, hA, EC_ok _ _ _ _ _ _ _ _ _ _ _, hE⟩ po_a poA_sizes poA_kinds poA_spelled poA_scheme po_foot po_feet po_lines po_words po_sizes po_kinds po_spelled po_scheme p1 p2 r (fun H locs ls pc hdg hP hD hS => W.iret (v := r) hx hb hr (fun t ht hW => ⟨⟨r, (), rfl, rfl, (show va_P G vwCl _ t.heap by rw [ht]; exact hP)⟩, hS.F ht⟩) hS.2.2 hdg)   hM _ _ _ hP hD hS hl
abbrev WX2_syllablesOf (K : Nat → ClassId) (po_a poA_sizes poA_kinds poA_spelled poA_scheme : Nat) (po_foot : Int32) (po_feet : Int32) (po_lines : Int32) (po_words : Int32) (po_sizes : Nat → Int32) (po_kinds : Nat → Int32) (po_spelled : Nat → Nat) (po_scheme : Nat → Int32) : va_W := [(po_a, .inr (2, [.int po_foot, .int po_feet, .int po_lines, .int po_words, .ref poA_sizes, .ref poA_kinds, .ref poA_spelled, .ref poA_scheme])), aI K poA_sizes 4 po_sizes, aI K poA_kinds 20 po_kinds, aS K poA_spelled 20 po_spelled, aI K poA_scheme 4 po_scheme]
def rmX2_syllablesOf : Room := { frames := 1, cells := 0, slots := 0, locals := 23 }
theorem hdX2_syllablesOf : yX2_syllablesOf.cls = RX2 ∧ yX2_syllablesOf.cls ≠ "java/lang/invoke/MethodHandle" ∧ yX2_syllablesOf.cls ≠ "java/lang/invoke/VarHandle" ∧ (parseMethodDescriptor yX2_syllablesOf.desc).map (fun d => d.parameters.length) = some 1 := by decide +kernel
set_option maxHeartbeats 4000000 in
set_option maxRecDepth 100000 in
theorem wX2_syllablesOf_b11 {p : Program} {l : Launch} {e : Env} {s : State} {m : MethodId} {args : Array Value} {below : List Frame} {meth : Method} {c : Code} {Q : State → Prop} {G : va_G} {K : Nat → ClassId} {A : Nat → Prop} {tt : Nat → Nat} {L : List Nat} {la : Nat → Nat} {sa : Nat → Nat} {ln : Nat → Int32} {sy : Nat → Int32} {sn : Nat → Int32} {lt : Nat → Nat → Int32} {st : Nat → Nat → Int32} (C0 : CX p s m args c cX2_syllablesOf 5 RX2 G K (EC G K tt L la sa ln sy sn lt st) A) (po_a poA_sizes poA_kinds poA_spelled poA_scheme : Nat) (po_foot : Int32) (po_feet : Int32) (po_lines : Int32) (po_words : Int32) (po_sizes : Nat → Int32) (po_kinds : Nat → Int32) (po_spelled : Nat → Nat) (po_scheme : Nat → Int32) (p1 : Int32) (r : Int32)  (kr : ∀ (H : Heap) (locs : List Loc) (ls : Array Slot) (pc : Nat), decode cX2_syllablesOf pc = .ok (.ireturn, 1) → va_P G vwCl (WX2_syllablesOf K po_a poA_sizes poA_kinds poA_spelled poA_scheme po_foot po_feet po_lines po_words po_sizes po_kinds po_spelled po_scheme) H → va_D A (WX2_syllablesOf K po_a poA_sizes poA_kinds poA_spelled poA_scheme po_foot po_feet po_lines po_words po_sizes po_kinds po_spelled po_scheme) → va_S A s.heap H locs → W p l e rmX2_syllablesOf s m args below meth c H locs 0 0 Q (F0 m pc ls [.int r])) (n : Nat) : ∀ (x2 : Int32) (x3 : Int32) (x4 : Int32), mX2_syllablesOf_b11 L sy po_sizes po_spelled p1  n x2 x3 x4 = some r → ∀ (H : Heap) (locs : List Loc) (ls : Array Slot), va_P G vwCl (WX2_syllablesOf K po_a poA_sizes poA_kinds poA_spelled poA_scheme po_foot po_feet po_lines po_words po_sizes po_kinds po_spelled po_scheme) H → va_D A (WX2_syllablesOf K po_a poA_sizes poA_kinds poA_spelled poA_scheme po_foot po_feet po_lines po_words po_sizes po_kinds po_spelled po_scheme) → va_S A s.heap H locs → lv_has ls 5 [(0, .ref po_a), (1, .int p1), (2, .int x2), (3, .int x3), (4, .int x4)] → W p l e rmX2_syllablesOf s m args below meth c H locs 0 0 Q (F0 m 11 ls []) := by
  obtain ⟨hx, hb, hml, hown, hts, hK, hA, hEo, hE⟩ := id C0
  induction n with
  | zero =>
    intro x2 x3 x4 hM
    cases hM
  | succ n ih =>
    intro x2 x3 x4 hM H locs ls hP hD hS hl
    rw [mX2_syllablesOf_b11] at hM
    refine lv_iload hx hb dX2_syllablesOf_11 (lv_at hl 4 rfl) ?_
    refine lv_iload_n hx hb dX2_syllablesOf_13 rfl (lv_at hl 2 rfl) ?_
    refine lv_aload_n hx hb dX2_syllablesOf_14 rfl (lv_at hl 0 rfl) ?_
    refine va_get (D := G) (ci := 2) (v := .ref poA_sizes) (C := RX2) (T := TX2) (N := 8) hx hb hts inX2 hown hK hP 0 rfl rfl 4 (by decide) (hts _ tb187) (fun _ h9 => h9) rfl dX2_syllablesOf_15 ?_
    refine lv_iload_n hx hb dX2_syllablesOf_18 rfl (lv_at hl 1 rfl) ?_
    obtain ⟨g_1, hM⟩ := ng hM
    refine va_iald hx hb hK hP 1 0 rfl rfl g_1 dX2_syllablesOf_19 ?_
    refine lv_iadd hx hb dX2_syllablesOf_20 ?_
    refine lv_icmp_ge (tgt := 50) hx hb dX2_syllablesOf_21 (by decide) (fun c_2 => ?_) (fun c_2 => ?_)
    · rw [if_pos c_2] at hM
      refine lv_iload_n hx hb dX2_syllablesOf_50 rfl (lv_at hl 3 rfl) ?_
      have q1 := Option.some.inj hM
      subst q1
      exact kr _ _ _ _ dX2_syllablesOf_51 hP hD hS
    · rw [if_neg c_2] at hM
      refine lv_iload hx hb dX2_syllablesOf_24 (lv_at hl 4 rfl) ?_
      refine lv_bipush (v := 20) hx hb dX2_syllablesOf_26 (by decide) ?_
      refine lv_icmp_ge (tgt := 50) hx hb dX2_syllablesOf_28 (by decide) (fun c_3 => ?_) (fun c_3 => ?_)
      · rw [if_pos c_3] at hM
        refine lv_iload_n hx hb dX2_syllablesOf_50 rfl (lv_at hl 3 rfl) ?_
        have q1 := Option.some.inj hM
        subst q1
        exact kr _ _ _ _ dX2_syllablesOf_51 hP hD hS
      · rw [if_neg c_3] at hM
        refine lv_iload_n hx hb dX2_syllablesOf_31 rfl (lv_at hl 3 rfl) ?_
        refine lv_aload_n hx hb dX2_syllablesOf_32 rfl (lv_at hl 0 rfl) ?_
        refine va_get (D := G) (ci := 2) (v := .ref poA_spelled) (C := RX2) (T := TX2) (N := 8) hx hb hts inX2 hown hK hP 0 rfl rfl 6 (by decide) (hts _ tb193) (fun _ h9 => h9) rfl dX2_syllablesOf_33 ?_
        refine lv_iload hx hb dX2_syllablesOf_36 (lv_at hl 4 rfl) ?_
        obtain ⟨g_4, hM⟩ := ng hM
        refine va_aldq hx hb hK hP 3 2 rfl rfl g_4 dX2_syllablesOf_38 ?_
        show W p l e rmX2_syllablesOf s m args below meth c H locs 0 0 Q (F0 m 39 ls [.ref (po_spelled x4.toNatClampNeg), .int x3])
        obtain ⟨g_5, hM⟩ := ng hM
        refine va_get (D := G) (ci := 5) (v := .int (sy (po_spelled x4.toNatClampNeg))) (C := RX5) (T := TX5) (N := 5) hx hb hts inX5 hown hK (sp_at hE hS (Decidable.not_not.mp g_5)) 0 rfl rfl 2 (by decide) (hts _ tb131) (fun _ h9 => h9) rfl dX2_syllablesOf_39 ?_
        refine lv_iadd hx hb dX2_syllablesOf_42 ?_
        refine lv_istore_n (lv' := [(3, .int (x3 + (sy (po_spelled x4.toNatClampNeg)))), (0, .ref po_a), (1, .int p1), (2, .int x2), (4, .int x4)]) hx hb dX2_syllablesOf_43 rfl hl (by decide) rfl (fun ls hl => ?_)
        refine lv_iinc (v := (x4 + 1)) (lv' := [(4, .int (x4 + 1)), (3, .int (x3 + (sy (po_spelled x4.toNatClampNeg)))), (0, .ref po_a), (1, .int p1), (2, .int x2)]) hx hb dX2_syllablesOf_44 hl (k := 4) rfl rfl (by decide) rfl (fun ls hl => ?_)
        refine lv_goto (tgt := 11) hx hb dX2_syllablesOf_47 (by decide) ?_
        exact ih x2 (x3 + (sy (po_spelled x4.toNatClampNeg))) (x4 + 1) hM _ _ _ hP hD hS (lv_sub hl [2, 3, 4, 1, 0] rfl)
set_option maxHeartbeats 4000000 in
set_option maxRecDepth 100000 in
theorem wX2_syllablesOf_b0 {p : Program} {l : Launch} {e : Env} {s : State} {m : MethodId} {args : Array Value} {below : List Frame} {meth : Method} {c : Code} {Q : State → Prop} {G : va_G} {K : Nat → ClassId} {A : Nat → Prop} {tt : Nat → Nat} {L : List Nat} {la : Nat → Nat} {sa : Nat → Nat} {ln : Nat → Int32} {sy : Nat → Int32} {sn : Nat → Int32} {lt : Nat → Nat → Int32} {st : Nat → Nat → Int32} (C0 : CX p s m args c cX2_syllablesOf 5 RX2 G K (EC G K tt L la sa ln sy sn lt st) A) (po_a poA_sizes poA_kinds poA_spelled poA_scheme : Nat) (po_foot : Int32) (po_feet : Int32) (po_lines : Int32) (po_words : Int32) (po_sizes : Nat → Int32) (po_kinds : Nat → Int32) (po_spelled : Nat → Nat) (po_scheme : Nat → Int32) (p1 : Int32) (r : Int32)  (kr : ∀ (H : Heap) (locs : List Loc) (ls : Array Slot) (pc : Nat), decode cX2_syllablesOf pc = .ok (.ireturn, 1) → va_P G vwCl (WX2_syllablesOf K po_a poA_sizes poA_kinds poA_spelled poA_scheme po_foot po_feet po_lines po_words po_sizes po_kinds po_spelled po_scheme) H → va_D A (WX2_syllablesOf K po_a poA_sizes poA_kinds poA_spelled poA_scheme po_foot po_feet po_lines po_words po_sizes po_kinds po_spelled po_scheme) → va_S A s.heap H locs → W p l e rmX2_syllablesOf s m args below meth c H locs 0 0 Q (F0 m pc ls [.int r]))  (hM : mX2_syllablesOf_b0 L sy po_sizes po_spelled p1   = some r) : ∀ (H : Heap) (locs : List Loc) (ls : Array Slot), va_P G vwCl (WX2_syllablesOf K po_a poA_sizes poA_kinds poA_spelled poA_scheme po_foot po_feet po_lines po_words po_sizes po_kinds po_spelled po_scheme) H → va_D A (WX2_syllablesOf K po_a poA_sizes poA_kinds poA_spelled poA_scheme po_foot po_feet po_lines po_words po_sizes po_kinds po_spelled po_scheme) → va_S A s.heap H locs → lv_has ls 5 [(0, .ref po_a), (1, .int p1)] → W p l e rmX2_syllablesOf s m args below meth c H locs 0 0 Q (F0 m 0 ls []) := by
  obtain ⟨hx, hb, hml, hown, hts, hK, hA, hEo, hE⟩ := id C0
  intro H locs ls hP hD hS hl
  unfold mX2_syllablesOf_b0 at hM
  refine lv_aload_n hx hb dX2_syllablesOf_0 rfl (lv_at hl 0 rfl) ?_
  refine lv_iload_n hx hb dX2_syllablesOf_1 rfl (lv_at hl 1 rfl) ?_
  obtain ⟨r_6, hC, hM⟩ := oe1 hM
  refine cV_i (As := [.int p1]) (rest := []) C0 hP hD hS [0, 1, 2, 3, 4] (kX2_firstOf l G K tt L la sa ln sy sn lt st po_a poA_sizes poA_kinds poA_spelled poA_scheme po_foot po_feet po_lines po_words po_sizes po_kinds po_spelled po_scheme p1 H.size r_6 hC) rfl rfl rfl tb507 tb451 tb452 tb7 tb453 hdX2_firstOf (va_recv hK hP (ci := 2) (q0 := 0) rfl rfl) ⟨Nat.le_of_ble_eq_true rfl, Nat.le_of_ble_eq_true rfl⟩ rfl hl.1 (Nat.le_of_ble_eq_true rfl) rfl ⟨Nat.le_refl _, Nat.le_refl _⟩ dX2_syllablesOf_2 (fun H locs hP hD hS => ?_)
  have hP : va_P G vwCl (WX2_syllablesOf K po_a poA_sizes poA_kinds poA_spelled poA_scheme po_foot po_feet po_lines po_words po_sizes po_kinds po_spelled po_scheme) H := hP
  have hD : va_D A (WX2_syllablesOf K po_a poA_sizes poA_kinds poA_spelled poA_scheme po_foot po_feet po_lines po_words po_sizes po_kinds po_spelled po_scheme) := hD
  refine lv_istore_n (lv' := [(2, .int r_6), (0, .ref po_a), (1, .int p1)]) hx hb dX2_syllablesOf_5 rfl hl (by decide) rfl (fun ls hl => ?_)
  refine lv_iconst (v := 0) hx hb dX2_syllablesOf_6 (by decide) ?_
  refine lv_istore_n (lv' := [(3, .int (0 : Int32)), (2, .int r_6), (0, .ref po_a), (1, .int p1)]) hx hb dX2_syllablesOf_7 rfl hl (by decide) rfl (fun ls hl => ?_)
  refine lv_iload_n hx hb dX2_syllablesOf_8 rfl (lv_at hl 1 rfl) ?_
  refine lv_istore (lv' := [(4, .int r_6), (3, .int (0 : Int32)), (2, .int r_6), (0, .ref po_a), (1, .int p1)]) hx hb dX2_syllablesOf_9 hl (by decide) rfl (fun ls hl => ?_)
  exact wX2_syllablesOf_b11 C0 po_a poA_sizes poA_kinds poA_spelled poA_scheme po_foot po_feet po_lines po_words po_sizes po_kinds po_spelled po_scheme p1 r kr  FU r_6 (0 : Int32) r_6 hM _ _ _ hP hD hS (lv_sub hl [3, 4, 2, 1, 0] rfl)
set_option maxHeartbeats 4000000 in
set_option maxRecDepth 100000 in
theorem kX2_syllablesOf (l : Launch) (G : va_G) (K : Nat → ClassId) (tt : Nat → Nat) (L : List Nat) (la : Nat → Nat) (sa : Nat → Nat) (ln : Nat → Int32) (sy : Nat → Int32) (sn : Nat → Int32) (lt : Nat → Nat → Int32) (st : Nat → Nat → Int32) (po_a poA_sizes poA_kinds poA_spelled poA_scheme : Nat) (po_foot : Int32) (po_feet : Int32) (po_lines : Int32) (po_words : Int32) (po_sizes : Nat → Int32) (po_kinds : Nat → Int32) (po_spelled : Nat → Nat) (po_scheme : Nat → Int32) (p1 : Int32) (sz : Nat) (r : Int32)  (hM : mX2_syllablesOf L sy po_sizes po_spelled p1 = some r) : Met l yX2_syllablesOf (mC yX2_syllablesOf cX2_syllablesOf 5 (some .int)) rmX2_syllablesOf (va_Pc [.ref po_a, .int p1] (PCe G K (EC G K tt L la sa ln sy sn lt st) (WX2_syllablesOf K po_a poA_sizes poA_kinds poA_spelled poA_scheme po_foot po_feet po_lines po_words po_sizes po_kinds po_spelled po_scheme) sz)) (va_Qi (fun (x : Int32) (_ : Unit) => x = r) (fun _ t => va_P G vwCl (WX2_syllablesOf K po_a poA_sizes poA_kinds poA_spelled poA_scheme po_foot po_feet po_lines po_words po_sizes po_kinds po_spelled po_scheme) t.heap) (va_A (WX2_syllablesOf K po_a poA_sizes poA_kinds poA_spelled poA_scheme po_foot po_feet po_lines po_words po_sizes po_kinds po_spelled po_scheme) sz)) rmX2_syllablesOf.cells rmX2_syllablesOf.slots (va_A (WX2_syllablesOf K po_a poA_sizes poA_kinds poA_spelled poA_scheme po_foot po_feet po_lines po_words po_sizes po_kinds po_spelled po_scheme) sz) := by
  refine Met.ofW (cc := cX2_syllablesOf) (maxL := 5) (ret := (some .int)) (by decide) rfl ?_
  intro p e s m args below meth c s₁ B hml hv
  obtain ⟨rfl, hsz, hP, hK, hD0, hE⟩ := hv
  have hx := B.exec
  have hb := B.bytes
  have hr := B.returns
  have hts0 := atoms_spec (ws := mC yX2_syllablesOf cX2_syllablesOf 5 (some .int)) B.pre
  have hts : ∀ w ∈ tbG, w.before _ s = true := fun w h => hts0 w (List.mem_cons_of_mem _ h)
  have hown : s.vm.findClass RX2 = some m.cls := findClass_of_methodNamed B.named
  subst hsz
  have hD := hD0.self (sz := s.heap.size)
  generalize hAe : va_A (WX2_syllablesOf K po_a poA_sizes poA_kinds poA_spelled poA_scheme po_foot po_feet po_lines po_words po_sizes po_kinds po_spelled po_scheme) s.heap.size = A at hD hE ⊢
  have hA : ∀ q : Nat, s.heap.size ≤ q → A q := fun q h => by rw [← hAe]; exact Or.inr h
  have hS : va_S A s.heap s.heap [] := va_S.rf
  have hl := lv_entry ([.ref po_a, .int p1]) (n := 5) (Nat.le_of_ble_eq_true rfl)
  rw [lg_entry_eq]
  generalize (lg_sl ([.ref po_a, .int p1]) ++ List.replicate (5 - (lg_sl ([.ref po_a, .int p1])).length) Slot.unset).toArray = ls at hl ⊢
  have hl : lv_has ls 5 [(0, .ref po_a), (1, .int p1)] := hl
  exact wX2_syllablesOf_b0 ⟨hx, hb, hml, hown, hts, hK, hA, EC_ok _ _ _ _ _ _ _ _ _ _ _, hE⟩ po_a poA_sizes poA_kinds poA_spelled poA_scheme po_foot po_feet po_lines po_words po_sizes po_kinds po_spelled po_scheme p1 r (fun H locs ls pc hdg hP hD hS => W.iret (v := r) hx hb hr (fun t ht hW => ⟨⟨r, (), rfl, rfl, (show va_P G vwCl _ t.heap by rw [ht]; exact hP)⟩, hS.F ht⟩) hS.2.2 hdg)   hM _ _ _ hP hD hS hl
abbrev WX2_tailsAlike (K : Nat → ClassId) (po_a poA_sizes poA_kinds poA_spelled poA_scheme : Nat) (po_foot : Int32) (po_feet : Int32) (po_lines : Int32) (po_words : Int32) (po_sizes : Nat → Int32) (po_kinds : Nat → Int32) (po_spelled : Nat → Nat) (po_scheme : Nat → Int32) : va_W := [(po_a, .inr (2, [.int po_foot, .int po_feet, .int po_lines, .int po_words, .ref poA_sizes, .ref poA_kinds, .ref poA_spelled, .ref poA_scheme])), aI K poA_sizes 4 po_sizes, aI K poA_kinds 20 po_kinds, aS K poA_spelled 20 po_spelled, aI K poA_scheme 4 po_scheme]
def rmX2_tailsAlike : Room := { frames := 2, cells := 0, slots := 0, locals := 47 }
theorem hdX2_tailsAlike : yX2_tailsAlike.cls = RX2 ∧ yX2_tailsAlike.cls ≠ "java/lang/invoke/MethodHandle" ∧ yX2_tailsAlike.cls ≠ "java/lang/invoke/VarHandle" ∧ (parseMethodDescriptor yX2_tailsAlike.desc).map (fun d => d.parameters.length) = some 2 := by decide +kernel
set_option maxHeartbeats 4000000 in
set_option maxRecDepth 100000 in
theorem wX2_tailsAlike_b48 {p : Program} {l : Launch} {e : Env} {s : State} {m : MethodId} {args : Array Value} {below : List Frame} {meth : Method} {c : Code} {Q : State → Prop} {G : va_G} {K : Nat → ClassId} {A : Nat → Prop} {tt : Nat → Nat} {L : List Nat} {la : Nat → Nat} {sa : Nat → Nat} {ln : Nat → Int32} {sy : Nat → Int32} {sn : Nat → Int32} {lt : Nat → Nat → Int32} {st : Nat → Nat → Int32} (C0 : CX p s m args c cX2_tailsAlike 7 RX2 G K (EC G K tt L la sa ln sy sn lt st) A) (po_a poA_sizes poA_kinds poA_spelled poA_scheme : Nat) (po_foot : Int32) (po_feet : Int32) (po_lines : Int32) (po_words : Int32) (po_sizes : Nat → Int32) (po_kinds : Nat → Int32) (po_spelled : Nat → Nat) (po_scheme : Nat → Int32) (p1 : Int32) (p2 : Int32) (r : Int32)  (kr : ∀ (H : Heap) (locs : List Loc) (ls : Array Slot) (pc : Nat), decode cX2_tailsAlike pc = .ok (.ireturn, 1) → (r = 0 ∨ r = 1) → va_P G vwCl (WX2_tailsAlike K po_a poA_sizes poA_kinds poA_spelled poA_scheme po_foot po_feet po_lines po_words po_sizes po_kinds po_spelled po_scheme) H → va_D A (WX2_tailsAlike K po_a poA_sizes poA_kinds poA_spelled poA_scheme po_foot po_feet po_lines po_words po_sizes po_kinds po_spelled po_scheme) → va_S A s.heap H locs → W p l e rmX2_tailsAlike s m args below meth c H locs 0 0 Q (F0 m pc ls [.int r])) (n : Nat) : ∀ (x3 : Int32) (x4 : Int32) (x5 : Int32) (x6 : Int32), mX2_tailsAlike_b48 L ln sy sn lt st po_kinds po_spelled p1 p2  n x3 x4 x5 x6 = some r → ∀ (H : Heap) (locs : List Loc) (ls : Array Slot), va_P G vwCl (WX2_tailsAlike K po_a poA_sizes poA_kinds poA_spelled poA_scheme po_foot po_feet po_lines po_words po_sizes po_kinds po_spelled po_scheme) H → va_D A (WX2_tailsAlike K po_a poA_sizes poA_kinds poA_spelled poA_scheme po_foot po_feet po_lines po_words po_sizes po_kinds po_spelled po_scheme) → va_S A s.heap H locs → lv_has ls 7 [(0, .ref po_a), (1, .int p1), (2, .int p2), (3, .int x3), (4, .int x4), (5, .int x5), (6, .int x6)] → W p l e rmX2_tailsAlike s m args below meth c H locs 0 0 Q (F0 m 48 ls []) := by
  obtain ⟨hx, hb, hml, hown, hts, hK, hA, hEo, hE⟩ := id C0
  induction n with
  | zero =>
    intro x3 x4 x5 x6 hM
    cases hM
  | succ n ih =>
    intro x3 x4 x5 x6 hM H locs ls hP hD hS hl
    rw [mX2_tailsAlike_b48] at hM
    refine lv_iload hx hb dX2_tailsAlike_48 (lv_at hl 6 rfl) ?_
    refine lv_iload hx hb dX2_tailsAlike_50 (lv_at hl 5 rfl) ?_
    refine lv_icmp_ge (tgt := 95) hx hb dX2_tailsAlike_52 (by decide) (fun c_1 => ?_) (fun c_1 => ?_)
    · rw [if_pos c_1] at hM
      refine lv_iconst (v := 1) hx hb dX2_tailsAlike_95 (by decide) ?_
      have q1 := Option.some.inj hM
      subst q1
      exact kr _ _ _ _ dX2_tailsAlike_96 (by decide) hP hD hS
    · rw [if_neg c_1] at hM
      refine lv_aload_n hx hb dX2_tailsAlike_55 rfl (lv_at hl 0 rfl) ?_
      refine va_get (D := G) (ci := 2) (v := .ref poA_spelled) (C := RX2) (T := TX2) (N := 8) hx hb hts inX2 hown hK hP 0 rfl rfl 6 (by decide) (hts _ tb193) (fun _ h9 => h9) rfl dX2_tailsAlike_56 ?_
      refine lv_iload_n hx hb dX2_tailsAlike_59 rfl (lv_at hl 1 rfl) ?_
      obtain ⟨g_2, hM⟩ := ng hM
      refine va_aldq hx hb hK hP 3 2 rfl rfl g_2 dX2_tailsAlike_60 ?_
      show W p l e rmX2_tailsAlike s m args below meth c H locs 0 0 Q (F0 m 61 ls [.ref (po_spelled p1.toNatClampNeg)])
      obtain ⟨g_3, hM⟩ := ng hM
      refine va_get (D := G) (ci := 5) (v := .ref (la (po_spelled p1.toNatClampNeg))) (C := RX5) (T := TX5) (N := 5) hx hb hts inX5 hown hK (sp_at hE hS (Decidable.not_not.mp g_3)) 0 rfl rfl 1 (by decide) (hts _ tb128) (fun _ h9 => h9) rfl dX2_tailsAlike_61 ?_
      refine lv_iload_n hx hb dX2_tailsAlike_64 rfl (lv_at hl 3 rfl) ?_
      refine lv_iload hx hb dX2_tailsAlike_65 (lv_at hl 6 rfl) ?_
      refine lv_iadd hx hb dX2_tailsAlike_67 ?_
      obtain ⟨g_4, hM⟩ := ng hM
      refine va_iald hx hb hK (sp_at hE hS (Decidable.not_not.mp g_3)) 1 0 rfl rfl g_4 dX2_tailsAlike_68 ?_
      refine lv_aload_n hx hb dX2_tailsAlike_69 rfl (lv_at hl 0 rfl) ?_
      refine va_get (D := G) (ci := 2) (v := .ref poA_spelled) (C := RX2) (T := TX2) (N := 8) hx hb hts inX2 hown hK hP 0 rfl rfl 6 (by decide) (hts _ tb193) (fun _ h9 => h9) rfl dX2_tailsAlike_70 ?_
      refine lv_iload_n hx hb dX2_tailsAlike_73 rfl (lv_at hl 2 rfl) ?_
      obtain ⟨g_5, hM⟩ := ng hM
      refine va_aldq hx hb hK hP 3 2 rfl rfl g_5 dX2_tailsAlike_74 ?_
      show W p l e rmX2_tailsAlike s m args below meth c H locs 0 0 Q (F0 m 75 ls [.ref (po_spelled p2.toNatClampNeg), .int (lt (po_spelled p1.toNatClampNeg) (x3 + x6).toNatClampNeg)])
      obtain ⟨g_6, hM⟩ := ng hM
      refine va_get (D := G) (ci := 5) (v := .ref (la (po_spelled p2.toNatClampNeg))) (C := RX5) (T := TX5) (N := 5) hx hb hts inX5 hown hK (sp_at hE hS (Decidable.not_not.mp g_6)) 0 rfl rfl 1 (by decide) (hts _ tb128) (fun _ h9 => h9) rfl dX2_tailsAlike_75 ?_
      refine lv_iload hx hb dX2_tailsAlike_78 (lv_at hl 4 rfl) ?_
      refine lv_iload hx hb dX2_tailsAlike_80 (lv_at hl 6 rfl) ?_
      refine lv_iadd hx hb dX2_tailsAlike_82 ?_
      obtain ⟨g_7, hM⟩ := ng hM
      refine va_iald hx hb hK (sp_at hE hS (Decidable.not_not.mp g_6)) 1 0 rfl rfl g_7 dX2_tailsAlike_83 ?_
      refine lv_icmp_eq (tgt := 89) hx hb dX2_tailsAlike_84 (by decide) (fun c_8 => ?_) (fun c_8 => ?_)
      · rw [if_pos c_8] at hM
        refine lv_iinc (v := (x6 + 1)) (lv' := [(6, .int (x6 + 1)), (0, .ref po_a), (1, .int p1), (2, .int p2), (3, .int x3), (4, .int x4), (5, .int x5)]) hx hb dX2_tailsAlike_89 hl (k := 6) rfl rfl (by decide) rfl (fun ls hl => ?_)
        refine lv_goto (tgt := 48) hx hb dX2_tailsAlike_92 (by decide) ?_
        exact ih x3 x4 x5 (x6 + 1) hM _ _ _ hP hD hS (lv_sub hl [1, 2, 3, 4, 5, 6, 0] rfl)
      · rw [if_neg c_8] at hM
        refine lv_iconst (v := 0) hx hb dX2_tailsAlike_87 (by decide) ?_
        have q1 := Option.some.inj hM
        subst q1
        exact kr _ _ _ _ dX2_tailsAlike_88 (by decide) hP hD hS
set_option maxHeartbeats 4000000 in
set_option maxRecDepth 100000 in
theorem wX2_tailsAlike_b0 {p : Program} {l : Launch} {e : Env} {s : State} {m : MethodId} {args : Array Value} {below : List Frame} {meth : Method} {c : Code} {Q : State → Prop} {G : va_G} {K : Nat → ClassId} {A : Nat → Prop} {tt : Nat → Nat} {L : List Nat} {la : Nat → Nat} {sa : Nat → Nat} {ln : Nat → Int32} {sy : Nat → Int32} {sn : Nat → Int32} {lt : Nat → Nat → Int32} {st : Nat → Nat → Int32} (C0 : CX p s m args c cX2_tailsAlike 7 RX2 G K (EC G K tt L la sa ln sy sn lt st) A) (po_a poA_sizes poA_kinds poA_spelled poA_scheme : Nat) (po_foot : Int32) (po_feet : Int32) (po_lines : Int32) (po_words : Int32) (po_sizes : Nat → Int32) (po_kinds : Nat → Int32) (po_spelled : Nat → Nat) (po_scheme : Nat → Int32) (p1 : Int32) (p2 : Int32) (r : Int32)  (kr : ∀ (H : Heap) (locs : List Loc) (ls : Array Slot) (pc : Nat), decode cX2_tailsAlike pc = .ok (.ireturn, 1) → (r = 0 ∨ r = 1) → va_P G vwCl (WX2_tailsAlike K po_a poA_sizes poA_kinds poA_spelled poA_scheme po_foot po_feet po_lines po_words po_sizes po_kinds po_spelled po_scheme) H → va_D A (WX2_tailsAlike K po_a poA_sizes poA_kinds poA_spelled poA_scheme po_foot po_feet po_lines po_words po_sizes po_kinds po_spelled po_scheme) → va_S A s.heap H locs → W p l e rmX2_tailsAlike s m args below meth c H locs 0 0 Q (F0 m pc ls [.int r]))  (hM : mX2_tailsAlike_b0 L ln sy sn lt st po_kinds po_spelled p1 p2   = some r) : ∀ (H : Heap) (locs : List Loc) (ls : Array Slot), va_P G vwCl (WX2_tailsAlike K po_a poA_sizes poA_kinds poA_spelled poA_scheme po_foot po_feet po_lines po_words po_sizes po_kinds po_spelled po_scheme) H → va_D A (WX2_tailsAlike K po_a poA_sizes poA_kinds poA_spelled poA_scheme po_foot po_feet po_lines po_words po_sizes po_kinds po_spelled po_scheme) → va_S A s.heap H locs → lv_has ls 7 [(0, .ref po_a), (1, .int p1), (2, .int p2)] → W p l e rmX2_tailsAlike s m args below meth c H locs 0 0 Q (F0 m 0 ls []) := by
  obtain ⟨hx, hb, hml, hown, hts, hK, hA, hEo, hE⟩ := id C0
  intro H locs ls hP hD hS hl
  unfold mX2_tailsAlike_b0 at hM
  refine lv_aload_n hx hb dX2_tailsAlike_0 rfl (lv_at hl 0 rfl) ?_
  refine lv_iload_n hx hb dX2_tailsAlike_1 rfl (lv_at hl 1 rfl) ?_
  obtain ⟨r_9, hC, hM⟩ := oe1 hM
  refine cV_i (As := [.int p1]) (rest := []) C0 hP hD hS [0, 1, 2, 3, 4] (kX2_tailStart l G K tt L la sa ln sy sn lt st po_a poA_sizes poA_kinds poA_spelled poA_scheme po_foot po_feet po_lines po_words po_sizes po_kinds po_spelled po_scheme p1 H.size r_9 hC) rfl rfl rfl tb512 tb513 tb514 tb7 tb515 hdX2_tailStart (va_recv hK hP (ci := 2) (q0 := 0) rfl rfl) ⟨Nat.le_of_ble_eq_true rfl, Nat.le_of_ble_eq_true rfl⟩ rfl hl.1 (Nat.le_of_ble_eq_true rfl) rfl ⟨Nat.le_refl _, Nat.le_refl _⟩ dX2_tailsAlike_2 (fun H locs hP hD hS => ?_)
  have hP : va_P G vwCl (WX2_tailsAlike K po_a poA_sizes poA_kinds poA_spelled poA_scheme po_foot po_feet po_lines po_words po_sizes po_kinds po_spelled po_scheme) H := hP
  have hD : va_D A (WX2_tailsAlike K po_a poA_sizes poA_kinds poA_spelled poA_scheme po_foot po_feet po_lines po_words po_sizes po_kinds po_spelled po_scheme) := hD
  refine lv_istore_n (lv' := [(3, .int r_9), (0, .ref po_a), (1, .int p1), (2, .int p2)]) hx hb dX2_tailsAlike_5 rfl hl (by decide) rfl (fun ls hl => ?_)
  refine lv_aload_n hx hb dX2_tailsAlike_6 rfl (lv_at hl 1 rfl) ?_
  refine lv_iload_n hx hb dX2_tailsAlike_7 rfl (lv_at hl 3 rfl) ?_
  obtain ⟨r_10, hC, hM⟩ := oe1 hM
  refine cV_i (As := [.int p2]) (rest := []) C0 hP hD hS [0, 1, 2, 3, 4] (kX2_tailStart l G K tt L la sa ln sy sn lt st po_a poA_sizes poA_kinds poA_spelled poA_scheme po_foot po_feet po_lines po_words po_sizes po_kinds po_spelled po_scheme p2 H.size r_10 hC) rfl rfl rfl tb512 tb513 tb514 tb7 tb515 hdX2_tailStart (va_recv hK hP (ci := 2) (q0 := 0) rfl rfl) ⟨Nat.le_of_ble_eq_true rfl, Nat.le_of_ble_eq_true rfl⟩ rfl hl.1 (Nat.le_of_ble_eq_true rfl) rfl ⟨Nat.le_refl _, Nat.le_refl _⟩ dX2_tailsAlike_8 (fun H locs hP hD hS => ?_)
  have hP : va_P G vwCl (WX2_tailsAlike K po_a poA_sizes poA_kinds poA_spelled poA_scheme po_foot po_feet po_lines po_words po_sizes po_kinds po_spelled po_scheme) H := hP
  have hD : va_D A (WX2_tailsAlike K po_a poA_sizes poA_kinds poA_spelled poA_scheme po_foot po_feet po_lines po_words po_sizes po_kinds po_spelled po_scheme) := hD
  refine lv_istore (lv' := [(4, .int r_10), (3, .int r_9), (0, .ref po_a), (1, .int p1), (2, .int p2)]) hx hb dX2_tailsAlike_11 hl (by decide) rfl (fun ls hl => ?_)
  refine lv_aload_n hx hb dX2_tailsAlike_13 rfl (lv_at hl 2 rfl) ?_
  refine va_get (D := G) (ci := 2) (v := .ref poA_spelled) (C := RX2) (T := TX2) (N := 8) hx hb hts inX2 hown hK hP 0 rfl rfl 6 (by decide) (hts _ tb193) (fun _ h9 => h9) rfl dX2_tailsAlike_14 ?_
  refine lv_iload_n hx hb dX2_tailsAlike_17 rfl (lv_at hl 3 rfl) ?_
  obtain ⟨g_11, hM⟩ := ng hM
  refine va_aldq hx hb hK hP 3 2 rfl rfl g_11 dX2_tailsAlike_18 ?_
  show W p l e rmX2_tailsAlike s m args below meth c H locs 0 0 Q (F0 m 19 ls [.ref (po_spelled p1.toNatClampNeg)])
  obtain ⟨g_12, hM⟩ := ng hM
  refine va_get (D := G) (ci := 5) (v := .int (sn (po_spelled p1.toNatClampNeg))) (C := RX5) (T := TX5) (N := 5) hx hb hts inX5 hown hK (sp_at hE hS (Decidable.not_not.mp g_12)) 0 rfl rfl 4 (by decide) (hts _ tb136) (fun _ h9 => h9) rfl dX2_tailsAlike_19 ?_
  refine lv_iload_n hx hb dX2_tailsAlike_22 rfl (lv_at hl 1 rfl) ?_
  refine lv_isub hx hb dX2_tailsAlike_23 ?_
  refine lv_istore (lv' := [(5, .int ((sn (po_spelled p1.toNatClampNeg)) - r_9)), (4, .int r_10), (3, .int r_9), (0, .ref po_a), (1, .int p1), (2, .int p2)]) hx hb dX2_tailsAlike_24 hl (by decide) rfl (fun ls hl => ?_)
  refine lv_iload hx hb dX2_tailsAlike_26 (lv_at hl 0 rfl) ?_
  refine lv_aload_n hx hb dX2_tailsAlike_28 rfl (lv_at hl 3 rfl) ?_
  refine va_get (D := G) (ci := 2) (v := .ref poA_spelled) (C := RX2) (T := TX2) (N := 8) hx hb hts inX2 hown hK hP 0 rfl rfl 6 (by decide) (hts _ tb193) (fun _ h9 => h9) rfl dX2_tailsAlike_29 ?_
  refine lv_iload_n hx hb dX2_tailsAlike_32 rfl (lv_at hl 5 rfl) ?_
  obtain ⟨g_13, hM⟩ := ng hM
  refine va_aldq hx hb hK hP 3 2 rfl rfl g_13 dX2_tailsAlike_33 ?_
  show W p l e rmX2_tailsAlike s m args below meth c H locs 0 0 Q (F0 m 34 ls [.ref (po_spelled p2.toNatClampNeg), .int ((sn (po_spelled p1.toNatClampNeg)) - r_9)])
  obtain ⟨g_14, hM⟩ := ng hM
  refine va_get (D := G) (ci := 5) (v := .int (sn (po_spelled p2.toNatClampNeg))) (C := RX5) (T := TX5) (N := 5) hx hb hts inX5 hown hK (sp_at hE hS (Decidable.not_not.mp g_14)) 0 rfl rfl 4 (by decide) (hts _ tb136) (fun _ h9 => h9) rfl dX2_tailsAlike_34 ?_
  refine lv_iload hx hb dX2_tailsAlike_37 (lv_at hl 1 rfl) ?_
  refine lv_isub hx hb dX2_tailsAlike_39 ?_
  refine lv_icmp_eq (tgt := 45) hx hb dX2_tailsAlike_40 (by decide) (fun c_15 => ?_) (fun c_15 => ?_)
  · rw [if_pos c_15] at hM
    refine lv_iconst (v := 0) hx hb dX2_tailsAlike_45 (by decide) ?_
    refine lv_istore (lv' := [(6, .int (0 : Int32)), (5, .int ((sn (po_spelled p1.toNatClampNeg)) - r_9)), (4, .int r_10), (3, .int r_9), (0, .ref po_a), (1, .int p1), (2, .int p2)]) hx hb dX2_tailsAlike_46 hl (by decide) rfl (fun ls hl => ?_)
    exact wX2_tailsAlike_b48 C0 po_a poA_sizes poA_kinds poA_spelled poA_scheme po_foot po_feet po_lines po_words po_sizes po_kinds po_spelled po_scheme p1 p2 r kr  FU r_9 r_10 ((sn (po_spelled p1.toNatClampNeg)) - r_9) (0 : Int32) hM _ _ _ hP hD hS (lv_sub hl [4, 5, 6, 3, 2, 1, 0] rfl)
  · rw [if_neg c_15] at hM
    refine lv_iconst (v := 0) hx hb dX2_tailsAlike_43 (by decide) ?_
    have q1 := Option.some.inj hM
    subst q1
    exact kr _ _ _ _ dX2_tailsAlike_44 (by decide) hP hD hS
set_option maxHeartbeats 4000000 in
set_option maxRecDepth 100000 in
theorem kX2_tailsAlike (l : Launch) (G : va_G) (K : Nat → ClassId) (tt : Nat → Nat) (L : List Nat) (la : Nat → Nat) (sa : Nat → Nat) (ln : Nat → Int32) (sy : Nat → Int32) (sn : Nat → Int32) (lt : Nat → Nat → Int32) (st : Nat → Nat → Int32) (po_a poA_sizes poA_kinds poA_spelled poA_scheme : Nat) (po_foot : Int32) (po_feet : Int32) (po_lines : Int32) (po_words : Int32) (po_sizes : Nat → Int32) (po_kinds : Nat → Int32) (po_spelled : Nat → Nat) (po_scheme : Nat → Int32) (p1 : Int32) (p2 : Int32) (sz : Nat) (r : Int32)  (hM : mX2_tailsAlike L ln sy sn lt st po_kinds po_spelled p1 p2 = some r) : Met l yX2_tailsAlike (mC yX2_tailsAlike cX2_tailsAlike 7 (some .boolean)) rmX2_tailsAlike (va_Pc [.ref po_a, .int p1, .int p2] (PCe G K (EC G K tt L la sa ln sy sn lt st) (WX2_tailsAlike K po_a poA_sizes poA_kinds poA_spelled poA_scheme po_foot po_feet po_lines po_words po_sizes po_kinds po_spelled po_scheme) sz)) (va_Qi (fun (x : Int32) (_ : Unit) => x = r) (fun _ t => va_P G vwCl (WX2_tailsAlike K po_a poA_sizes poA_kinds poA_spelled poA_scheme po_foot po_feet po_lines po_words po_sizes po_kinds po_spelled po_scheme) t.heap) (va_A (WX2_tailsAlike K po_a poA_sizes poA_kinds poA_spelled poA_scheme po_foot po_feet po_lines po_words po_sizes po_kinds po_spelled po_scheme) sz)) rmX2_tailsAlike.cells rmX2_tailsAlike.slots (va_A (WX2_tailsAlike K po_a poA_sizes poA_kinds poA_spelled poA_scheme po_foot po_feet po_lines po_words po_sizes po_kinds po_spelled po_scheme) sz) := by
  refine Met.ofW (cc := cX2_tailsAlike) (maxL := 7) (ret := (some .boolean)) (by decide) rfl ?_
  intro p e s m args below meth c s₁ B hml hv
  obtain ⟨rfl, hsz, hP, hK, hD0, hE⟩ := hv
  have hx := B.exec
  have hb := B.bytes
  have hr := B.returns
  have hts0 := atoms_spec (ws := mC yX2_tailsAlike cX2_tailsAlike 7 (some .boolean)) B.pre
  have hts : ∀ w ∈ tbG, w.before _ s = true := fun w h => hts0 w (List.mem_cons_of_mem _ h)
  have hown : s.vm.findClass RX2 = some m.cls := findClass_of_methodNamed B.named
  subst hsz
  have hD := hD0.self (sz := s.heap.size)
  generalize hAe : va_A (WX2_tailsAlike K po_a poA_sizes poA_kinds poA_spelled poA_scheme po_foot po_feet po_lines po_words po_sizes po_kinds po_spelled po_scheme) s.heap.size = A at hD hE ⊢
  have hA : ∀ q : Nat, s.heap.size ≤ q → A q := fun q h => by rw [← hAe]; exact Or.inr h
  have hS : va_S A s.heap s.heap [] := va_S.rf
  have hl := lv_entry ([.ref po_a, .int p1, .int p2]) (n := 7) (Nat.le_of_ble_eq_true rfl)
  rw [lg_entry_eq]
  generalize (lg_sl ([.ref po_a, .int p1, .int p2]) ++ List.replicate (7 - (lg_sl ([.ref po_a, .int p1, .int p2])).length) Slot.unset).toArray = ls at hl ⊢
  have hl : lv_has ls 7 [(0, .ref po_a), (1, .int p1), (2, .int p2)] := hl
  exact wX2_tailsAlike_b0 ⟨hx, hb, hml, hown, hts, hK, hA, EC_ok _ _ _ _ _ _ _ _ _ _ _, hE⟩ po_a poA_sizes poA_kinds poA_spelled poA_scheme po_foot po_feet po_lines po_words po_sizes po_kinds po_spelled po_scheme p1 p2 r (fun H locs ls pc hdg hz hP hD hS => W.zret (v := r) (ty := .boolean) hx hb hr (nar_b hz) (fun t ht hW => ⟨⟨r, (), rfl, rfl, (show va_P G vwCl _ t.heap by rw [ht]; exact hP)⟩, hS.F ht⟩) hS.2.2 hdg)   hM _ _ _ hP hD hS hl
abbrev WX2_tellScheme (K : Nat → ClassId) (po_a poA_sizes poA_kinds poA_spelled poA_scheme : Nat) (po_foot : Int32) (po_feet : Int32) (po_lines : Int32) (po_words : Int32) (po_sizes : Nat → Int32) (po_kinds : Nat → Int32) (po_spelled : Nat → Nat) (po_scheme : Nat → Int32) : va_W := [(po_a, .inr (2, [.int po_foot, .int po_feet, .int po_lines, .int po_words, .ref poA_sizes, .ref poA_kinds, .ref poA_spelled, .ref poA_scheme])), aI K poA_sizes 4 po_sizes, aI K poA_kinds 20 po_kinds, aS K poA_spelled 20 po_spelled, aI K poA_scheme 4 po_scheme]
def rmX2_tellScheme : Room := { frames := 3, cells := 0, slots := 0, locals := 73 }
theorem hdX2_tellScheme : yX2_tellScheme.cls = RX2 ∧ yX2_tellScheme.cls ≠ "java/lang/invoke/MethodHandle" ∧ yX2_tellScheme.cls ≠ "java/lang/invoke/VarHandle" ∧ (parseMethodDescriptor yX2_tellScheme.desc).map (fun d => d.parameters.length) = some 0 := by decide +kernel
set_option maxHeartbeats 4000000 in
set_option maxRecDepth 100000 in
theorem wX2_tellScheme_b19 {p : Program} {l : Launch} {e : Env} {s : State} {m : MethodId} {args : Array Value} {below : List Frame} {meth : Method} {c : Code} {Q : State → Prop} {G : va_G} {K : Nat → ClassId} {A : Nat → Prop} {tt : Nat → Nat} {L : List Nat} {la : Nat → Nat} {sa : Nat → Nat} {ln : Nat → Int32} {sy : Nat → Int32} {sn : Nat → Int32} {lt : Nat → Nat → Int32} {st : Nat → Nat → Int32} (C0 : CX p s m args c cX2_tellScheme 5 RX2 G K (EC G K tt L la sa ln sy sn lt st) A) (po_a poA_sizes poA_kinds poA_spelled poA_scheme : Nat) (po_foot : Int32) (po_feet : Int32) (po_lines : Int32) (po_words : Int32) (po_sizes : Nat → Int32) (po_kinds : Nat → Int32) (po_spelled : Nat → Nat)  (r : Int32) (o_po_scheme : Nat → Int32) (kr : ∀ (H : Heap) (locs : List Loc) (ls : Array Slot) (pc : Nat), decode cX2_tellScheme pc = .ok (.ireturn, 1) → va_P G vwCl (WX2_tellScheme K po_a poA_sizes poA_kinds poA_spelled poA_scheme po_foot po_feet po_lines po_words po_sizes po_kinds po_spelled o_po_scheme) H → va_D A (WX2_tellScheme K po_a poA_sizes poA_kinds poA_spelled poA_scheme po_foot po_feet po_lines po_words po_sizes po_kinds po_spelled o_po_scheme) → va_S A s.heap H locs → W p l e rmX2_tellScheme s m args below meth c H locs 0 0 Q (F0 m pc ls [.int r])) (k4 : (Nat → Int32) → Int32 → Int32 → Option (Int32 × (Nat → Int32))) (hk4 : ∀ (po_scheme : Nat → Int32) (x1 : Int32) (x2 : Int32), k4 po_scheme x1 x2 = some (r, o_po_scheme) → ∀ (H : Heap) (locs : List Loc) (ls : Array Slot), va_P G vwCl (WX2_tellScheme K po_a poA_sizes poA_kinds poA_spelled poA_scheme po_foot po_feet po_lines po_words po_sizes po_kinds po_spelled po_scheme) H → va_D A (WX2_tellScheme K po_a poA_sizes poA_kinds poA_spelled poA_scheme po_foot po_feet po_lines po_words po_sizes po_kinds po_spelled po_scheme) → va_S A s.heap H locs → lv_has ls 5 [(0, .ref po_a), (1, .int x1), (2, .int x2)] → W p l e rmX2_tellScheme s m args below meth c H locs 0 0 Q (F0 m 4 ls [])) (n : Nat) : ∀ (po_scheme : Nat → Int32) (x1 : Int32) (x2 : Int32) (x3 : Int32) (x4 : Int32), mX2_tellScheme_b19 L ln sy sn lt st po_lines po_sizes po_kinds po_spelled k4 n po_scheme x1 x2 x3 x4 = some (r, o_po_scheme) → ∀ (H : Heap) (locs : List Loc) (ls : Array Slot), va_P G vwCl (WX2_tellScheme K po_a poA_sizes poA_kinds poA_spelled poA_scheme po_foot po_feet po_lines po_words po_sizes po_kinds po_spelled po_scheme) H → va_D A (WX2_tellScheme K po_a poA_sizes poA_kinds poA_spelled poA_scheme po_foot po_feet po_lines po_words po_sizes po_kinds po_spelled po_scheme) → va_S A s.heap H locs → lv_has ls 5 [(0, .ref po_a), (1, .int x1), (2, .int x2), (3, .int x3), (4, .int x4)] → W p l e rmX2_tellScheme s m args below meth c H locs 0 0 Q (F0 m 19 ls []) := by
  obtain ⟨hx, hb, hml, hown, hts, hK, hA, hEo, hE⟩ := id C0
  induction n with
  | zero =>
    intro po_scheme x1 x2 x3 x4 hM
    cases hM
  | succ n ih =>
    intro po_scheme x1 x2 x3 x4 hM H locs ls hP hD hS hl
    rw [mX2_tellScheme_b19] at hM
    refine lv_iload hx hb dX2_tellScheme_19 (lv_at hl 4 rfl) ?_
    refine lv_if_lt (tgt := 51) hx hb dX2_tellScheme_21 (by decide) (fun c_1 => ?_) (fun c_1 => ?_)
    · rw [if_pos c_1] at hM
      refine lv_iload_n hx hb dX2_tellScheme_51 rfl (lv_at hl 3 rfl) ?_
      refine lv_iload_n hx hb dX2_tellScheme_52 rfl (lv_at hl 2 rfl) ?_
      refine lv_icmp_ne (tgt := 69) hx hb dX2_tellScheme_53 (by decide) (fun c_2 => ?_) (fun c_2 => ?_)
      · rw [if_neg c_2] at hM
        refine lv_aload_n hx hb dX2_tellScheme_69 rfl (lv_at hl 0 rfl) ?_
        refine va_get (D := G) (ci := 2) (v := .ref poA_scheme) (C := RX2) (T := TX2) (N := 8) hx hb hts inX2 hown hK hP 0 rfl rfl 7 (by decide) (hts _ tb196) (fun _ h9 => h9) rfl dX2_tellScheme_70 ?_
        refine lv_iload_n hx hb dX2_tellScheme_73 rfl (lv_at hl 2 rfl) ?_
        refine lv_aload_n hx hb dX2_tellScheme_74 rfl (lv_at hl 0 rfl) ?_
        refine va_get (D := G) (ci := 2) (v := .ref poA_scheme) (C := RX2) (T := TX2) (N := 8) hx hb hts inX2 hown hK hP 0 rfl rfl 7 (by decide) (hts _ tb196) (fun _ h9 => h9) rfl dX2_tellScheme_75 ?_
        refine lv_iload_n hx hb dX2_tellScheme_78 rfl (lv_at hl 3 rfl) ?_
        obtain ⟨g_3, hM⟩ := ng hM
        refine va_iald hx hb hK hP 4 0 rfl rfl g_3 dX2_tellScheme_79 ?_
        obtain ⟨g_4, hM⟩ := ng hM
        refine va_iast hx hb hK hP hD hS 4 0 rfl rfl g_4 dX2_tellScheme_80 (fun H locs hP hD hS => ?_)
        have hP : va_P G vwCl (WX2_tellScheme K po_a poA_sizes poA_kinds poA_spelled poA_scheme po_foot po_feet po_lines po_words po_sizes po_kinds po_spelled (upd po_scheme x2.toNatClampNeg (po_scheme x3.toNatClampNeg))) H := hP
        have hD : va_D A (WX2_tellScheme K po_a poA_sizes poA_kinds poA_spelled poA_scheme po_foot po_feet po_lines po_words po_sizes po_kinds po_spelled (upd po_scheme x2.toNatClampNeg (po_scheme x3.toNatClampNeg))) := hD
        refine lv_iinc (v := (x2 + 1)) (lv' := [(2, .int (x2 + 1)), (0, .ref po_a), (1, .int x1), (3, .int x3), (4, .int x4)]) hx hb dX2_tellScheme_81 hl (k := 2) rfl rfl (by decide) rfl (fun ls hl => ?_)
        refine lv_goto (tgt := 4) hx hb dX2_tellScheme_84 (by decide) ?_
        exact hk4 (upd po_scheme x2.toNatClampNeg (po_scheme x3.toNatClampNeg)) x1 (x2 + 1) hM _ _ _ hP hD hS (lv_sub hl [1, 2, 0] rfl)
      · rw [if_pos c_2] at hM
        refine lv_aload_n hx hb dX2_tellScheme_56 rfl (lv_at hl 0 rfl) ?_
        refine va_get (D := G) (ci := 2) (v := .ref poA_scheme) (C := RX2) (T := TX2) (N := 8) hx hb hts inX2 hown hK hP 0 rfl rfl 7 (by decide) (hts _ tb196) (fun _ h9 => h9) rfl dX2_tellScheme_57 ?_
        refine lv_iload_n hx hb dX2_tellScheme_60 rfl (lv_at hl 2 rfl) ?_
        refine lv_iload_n hx hb dX2_tellScheme_61 rfl (lv_at hl 1 rfl) ?_
        obtain ⟨g_5, hM⟩ := ng hM
        refine va_iast hx hb hK hP hD hS 4 0 rfl rfl g_5 dX2_tellScheme_62 (fun H locs hP hD hS => ?_)
        have hP : va_P G vwCl (WX2_tellScheme K po_a poA_sizes poA_kinds poA_spelled poA_scheme po_foot po_feet po_lines po_words po_sizes po_kinds po_spelled (upd po_scheme x2.toNatClampNeg x1)) H := hP
        have hD : va_D A (WX2_tellScheme K po_a poA_sizes poA_kinds poA_spelled poA_scheme po_foot po_feet po_lines po_words po_sizes po_kinds po_spelled (upd po_scheme x2.toNatClampNeg x1)) := hD
        refine lv_iinc (v := (x1 + 1)) (lv' := [(1, .int (x1 + 1)), (0, .ref po_a), (2, .int x2), (3, .int x3), (4, .int x4)]) hx hb dX2_tellScheme_63 hl (k := 1) rfl rfl (by decide) rfl (fun ls hl => ?_)
        refine lv_goto (tgt := 81) hx hb dX2_tellScheme_66 (by decide) ?_
        refine lv_iinc (v := (x2 + 1)) (lv' := [(2, .int (x2 + 1)), (1, .int (x1 + 1)), (0, .ref po_a), (3, .int x3), (4, .int x4)]) hx hb dX2_tellScheme_81 hl (k := 2) rfl rfl (by decide) rfl (fun ls hl => ?_)
        refine lv_goto (tgt := 4) hx hb dX2_tellScheme_84 (by decide) ?_
        exact hk4 (upd po_scheme x2.toNatClampNeg x1) (x1 + 1) (x2 + 1) hM _ _ _ hP hD hS (lv_sub hl [2, 1, 0] rfl)
    · rw [if_neg c_1] at hM
      refine lv_aload_n hx hb dX2_tellScheme_24 rfl (lv_at hl 0 rfl) ?_
      refine lv_aload_n hx hb dX2_tellScheme_25 rfl (lv_at hl 0 rfl) ?_
      refine lv_iload hx hb dX2_tellScheme_26 (lv_at hl 4 rfl) ?_
      obtain ⟨r_6, hC, hM⟩ := oe1 hM
      refine cV_i (As := [.int x4]) (rest := [.ref po_a]) C0 hP hD hS [0, 1, 2, 3, 4] (kX2_lastOf l G K tt L la sa ln sy sn lt st po_a poA_sizes poA_kinds poA_spelled poA_scheme po_foot po_feet po_lines po_words po_sizes po_kinds po_spelled po_scheme x4 H.size r_6 hC) rfl rfl rfl tb530 tb504 tb505 tb7 tb506 hdX2_lastOf (va_recv hK hP (ci := 2) (q0 := 0) rfl rfl) ⟨Nat.le_of_ble_eq_true rfl, Nat.le_of_ble_eq_true rfl⟩ rfl hl.1 (Nat.le_of_ble_eq_true rfl) rfl ⟨Nat.le_refl _, Nat.le_refl _⟩ dX2_tellScheme_28 (fun H locs hP hD hS => ?_)
      have hP : va_P G vwCl (WX2_tellScheme K po_a poA_sizes poA_kinds poA_spelled poA_scheme po_foot po_feet po_lines po_words po_sizes po_kinds po_spelled po_scheme) H := hP
      have hD : va_D A (WX2_tellScheme K po_a poA_sizes poA_kinds poA_spelled poA_scheme po_foot po_feet po_lines po_words po_sizes po_kinds po_spelled po_scheme) := hD
      refine lv_aload_n hx hb dX2_tellScheme_31 rfl (lv_at hl 0 rfl) ?_
      refine lv_iload_n hx hb dX2_tellScheme_32 rfl (lv_at hl 2 rfl) ?_
      obtain ⟨r_7, hC, hM⟩ := oe1 hM
      refine cV_i (As := [.int x2]) (rest := [.int r_6, .ref po_a]) C0 hP hD hS [0, 1, 2, 3, 4] (kX2_lastOf l G K tt L la sa ln sy sn lt st po_a poA_sizes poA_kinds poA_spelled poA_scheme po_foot po_feet po_lines po_words po_sizes po_kinds po_spelled po_scheme x2 H.size r_7 hC) rfl rfl rfl tb530 tb504 tb505 tb7 tb506 hdX2_lastOf (va_recv hK hP (ci := 2) (q0 := 0) rfl rfl) ⟨Nat.le_of_ble_eq_true rfl, Nat.le_of_ble_eq_true rfl⟩ rfl hl.1 (Nat.le_of_ble_eq_true rfl) rfl ⟨Nat.le_refl _, Nat.le_refl _⟩ dX2_tellScheme_33 (fun H locs hP hD hS => ?_)
      have hP : va_P G vwCl (WX2_tellScheme K po_a poA_sizes poA_kinds poA_spelled poA_scheme po_foot po_feet po_lines po_words po_sizes po_kinds po_spelled po_scheme) H := hP
      have hD : va_D A (WX2_tellScheme K po_a poA_sizes poA_kinds poA_spelled poA_scheme po_foot po_feet po_lines po_words po_sizes po_kinds po_spelled po_scheme) := hD
      obtain ⟨r_8, hC, hM⟩ := oe1 hM
      refine cV_i (As := [.int r_6, .int r_7]) (rest := []) C0 hP hD hS [0, 1, 2, 3, 4] (kX2_tailsAlike l G K tt L la sa ln sy sn lt st po_a poA_sizes poA_kinds poA_spelled poA_scheme po_foot po_feet po_lines po_words po_sizes po_kinds po_spelled po_scheme r_6 r_7 H.size r_8 hC) rfl rfl rfl tb531 tb532 tb533 tb7 tb534 hdX2_tailsAlike (va_recv hK hP (ci := 2) (q0 := 0) rfl rfl) ⟨Nat.le_of_ble_eq_true rfl, Nat.le_of_ble_eq_true rfl⟩ rfl hl.1 (Nat.le_of_ble_eq_true rfl) rfl ⟨Nat.le_refl _, Nat.le_refl _⟩ dX2_tellScheme_36 (fun H locs hP hD hS => ?_)
      have hP : va_P G vwCl (WX2_tellScheme K po_a poA_sizes poA_kinds poA_spelled poA_scheme po_foot po_feet po_lines po_words po_sizes po_kinds po_spelled po_scheme) H := hP
      have hD : va_D A (WX2_tellScheme K po_a poA_sizes poA_kinds poA_spelled poA_scheme po_foot po_feet po_lines po_words po_sizes po_kinds po_spelled po_scheme) := hD
      refine lv_if_eq (tgt := 45) hx hb dX2_tellScheme_39 (by decide) (fun c_9 => ?_) (fun c_9 => ?_)
      · rw [if_pos c_9] at hM
        refine lv_iinc (v := (x4 + (-1))) (lv' := [(4, .int (x4 + (-1))), (0, .ref po_a), (1, .int x1), (2, .int x2), (3, .int x3)]) hx hb dX2_tellScheme_45 hl (k := 4) rfl rfl (by decide) rfl (fun ls hl => ?_)
        refine lv_goto (tgt := 19) hx hb dX2_tellScheme_48 (by decide) ?_
        exact ih po_scheme x1 x2 x3 (x4 + (-1)) hM _ _ _ hP hD hS (lv_sub hl [1, 2, 3, 4, 0] rfl)
      · rw [if_neg c_9] at hM
        refine lv_iload hx hb dX2_tellScheme_42 (lv_at hl 4 rfl) ?_
        refine lv_istore_n (lv' := [(3, .int x4), (0, .ref po_a), (1, .int x1), (2, .int x2), (4, .int x4)]) hx hb dX2_tellScheme_44 rfl hl (by decide) rfl (fun ls hl => ?_)
        refine lv_iinc (v := (x4 + (-1))) (lv' := [(4, .int (x4 + (-1))), (3, .int x4), (0, .ref po_a), (1, .int x1), (2, .int x2)]) hx hb dX2_tellScheme_45 hl (k := 4) rfl rfl (by decide) rfl (fun ls hl => ?_)
        refine lv_goto (tgt := 19) hx hb dX2_tellScheme_48 (by decide) ?_
        exact ih po_scheme x1 x2 x4 (x4 + (-1)) hM _ _ _ hP hD hS (lv_sub hl [2, 3, 4, 1, 0] rfl)
set_option maxHeartbeats 4000000 in
set_option maxRecDepth 100000 in
theorem wX2_tellScheme_b4 {p : Program} {l : Launch} {e : Env} {s : State} {m : MethodId} {args : Array Value} {below : List Frame} {meth : Method} {c : Code} {Q : State → Prop} {G : va_G} {K : Nat → ClassId} {A : Nat → Prop} {tt : Nat → Nat} {L : List Nat} {la : Nat → Nat} {sa : Nat → Nat} {ln : Nat → Int32} {sy : Nat → Int32} {sn : Nat → Int32} {lt : Nat → Nat → Int32} {st : Nat → Nat → Int32} (C0 : CX p s m args c cX2_tellScheme 5 RX2 G K (EC G K tt L la sa ln sy sn lt st) A) (po_a poA_sizes poA_kinds poA_spelled poA_scheme : Nat) (po_foot : Int32) (po_feet : Int32) (po_lines : Int32) (po_words : Int32) (po_sizes : Nat → Int32) (po_kinds : Nat → Int32) (po_spelled : Nat → Nat)  (r : Int32) (o_po_scheme : Nat → Int32) (kr : ∀ (H : Heap) (locs : List Loc) (ls : Array Slot) (pc : Nat), decode cX2_tellScheme pc = .ok (.ireturn, 1) → va_P G vwCl (WX2_tellScheme K po_a poA_sizes poA_kinds poA_spelled poA_scheme po_foot po_feet po_lines po_words po_sizes po_kinds po_spelled o_po_scheme) H → va_D A (WX2_tellScheme K po_a poA_sizes poA_kinds poA_spelled poA_scheme po_foot po_feet po_lines po_words po_sizes po_kinds po_spelled o_po_scheme) → va_S A s.heap H locs → W p l e rmX2_tellScheme s m args below meth c H locs 0 0 Q (F0 m pc ls [.int r])) (n : Nat) : ∀ (po_scheme : Nat → Int32) (x1 : Int32) (x2 : Int32), mX2_tellScheme_b4 L ln sy sn lt st po_lines po_sizes po_kinds po_spelled  n po_scheme x1 x2 = some (r, o_po_scheme) → ∀ (H : Heap) (locs : List Loc) (ls : Array Slot), va_P G vwCl (WX2_tellScheme K po_a poA_sizes poA_kinds poA_spelled poA_scheme po_foot po_feet po_lines po_words po_sizes po_kinds po_spelled po_scheme) H → va_D A (WX2_tellScheme K po_a poA_sizes poA_kinds poA_spelled poA_scheme po_foot po_feet po_lines po_words po_sizes po_kinds po_spelled po_scheme) → va_S A s.heap H locs → lv_has ls 5 [(0, .ref po_a), (1, .int x1), (2, .int x2)] → W p l e rmX2_tellScheme s m args below meth c H locs 0 0 Q (F0 m 4 ls []) := by
  obtain ⟨hx, hb, hml, hown, hts, hK, hA, hEo, hE⟩ := id C0
  induction n with
  | zero =>
    intro po_scheme x1 x2 hM
    cases hM
  | succ n ih =>
    intro po_scheme x1 x2 hM H locs ls hP hD hS hl
    rw [mX2_tellScheme_b4] at hM
    refine lv_iload_n hx hb dX2_tellScheme_4 rfl (lv_at hl 2 rfl) ?_
    refine lv_aload_n hx hb dX2_tellScheme_5 rfl (lv_at hl 0 rfl) ?_
    refine va_get (D := G) (ci := 2) (v := .int po_lines) (C := RX2) (T := TX2) (N := 8) hx hb hts inX2 hown hK hP 0 rfl rfl 2 (by decide) (hts _ tb182) (fun _ h9 => h9) rfl dX2_tellScheme_6 ?_
    refine lv_icmp_ge (tgt := 87) hx hb dX2_tellScheme_9 (by decide) (fun c_10 => ?_) (fun c_10 => ?_)
    · rw [if_pos c_10] at hM
      refine lv_iload_n hx hb dX2_tellScheme_87 rfl (lv_at hl 1 rfl) ?_
      have t0 := Option.some.inj hM
      obtain ⟨q1, t1⟩ := Prod.mk.inj t0
      subst q1
      subst t1
      exact kr _ _ _ _ dX2_tellScheme_88 hP hD hS
    · rw [if_neg c_10] at hM
      refine lv_iload_n hx hb dX2_tellScheme_12 rfl (lv_at hl 2 rfl) ?_
      refine lv_istore_n (lv' := [(3, .int x2), (0, .ref po_a), (1, .int x1), (2, .int x2)]) hx hb dX2_tellScheme_13 rfl hl (by decide) rfl (fun ls hl => ?_)
      refine lv_iload_n hx hb dX2_tellScheme_14 rfl (lv_at hl 3 rfl) ?_
      refine lv_iconst (v := 1) hx hb dX2_tellScheme_15 (by decide) ?_
      refine lv_isub hx hb dX2_tellScheme_16 ?_
      refine lv_istore (lv' := [(4, .int (x2 - (1 : Int32))), (3, .int x2), (0, .ref po_a), (1, .int x1), (2, .int x2)]) hx hb dX2_tellScheme_17 hl (by decide) rfl (fun ls hl => ?_)
      exact wX2_tellScheme_b19 C0 po_a poA_sizes poA_kinds poA_spelled poA_scheme po_foot po_feet po_lines po_words po_sizes po_kinds po_spelled r o_po_scheme kr (mX2_tellScheme_b4 L ln sy sn lt st po_lines po_sizes po_kinds po_spelled  n) ih FU po_scheme x1 x2 x2 (x2 - (1 : Int32)) hM _ _ _ hP hD hS (lv_sub hl [2, 3, 4, 1, 0] rfl)
set_option maxHeartbeats 4000000 in
set_option maxRecDepth 100000 in
theorem wX2_tellScheme_b0 {p : Program} {l : Launch} {e : Env} {s : State} {m : MethodId} {args : Array Value} {below : List Frame} {meth : Method} {c : Code} {Q : State → Prop} {G : va_G} {K : Nat → ClassId} {A : Nat → Prop} {tt : Nat → Nat} {L : List Nat} {la : Nat → Nat} {sa : Nat → Nat} {ln : Nat → Int32} {sy : Nat → Int32} {sn : Nat → Int32} {lt : Nat → Nat → Int32} {st : Nat → Nat → Int32} (C0 : CX p s m args c cX2_tellScheme 5 RX2 G K (EC G K tt L la sa ln sy sn lt st) A) (po_a poA_sizes poA_kinds poA_spelled poA_scheme : Nat) (po_foot : Int32) (po_feet : Int32) (po_lines : Int32) (po_words : Int32) (po_sizes : Nat → Int32) (po_kinds : Nat → Int32) (po_spelled : Nat → Nat)  (r : Int32) (o_po_scheme : Nat → Int32) (kr : ∀ (H : Heap) (locs : List Loc) (ls : Array Slot) (pc : Nat), decode cX2_tellScheme pc = .ok (.ireturn, 1) → va_P G vwCl (WX2_tellScheme K po_a poA_sizes poA_kinds poA_spelled poA_scheme po_foot po_feet po_lines po_words po_sizes po_kinds po_spelled o_po_scheme) H → va_D A (WX2_tellScheme K po_a poA_sizes poA_kinds poA_spelled poA_scheme po_foot po_feet po_lines po_words po_sizes po_kinds po_spelled o_po_scheme) → va_S A s.heap H locs → W p l e rmX2_tellScheme s m args below meth c H locs 0 0 Q (F0 m pc ls [.int r])) (po_scheme : Nat → Int32) (hM : mX2_tellScheme_b0 L ln sy sn lt st po_lines po_sizes po_kinds po_spelled  po_scheme = some (r, o_po_scheme)) : ∀ (H : Heap) (locs : List Loc) (ls : Array Slot), va_P G vwCl (WX2_tellScheme K po_a poA_sizes poA_kinds poA_spelled poA_scheme po_foot po_feet po_lines po_words po_sizes po_kinds po_spelled po_scheme) H → va_D A (WX2_tellScheme K po_a poA_sizes poA_kinds poA_spelled poA_scheme po_foot po_feet po_lines po_words po_sizes po_kinds po_spelled po_scheme) → va_S A s.heap H locs → lv_has ls 5 [(0, .ref po_a)] → W p l e rmX2_tellScheme s m args below meth c H locs 0 0 Q (F0 m 0 ls []) := by
  obtain ⟨hx, hb, hml, hown, hts, hK, hA, hEo, hE⟩ := id C0
  intro H locs ls hP hD hS hl
  unfold mX2_tellScheme_b0 at hM
  refine lv_iconst (v := 0) hx hb dX2_tellScheme_0 (by decide) ?_
  refine lv_istore_n (lv' := [(1, .int (0 : Int32)), (0, .ref po_a)]) hx hb dX2_tellScheme_1 rfl hl (by decide) rfl (fun ls hl => ?_)
  refine lv_iconst (v := 0) hx hb dX2_tellScheme_2 (by decide) ?_
  refine lv_istore_n (lv' := [(2, .int (0 : Int32)), (1, .int (0 : Int32)), (0, .ref po_a)]) hx hb dX2_tellScheme_3 rfl hl (by decide) rfl (fun ls hl => ?_)
  exact wX2_tellScheme_b4 C0 po_a poA_sizes poA_kinds poA_spelled poA_scheme po_foot po_feet po_lines po_words po_sizes po_kinds po_spelled r o_po_scheme kr  FU po_scheme (0 : Int32) (0 : Int32) hM _ _ _ hP hD hS (lv_sub hl [2, 1, 0] rfl)
set_option maxHeartbeats 4000000 in
set_option maxRecDepth 100000 in
theorem kX2_tellScheme (l : Launch) (G : va_G) (K : Nat → ClassId) (tt : Nat → Nat) (L : List Nat) (la : Nat → Nat) (sa : Nat → Nat) (ln : Nat → Int32) (sy : Nat → Int32) (sn : Nat → Int32) (lt : Nat → Nat → Int32) (st : Nat → Nat → Int32) (po_a poA_sizes poA_kinds poA_spelled poA_scheme : Nat) (po_foot : Int32) (po_feet : Int32) (po_lines : Int32) (po_words : Int32) (po_sizes : Nat → Int32) (po_kinds : Nat → Int32) (po_spelled : Nat → Nat) (po_scheme : Nat → Int32)  (sz : Nat) (r : Int32) (o_po_scheme : Nat → Int32) (hM : mX2_tellScheme L ln sy sn lt st po_lines po_sizes po_kinds po_spelled po_scheme = some (r, o_po_scheme)) : Met l yX2_tellScheme (mC yX2_tellScheme cX2_tellScheme 5 (some .int)) rmX2_tellScheme (va_Pc [.ref po_a] (PCe G K (EC G K tt L la sa ln sy sn lt st) (WX2_tellScheme K po_a poA_sizes poA_kinds poA_spelled poA_scheme po_foot po_feet po_lines po_words po_sizes po_kinds po_spelled po_scheme) sz)) (va_Qi (fun (x : Int32) (_ : Unit) => x = r) (fun _ t => va_P G vwCl (WX2_tellScheme K po_a poA_sizes poA_kinds poA_spelled poA_scheme po_foot po_feet po_lines po_words po_sizes po_kinds po_spelled o_po_scheme) t.heap) (va_A (WX2_tellScheme K po_a poA_sizes poA_kinds poA_spelled poA_scheme po_foot po_feet po_lines po_words po_sizes po_kinds po_spelled po_scheme) sz)) rmX2_tellScheme.cells rmX2_tellScheme.slots (va_A (WX2_tellScheme K po_a poA_sizes poA_kinds poA_spelled poA_scheme po_foot po_feet po_lines po_words po_sizes po_kinds po_spelled po_scheme) sz) := by
  refine Met.ofW (cc := cX2_tellScheme) (maxL := 5) (ret := (some .int)) (by decide) rfl ?_
  intro p e s m args below meth c s₁ B hml hv
  obtain ⟨rfl, hsz, hP, hK, hD0, hE⟩ := hv
  have hx := B.exec
  have hb := B.bytes
  have hr := B.returns
  have hts0 := atoms_spec (ws := mC yX2_tellScheme cX2_tellScheme 5 (some .int)) B.pre
  have hts : ∀ w ∈ tbG, w.before _ s = true := fun w h => hts0 w (List.mem_cons_of_mem _ h)
  have hown : s.vm.findClass RX2 = some m.cls := findClass_of_methodNamed B.named
  subst hsz
  have hD := hD0.self (sz := s.heap.size)
  generalize hAe : va_A (WX2_tellScheme K po_a poA_sizes poA_kinds poA_spelled poA_scheme po_foot po_feet po_lines po_words po_sizes po_kinds po_spelled po_scheme) s.heap.size = A at hD hE ⊢
  have hA : ∀ q : Nat, s.heap.size ≤ q → A q := fun q h => by rw [← hAe]; exact Or.inr h
  have hS : va_S A s.heap s.heap [] := va_S.rf
  have hl := lv_entry ([.ref po_a]) (n := 5) (Nat.le_of_ble_eq_true rfl)
  rw [lg_entry_eq]
  generalize (lg_sl ([.ref po_a]) ++ List.replicate (5 - (lg_sl ([.ref po_a])).length) Slot.unset).toArray = ls at hl ⊢
  have hl : lv_has ls 5 [(0, .ref po_a)] := hl
  exact wX2_tellScheme_b0 ⟨hx, hb, hml, hown, hts, hK, hA, EC_ok _ _ _ _ _ _ _ _ _ _ _, hE⟩ po_a poA_sizes poA_kinds poA_spelled poA_scheme po_foot po_feet po_lines po_words po_sizes po_kinds po_spelled r o_po_scheme (fun H locs ls pc hdg hP hD hS => W.iret (v := r) hx hb hr (fun t ht hW => ⟨⟨r, (), rfl, rfl, (show va_P G vwCl _ t.heap by rw [ht]; exact hP)⟩, hS.F ht⟩) hS.2.2 hdg) po_scheme  hM _ _ _ hP hD hS hl
abbrev WX2_schemeNumber (K : Nat → ClassId) (po_a poA_sizes poA_kinds poA_spelled poA_scheme : Nat) (po_foot : Int32) (po_feet : Int32) (po_lines : Int32) (po_words : Int32) (po_sizes : Nat → Int32) (po_kinds : Nat → Int32) (po_spelled : Nat → Nat) (po_scheme : Nat → Int32) : va_W := [(po_a, .inr (2, [.int po_foot, .int po_feet, .int po_lines, .int po_words, .ref poA_sizes, .ref poA_kinds, .ref poA_spelled, .ref poA_scheme])), aI K poA_sizes 4 po_sizes, aI K poA_kinds 20 po_kinds, aS K poA_spelled 20 po_spelled, aI K poA_scheme 4 po_scheme]
def rmX2_schemeNumber : Room := { frames := 4, cells := 0, slots := 0, locals := 97 }
theorem hdX2_schemeNumber : yX2_schemeNumber.cls = RX2 ∧ yX2_schemeNumber.cls ≠ "java/lang/invoke/MethodHandle" ∧ yX2_schemeNumber.cls ≠ "java/lang/invoke/VarHandle" ∧ (parseMethodDescriptor yX2_schemeNumber.desc).map (fun d => d.parameters.length) = some 1 := by decide +kernel
set_option maxHeartbeats 4000000 in
set_option maxRecDepth 100000 in
theorem wX2_schemeNumber_b0 {p : Program} {l : Launch} {e : Env} {s : State} {m : MethodId} {args : Array Value} {below : List Frame} {meth : Method} {c : Code} {Q : State → Prop} {G : va_G} {K : Nat → ClassId} {A : Nat → Prop} {tt : Nat → Nat} {L : List Nat} {la : Nat → Nat} {sa : Nat → Nat} {ln : Nat → Int32} {sy : Nat → Int32} {sn : Nat → Int32} {lt : Nat → Nat → Int32} {st : Nat → Nat → Int32} (C0 : CX p s m args c cX2_schemeNumber 2 RX2 G K (EC G K tt L la sa ln sy sn lt st) A) (po_a poA_sizes poA_kinds poA_spelled poA_scheme : Nat) (po_foot : Int32) (po_feet : Int32) (po_lines : Int32) (po_words : Int32) (po_sizes : Nat → Int32) (po_kinds : Nat → Int32) (po_spelled : Nat → Nat) (p1 : Int32) (r : Int32) (o_po_scheme : Nat → Int32) (kr : ∀ (H : Heap) (locs : List Loc) (ls : Array Slot) (pc : Nat), decode cX2_schemeNumber pc = .ok (.ireturn, 1) → va_P G vwCl (WX2_schemeNumber K po_a poA_sizes poA_kinds poA_spelled poA_scheme po_foot po_feet po_lines po_words po_sizes po_kinds po_spelled o_po_scheme) H → va_D A (WX2_schemeNumber K po_a poA_sizes poA_kinds poA_spelled poA_scheme po_foot po_feet po_lines po_words po_sizes po_kinds po_spelled o_po_scheme) → va_S A s.heap H locs → W p l e rmX2_schemeNumber s m args below meth c H locs 0 0 Q (F0 m pc ls [.int r])) (po_scheme : Nat → Int32) (hM : mX2_schemeNumber_b0 L ln sy sn lt st po_lines po_sizes po_kinds po_spelled p1  po_scheme = some (r, o_po_scheme)) : ∀ (H : Heap) (locs : List Loc) (ls : Array Slot), va_P G vwCl (WX2_schemeNumber K po_a poA_sizes poA_kinds poA_spelled poA_scheme po_foot po_feet po_lines po_words po_sizes po_kinds po_spelled po_scheme) H → va_D A (WX2_schemeNumber K po_a poA_sizes poA_kinds poA_spelled poA_scheme po_foot po_feet po_lines po_words po_sizes po_kinds po_spelled po_scheme) → va_S A s.heap H locs → lv_has ls 2 [(0, .ref po_a), (1, .int p1)] → W p l e rmX2_schemeNumber s m args below meth c H locs 0 0 Q (F0 m 0 ls []) := by
  obtain ⟨hx, hb, hml, hown, hts, hK, hA, hEo, hE⟩ := id C0
  intro H locs ls hP hD hS hl
  unfold mX2_schemeNumber_b0 at hM
  refine lv_aload_n hx hb dX2_schemeNumber_0 rfl (lv_at hl 0 rfl) ?_
  obtain ⟨r_1, u0_1, hC, hM⟩ := oe2 hM
  refine cV_i (As := []) (rest := []) C0 hP hD hS [0, 1, 2, 3, 4] (kX2_tellScheme l G K tt L la sa ln sy sn lt st po_a poA_sizes poA_kinds poA_spelled poA_scheme po_foot po_feet po_lines po_words po_sizes po_kinds po_spelled po_scheme H.size r_1 u0_1 hC) rfl rfl rfl tb526 tb527 tb528 tb7 tb529 hdX2_tellScheme (va_recv hK hP (ci := 2) (q0 := 0) rfl rfl) ⟨Nat.le_of_ble_eq_true rfl, Nat.le_of_ble_eq_true rfl⟩ rfl hl.1 (Nat.le_of_ble_eq_true rfl) rfl ⟨Nat.le_refl _, Nat.le_refl _⟩ dX2_schemeNumber_1 (fun H locs hP hD hS => ?_)
  have hP : va_P G vwCl (WX2_schemeNumber K po_a poA_sizes poA_kinds poA_spelled poA_scheme po_foot po_feet po_lines po_words po_sizes po_kinds po_spelled u0_1) H := hP
  have hD : va_D A (WX2_schemeNumber K po_a poA_sizes poA_kinds poA_spelled poA_scheme po_foot po_feet po_lines po_words po_sizes po_kinds po_spelled u0_1) := hD
  refine lv_pop hx hb dX2_schemeNumber_4 rfl ?_
  refine lv_aload_n hx hb dX2_schemeNumber_5 rfl (lv_at hl 0 rfl) ?_
  refine va_get (D := G) (ci := 2) (v := .ref poA_scheme) (C := RX2) (T := TX2) (N := 8) hx hb hts inX2 hown hK hP 0 rfl rfl 7 (by decide) (hts _ tb196) (fun _ h9 => h9) rfl dX2_schemeNumber_6 ?_
  refine lv_iload_n hx hb dX2_schemeNumber_9 rfl (lv_at hl 1 rfl) ?_
  obtain ⟨g_2, hM⟩ := ng hM
  refine va_iald hx hb hK hP 4 0 rfl rfl g_2 dX2_schemeNumber_10 ?_
  have t0 := Option.some.inj hM
  obtain ⟨q1, t1⟩ := Prod.mk.inj t0
  subst q1
  subst t1
  exact kr _ _ _ _ dX2_schemeNumber_11 hP hD hS
set_option maxHeartbeats 4000000 in
set_option maxRecDepth 100000 in
theorem kX2_schemeNumber (l : Launch) (G : va_G) (K : Nat → ClassId) (tt : Nat → Nat) (L : List Nat) (la : Nat → Nat) (sa : Nat → Nat) (ln : Nat → Int32) (sy : Nat → Int32) (sn : Nat → Int32) (lt : Nat → Nat → Int32) (st : Nat → Nat → Int32) (po_a poA_sizes poA_kinds poA_spelled poA_scheme : Nat) (po_foot : Int32) (po_feet : Int32) (po_lines : Int32) (po_words : Int32) (po_sizes : Nat → Int32) (po_kinds : Nat → Int32) (po_spelled : Nat → Nat) (po_scheme : Nat → Int32) (p1 : Int32) (sz : Nat) (r : Int32) (o_po_scheme : Nat → Int32) (hM : mX2_schemeNumber L ln sy sn lt st po_lines po_sizes po_kinds po_spelled po_scheme p1 = some (r, o_po_scheme)) : Met l yX2_schemeNumber (mC yX2_schemeNumber cX2_schemeNumber 2 (some .int)) rmX2_schemeNumber (va_Pc [.ref po_a, .int p1] (PCe G K (EC G K tt L la sa ln sy sn lt st) (WX2_schemeNumber K po_a poA_sizes poA_kinds poA_spelled poA_scheme po_foot po_feet po_lines po_words po_sizes po_kinds po_spelled po_scheme) sz)) (va_Qi (fun (x : Int32) (_ : Unit) => x = r) (fun _ t => va_P G vwCl (WX2_schemeNumber K po_a poA_sizes poA_kinds poA_spelled poA_scheme po_foot po_feet po_lines po_words po_sizes po_kinds po_spelled o_po_scheme) t.heap) (va_A (WX2_schemeNumber K po_a poA_sizes poA_kinds poA_spelled poA_scheme po_foot po_feet po_lines po_words po_sizes po_kinds po_spelled po_scheme) sz)) rmX2_schemeNumber.cells rmX2_schemeNumber.slots (va_A (WX2_schemeNumber K po_a poA_sizes poA_kinds poA_spelled poA_scheme po_foot po_feet po_lines po_words po_sizes po_kinds po_spelled po_scheme) sz) := by
  refine Met.ofW (cc := cX2_schemeNumber) (maxL := 2) (ret := (some .int)) (by decide) rfl ?_
  intro p e s m args below meth c s₁ B hml hv
  obtain ⟨rfl, hsz, hP, hK, hD0, hE⟩ := hv
  have hx := B.exec
  have hb := B.bytes
  have hr := B.returns
  have hts0 := atoms_spec (ws := mC yX2_schemeNumber cX2_schemeNumber 2 (some .int)) B.pre
  have hts : ∀ w ∈ tbG, w.before _ s = true := fun w h => hts0 w (List.mem_cons_of_mem _ h)
  have hown : s.vm.findClass RX2 = some m.cls := findClass_of_methodNamed B.named
  subst hsz
  have hD := hD0.self (sz := s.heap.size)
  generalize hAe : va_A (WX2_schemeNumber K po_a poA_sizes poA_kinds poA_spelled poA_scheme po_foot po_feet po_lines po_words po_sizes po_kinds po_spelled po_scheme) s.heap.size = A at hD hE ⊢
  have hA : ∀ q : Nat, s.heap.size ≤ q → A q := fun q h => by rw [← hAe]; exact Or.inr h
  have hS : va_S A s.heap s.heap [] := va_S.rf
  have hl := lv_entry ([.ref po_a, .int p1]) (n := 2) (Nat.le_of_ble_eq_true rfl)
  rw [lg_entry_eq]
  generalize (lg_sl ([.ref po_a, .int p1]) ++ List.replicate (2 - (lg_sl ([.ref po_a, .int p1])).length) Slot.unset).toArray = ls at hl ⊢
  have hl : lv_has ls 2 [(0, .ref po_a), (1, .int p1)] := hl
  exact wX2_schemeNumber_b0 ⟨hx, hb, hml, hown, hts, hK, hA, EC_ok _ _ _ _ _ _ _ _ _ _ _, hE⟩ po_a poA_sizes poA_kinds poA_spelled poA_scheme po_foot po_feet po_lines po_words po_sizes po_kinds po_spelled p1 r o_po_scheme (fun H locs ls pc hdg hP hD hS => W.iret (v := r) hx hb hr (fun t ht hW => ⟨⟨r, (), rfl, rfl, (show va_P G vwCl _ t.heap by rw [ht]; exact hP)⟩, hS.F ht⟩) hS.2.2 hdg) po_scheme  hM _ _ _ hP hD hS hl
