abbrev WX7_kinds (K : Nat → ClassId) (m_a mA_lane mA_many mA_item mA_poem mA_fresh mA_then mA_was mA_tape mA_strengths mA_sounds mA_stand mA_scheme mA_isKept mA_kept mA_trace : Nat) (m_thrown : Int32) (m_status : Int32) (m_acts : Int32) (m_taped : Int32) (m_cursor : Int32) (m_start : Int32) (m_token : Int32) (m_value : Int32) (m_fault : Int32) (m_faultAt : Int32) (m_latest : Int32) (m_stands : Int32) (m_least : Int32) (m_ways : Int32) (m_nearFoot : Int32) (m_nearFeet : Int32) (m_nearCost : Int32) (m_traced : Int32) (m_poem : Nat → Int32) (m_then : Nat → Int32) (m_strengths : Nat → Int32) (m_sounds : Nat → Int32) (m_stand : Nat → Int32) : va_W := [(m_a, .inr (7, [.int m_thrown, .int m_status, .ref mA_lane, .ref mA_many, .ref mA_item, .ref mA_poem, .ref mA_fresh, .ref mA_then, .ref mA_was, .int m_acts, .ref mA_tape, .int m_taped, .int m_cursor, .int m_start, .int m_token, .int m_value, .int m_fault, .int m_faultAt, .int m_latest, .ref mA_strengths, .ref mA_sounds, .ref mA_stand, .int m_stands, .int m_least, .int m_ways, .ref mA_scheme, .int m_nearFoot, .int m_nearFeet, .int m_nearCost, .ref mA_isKept, .ref mA_kept, .ref mA_trace, .int m_traced])), aI K mA_poem 207 m_poem, aI K mA_then 207 m_then, aI K mA_strengths 20 m_strengths, aI K mA_sounds 5 m_sounds, aI K mA_stand 20 m_stand]
def rmX7_kinds : Room := { frames := 9, cells := 0, slots := 0, locals := 212 }
theorem hdX7_kinds : yX7_kinds.cls = RX7 ∧ yX7_kinds.cls ≠ "java/lang/invoke/MethodHandle" ∧ yX7_kinds.cls ≠ "java/lang/invoke/VarHandle" ∧ (parseMethodDescriptor yX7_kinds.desc).map (fun d => d.parameters.length) = some 2 := by decide +kernel
set_option maxHeartbeats 4000000 in
set_option maxRecDepth 100000 in
theorem wX7_kinds_b33 {p : Program} {l : Launch} {e : Env} {s : State} {m : MethodId} {args : Array Value} {below : List Frame} {meth : Method} {c : Code} {Q : State → Prop} {G : va_G} {K : Nat → ClassId} {A : Nat → Prop} (C0 : CX p s m args c cX7_kinds 5 RX7 G K E0 A) (m_a mA_lane mA_many mA_item mA_poem mA_fresh mA_then mA_was mA_tape mA_strengths mA_sounds mA_stand mA_scheme mA_isKept mA_kept mA_trace : Nat) (m_status : Int32) (m_acts : Int32) (m_taped : Int32) (m_cursor : Int32) (m_start : Int32) (m_token : Int32) (m_value : Int32) (m_fault : Int32) (m_faultAt : Int32) (m_latest : Int32) (m_nearFoot : Int32) (m_nearFeet : Int32) (m_nearCost : Int32) (m_traced : Int32) (m_poem : Nat → Int32) (p1 : Int32) (p2 : Int32) (r : Int32) (o_m_thrown : Int32) (o_m_stands : Int32) (o_m_least : Int32) (o_m_ways : Int32) (o_m_then : Nat → Int32) (o_m_strengths : Nat → Int32) (o_m_sounds : Nat → Int32) (o_m_stand : Nat → Int32) (kr : ∀ (H : Heap) (locs : List Loc) (ls : Array Slot) (pc : Nat), decode cX7_kinds pc = .ok (.ireturn, 1) → va_P G vwCl (WX7_kinds K m_a mA_lane mA_many mA_item mA_poem mA_fresh mA_then mA_was mA_tape mA_strengths mA_sounds mA_stand mA_scheme mA_isKept mA_kept mA_trace o_m_thrown m_status m_acts m_taped m_cursor m_start m_token m_value m_fault m_faultAt m_latest o_m_stands o_m_least o_m_ways m_nearFoot m_nearFeet m_nearCost m_traced m_poem o_m_then o_m_strengths o_m_sounds o_m_stand) H → va_D A (WX7_kinds K m_a mA_lane mA_many mA_item mA_poem mA_fresh mA_then mA_was mA_tape mA_strengths mA_sounds mA_stand mA_scheme mA_isKept mA_kept mA_trace o_m_thrown m_status m_acts m_taped m_cursor m_start m_token m_value m_fault m_faultAt m_latest o_m_stands o_m_least o_m_ways m_nearFoot m_nearFeet m_nearCost m_traced m_poem o_m_then o_m_strengths o_m_sounds o_m_stand) → va_S A s.heap H locs → W p l e rmX7_kinds s m args below meth c H locs 0 0 Q (F0 m pc ls [.int r])) (n : Nat) : ∀ (m_thrown : Int32) (m_stands : Int32) (m_least : Int32) (m_ways : Int32) (m_then : Nat → Int32) (m_strengths : Nat → Int32) (m_sounds : Nat → Int32) (m_stand : Nat → Int32) (x3 : Int32) (x4 : Int32), mX7_kinds_b33 m_poem p1 p2  n m_thrown m_stands m_least m_ways m_then m_strengths m_sounds m_stand x3 x4 = some (r, o_m_thrown, o_m_stands, o_m_least, o_m_ways, o_m_then, o_m_strengths, o_m_sounds, o_m_stand) → ∀ (H : Heap) (locs : List Loc) (ls : Array Slot), va_P G vwCl (WX7_kinds K m_a mA_lane mA_many mA_item mA_poem mA_fresh mA_then mA_was mA_tape mA_strengths mA_sounds mA_stand mA_scheme mA_isKept mA_kept mA_trace m_thrown m_status m_acts m_taped m_cursor m_start m_token m_value m_fault m_faultAt m_latest m_stands m_least m_ways m_nearFoot m_nearFeet m_nearCost m_traced m_poem m_then m_strengths m_sounds m_stand) H → va_D A (WX7_kinds K m_a mA_lane mA_many mA_item mA_poem mA_fresh mA_then mA_was mA_tape mA_strengths mA_sounds mA_stand mA_scheme mA_isKept mA_kept mA_trace m_thrown m_status m_acts m_taped m_cursor m_start m_token m_value m_fault m_faultAt m_latest m_stands m_least m_ways m_nearFoot m_nearFeet m_nearCost m_traced m_poem m_then m_strengths m_sounds m_stand) → va_S A s.heap H locs → lv_has ls 5 [(0, .ref m_a), (1, .int p1), (2, .int p2), (3, .int x3), (4, .int x4)] → W p l e rmX7_kinds s m args below meth c H locs 0 0 Q (F0 m 33 ls []) := by
  obtain ⟨hx, hb, hml, hown, hts, hK, hA, hEo, hE⟩ := id C0
  induction n with
  | zero =>
    intro m_thrown m_stands m_least m_ways m_then m_strengths m_sounds m_stand x3 x4 hM
    cases hM
  | succ n ih =>
    intro m_thrown m_stands m_least m_ways m_then m_strengths m_sounds m_stand x3 x4 hM H locs ls hP hD hS hl
    rw [mX7_kinds_b33] at hM
    refine lv_iload hx hb dX7_kinds_33 (lv_at hl 4 rfl) ?_
    refine lv_iconst (v := 5) hx hb dX7_kinds_35 (by decide) ?_
    refine lv_icmp_gt (tgt := 94) hx hb dX7_kinds_36 (by decide) (fun c_1 => ?_) (fun c_1 => ?_)
    · rw [if_pos c_1] at hM
      refine lv_iload_n hx hb dX7_kinds_94 rfl (lv_at hl 3 rfl) ?_
      have t0 := Option.some.inj hM
      obtain ⟨q1, t1⟩ := Prod.mk.inj t0
      obtain ⟨q2, t2⟩ := Prod.mk.inj t1
      obtain ⟨q3, t3⟩ := Prod.mk.inj t2
      obtain ⟨q4, t4⟩ := Prod.mk.inj t3
      obtain ⟨q5, t5⟩ := Prod.mk.inj t4
      obtain ⟨q6, t6⟩ := Prod.mk.inj t5
      obtain ⟨q7, t7⟩ := Prod.mk.inj t6
      obtain ⟨q8, t8⟩ := Prod.mk.inj t7
      subst q1
      subst q2
      subst q3
      subst q4
      subst q5
      subst q6
      subst q7
      subst q8
      subst t8
      exact kr _ _ _ _ dX7_kinds_95 hP hD hS
    · rw [if_neg c_1] at hM
      refine lv_aload_n hx hb dX7_kinds_39 rfl (lv_at hl 0 rfl) ?_
      obtain ⟨u0_2, hC, hM⟩ := oe1 hM
      refine cV_v (As := []) (rest := []) C0 hP hD hS [0, 1, 2] (kX7_layThen l G K m_a mA_lane mA_many mA_item mA_poem mA_fresh mA_then mA_was mA_tape mA_strengths mA_sounds mA_stand mA_scheme mA_isKept mA_kept mA_trace m_thrown m_status m_acts m_taped m_cursor m_start m_token m_value m_fault m_faultAt m_latest m_stands m_least m_ways m_nearFoot m_nearFeet m_nearCost m_traced m_poem m_then H.size u0_2 hC) rfl rfl rfl tb1164 tb1166 tp45 tb9 tb1167 hdX7_layThen (va_recv hK hP (ci := 7) (q0 := 0) rfl rfl) ⟨Nat.le_of_ble_eq_true rfl, Nat.le_of_ble_eq_true rfl⟩ rfl hl.1 (Nat.le_of_ble_eq_true rfl) rfl ⟨Nat.le_refl _, Nat.le_refl _⟩ dX7_kinds_40 (fun H locs hP hD hS => ?_)
      have hP : va_P G vwCl (WX7_kinds K m_a mA_lane mA_many mA_item mA_poem mA_fresh mA_then mA_was mA_tape mA_strengths mA_sounds mA_stand mA_scheme mA_isKept mA_kept mA_trace m_thrown m_status m_acts m_taped m_cursor m_start m_token m_value m_fault m_faultAt m_latest m_stands m_least m_ways m_nearFoot m_nearFeet m_nearCost m_traced m_poem u0_2 m_strengths m_sounds m_stand) H := hP
      have hD : va_D A (WX7_kinds K m_a mA_lane mA_many mA_item mA_poem mA_fresh mA_then mA_was mA_tape mA_strengths mA_sounds mA_stand mA_scheme mA_isKept mA_kept mA_trace m_thrown m_status m_acts m_taped m_cursor m_start m_token m_value m_fault m_faultAt m_latest m_stands m_least m_ways m_nearFoot m_nearFeet m_nearCost m_traced m_poem u0_2 m_strengths m_sounds m_stand) := hD
      refine lv_aload_n hx hb dX7_kinds_43 rfl (lv_at hl 0 rfl) ?_
      refine va_get (D := G) (ci := 7) (v := .ref mA_then) (C := RX7) (T := TX7) (N := 33) hx hb hts inX7 hown hK hP 0 rfl rfl 7 (by decide) (hts _ tb771) (fun _ h9 => h9) rfl dX7_kinds_44 ?_
      refine lv_bipush (v := 7) hx hb dX7_kinds_47 (by decide) ?_
      refine lv_bipush (v := 10) hx hb dX7_kinds_49 (by decide) ?_
      refine lv_iload_n hx hb dX7_kinds_51 rfl (lv_at hl 1 rfl) ?_
      refine lv_imul hx hb dX7_kinds_52 ?_
      refine lv_iadd hx hb dX7_kinds_53 ?_
      refine lv_iload hx hb dX7_kinds_54 (lv_at hl 4 rfl) ?_
      obtain ⟨g_3, hM⟩ := ng hM
      refine va_iast hx hb hK hP hD hS 2 0 rfl rfl g_3 dX7_kinds_56 (fun H locs hP hD hS => ?_)
      have hP : va_P G vwCl (WX7_kinds K m_a mA_lane mA_many mA_item mA_poem mA_fresh mA_then mA_was mA_tape mA_strengths mA_sounds mA_stand mA_scheme mA_isKept mA_kept mA_trace m_thrown m_status m_acts m_taped m_cursor m_start m_token m_value m_fault m_faultAt m_latest m_stands m_least m_ways m_nearFoot m_nearFeet m_nearCost m_traced m_poem (upd u0_2 ((7 : Int32) + ((10 : Int32) * p1)).toNatClampNeg x4) m_strengths m_sounds m_stand) H := hP
      have hD : va_D A (WX7_kinds K m_a mA_lane mA_many mA_item mA_poem mA_fresh mA_then mA_was mA_tape mA_strengths mA_sounds mA_stand mA_scheme mA_isKept mA_kept mA_trace m_thrown m_status m_acts m_taped m_cursor m_start m_token m_value m_fault m_faultAt m_latest m_stands m_least m_ways m_nearFoot m_nearFeet m_nearCost m_traced m_poem (upd u0_2 ((7 : Int32) + ((10 : Int32) * p1)).toNatClampNeg x4) m_strengths m_sounds m_stand) := hD
      refine lv_iload_n hx hb dX7_kinds_57 rfl (lv_at hl 3 rfl) ?_
      refine lv_aload_n hx hb dX7_kinds_58 rfl (lv_at hl 0 rfl) ?_
      refine lv_aload_n hx hb dX7_kinds_59 rfl (lv_at hl 0 rfl) ?_
      refine va_get (D := G) (ci := 7) (v := .ref mA_then) (C := RX7) (T := TX7) (N := 33) hx hb hts inX7 hown hK hP 0 rfl rfl 7 (by decide) (hts _ tb771) (fun _ h9 => h9) rfl dX7_kinds_60 ?_
      refine lv_aload_n hx hb dX7_kinds_63 rfl (lv_at hl 0 rfl) ?_
      refine va_get (D := G) (ci := 7) (v := .ref mA_then) (C := RX7) (T := TX7) (N := 33) hx hb hts inX7 hown hK hP 0 rfl rfl 7 (by decide) (hts _ tb771) (fun _ h9 => h9) rfl dX7_kinds_64 ?_
      refine lv_iload_n hx hb dX7_kinds_67 rfl (lv_at hl 1 rfl) ?_
      obtain ⟨r_4, hC, hM⟩ := oe1 hM
      refine cS_i (As := [.ref mA_then, .int p1]) (rest := [.ref mA_then, .ref m_a, .int x3]) C0 hP hD hS [2] (kX7_lineOf l G K mA_then (upd u0_2 ((7 : Int32) + ((10 : Int32) * p1)).toNatClampNeg x4) p1 H.size r_4 hC) rfl rfl rfl tb1003 tb1004 tb9 tb1005 hdX7_lineOf ⟨Nat.le_of_ble_eq_true rfl, Nat.le_of_ble_eq_true rfl⟩ rfl hl.1 (Nat.le_of_ble_eq_true rfl) rfl ⟨Nat.le_refl _, Nat.le_refl _⟩ dX7_kinds_68 (fun H locs hP hD hS => ?_)
      have hP : va_P G vwCl (WX7_kinds K m_a mA_lane mA_many mA_item mA_poem mA_fresh mA_then mA_was mA_tape mA_strengths mA_sounds mA_stand mA_scheme mA_isKept mA_kept mA_trace m_thrown m_status m_acts m_taped m_cursor m_start m_token m_value m_fault m_faultAt m_latest m_stands m_least m_ways m_nearFoot m_nearFeet m_nearCost m_traced m_poem (upd u0_2 ((7 : Int32) + ((10 : Int32) * p1)).toNatClampNeg x4) m_strengths m_sounds m_stand) H := hP
      have hD : va_D A (WX7_kinds K m_a mA_lane mA_many mA_item mA_poem mA_fresh mA_then mA_was mA_tape mA_strengths mA_sounds mA_stand mA_scheme mA_isKept mA_kept mA_trace m_thrown m_status m_acts m_taped m_cursor m_start m_token m_value m_fault m_faultAt m_latest m_stands m_least m_ways m_nearFoot m_nearFeet m_nearCost m_traced m_poem (upd u0_2 ((7 : Int32) + ((10 : Int32) * p1)).toNatClampNeg x4) m_strengths m_sounds m_stand) := hD
      obtain ⟨r_5, u0_5, u1_5, u2_5, u3_5, u4_5, u5_5, hC, hM⟩ := oe7 hM
      refine cV_i (As := [.ref mA_then, .int r_4]) (rest := [.int x3]) C0 hP hD hS [0, 3, 4, 5, 2] (kX7_byMetre l G K m_a mA_lane mA_many mA_item mA_poem mA_fresh mA_then mA_was mA_tape mA_strengths mA_sounds mA_stand mA_scheme mA_isKept mA_kept mA_trace mA_then m_thrown m_status m_acts m_taped m_cursor m_start m_token m_value m_fault m_faultAt m_latest m_stands m_least m_ways m_nearFoot m_nearFeet m_nearCost m_traced m_strengths m_sounds m_stand (upd u0_2 ((7 : Int32) + ((10 : Int32) * p1)).toNatClampNeg x4) r_4 H.size r_5 u0_5 u1_5 u2_5 u3_5 u4_5 u5_5 hC) rfl rfl rfl tb1168 tb1170 tp46 tb9 tb1171 hdX7_byMetre (va_recv hK hP (ci := 7) (q0 := 0) rfl rfl) ⟨Nat.le_of_ble_eq_true rfl, Nat.le_of_ble_eq_true rfl⟩ rfl hl.1 (Nat.le_of_ble_eq_true rfl) rfl ⟨Nat.le_refl _, Nat.le_refl _⟩ dX7_kinds_71 (fun H locs hP hD hS => ?_)
      have hP : va_P G vwCl (WX7_kinds K m_a mA_lane mA_many mA_item mA_poem mA_fresh mA_then mA_was mA_tape mA_strengths mA_sounds mA_stand mA_scheme mA_isKept mA_kept mA_trace m_thrown m_status m_acts m_taped m_cursor m_start m_token m_value m_fault m_faultAt m_latest u0_5 u1_5 u2_5 m_nearFoot m_nearFeet m_nearCost m_traced m_poem (upd u0_2 ((7 : Int32) + ((10 : Int32) * p1)).toNatClampNeg x4) u3_5 u4_5 u5_5) H := hP
      have hD : va_D A (WX7_kinds K m_a mA_lane mA_many mA_item mA_poem mA_fresh mA_then mA_was mA_tape mA_strengths mA_sounds mA_stand mA_scheme mA_isKept mA_kept mA_trace m_thrown m_status m_acts m_taped m_cursor m_start m_token m_value m_fault m_faultAt m_latest u0_5 u1_5 u2_5 m_nearFoot m_nearFeet m_nearCost m_traced m_poem (upd u0_2 ((7 : Int32) + ((10 : Int32) * p1)).toNatClampNeg x4) u3_5 u4_5 u5_5) := hD
      refine lv_iload_n hx hb dX7_kinds_74 rfl (lv_at hl 2 rfl) ?_
      refine lv_icmp_ne (tgt := 85) hx hb dX7_kinds_75 (by decide) (fun c_6 => ?_) (fun c_6 => ?_)
      · rw [if_neg c_6] at hM
        refine lv_iconst (v := 0) hx hb dX7_kinds_85 (by decide) ?_
        refine lv_ior hx hb dX7_kinds_86 ?_
        refine lv_istore_n (lv' := [(3, .int (x3 ||| (0 : Int32))), (0, .ref m_a), (1, .int p1), (2, .int p2), (4, .int x4)]) hx hb dX7_kinds_87 rfl hl (by decide) rfl (fun ls hl => ?_)
        refine lv_iinc (v := (x4 + 1)) (lv' := [(4, .int (x4 + 1)), (3, .int (x3 ||| (0 : Int32))), (0, .ref m_a), (1, .int p1), (2, .int p2)]) hx hb dX7_kinds_88 hl (k := 4) rfl rfl (by decide) rfl (fun ls hl => ?_)
        refine lv_goto (tgt := 33) hx hb dX7_kinds_91 (by decide) ?_
        exact ih m_thrown u0_5 u1_5 u2_5 (upd u0_2 ((7 : Int32) + ((10 : Int32) * p1)).toNatClampNeg x4) u3_5 u4_5 u5_5 (x3 ||| (0 : Int32)) (x4 + 1) hM _ _ _ hP hD hS (lv_sub hl [2, 3, 4, 1, 0] rfl)
      · rw [if_pos c_6] at hM
        refine lv_iconst (v := 1) hx hb dX7_kinds_78 (by decide) ?_
        refine lv_iload hx hb dX7_kinds_79 (lv_at hl 4 rfl) ?_
        refine lv_ishl hx hb dX7_kinds_81 ?_
        refine lv_goto (tgt := 86) hx hb dX7_kinds_82 (by decide) ?_
        refine lv_ior hx hb dX7_kinds_86 ?_
        refine lv_istore_n (lv' := [(3, .int (x3 ||| ((1 : Int32) <<< (x4 &&& 31)))), (0, .ref m_a), (1, .int p1), (2, .int p2), (4, .int x4)]) hx hb dX7_kinds_87 rfl hl (by decide) rfl (fun ls hl => ?_)
        refine lv_iinc (v := (x4 + 1)) (lv' := [(4, .int (x4 + 1)), (3, .int (x3 ||| ((1 : Int32) <<< (x4 &&& 31)))), (0, .ref m_a), (1, .int p1), (2, .int p2)]) hx hb dX7_kinds_88 hl (k := 4) rfl rfl (by decide) rfl (fun ls hl => ?_)
        refine lv_goto (tgt := 33) hx hb dX7_kinds_91 (by decide) ?_
        exact ih m_thrown u0_5 u1_5 u2_5 (upd u0_2 ((7 : Int32) + ((10 : Int32) * p1)).toNatClampNeg x4) u3_5 u4_5 u5_5 (x3 ||| ((1 : Int32) <<< (x4 &&& 31))) (x4 + 1) hM _ _ _ hP hD hS (lv_sub hl [2, 3, 4, 1, 0] rfl)
set_option maxHeartbeats 4000000 in
set_option maxRecDepth 100000 in
theorem wX7_kinds_b0 {p : Program} {l : Launch} {e : Env} {s : State} {m : MethodId} {args : Array Value} {below : List Frame} {meth : Method} {c : Code} {Q : State → Prop} {G : va_G} {K : Nat → ClassId} {A : Nat → Prop} (C0 : CX p s m args c cX7_kinds 5 RX7 G K E0 A) (m_a mA_lane mA_many mA_item mA_poem mA_fresh mA_then mA_was mA_tape mA_strengths mA_sounds mA_stand mA_scheme mA_isKept mA_kept mA_trace : Nat) (m_status : Int32) (m_acts : Int32) (m_taped : Int32) (m_cursor : Int32) (m_start : Int32) (m_token : Int32) (m_value : Int32) (m_fault : Int32) (m_faultAt : Int32) (m_latest : Int32) (m_nearFoot : Int32) (m_nearFeet : Int32) (m_nearCost : Int32) (m_traced : Int32) (m_poem : Nat → Int32) (p1 : Int32) (p2 : Int32) (r : Int32) (o_m_thrown : Int32) (o_m_stands : Int32) (o_m_least : Int32) (o_m_ways : Int32) (o_m_then : Nat → Int32) (o_m_strengths : Nat → Int32) (o_m_sounds : Nat → Int32) (o_m_stand : Nat → Int32) (kr : ∀ (H : Heap) (locs : List Loc) (ls : Array Slot) (pc : Nat), decode cX7_kinds pc = .ok (.ireturn, 1) → va_P G vwCl (WX7_kinds K m_a mA_lane mA_many mA_item mA_poem mA_fresh mA_then mA_was mA_tape mA_strengths mA_sounds mA_stand mA_scheme mA_isKept mA_kept mA_trace o_m_thrown m_status m_acts m_taped m_cursor m_start m_token m_value m_fault m_faultAt m_latest o_m_stands o_m_least o_m_ways m_nearFoot m_nearFeet m_nearCost m_traced m_poem o_m_then o_m_strengths o_m_sounds o_m_stand) H → va_D A (WX7_kinds K m_a mA_lane mA_many mA_item mA_poem mA_fresh mA_then mA_was mA_tape mA_strengths mA_sounds mA_stand mA_scheme mA_isKept mA_kept mA_trace o_m_thrown m_status m_acts m_taped m_cursor m_start m_token m_value m_fault m_faultAt m_latest o_m_stands o_m_least o_m_ways m_nearFoot m_nearFeet m_nearCost m_traced m_poem o_m_then o_m_strengths o_m_sounds o_m_stand) → va_S A s.heap H locs → W p l e rmX7_kinds s m args below meth c H locs 0 0 Q (F0 m pc ls [.int r])) (m_thrown : Int32) (m_stands : Int32) (m_least : Int32) (m_ways : Int32) (m_then : Nat → Int32) (m_strengths : Nat → Int32) (m_sounds : Nat → Int32) (m_stand : Nat → Int32) (hM : mX7_kinds_b0 m_poem p1 p2  m_thrown m_stands m_least m_ways m_then m_strengths m_sounds m_stand = some (r, o_m_thrown, o_m_stands, o_m_least, o_m_ways, o_m_then, o_m_strengths, o_m_sounds, o_m_stand)) : ∀ (H : Heap) (locs : List Loc) (ls : Array Slot), va_P G vwCl (WX7_kinds K m_a mA_lane mA_many mA_item mA_poem mA_fresh mA_then mA_was mA_tape mA_strengths mA_sounds mA_stand mA_scheme mA_isKept mA_kept mA_trace m_thrown m_status m_acts m_taped m_cursor m_start m_token m_value m_fault m_faultAt m_latest m_stands m_least m_ways m_nearFoot m_nearFeet m_nearCost m_traced m_poem m_then m_strengths m_sounds m_stand) H → va_D A (WX7_kinds K m_a mA_lane mA_many mA_item mA_poem mA_fresh mA_then mA_was mA_tape mA_strengths mA_sounds mA_stand mA_scheme mA_isKept mA_kept mA_trace m_thrown m_status m_acts m_taped m_cursor m_start m_token m_value m_fault m_faultAt m_latest m_stands m_least m_ways m_nearFoot m_nearFeet m_nearCost m_traced m_poem m_then m_strengths m_sounds m_stand) → va_S A s.heap H locs → lv_has ls 5 [(0, .ref m_a), (1, .int p1), (2, .int p2)] → W p l e rmX7_kinds s m args below meth c H locs 0 0 Q (F0 m 0 ls []) := by
  obtain ⟨hx, hb, hml, hown, hts, hK, hA, hEo, hE⟩ := id C0
  intro H locs ls hP hD hS hl
  unfold mX7_kinds_b0 at hM
  refine lv_aload_n hx hb dX7_kinds_0 rfl (lv_at hl 0 rfl) ?_
  refine lv_iconst (v := 0) hx hb dX7_kinds_1 (by decide) ?_
  refine va_put (D := G) (ci := 7) (v := .int (0 : Int32)) (ty := .int) (C := RX7) (T := TX7) (N := 33) hx hb hts inX7 tyX7 tyX7_ok nmX7 hown hK hP hD hS 0 rfl rfl 0 (by decide) (hts _ tb764) (fun _ h9 => h9) rfl (tyX7_ok 0 (by decide)) rfl rfl (Nat.le_of_ble_eq_true rfl) dX7_kinds_2 (fun H locs hP hD hS => ?_)
  have hP : va_P G vwCl (WX7_kinds K m_a mA_lane mA_many mA_item mA_poem mA_fresh mA_then mA_was mA_tape mA_strengths mA_sounds mA_stand mA_scheme mA_isKept mA_kept mA_trace (0 : Int32) m_status m_acts m_taped m_cursor m_start m_token m_value m_fault m_faultAt m_latest m_stands m_least m_ways m_nearFoot m_nearFeet m_nearCost m_traced m_poem m_then m_strengths m_sounds m_stand) H := hP
  have hD : va_D A (WX7_kinds K m_a mA_lane mA_many mA_item mA_poem mA_fresh mA_then mA_was mA_tape mA_strengths mA_sounds mA_stand mA_scheme mA_isKept mA_kept mA_trace (0 : Int32) m_status m_acts m_taped m_cursor m_start m_token m_value m_fault m_faultAt m_latest m_stands m_least m_ways m_nearFoot m_nearFeet m_nearCost m_traced m_poem m_then m_strengths m_sounds m_stand) := hD
  refine lv_aload_n hx hb dX7_kinds_5 rfl (lv_at hl 0 rfl) ?_
  refine lv_iload_n hx hb dX7_kinds_6 rfl (lv_at hl 1 rfl) ?_
  obtain ⟨r_7, hC, hM⟩ := oe1 hM
  refine cV_i (As := [.int p1]) (rest := []) C0 hP hD hS [0, 1] (kX7_isWord l G K m_a mA_lane mA_many mA_item mA_poem mA_fresh mA_then mA_was mA_tape mA_strengths mA_sounds mA_stand mA_scheme mA_isKept mA_kept mA_trace (0 : Int32) m_status m_acts m_taped m_cursor m_start m_token m_value m_fault m_faultAt m_latest m_stands m_least m_ways m_nearFoot m_nearFeet m_nearCost m_traced m_poem p1 H.size r_7 hC) rfl rfl rfl tb970 tb972 tp25 tb9 tb973 hdX7_isWord (va_recv hK hP (ci := 7) (q0 := 0) rfl rfl) ⟨Nat.le_of_ble_eq_true rfl, Nat.le_of_ble_eq_true rfl⟩ rfl hl.1 (Nat.le_of_ble_eq_true rfl) rfl ⟨Nat.le_refl _, Nat.le_refl _⟩ dX7_kinds_7 (fun H locs hP hD hS => ?_)
  have hP : va_P G vwCl (WX7_kinds K m_a mA_lane mA_many mA_item mA_poem mA_fresh mA_then mA_was mA_tape mA_strengths mA_sounds mA_stand mA_scheme mA_isKept mA_kept mA_trace (0 : Int32) m_status m_acts m_taped m_cursor m_start m_token m_value m_fault m_faultAt m_latest m_stands m_least m_ways m_nearFoot m_nearFeet m_nearCost m_traced m_poem m_then m_strengths m_sounds m_stand) H := hP
  have hD : va_D A (WX7_kinds K m_a mA_lane mA_many mA_item mA_poem mA_fresh mA_then mA_was mA_tape mA_strengths mA_sounds mA_stand mA_scheme mA_isKept mA_kept mA_trace (0 : Int32) m_status m_acts m_taped m_cursor m_start m_token m_value m_fault m_faultAt m_latest m_stands m_least m_ways m_nearFoot m_nearFeet m_nearCost m_traced m_poem m_then m_strengths m_sounds m_stand) := hD
  refine lv_if_eq (tgt := 25) hx hb dX7_kinds_10 (by decide) (fun c_8 => ?_) (fun c_8 => ?_)
  · rw [if_pos c_8] at hM
    refine lv_ldc (v := -1000001) hx hb hown (hts _ tb877) dX7_kinds_25 ?_
    have t0 := Option.some.inj hM
    obtain ⟨q1, t1⟩ := Prod.mk.inj t0
    obtain ⟨q2, t2⟩ := Prod.mk.inj t1
    obtain ⟨q3, t3⟩ := Prod.mk.inj t2
    obtain ⟨q4, t4⟩ := Prod.mk.inj t3
    obtain ⟨q5, t5⟩ := Prod.mk.inj t4
    obtain ⟨q6, t6⟩ := Prod.mk.inj t5
    obtain ⟨q7, t7⟩ := Prod.mk.inj t6
    obtain ⟨q8, t8⟩ := Prod.mk.inj t7
    subst q1
    subst q2
    subst q3
    subst q4
    subst q5
    subst q6
    subst q7
    subst q8
    subst t8
    exact kr _ _ _ _ dX7_kinds_27 hP hD hS
  · rw [if_neg c_8] at hM
    refine lv_iload_n hx hb dX7_kinds_13 rfl (lv_at hl 2 rfl) ?_
    refine lv_i2l hx hb dX7_kinds_14 rfl ?_
    refine lv_lconst (v := 0) hx hb dX7_kinds_15 (by decide) ?_
    refine lv_ldc2 (v := 99) hx hb hown (hts _ tb1163) dX7_kinds_16 ?_
    obtain ⟨r_9, hC, hM⟩ := oe1 hM
    refine cS_i (As := [.long p2.toInt64, .long (0 : Int64), .long (99 : Int64)]) (rest := []) C0 hP hD hS [] (kX7_in l G K p2.toInt64 (0 : Int64) (99 : Int64) H.size r_9 hC) rfl rfl rfl tb873 tb874 tb9 tb875 hdX7_in ⟨Nat.le_of_ble_eq_true rfl, Nat.le_of_ble_eq_true rfl⟩ rfl hl.1 (Nat.le_of_ble_eq_true rfl) rfl ⟨Nat.le_refl _, Nat.le_refl _⟩ dX7_kinds_19 (fun H locs hP hD hS => ?_)
    have hP : va_P G vwCl (WX7_kinds K m_a mA_lane mA_many mA_item mA_poem mA_fresh mA_then mA_was mA_tape mA_strengths mA_sounds mA_stand mA_scheme mA_isKept mA_kept mA_trace (0 : Int32) m_status m_acts m_taped m_cursor m_start m_token m_value m_fault m_faultAt m_latest m_stands m_least m_ways m_nearFoot m_nearFeet m_nearCost m_traced m_poem m_then m_strengths m_sounds m_stand) H := hP
    have hD : va_D A (WX7_kinds K m_a mA_lane mA_many mA_item mA_poem mA_fresh mA_then mA_was mA_tape mA_strengths mA_sounds mA_stand mA_scheme mA_isKept mA_kept mA_trace (0 : Int32) m_status m_acts m_taped m_cursor m_start m_token m_value m_fault m_faultAt m_latest m_stands m_least m_ways m_nearFoot m_nearFeet m_nearCost m_traced m_poem m_then m_strengths m_sounds m_stand) := hD
    refine lv_if_ne (tgt := 28) hx hb dX7_kinds_22 (by decide) (fun c_10 => ?_) (fun c_10 => ?_)
    · rw [if_neg c_10] at hM
      refine lv_iconst (v := 0) hx hb dX7_kinds_28 (by decide) ?_
      refine lv_istore_n (lv' := [(3, .int (0 : Int32)), (0, .ref m_a), (1, .int p1), (2, .int p2)]) hx hb dX7_kinds_29 rfl hl (by decide) rfl (fun ls hl => ?_)
      refine lv_iconst (v := 1) hx hb dX7_kinds_30 (by decide) ?_
      refine lv_istore (lv' := [(4, .int (1 : Int32)), (3, .int (0 : Int32)), (0, .ref m_a), (1, .int p1), (2, .int p2)]) hx hb dX7_kinds_31 hl (by decide) rfl (fun ls hl => ?_)
      exact wX7_kinds_b33 C0 m_a mA_lane mA_many mA_item mA_poem mA_fresh mA_then mA_was mA_tape mA_strengths mA_sounds mA_stand mA_scheme mA_isKept mA_kept mA_trace m_status m_acts m_taped m_cursor m_start m_token m_value m_fault m_faultAt m_latest m_nearFoot m_nearFeet m_nearCost m_traced m_poem p1 p2 r o_m_thrown o_m_stands o_m_least o_m_ways o_m_then o_m_strengths o_m_sounds o_m_stand kr  FU (0 : Int32) m_stands m_least m_ways m_then m_strengths m_sounds m_stand (0 : Int32) (1 : Int32) hM _ _ _ hP hD hS (lv_sub hl [2, 3, 4, 1, 0] rfl)
    · rw [if_pos c_10] at hM
      refine lv_ldc (v := -1000001) hx hb hown (hts _ tb877) dX7_kinds_25 ?_
      have t0 := Option.some.inj hM
      obtain ⟨q1, t1⟩ := Prod.mk.inj t0
      obtain ⟨q2, t2⟩ := Prod.mk.inj t1
      obtain ⟨q3, t3⟩ := Prod.mk.inj t2
      obtain ⟨q4, t4⟩ := Prod.mk.inj t3
      obtain ⟨q5, t5⟩ := Prod.mk.inj t4
      obtain ⟨q6, t6⟩ := Prod.mk.inj t5
      obtain ⟨q7, t7⟩ := Prod.mk.inj t6
      obtain ⟨q8, t8⟩ := Prod.mk.inj t7
      subst q1
      subst q2
      subst q3
      subst q4
      subst q5
      subst q6
      subst q7
      subst q8
      subst t8
      exact kr _ _ _ _ dX7_kinds_27 hP hD hS
set_option maxHeartbeats 4000000 in
set_option maxRecDepth 100000 in
theorem kX7_kinds (l : Launch) (G : va_G) (K : Nat → ClassId) (m_a mA_lane mA_many mA_item mA_poem mA_fresh mA_then mA_was mA_tape mA_strengths mA_sounds mA_stand mA_scheme mA_isKept mA_kept mA_trace : Nat) (m_thrown : Int32) (m_status : Int32) (m_acts : Int32) (m_taped : Int32) (m_cursor : Int32) (m_start : Int32) (m_token : Int32) (m_value : Int32) (m_fault : Int32) (m_faultAt : Int32) (m_latest : Int32) (m_stands : Int32) (m_least : Int32) (m_ways : Int32) (m_nearFoot : Int32) (m_nearFeet : Int32) (m_nearCost : Int32) (m_traced : Int32) (m_poem : Nat → Int32) (m_then : Nat → Int32) (m_strengths : Nat → Int32) (m_sounds : Nat → Int32) (m_stand : Nat → Int32) (p1 : Int32) (p2 : Int32) (sz : Nat) (r : Int32) (o_m_thrown : Int32) (o_m_stands : Int32) (o_m_least : Int32) (o_m_ways : Int32) (o_m_then : Nat → Int32) (o_m_strengths : Nat → Int32) (o_m_sounds : Nat → Int32) (o_m_stand : Nat → Int32) (hM : mX7_kinds m_poem m_thrown m_stands m_least m_ways m_then m_strengths m_sounds m_stand p1 p2 = some (r, o_m_thrown, o_m_stands, o_m_least, o_m_ways, o_m_then, o_m_strengths, o_m_sounds, o_m_stand)) : Met l yX7_kinds (mC yX7_kinds cX7_kinds 5 (some .int)) rmX7_kinds (va_Pc [.ref m_a, .int p1, .int p2] (PCe G K E0 (WX7_kinds K m_a mA_lane mA_many mA_item mA_poem mA_fresh mA_then mA_was mA_tape mA_strengths mA_sounds mA_stand mA_scheme mA_isKept mA_kept mA_trace m_thrown m_status m_acts m_taped m_cursor m_start m_token m_value m_fault m_faultAt m_latest m_stands m_least m_ways m_nearFoot m_nearFeet m_nearCost m_traced m_poem m_then m_strengths m_sounds m_stand) sz)) (va_Qi (fun (x : Int32) (_ : Unit) => x = r) (fun _ t => va_P G vwCl (WX7_kinds K m_a mA_lane mA_many mA_item mA_poem mA_fresh mA_then mA_was mA_tape mA_strengths mA_sounds mA_stand mA_scheme mA_isKept mA_kept mA_trace o_m_thrown m_status m_acts m_taped m_cursor m_start m_token m_value m_fault m_faultAt m_latest o_m_stands o_m_least o_m_ways m_nearFoot m_nearFeet m_nearCost m_traced m_poem o_m_then o_m_strengths o_m_sounds o_m_stand) t.heap) (va_A (WX7_kinds K m_a mA_lane mA_many mA_item mA_poem mA_fresh mA_then mA_was mA_tape mA_strengths mA_sounds mA_stand mA_scheme mA_isKept mA_kept mA_trace m_thrown m_status m_acts m_taped m_cursor m_start m_token m_value m_fault m_faultAt m_latest m_stands m_least m_ways m_nearFoot m_nearFeet m_nearCost m_traced m_poem m_then m_strengths m_sounds m_stand) sz)) rmX7_kinds.cells rmX7_kinds.slots (va_A (WX7_kinds K m_a mA_lane mA_many mA_item mA_poem mA_fresh mA_then mA_was mA_tape mA_strengths mA_sounds mA_stand mA_scheme mA_isKept mA_kept mA_trace m_thrown m_status m_acts m_taped m_cursor m_start m_token m_value m_fault m_faultAt m_latest m_stands m_least m_ways m_nearFoot m_nearFeet m_nearCost m_traced m_poem m_then m_strengths m_sounds m_stand) sz) := by
  refine Met.ofW (cc := cX7_kinds) (maxL := 5) (ret := (some .int)) (by decide) rfl ?_
  intro p e s m args below meth c s₁ B hml hv
  obtain ⟨rfl, hsz, hP, hK, hD0, hE⟩ := hv
  have hx := B.exec
  have hb := B.bytes
  have hr := B.returns
  have hts0 := atoms_spec (ws := mC yX7_kinds cX7_kinds 5 (some .int)) B.pre
  have hts : ∀ w ∈ tbG, w.before _ s = true := fun w h => hts0 w (List.mem_cons_of_mem _ h)
  have hown : s.vm.findClass RX7 = some m.cls := findClass_of_methodNamed B.named
  subst hsz
  have hD := hD0.self (sz := s.heap.size)
  generalize hAe : va_A (WX7_kinds K m_a mA_lane mA_many mA_item mA_poem mA_fresh mA_then mA_was mA_tape mA_strengths mA_sounds mA_stand mA_scheme mA_isKept mA_kept mA_trace m_thrown m_status m_acts m_taped m_cursor m_start m_token m_value m_fault m_faultAt m_latest m_stands m_least m_ways m_nearFoot m_nearFeet m_nearCost m_traced m_poem m_then m_strengths m_sounds m_stand) s.heap.size = A at hD hE ⊢
  have hA : ∀ q : Nat, s.heap.size ≤ q → A q := fun q h => by rw [← hAe]; exact Or.inr h
  have hS : va_S A s.heap s.heap [] := va_S.rf
  have hl := lv_entry ([.ref m_a, .int p1, .int p2]) (n := 5) (Nat.le_of_ble_eq_true rfl)
  rw [lg_entry_eq]
  generalize (lg_sl ([.ref m_a, .int p1, .int p2]) ++ List.replicate (5 - (lg_sl ([.ref m_a, .int p1, .int p2])).length) Slot.unset).toArray = ls at hl ⊢
  have hl : lv_has ls 5 [(0, .ref m_a), (1, .int p1), (2, .int p2)] := hl
  exact wX7_kinds_b0 ⟨hx, hb, hml, hown, hts, hK, hA, E0_ok, hE⟩ m_a mA_lane mA_many mA_item mA_poem mA_fresh mA_then mA_was mA_tape mA_strengths mA_sounds mA_stand mA_scheme mA_isKept mA_kept mA_trace m_status m_acts m_taped m_cursor m_start m_token m_value m_fault m_faultAt m_latest m_nearFoot m_nearFeet m_nearCost m_traced m_poem p1 p2 r o_m_thrown o_m_stands o_m_least o_m_ways o_m_then o_m_strengths o_m_sounds o_m_stand (fun H locs ls pc hdg hP hD hS => W.iret (v := r) hx hb hr (fun t ht hW => ⟨⟨r, (), rfl, rfl, (show va_P G vwCl _ t.heap by rw [ht]; exact hP)⟩, hS.F ht⟩) hS.2.2 hdg) m_thrown m_stands m_least m_ways m_then m_strengths m_sounds m_stand  hM _ _ _ hP hD hS hl
abbrev WX7_areCostsSo (K : Nat → ClassId) (m_a mA_lane mA_many mA_item mA_poem mA_fresh mA_then mA_was mA_tape mA_strengths mA_sounds mA_stand mA_scheme mA_isKept mA_kept mA_trace : Nat) (m_thrown : Int32) (m_status : Int32) (m_acts : Int32) (m_taped : Int32) (m_cursor : Int32) (m_start : Int32) (m_token : Int32) (m_value : Int32) (m_fault : Int32) (m_faultAt : Int32) (m_latest : Int32) (m_stands : Int32) (m_least : Int32) (m_ways : Int32) (m_nearFoot : Int32) (m_nearFeet : Int32) (m_nearCost : Int32) (m_traced : Int32) (m_item : Nat → Int32) (m_then : Nat → Int32) (m_strengths : Nat → Int32) (m_sounds : Nat → Int32) (m_stand : Nat → Int32) : va_W := [(m_a, .inr (7, [.int m_thrown, .int m_status, .ref mA_lane, .ref mA_many, .ref mA_item, .ref mA_poem, .ref mA_fresh, .ref mA_then, .ref mA_was, .int m_acts, .ref mA_tape, .int m_taped, .int m_cursor, .int m_start, .int m_token, .int m_value, .int m_fault, .int m_faultAt, .int m_latest, .ref mA_strengths, .ref mA_sounds, .ref mA_stand, .int m_stands, .int m_least, .int m_ways, .ref mA_scheme, .int m_nearFoot, .int m_nearFeet, .int m_nearCost, .ref mA_isKept, .ref mA_kept, .ref mA_trace, .int m_traced])), aI K mA_item 320 m_item, aI K mA_then 207 m_then, aI K mA_strengths 20 m_strengths, aI K mA_sounds 5 m_sounds, aI K mA_stand 20 m_stand]
def rmX7_areCostsSo : Room := { frames := 9, cells := 0, slots := 0, locals := 212 }
theorem hdX7_areCostsSo : yX7_areCostsSo.cls = RX7 ∧ yX7_areCostsSo.cls ≠ "java/lang/invoke/MethodHandle" ∧ yX7_areCostsSo.cls ≠ "java/lang/invoke/VarHandle" ∧ (parseMethodDescriptor yX7_areCostsSo.desc).map (fun d => d.parameters.length) = some 1 := by decide +kernel
set_option maxHeartbeats 4000000 in
set_option maxRecDepth 100000 in
theorem wX7_areCostsSo_b42 {p : Program} {l : Launch} {e : Env} {s : State} {m : MethodId} {args : Array Value} {below : List Frame} {meth : Method} {c : Code} {Q : State → Prop} {G : va_G} {K : Nat → ClassId} {A : Nat → Prop} (C0 : CX p s m args c cX7_areCostsSo 5 RX7 G K E0 A) (m_a mA_lane mA_many mA_item mA_poem mA_fresh mA_then mA_was mA_tape mA_strengths mA_sounds mA_stand mA_scheme mA_isKept mA_kept mA_trace : Nat) (m_thrown : Int32) (m_status : Int32) (m_acts : Int32) (m_taped : Int32) (m_cursor : Int32) (m_start : Int32) (m_token : Int32) (m_value : Int32) (m_fault : Int32) (m_faultAt : Int32) (m_latest : Int32) (m_nearFoot : Int32) (m_nearFeet : Int32) (m_nearCost : Int32) (m_traced : Int32) (m_item : Nat → Int32) (m_then : Nat → Int32) (p1 : Int32) (r : Int32) (o_m_stands : Int32) (o_m_least : Int32) (o_m_ways : Int32) (o_m_strengths : Nat → Int32) (o_m_sounds : Nat → Int32) (o_m_stand : Nat → Int32) (kr : ∀ (H : Heap) (locs : List Loc) (ls : Array Slot) (pc : Nat), decode cX7_areCostsSo pc = .ok (.ireturn, 1) → (r = 0 ∨ r = 1) → va_P G vwCl (WX7_areCostsSo K m_a mA_lane mA_many mA_item mA_poem mA_fresh mA_then mA_was mA_tape mA_strengths mA_sounds mA_stand mA_scheme mA_isKept mA_kept mA_trace m_thrown m_status m_acts m_taped m_cursor m_start m_token m_value m_fault m_faultAt m_latest o_m_stands o_m_least o_m_ways m_nearFoot m_nearFeet m_nearCost m_traced m_item m_then o_m_strengths o_m_sounds o_m_stand) H → va_D A (WX7_areCostsSo K m_a mA_lane mA_many mA_item mA_poem mA_fresh mA_then mA_was mA_tape mA_strengths mA_sounds mA_stand mA_scheme mA_isKept mA_kept mA_trace m_thrown m_status m_acts m_taped m_cursor m_start m_token m_value m_fault m_faultAt m_latest o_m_stands o_m_least o_m_ways m_nearFoot m_nearFeet m_nearCost m_traced m_item m_then o_m_strengths o_m_sounds o_m_stand) → va_S A s.heap H locs → W p l e rmX7_areCostsSo s m args below meth c H locs 0 0 Q (F0 m pc ls [.int r])) (k4 : Int32 → Int32 → Int32 → (Nat → Int32) → (Nat → Int32) → (Nat → Int32) → Int32 → Int32 → Option (Int32 × (Int32) × (Int32) × (Int32) × (Nat → Int32) × (Nat → Int32) × (Nat → Int32))) (hk4 : ∀ (m_stands : Int32) (m_least : Int32) (m_ways : Int32) (m_strengths : Nat → Int32) (m_sounds : Nat → Int32) (m_stand : Nat → Int32) (x2 : Int32) (x3 : Int32), k4 m_stands m_least m_ways m_strengths m_sounds m_stand x2 x3 = some (r, o_m_stands, o_m_least, o_m_ways, o_m_strengths, o_m_sounds, o_m_stand) → ∀ (H : Heap) (locs : List Loc) (ls : Array Slot), va_P G vwCl (WX7_areCostsSo K m_a mA_lane mA_many mA_item mA_poem mA_fresh mA_then mA_was mA_tape mA_strengths mA_sounds mA_stand mA_scheme mA_isKept mA_kept mA_trace m_thrown m_status m_acts m_taped m_cursor m_start m_token m_value m_fault m_faultAt m_latest m_stands m_least m_ways m_nearFoot m_nearFeet m_nearCost m_traced m_item m_then m_strengths m_sounds m_stand) H → va_D A (WX7_areCostsSo K m_a mA_lane mA_many mA_item mA_poem mA_fresh mA_then mA_was mA_tape mA_strengths mA_sounds mA_stand mA_scheme mA_isKept mA_kept mA_trace m_thrown m_status m_acts m_taped m_cursor m_start m_token m_value m_fault m_faultAt m_latest m_stands m_least m_ways m_nearFoot m_nearFeet m_nearCost m_traced m_item m_then m_strengths m_sounds m_stand) → va_S A s.heap H locs → lv_has ls 5 [(0, .ref m_a), (1, .int p1), (2, .int x2), (3, .int x3)] → W p l e rmX7_areCostsSo s m args below meth c H locs 0 0 Q (F0 m 4 ls [])) (m_stands : Int32) (m_least : Int32) (m_ways : Int32) (m_strengths : Nat → Int32) (m_sounds : Nat → Int32) (m_stand : Nat → Int32) (x3 : Int32) (s0 : Int32) (hM : mX7_areCostsSo_b42 m_item m_then p1 k4 m_stands m_least m_ways m_strengths m_sounds m_stand x3 s0 = some (r, o_m_stands, o_m_least, o_m_ways, o_m_strengths, o_m_sounds, o_m_stand)) : ∀ (H : Heap) (locs : List Loc) (ls : Array Slot), va_P G vwCl (WX7_areCostsSo K m_a mA_lane mA_many mA_item mA_poem mA_fresh mA_then mA_was mA_tape mA_strengths mA_sounds mA_stand mA_scheme mA_isKept mA_kept mA_trace m_thrown m_status m_acts m_taped m_cursor m_start m_token m_value m_fault m_faultAt m_latest m_stands m_least m_ways m_nearFoot m_nearFeet m_nearCost m_traced m_item m_then m_strengths m_sounds m_stand) H → va_D A (WX7_areCostsSo K m_a mA_lane mA_many mA_item mA_poem mA_fresh mA_then mA_was mA_tape mA_strengths mA_sounds mA_stand mA_scheme mA_isKept mA_kept mA_trace m_thrown m_status m_acts m_taped m_cursor m_start m_token m_value m_fault m_faultAt m_latest m_stands m_least m_ways m_nearFoot m_nearFeet m_nearCost m_traced m_item m_then m_strengths m_sounds m_stand) → va_S A s.heap H locs → lv_has ls 5 [(0, .ref m_a), (1, .int p1), (3, .int x3)] → W p l e rmX7_areCostsSo s m args below meth c H locs 0 0 Q (F0 m 42 ls [.int s0]) := by
  obtain ⟨hx, hb, hml, hown, hts, hK, hA, hEo, hE⟩ := id C0
  intro H locs ls hP hD hS hl
  unfold mX7_areCostsSo_b42 at hM
  refine lv_aload_n hx hb dX7_areCostsSo_42 rfl (lv_at hl 0 rfl) ?_
  refine va_get (D := G) (ci := 7) (v := .ref mA_item) (C := RX7) (T := TX7) (N := 33) hx hb hts inX7 hown hK hP 0 rfl rfl 4 (by decide) (hts _ tb768) (fun _ h9 => h9) rfl dX7_areCostsSo_43 ?_
  refine lv_iload_n hx hb dX7_areCostsSo_46 rfl (lv_at hl 1 rfl) ?_
  refine lv_iload_n hx hb dX7_areCostsSo_47 rfl (lv_at hl 2 rfl) ?_
  refine lv_iadd hx hb dX7_areCostsSo_48 ?_
  obtain ⟨g_1, hM⟩ := ng hM
  refine va_iald hx hb hK hP 1 0 rfl rfl g_1 dX7_areCostsSo_49 ?_
  refine lv_icmp_ne (tgt := 57) hx hb dX7_areCostsSo_50 (by decide) (fun c_2 => ?_) (fun c_2 => ?_)
  · rw [if_neg c_2] at hM
    refine lv_iconst (v := 0) hx hb dX7_areCostsSo_57 (by decide) ?_
    refine lv_istore_n (lv' := [(2, .int (0 : Int32)), (0, .ref m_a), (1, .int p1), (3, .int x3)]) hx hb dX7_areCostsSo_58 rfl hl (by decide) rfl (fun ls hl => ?_)
    refine lv_iinc (v := (x3 + 1)) (lv' := [(3, .int (x3 + 1)), (2, .int (0 : Int32)), (0, .ref m_a), (1, .int p1)]) hx hb dX7_areCostsSo_59 hl (k := 3) rfl rfl (by decide) rfl (fun ls hl => ?_)
    refine lv_goto (tgt := 4) hx hb dX7_areCostsSo_62 (by decide) ?_
    exact hk4 m_stands m_least m_ways m_strengths m_sounds m_stand (0 : Int32) (x3 + 1) hM _ _ _ hP hD hS (lv_sub hl [2, 3, 1, 0] rfl)
  · rw [if_pos c_2] at hM
    refine lv_iconst (v := 1) hx hb dX7_areCostsSo_53 (by decide) ?_
    refine lv_goto (tgt := 58) hx hb dX7_areCostsSo_54 (by decide) ?_
    refine lv_istore_n (lv' := [(2, .int (1 : Int32)), (0, .ref m_a), (1, .int p1), (3, .int x3)]) hx hb dX7_areCostsSo_58 rfl hl (by decide) rfl (fun ls hl => ?_)
    refine lv_iinc (v := (x3 + 1)) (lv' := [(3, .int (x3 + 1)), (2, .int (1 : Int32)), (0, .ref m_a), (1, .int p1)]) hx hb dX7_areCostsSo_59 hl (k := 3) rfl rfl (by decide) rfl (fun ls hl => ?_)
    refine lv_goto (tgt := 4) hx hb dX7_areCostsSo_62 (by decide) ?_
    exact hk4 m_stands m_least m_ways m_strengths m_sounds m_stand (1 : Int32) (x3 + 1) hM _ _ _ hP hD hS (lv_sub hl [2, 3, 1, 0] rfl)
set_option maxHeartbeats 4000000 in
set_option maxRecDepth 100000 in
theorem wX7_areCostsSo_b4 {p : Program} {l : Launch} {e : Env} {s : State} {m : MethodId} {args : Array Value} {below : List Frame} {meth : Method} {c : Code} {Q : State → Prop} {G : va_G} {K : Nat → ClassId} {A : Nat → Prop} (C0 : CX p s m args c cX7_areCostsSo 5 RX7 G K E0 A) (m_a mA_lane mA_many mA_item mA_poem mA_fresh mA_then mA_was mA_tape mA_strengths mA_sounds mA_stand mA_scheme mA_isKept mA_kept mA_trace : Nat) (m_thrown : Int32) (m_status : Int32) (m_acts : Int32) (m_taped : Int32) (m_cursor : Int32) (m_start : Int32) (m_token : Int32) (m_value : Int32) (m_fault : Int32) (m_faultAt : Int32) (m_latest : Int32) (m_nearFoot : Int32) (m_nearFeet : Int32) (m_nearCost : Int32) (m_traced : Int32) (m_item : Nat → Int32) (m_then : Nat → Int32) (p1 : Int32) (r : Int32) (o_m_stands : Int32) (o_m_least : Int32) (o_m_ways : Int32) (o_m_strengths : Nat → Int32) (o_m_sounds : Nat → Int32) (o_m_stand : Nat → Int32) (kr : ∀ (H : Heap) (locs : List Loc) (ls : Array Slot) (pc : Nat), decode cX7_areCostsSo pc = .ok (.ireturn, 1) → (r = 0 ∨ r = 1) → va_P G vwCl (WX7_areCostsSo K m_a mA_lane mA_many mA_item mA_poem mA_fresh mA_then mA_was mA_tape mA_strengths mA_sounds mA_stand mA_scheme mA_isKept mA_kept mA_trace m_thrown m_status m_acts m_taped m_cursor m_start m_token m_value m_fault m_faultAt m_latest o_m_stands o_m_least o_m_ways m_nearFoot m_nearFeet m_nearCost m_traced m_item m_then o_m_strengths o_m_sounds o_m_stand) H → va_D A (WX7_areCostsSo K m_a mA_lane mA_many mA_item mA_poem mA_fresh mA_then mA_was mA_tape mA_strengths mA_sounds mA_stand mA_scheme mA_isKept mA_kept mA_trace m_thrown m_status m_acts m_taped m_cursor m_start m_token m_value m_fault m_faultAt m_latest o_m_stands o_m_least o_m_ways m_nearFoot m_nearFeet m_nearCost m_traced m_item m_then o_m_strengths o_m_sounds o_m_stand) → va_S A s.heap H locs → W p l e rmX7_areCostsSo s m args below meth c H locs 0 0 Q (F0 m pc ls [.int r])) (n : Nat) : ∀ (m_stands : Int32) (m_least : Int32) (m_ways : Int32) (m_strengths : Nat → Int32) (m_sounds : Nat → Int32) (m_stand : Nat → Int32) (x2 : Int32) (x3 : Int32), mX7_areCostsSo_b4 m_item m_then p1  n m_stands m_least m_ways m_strengths m_sounds m_stand x2 x3 = some (r, o_m_stands, o_m_least, o_m_ways, o_m_strengths, o_m_sounds, o_m_stand) → ∀ (H : Heap) (locs : List Loc) (ls : Array Slot), va_P G vwCl (WX7_areCostsSo K m_a mA_lane mA_many mA_item mA_poem mA_fresh mA_then mA_was mA_tape mA_strengths mA_sounds mA_stand mA_scheme mA_isKept mA_kept mA_trace m_thrown m_status m_acts m_taped m_cursor m_start m_token m_value m_fault m_faultAt m_latest m_stands m_least m_ways m_nearFoot m_nearFeet m_nearCost m_traced m_item m_then m_strengths m_sounds m_stand) H → va_D A (WX7_areCostsSo K m_a mA_lane mA_many mA_item mA_poem mA_fresh mA_then mA_was mA_tape mA_strengths mA_sounds mA_stand mA_scheme mA_isKept mA_kept mA_trace m_thrown m_status m_acts m_taped m_cursor m_start m_token m_value m_fault m_faultAt m_latest m_stands m_least m_ways m_nearFoot m_nearFeet m_nearCost m_traced m_item m_then m_strengths m_sounds m_stand) → va_S A s.heap H locs → lv_has ls 5 [(0, .ref m_a), (1, .int p1), (2, .int x2), (3, .int x3)] → W p l e rmX7_areCostsSo s m args below meth c H locs 0 0 Q (F0 m 4 ls []) := by
  obtain ⟨hx, hb, hml, hown, hts, hK, hA, hEo, hE⟩ := id C0
  induction n with
  | zero =>
    intro m_stands m_least m_ways m_strengths m_sounds m_stand x2 x3 hM
    cases hM
  | succ n ih =>
    intro m_stands m_least m_ways m_strengths m_sounds m_stand x2 x3 hM H locs ls hP hD hS hl
    rw [mX7_areCostsSo_b4] at hM
    refine lv_iload_n hx hb dX7_areCostsSo_4 rfl (lv_at hl 3 rfl) ?_
    refine lv_aload_n hx hb dX7_areCostsSo_5 rfl (lv_at hl 0 rfl) ?_
    refine va_get (D := G) (ci := 7) (v := .ref mA_then) (C := RX7) (T := TX7) (N := 33) hx hb hts inX7 hown hK hP 0 rfl rfl 7 (by decide) (hts _ tb771) (fun _ h9 => h9) rfl dX7_areCostsSo_6 ?_
    refine lv_iconst (v := 0) hx hb dX7_areCostsSo_9 (by decide) ?_
    refine va_iald hx hb hK hP 2 0 rfl rfl (show ¬ ((0 : Int32) < 0 ∨ 207 ≤ ((0 : Int32)).toNatClampNeg) by decide) dX7_areCostsSo_10 ?_
    refine lv_icmp_ge (tgt := 65) hx hb dX7_areCostsSo_11 (by decide) (fun c_3 => ?_) (fun c_3 => ?_)
    · rw [if_pos c_3] at hM
      refine lv_iload_n hx hb dX7_areCostsSo_65 rfl (lv_at hl 2 rfl) ?_
      obtain ⟨g_4, hM⟩ := ng hM
      have t0 := Option.some.inj hM
      obtain ⟨q1, t1⟩ := Prod.mk.inj t0
      obtain ⟨q2, t2⟩ := Prod.mk.inj t1
      obtain ⟨q3, t3⟩ := Prod.mk.inj t2
      obtain ⟨q4, t4⟩ := Prod.mk.inj t3
      obtain ⟨q5, t5⟩ := Prod.mk.inj t4
      obtain ⟨q6, t6⟩ := Prod.mk.inj t5
      subst q1
      subst q2
      subst q3
      subst q4
      subst q5
      subst q6
      subst t6
      exact kr _ _ _ _ dX7_areCostsSo_66 (Decidable.not_not.mp g_4) hP hD hS
    · rw [if_neg c_3] at hM
      refine lv_aload_n hx hb dX7_areCostsSo_14 rfl (lv_at hl 0 rfl) ?_
      refine lv_aload_n hx hb dX7_areCostsSo_15 rfl (lv_at hl 0 rfl) ?_
      refine va_get (D := G) (ci := 7) (v := .ref mA_then) (C := RX7) (T := TX7) (N := 33) hx hb hts inX7 hown hK hP 0 rfl rfl 7 (by decide) (hts _ tb771) (fun _ h9 => h9) rfl dX7_areCostsSo_16 ?_
      refine lv_iload_n hx hb dX7_areCostsSo_19 rfl (lv_at hl 3 rfl) ?_
      obtain ⟨r_5, u0_5, u1_5, u2_5, u3_5, u4_5, u5_5, hC, hM⟩ := oe7 hM
      refine cV_i (As := [.ref mA_then, .int x3]) (rest := []) C0 hP hD hS [0, 3, 4, 5, 2] (kX7_byMetre l G K m_a mA_lane mA_many mA_item mA_poem mA_fresh mA_then mA_was mA_tape mA_strengths mA_sounds mA_stand mA_scheme mA_isKept mA_kept mA_trace mA_then m_thrown m_status m_acts m_taped m_cursor m_start m_token m_value m_fault m_faultAt m_latest m_stands m_least m_ways m_nearFoot m_nearFeet m_nearCost m_traced m_strengths m_sounds m_stand m_then x3 H.size r_5 u0_5 u1_5 u2_5 u3_5 u4_5 u5_5 hC) rfl rfl rfl tb1168 tb1170 tp46 tb9 tb1171 hdX7_byMetre (va_recv hK hP (ci := 7) (q0 := 0) rfl rfl) ⟨Nat.le_of_ble_eq_true rfl, Nat.le_of_ble_eq_true rfl⟩ rfl hl.1 (Nat.le_of_ble_eq_true rfl) rfl ⟨Nat.le_refl _, Nat.le_refl _⟩ dX7_areCostsSo_20 (fun H locs hP hD hS => ?_)
      have hP : va_P G vwCl (WX7_areCostsSo K m_a mA_lane mA_many mA_item mA_poem mA_fresh mA_then mA_was mA_tape mA_strengths mA_sounds mA_stand mA_scheme mA_isKept mA_kept mA_trace m_thrown m_status m_acts m_taped m_cursor m_start m_token m_value m_fault m_faultAt m_latest u0_5 u1_5 u2_5 m_nearFoot m_nearFeet m_nearCost m_traced m_item m_then u3_5 u4_5 u5_5) H := hP
      have hD : va_D A (WX7_areCostsSo K m_a mA_lane mA_many mA_item mA_poem mA_fresh mA_then mA_was mA_tape mA_strengths mA_sounds mA_stand mA_scheme mA_isKept mA_kept mA_trace m_thrown m_status m_acts m_taped m_cursor m_start m_token m_value m_fault m_faultAt m_latest u0_5 u1_5 u2_5 m_nearFoot m_nearFeet m_nearCost m_traced m_item m_then u3_5 u4_5 u5_5) := hD
      refine lv_istore (lv' := [(4, .int r_5), (0, .ref m_a), (1, .int p1), (2, .int x2), (3, .int x3)]) hx hb dX7_areCostsSo_23 hl (by decide) rfl (fun ls hl => ?_)
      refine lv_iload_n hx hb dX7_areCostsSo_25 rfl (lv_at hl 3 rfl) ?_
      refine lv_if_eq (tgt := 57) hx hb dX7_areCostsSo_26 (by decide) (fun c_6 => ?_) (fun c_6 => ?_)
      · rw [if_pos c_6] at hM
        refine lv_iconst (v := 0) hx hb dX7_areCostsSo_57 (by decide) ?_
        refine lv_istore_n (lv' := [(2, .int (0 : Int32)), (4, .int r_5), (0, .ref m_a), (1, .int p1), (3, .int x3)]) hx hb dX7_areCostsSo_58 rfl hl (by decide) rfl (fun ls hl => ?_)
        refine lv_iinc (v := (x3 + 1)) (lv' := [(3, .int (x3 + 1)), (2, .int (0 : Int32)), (4, .int r_5), (0, .ref m_a), (1, .int p1)]) hx hb dX7_areCostsSo_59 hl (k := 4) rfl rfl (by decide) rfl (fun ls hl => ?_)
        refine lv_goto (tgt := 4) hx hb dX7_areCostsSo_62 (by decide) ?_
        exact ih u0_5 u1_5 u2_5 u3_5 u4_5 u5_5 (0 : Int32) (x3 + 1) hM _ _ _ hP hD hS (lv_sub hl [3, 4, 1, 0] rfl)
      · rw [if_neg c_6] at hM
        refine lv_iload hx hb dX7_areCostsSo_29 (lv_at hl 0 rfl) ?_
        refine lv_ldc (v := -1000000) hx hb hown (hts _ tb917) dX7_areCostsSo_31 ?_
        refine lv_icmp_ne (tgt := 40) hx hb dX7_areCostsSo_33 (by decide) (fun c_7 => ?_) (fun c_7 => ?_)
        · rw [if_neg c_7] at hM
          refine lv_iload hx hb dX7_areCostsSo_40 (lv_at hl 0 rfl) ?_
          exact wX7_areCostsSo_b42 C0 m_a mA_lane mA_many mA_item mA_poem mA_fresh mA_then mA_was mA_tape mA_strengths mA_sounds mA_stand mA_scheme mA_isKept mA_kept mA_trace m_thrown m_status m_acts m_taped m_cursor m_start m_token m_value m_fault m_faultAt m_latest m_nearFoot m_nearFeet m_nearCost m_traced m_item m_then p1 r o_m_stands o_m_least o_m_ways o_m_strengths o_m_sounds o_m_stand kr (mX7_areCostsSo_b4 m_item m_then p1  n) ih u0_5 u1_5 u2_5 u3_5 u4_5 u5_5 x3 r_5 hM _ _ _ hP hD hS (lv_sub hl [1, 2, 4] rfl)
        · rw [if_pos c_7] at hM
          refine lv_iconst (v := (-1)) hx hb dX7_areCostsSo_36 (by decide) ?_
          refine lv_goto (tgt := 42) hx hb dX7_areCostsSo_37 (by decide) ?_
          exact wX7_areCostsSo_b42 C0 m_a mA_lane mA_many mA_item mA_poem mA_fresh mA_then mA_was mA_tape mA_strengths mA_sounds mA_stand mA_scheme mA_isKept mA_kept mA_trace m_thrown m_status m_acts m_taped m_cursor m_start m_token m_value m_fault m_faultAt m_latest m_nearFoot m_nearFeet m_nearCost m_traced m_item m_then p1 r o_m_stands o_m_least o_m_ways o_m_strengths o_m_sounds o_m_stand kr (mX7_areCostsSo_b4 m_item m_then p1  n) ih u0_5 u1_5 u2_5 u3_5 u4_5 u5_5 x3 ((-1) : Int32) hM _ _ _ hP hD hS (lv_sub hl [1, 2, 4] rfl)
set_option maxHeartbeats 4000000 in
set_option maxRecDepth 100000 in
theorem wX7_areCostsSo_b0 {p : Program} {l : Launch} {e : Env} {s : State} {m : MethodId} {args : Array Value} {below : List Frame} {meth : Method} {c : Code} {Q : State → Prop} {G : va_G} {K : Nat → ClassId} {A : Nat → Prop} (C0 : CX p s m args c cX7_areCostsSo 5 RX7 G K E0 A) (m_a mA_lane mA_many mA_item mA_poem mA_fresh mA_then mA_was mA_tape mA_strengths mA_sounds mA_stand mA_scheme mA_isKept mA_kept mA_trace : Nat) (m_thrown : Int32) (m_status : Int32) (m_acts : Int32) (m_taped : Int32) (m_cursor : Int32) (m_start : Int32) (m_token : Int32) (m_value : Int32) (m_fault : Int32) (m_faultAt : Int32) (m_latest : Int32) (m_nearFoot : Int32) (m_nearFeet : Int32) (m_nearCost : Int32) (m_traced : Int32) (m_item : Nat → Int32) (m_then : Nat → Int32) (p1 : Int32) (r : Int32) (o_m_stands : Int32) (o_m_least : Int32) (o_m_ways : Int32) (o_m_strengths : Nat → Int32) (o_m_sounds : Nat → Int32) (o_m_stand : Nat → Int32) (kr : ∀ (H : Heap) (locs : List Loc) (ls : Array Slot) (pc : Nat), decode cX7_areCostsSo pc = .ok (.ireturn, 1) → (r = 0 ∨ r = 1) → va_P G vwCl (WX7_areCostsSo K m_a mA_lane mA_many mA_item mA_poem mA_fresh mA_then mA_was mA_tape mA_strengths mA_sounds mA_stand mA_scheme mA_isKept mA_kept mA_trace m_thrown m_status m_acts m_taped m_cursor m_start m_token m_value m_fault m_faultAt m_latest o_m_stands o_m_least o_m_ways m_nearFoot m_nearFeet m_nearCost m_traced m_item m_then o_m_strengths o_m_sounds o_m_stand) H → va_D A (WX7_areCostsSo K m_a mA_lane mA_many mA_item mA_poem mA_fresh mA_then mA_was mA_tape mA_strengths mA_sounds mA_stand mA_scheme mA_isKept mA_kept mA_trace m_thrown m_status m_acts m_taped m_cursor m_start m_token m_value m_fault m_faultAt m_latest o_m_stands o_m_least o_m_ways m_nearFoot m_nearFeet m_nearCost m_traced m_item m_then o_m_strengths o_m_sounds o_m_stand) → va_S A s.heap H locs → W p l e rmX7_areCostsSo s m args below meth c H locs 0 0 Q (F0 m pc ls [.int r])) (m_stands : Int32) (m_least : Int32) (m_ways : Int32) (m_strengths : Nat → Int32) (m_sounds : Nat → Int32) (m_stand : Nat → Int32) (hM : mX7_areCostsSo_b0 m_item m_then p1  m_stands m_least m_ways m_strengths m_sounds m_stand = some (r, o_m_stands, o_m_least, o_m_ways, o_m_strengths, o_m_sounds, o_m_stand)) : ∀ (H : Heap) (locs : List Loc) (ls : Array Slot), va_P G vwCl (WX7_areCostsSo K m_a mA_lane mA_many mA_item mA_poem mA_fresh mA_then mA_was mA_tape mA_strengths mA_sounds mA_stand mA_scheme mA_isKept mA_kept mA_trace m_thrown m_status m_acts m_taped m_cursor m_start m_token m_value m_fault m_faultAt m_latest m_stands m_least m_ways m_nearFoot m_nearFeet m_nearCost m_traced m_item m_then m_strengths m_sounds m_stand) H → va_D A (WX7_areCostsSo K m_a mA_lane mA_many mA_item mA_poem mA_fresh mA_then mA_was mA_tape mA_strengths mA_sounds mA_stand mA_scheme mA_isKept mA_kept mA_trace m_thrown m_status m_acts m_taped m_cursor m_start m_token m_value m_fault m_faultAt m_latest m_stands m_least m_ways m_nearFoot m_nearFeet m_nearCost m_traced m_item m_then m_strengths m_sounds m_stand) → va_S A s.heap H locs → lv_has ls 5 [(0, .ref m_a), (1, .int p1)] → W p l e rmX7_areCostsSo s m args below meth c H locs 0 0 Q (F0 m 0 ls []) := by
  obtain ⟨hx, hb, hml, hown, hts, hK, hA, hEo, hE⟩ := id C0
  intro H locs ls hP hD hS hl
  unfold mX7_areCostsSo_b0 at hM
  refine lv_iconst (v := 1) hx hb dX7_areCostsSo_0 (by decide) ?_
  refine lv_istore_n (lv' := [(2, .int (1 : Int32)), (0, .ref m_a), (1, .int p1)]) hx hb dX7_areCostsSo_1 rfl hl (by decide) rfl (fun ls hl => ?_)
  refine lv_iconst (v := 0) hx hb dX7_areCostsSo_2 (by decide) ?_
  refine lv_istore_n (lv' := [(3, .int (0 : Int32)), (2, .int (1 : Int32)), (0, .ref m_a), (1, .int p1)]) hx hb dX7_areCostsSo_3 rfl hl (by decide) rfl (fun ls hl => ?_)
  exact wX7_areCostsSo_b4 C0 m_a mA_lane mA_many mA_item mA_poem mA_fresh mA_then mA_was mA_tape mA_strengths mA_sounds mA_stand mA_scheme mA_isKept mA_kept mA_trace m_thrown m_status m_acts m_taped m_cursor m_start m_token m_value m_fault m_faultAt m_latest m_nearFoot m_nearFeet m_nearCost m_traced m_item m_then p1 r o_m_stands o_m_least o_m_ways o_m_strengths o_m_sounds o_m_stand kr  FU m_stands m_least m_ways m_strengths m_sounds m_stand (1 : Int32) (0 : Int32) hM _ _ _ hP hD hS (lv_sub hl [2, 3, 1, 0] rfl)
set_option maxHeartbeats 4000000 in
set_option maxRecDepth 100000 in
theorem kX7_areCostsSo (l : Launch) (G : va_G) (K : Nat → ClassId) (m_a mA_lane mA_many mA_item mA_poem mA_fresh mA_then mA_was mA_tape mA_strengths mA_sounds mA_stand mA_scheme mA_isKept mA_kept mA_trace : Nat) (m_thrown : Int32) (m_status : Int32) (m_acts : Int32) (m_taped : Int32) (m_cursor : Int32) (m_start : Int32) (m_token : Int32) (m_value : Int32) (m_fault : Int32) (m_faultAt : Int32) (m_latest : Int32) (m_stands : Int32) (m_least : Int32) (m_ways : Int32) (m_nearFoot : Int32) (m_nearFeet : Int32) (m_nearCost : Int32) (m_traced : Int32) (m_item : Nat → Int32) (m_then : Nat → Int32) (m_strengths : Nat → Int32) (m_sounds : Nat → Int32) (m_stand : Nat → Int32) (p1 : Int32) (sz : Nat) (r : Int32) (o_m_stands : Int32) (o_m_least : Int32) (o_m_ways : Int32) (o_m_strengths : Nat → Int32) (o_m_sounds : Nat → Int32) (o_m_stand : Nat → Int32) (hM : mX7_areCostsSo m_item m_then m_stands m_least m_ways m_strengths m_sounds m_stand p1 = some (r, o_m_stands, o_m_least, o_m_ways, o_m_strengths, o_m_sounds, o_m_stand)) : Met l yX7_areCostsSo (mC yX7_areCostsSo cX7_areCostsSo 5 (some .boolean)) rmX7_areCostsSo (va_Pc [.ref m_a, .int p1] (PCe G K E0 (WX7_areCostsSo K m_a mA_lane mA_many mA_item mA_poem mA_fresh mA_then mA_was mA_tape mA_strengths mA_sounds mA_stand mA_scheme mA_isKept mA_kept mA_trace m_thrown m_status m_acts m_taped m_cursor m_start m_token m_value m_fault m_faultAt m_latest m_stands m_least m_ways m_nearFoot m_nearFeet m_nearCost m_traced m_item m_then m_strengths m_sounds m_stand) sz)) (va_Qi (fun (x : Int32) (_ : Unit) => x = r) (fun _ t => va_P G vwCl (WX7_areCostsSo K m_a mA_lane mA_many mA_item mA_poem mA_fresh mA_then mA_was mA_tape mA_strengths mA_sounds mA_stand mA_scheme mA_isKept mA_kept mA_trace m_thrown m_status m_acts m_taped m_cursor m_start m_token m_value m_fault m_faultAt m_latest o_m_stands o_m_least o_m_ways m_nearFoot m_nearFeet m_nearCost m_traced m_item m_then o_m_strengths o_m_sounds o_m_stand) t.heap) (va_A (WX7_areCostsSo K m_a mA_lane mA_many mA_item mA_poem mA_fresh mA_then mA_was mA_tape mA_strengths mA_sounds mA_stand mA_scheme mA_isKept mA_kept mA_trace m_thrown m_status m_acts m_taped m_cursor m_start m_token m_value m_fault m_faultAt m_latest m_stands m_least m_ways m_nearFoot m_nearFeet m_nearCost m_traced m_item m_then m_strengths m_sounds m_stand) sz)) rmX7_areCostsSo.cells rmX7_areCostsSo.slots (va_A (WX7_areCostsSo K m_a mA_lane mA_many mA_item mA_poem mA_fresh mA_then mA_was mA_tape mA_strengths mA_sounds mA_stand mA_scheme mA_isKept mA_kept mA_trace m_thrown m_status m_acts m_taped m_cursor m_start m_token m_value m_fault m_faultAt m_latest m_stands m_least m_ways m_nearFoot m_nearFeet m_nearCost m_traced m_item m_then m_strengths m_sounds m_stand) sz) := by
  refine Met.ofW (cc := cX7_areCostsSo) (maxL := 5) (ret := (some .boolean)) (by decide) rfl ?_
  intro p e s m args below meth c s₁ B hml hv
  obtain ⟨rfl, hsz, hP, hK, hD0, hE⟩ := hv
  have hx := B.exec
  have hb := B.bytes
  have hr := B.returns
  have hts0 := atoms_spec (ws := mC yX7_areCostsSo cX7_areCostsSo 5 (some .boolean)) B.pre
  have hts : ∀ w ∈ tbG, w.before _ s = true := fun w h => hts0 w (List.mem_cons_of_mem _ h)
  have hown : s.vm.findClass RX7 = some m.cls := findClass_of_methodNamed B.named
  subst hsz
  have hD := hD0.self (sz := s.heap.size)
  generalize hAe : va_A (WX7_areCostsSo K m_a mA_lane mA_many mA_item mA_poem mA_fresh mA_then mA_was mA_tape mA_strengths mA_sounds mA_stand mA_scheme mA_isKept mA_kept mA_trace m_thrown m_status m_acts m_taped m_cursor m_start m_token m_value m_fault m_faultAt m_latest m_stands m_least m_ways m_nearFoot m_nearFeet m_nearCost m_traced m_item m_then m_strengths m_sounds m_stand) s.heap.size = A at hD hE ⊢
  have hA : ∀ q : Nat, s.heap.size ≤ q → A q := fun q h => by rw [← hAe]; exact Or.inr h
  have hS : va_S A s.heap s.heap [] := va_S.rf
  have hl := lv_entry ([.ref m_a, .int p1]) (n := 5) (Nat.le_of_ble_eq_true rfl)
  rw [lg_entry_eq]
  generalize (lg_sl ([.ref m_a, .int p1]) ++ List.replicate (5 - (lg_sl ([.ref m_a, .int p1])).length) Slot.unset).toArray = ls at hl ⊢
  have hl : lv_has ls 5 [(0, .ref m_a), (1, .int p1)] := hl
  exact wX7_areCostsSo_b0 ⟨hx, hb, hml, hown, hts, hK, hA, E0_ok, hE⟩ m_a mA_lane mA_many mA_item mA_poem mA_fresh mA_then mA_was mA_tape mA_strengths mA_sounds mA_stand mA_scheme mA_isKept mA_kept mA_trace m_thrown m_status m_acts m_taped m_cursor m_start m_token m_value m_fault m_faultAt m_latest m_nearFoot m_nearFeet m_nearCost m_traced m_item m_then p1 r o_m_stands o_m_least o_m_ways o_m_strengths o_m_sounds o_m_stand (fun H locs ls pc hdg hz hP hD hS => W.zret (v := r) (ty := .boolean) hx hb hr (nar_b hz) (fun t ht hW => ⟨⟨r, (), rfl, rfl, (show va_P G vwCl _ t.heap by rw [ht]; exact hP)⟩, hS.F ht⟩) hS.2.2 hdg) m_stands m_least m_ways m_strengths m_sounds m_stand  hM _ _ _ hP hD hS hl
abbrev WX7_who (K : Nat → ClassId) (m_a mA_lane mA_many mA_item mA_poem mA_fresh mA_then mA_was mA_tape mA_strengths mA_sounds mA_stand mA_scheme mA_isKept mA_kept mA_trace : Nat) (m_thrown : Int32) (m_status : Int32) (m_acts : Int32) (m_taped : Int32) (m_cursor : Int32) (m_start : Int32) (m_token : Int32) (m_value : Int32) (m_fault : Int32) (m_faultAt : Int32) (m_latest : Int32) (m_stands : Int32) (m_least : Int32) (m_ways : Int32) (m_nearFoot : Int32) (m_nearFeet : Int32) (m_nearCost : Int32) (m_traced : Int32) (m_lane : Nat → Int32) (m_many : Nat → Int32) (m_item : Nat → Int32) (m_poem : Nat → Int32) (m_then : Nat → Int32) (m_strengths : Nat → Int32) (m_sounds : Nat → Int32) (m_stand : Nat → Int32) : va_W := [(m_a, .inr (7, [.int m_thrown, .int m_status, .ref mA_lane, .ref mA_many, .ref mA_item, .ref mA_poem, .ref mA_fresh, .ref mA_then, .ref mA_was, .int m_acts, .ref mA_tape, .int m_taped, .int m_cursor, .int m_start, .int m_token, .int m_value, .int m_fault, .int m_faultAt, .int m_latest, .ref mA_strengths, .ref mA_sounds, .ref mA_stand, .int m_stands, .int m_least, .int m_ways, .ref mA_scheme, .int m_nearFoot, .int m_nearFeet, .int m_nearCost, .ref mA_isKept, .ref mA_kept, .ref mA_trace, .int m_traced])), aI K mA_lane 8 m_lane, aI K mA_many 8 m_many, aI K mA_item 320 m_item, aI K mA_poem 207 m_poem, aI K mA_then 207 m_then, aI K mA_strengths 20 m_strengths, aI K mA_sounds 5 m_sounds, aI K mA_stand 20 m_stand]
def rmX7_who : Room := { frames := 10, cells := 0, slots := 0, locals := 236 }
theorem hdX7_who : yX7_who.cls = RX7 ∧ yX7_who.cls ≠ "java/lang/invoke/MethodHandle" ∧ yX7_who.cls ≠ "java/lang/invoke/VarHandle" ∧ (parseMethodDescriptor yX7_who.desc).map (fun d => d.parameters.length) = some 4 := by decide +kernel
set_option maxHeartbeats 4000000 in
set_option maxRecDepth 100000 in
theorem wX7_who_b125 {p : Program} {l : Launch} {e : Env} {s : State} {m : MethodId} {args : Array Value} {below : List Frame} {meth : Method} {c : Code} {Q : State → Prop} {G : va_G} {K : Nat → ClassId} {A : Nat → Prop} (C0 : CX p s m args c cX7_who 8 RX7 G K E0 A) (m_a mA_lane mA_many mA_item mA_poem mA_fresh mA_then mA_was mA_tape mA_strengths mA_sounds mA_stand mA_scheme mA_isKept mA_kept mA_trace : Nat) (m_acts : Int32) (m_taped : Int32) (m_cursor : Int32) (m_start : Int32) (m_token : Int32) (m_value : Int32) (m_fault : Int32) (m_faultAt : Int32) (m_latest : Int32) (m_nearFoot : Int32) (m_nearFeet : Int32) (m_nearCost : Int32) (m_traced : Int32) (m_lane : Nat → Int32) (m_many : Nat → Int32) (m_item : Nat → Int32) (m_poem : Nat → Int32) (p1 : Int32) (p2 : Int32) (p3 : Int32) (p4 : Int32) (r : Int32) (o_m_thrown : Int32) (o_m_status : Int32) (o_m_stands : Int32) (o_m_least : Int32) (o_m_ways : Int32) (o_m_then : Nat → Int32) (o_m_strengths : Nat → Int32) (o_m_sounds : Nat → Int32) (o_m_stand : Nat → Int32) (kr : ∀ (H : Heap) (locs : List Loc) (ls : Array Slot) (pc : Nat), decode cX7_who pc = .ok (.ireturn, 1) → va_P G vwCl (WX7_who K m_a mA_lane mA_many mA_item mA_poem mA_fresh mA_then mA_was mA_tape mA_strengths mA_sounds mA_stand mA_scheme mA_isKept mA_kept mA_trace o_m_thrown o_m_status m_acts m_taped m_cursor m_start m_token m_value m_fault m_faultAt m_latest o_m_stands o_m_least o_m_ways m_nearFoot m_nearFeet m_nearCost m_traced m_lane m_many m_item m_poem o_m_then o_m_strengths o_m_sounds o_m_stand) H → va_D A (WX7_who K m_a mA_lane mA_many mA_item mA_poem mA_fresh mA_then mA_was mA_tape mA_strengths mA_sounds mA_stand mA_scheme mA_isKept mA_kept mA_trace o_m_thrown o_m_status m_acts m_taped m_cursor m_start m_token m_value m_fault m_faultAt m_latest o_m_stands o_m_least o_m_ways m_nearFoot m_nearFeet m_nearCost m_traced m_lane m_many m_item m_poem o_m_then o_m_strengths o_m_sounds o_m_stand) → va_S A s.heap H locs → W p l e rmX7_who s m args below meth c H locs 0 0 Q (F0 m pc ls [.int r])) (k78 : Int32 → Int32 → Int32 → Int32 → Int32 → (Nat → Int32) → (Nat → Int32) → (Nat → Int32) → (Nat → Int32) → Int32 → Int32 → Option (Int32 × (Int32) × (Int32) × (Int32) × (Int32) × (Int32) × (Nat → Int32) × (Nat → Int32) × (Nat → Int32) × (Nat → Int32))) (hk78 : ∀ (m_thrown : Int32) (m_status : Int32) (m_stands : Int32) (m_least : Int32) (m_ways : Int32) (m_then : Nat → Int32) (m_strengths : Nat → Int32) (m_sounds : Nat → Int32) (m_stand : Nat → Int32) (x6 : Int32) (x7 : Int32), k78 m_thrown m_status m_stands m_least m_ways m_then m_strengths m_sounds m_stand x6 x7 = some (r, o_m_thrown, o_m_status, o_m_stands, o_m_least, o_m_ways, o_m_then, o_m_strengths, o_m_sounds, o_m_stand) → ∀ (H : Heap) (locs : List Loc) (ls : Array Slot), va_P G vwCl (WX7_who K m_a mA_lane mA_many mA_item mA_poem mA_fresh mA_then mA_was mA_tape mA_strengths mA_sounds mA_stand mA_scheme mA_isKept mA_kept mA_trace m_thrown m_status m_acts m_taped m_cursor m_start m_token m_value m_fault m_faultAt m_latest m_stands m_least m_ways m_nearFoot m_nearFeet m_nearCost m_traced m_lane m_many m_item m_poem m_then m_strengths m_sounds m_stand) H → va_D A (WX7_who K m_a mA_lane mA_many mA_item mA_poem mA_fresh mA_then mA_was mA_tape mA_strengths mA_sounds mA_stand mA_scheme mA_isKept mA_kept mA_trace m_thrown m_status m_acts m_taped m_cursor m_start m_token m_value m_fault m_faultAt m_latest m_stands m_least m_ways m_nearFoot m_nearFeet m_nearCost m_traced m_lane m_many m_item m_poem m_then m_strengths m_sounds m_stand) → va_S A s.heap H locs → lv_has ls 8 [(0, .ref m_a), (1, .int p1), (2, .int p2), (3, .int p3), (4, .int p4), (6, .int x6), (7, .int x7)] → W p l e rmX7_who s m args below meth c H locs 0 0 Q (F0 m 78 ls [])) (m_thrown : Int32) (m_status : Int32) (m_stands : Int32) (m_least : Int32) (m_ways : Int32) (m_then : Nat → Int32) (m_strengths : Nat → Int32) (m_sounds : Nat → Int32) (m_stand : Nat → Int32) (x6 : Int32) (x7 : Int32) (s1 : Int32) (hM : mX7_who_b125 m_lane m_many m_item m_poem p1 p2 p3 p4 k78 m_thrown m_status m_stands m_least m_ways m_then m_strengths m_sounds m_stand x6 x7 s1 = some (r, o_m_thrown, o_m_status, o_m_stands, o_m_least, o_m_ways, o_m_then, o_m_strengths, o_m_sounds, o_m_stand)) : ∀ (H : Heap) (locs : List Loc) (ls : Array Slot), va_P G vwCl (WX7_who K m_a mA_lane mA_many mA_item mA_poem mA_fresh mA_then mA_was mA_tape mA_strengths mA_sounds mA_stand mA_scheme mA_isKept mA_kept mA_trace m_thrown m_status m_acts m_taped m_cursor m_start m_token m_value m_fault m_faultAt m_latest m_stands m_least m_ways m_nearFoot m_nearFeet m_nearCost m_traced m_lane m_many m_item m_poem m_then m_strengths m_sounds m_stand) H → va_D A (WX7_who K m_a mA_lane mA_many mA_item mA_poem mA_fresh mA_then mA_was mA_tape mA_strengths mA_sounds mA_stand mA_scheme mA_isKept mA_kept mA_trace m_thrown m_status m_acts m_taped m_cursor m_start m_token m_value m_fault m_faultAt m_latest m_stands m_least m_ways m_nearFoot m_nearFeet m_nearCost m_traced m_lane m_many m_item m_poem m_then m_strengths m_sounds m_stand) → va_S A s.heap H locs → lv_has ls 8 [(0, .ref m_a), (1, .int p1), (2, .int p2), (3, .int p3), (4, .int p4), (6, .int x6), (7, .int x7)] → W p l e rmX7_who s m args below meth c H locs 0 0 Q (F0 m 125 ls [.int s1, .ref mA_then]) := by
  obtain ⟨hx, hb, hml, hown, hts, hK, hA, hEo, hE⟩ := id C0
  intro H locs ls hP hD hS hl
  unfold mX7_who_b125 at hM
  refine lv_iload hx hb dX7_who_125 (lv_at hl 6 rfl) ?_
  obtain ⟨g_1, hM⟩ := ng hM
  refine va_iast hx hb hK hP hD hS 5 0 rfl rfl g_1 dX7_who_127 (fun H locs hP hD hS => ?_)
  have hP : va_P G vwCl (WX7_who K m_a mA_lane mA_many mA_item mA_poem mA_fresh mA_then mA_was mA_tape mA_strengths mA_sounds mA_stand mA_scheme mA_isKept mA_kept mA_trace m_thrown m_status m_acts m_taped m_cursor m_start m_token m_value m_fault m_faultAt m_latest m_stands m_least m_ways m_nearFoot m_nearFeet m_nearCost m_traced m_lane m_many m_item m_poem (upd m_then s1.toNatClampNeg x7) m_strengths m_sounds m_stand) H := hP
  have hD : va_D A (WX7_who K m_a mA_lane mA_many mA_item mA_poem mA_fresh mA_then mA_was mA_tape mA_strengths mA_sounds mA_stand mA_scheme mA_isKept mA_kept mA_trace m_thrown m_status m_acts m_taped m_cursor m_start m_token m_value m_fault m_faultAt m_latest m_stands m_least m_ways m_nearFoot m_nearFeet m_nearCost m_traced m_lane m_many m_item m_poem (upd m_then s1.toNatClampNeg x7) m_strengths m_sounds m_stand) := hD
  refine lv_iload hx hb dX7_who_128 (lv_at hl 5 rfl) ?_
  refine lv_aload_n hx hb dX7_who_130 rfl (lv_at hl 0 rfl) ?_
  refine lv_bipush (v := 40) hx hb dX7_who_131 (by decide) ?_
  refine lv_iload_n hx hb dX7_who_133 rfl (lv_at hl 3 rfl) ?_
  refine lv_imul hx hb dX7_who_134 ?_
  refine lv_iload hx hb dX7_who_135 (lv_at hl 4 rfl) ?_
  refine lv_iadd hx hb dX7_who_137 ?_
  obtain ⟨r_2, u0_2, u1_2, u2_2, u3_2, u4_2, u5_2, hC, hM⟩ := oe7 hM
  refine cV_i (As := [.int (((40 : Int32) * p3) + p4)]) (rest := [.int x6]) C0 hP hD hS [0, 3, 5, 6, 7, 8] (kX7_areCostsSo l G K m_a mA_lane mA_many mA_item mA_poem mA_fresh mA_then mA_was mA_tape mA_strengths mA_sounds mA_stand mA_scheme mA_isKept mA_kept mA_trace m_thrown m_status m_acts m_taped m_cursor m_start m_token m_value m_fault m_faultAt m_latest m_stands m_least m_ways m_nearFoot m_nearFeet m_nearCost m_traced m_item (upd m_then s1.toNatClampNeg x7) m_strengths m_sounds m_stand (((40 : Int32) * p3) + p4) H.size r_2 u0_2 u1_2 u2_2 u3_2 u4_2 u5_2 hC) rfl rfl rfl tb1176 tb1178 tp47 tb9 tb1179 hdX7_areCostsSo (va_recv hK hP (ci := 7) (q0 := 0) rfl rfl) ⟨Nat.le_of_ble_eq_true rfl, Nat.le_of_ble_eq_true rfl⟩ rfl hl.1 (Nat.le_of_ble_eq_true rfl) rfl ⟨Nat.le_refl _, Nat.le_refl _⟩ dX7_who_138 (fun H locs hP hD hS => ?_)
  have hP : va_P G vwCl (WX7_who K m_a mA_lane mA_many mA_item mA_poem mA_fresh mA_then mA_was mA_tape mA_strengths mA_sounds mA_stand mA_scheme mA_isKept mA_kept mA_trace m_thrown m_status m_acts m_taped m_cursor m_start m_token m_value m_fault m_faultAt m_latest u0_2 u1_2 u2_2 m_nearFoot m_nearFeet m_nearCost m_traced m_lane m_many m_item m_poem (upd m_then s1.toNatClampNeg x7) u3_2 u4_2 u5_2) H := hP
  have hD : va_D A (WX7_who K m_a mA_lane mA_many mA_item mA_poem mA_fresh mA_then mA_was mA_tape mA_strengths mA_sounds mA_stand mA_scheme mA_isKept mA_kept mA_trace m_thrown m_status m_acts m_taped m_cursor m_start m_token m_value m_fault m_faultAt m_latest u0_2 u1_2 u2_2 m_nearFoot m_nearFeet m_nearCost m_traced m_lane m_many m_item m_poem (upd m_then s1.toNatClampNeg x7) u3_2 u4_2 u5_2) := hD
  refine lv_if_eq (tgt := 151) hx hb dX7_who_141 (by decide) (fun c_3 => ?_) (fun c_3 => ?_)
  · rw [if_pos c_3] at hM
    refine lv_iconst (v := 0) hx hb dX7_who_151 (by decide) ?_
    refine lv_ior hx hb dX7_who_152 ?_
    refine lv_istore (lv' := [(6, .int (x6 ||| (0 : Int32))), (0, .ref m_a), (1, .int p1), (2, .int p2), (3, .int p3), (4, .int p4), (7, .int x7)]) hx hb dX7_who_153 hl (by decide) rfl (fun ls hl => ?_)
    refine lv_iinc (v := (x7 + 1)) (lv' := [(7, .int (x7 + 1)), (6, .int (x6 ||| (0 : Int32))), (0, .ref m_a), (1, .int p1), (2, .int p2), (3, .int p3), (4, .int p4)]) hx hb dX7_who_155 hl (k := 6) rfl rfl (by decide) rfl (fun ls hl => ?_)
    refine lv_goto (tgt := 78) hx hb dX7_who_158 (by decide) ?_
    exact hk78 m_thrown m_status u0_2 u1_2 u2_2 (upd m_then s1.toNatClampNeg x7) u3_2 u4_2 u5_2 (x6 ||| (0 : Int32)) (x7 + 1) hM _ _ _ hP hD hS (lv_sub hl [2, 3, 4, 5, 6, 1, 0] rfl)
  · rw [if_neg c_3] at hM
    refine lv_iconst (v := 1) hx hb dX7_who_144 (by decide) ?_
    refine lv_iload hx hb dX7_who_145 (lv_at hl 6 rfl) ?_
    refine lv_ishl hx hb dX7_who_147 ?_
    refine lv_goto (tgt := 152) hx hb dX7_who_148 (by decide) ?_
    refine lv_ior hx hb dX7_who_152 ?_
    refine lv_istore (lv' := [(6, .int (x6 ||| ((1 : Int32) <<< (x7 &&& 31)))), (0, .ref m_a), (1, .int p1), (2, .int p2), (3, .int p3), (4, .int p4), (7, .int x7)]) hx hb dX7_who_153 hl (by decide) rfl (fun ls hl => ?_)
    refine lv_iinc (v := (x7 + 1)) (lv' := [(7, .int (x7 + 1)), (6, .int (x6 ||| ((1 : Int32) <<< (x7 &&& 31)))), (0, .ref m_a), (1, .int p1), (2, .int p2), (3, .int p3), (4, .int p4)]) hx hb dX7_who_155 hl (k := 6) rfl rfl (by decide) rfl (fun ls hl => ?_)
    refine lv_goto (tgt := 78) hx hb dX7_who_158 (by decide) ?_
    exact hk78 m_thrown m_status u0_2 u1_2 u2_2 (upd m_then s1.toNatClampNeg x7) u3_2 u4_2 u5_2 (x6 ||| ((1 : Int32) <<< (x7 &&& 31))) (x7 + 1) hM _ _ _ hP hD hS (lv_sub hl [2, 3, 4, 5, 6, 1, 0] rfl)
set_option maxHeartbeats 4000000 in
set_option maxRecDepth 100000 in
theorem wX7_who_b90 {p : Program} {l : Launch} {e : Env} {s : State} {m : MethodId} {args : Array Value} {below : List Frame} {meth : Method} {c : Code} {Q : State → Prop} {G : va_G} {K : Nat → ClassId} {A : Nat → Prop} (C0 : CX p s m args c cX7_who 8 RX7 G K E0 A) (m_a mA_lane mA_many mA_item mA_poem mA_fresh mA_then mA_was mA_tape mA_strengths mA_sounds mA_stand mA_scheme mA_isKept mA_kept mA_trace : Nat) (m_acts : Int32) (m_taped : Int32) (m_cursor : Int32) (m_start : Int32) (m_token : Int32) (m_value : Int32) (m_fault : Int32) (m_faultAt : Int32) (m_latest : Int32) (m_nearFoot : Int32) (m_nearFeet : Int32) (m_nearCost : Int32) (m_traced : Int32) (m_lane : Nat → Int32) (m_many : Nat → Int32) (m_item : Nat → Int32) (m_poem : Nat → Int32) (p1 : Int32) (p2 : Int32) (p3 : Int32) (p4 : Int32) (r : Int32) (o_m_thrown : Int32) (o_m_status : Int32) (o_m_stands : Int32) (o_m_least : Int32) (o_m_ways : Int32) (o_m_then : Nat → Int32) (o_m_strengths : Nat → Int32) (o_m_sounds : Nat → Int32) (o_m_stand : Nat → Int32) (kr : ∀ (H : Heap) (locs : List Loc) (ls : Array Slot) (pc : Nat), decode cX7_who pc = .ok (.ireturn, 1) → va_P G vwCl (WX7_who K m_a mA_lane mA_many mA_item mA_poem mA_fresh mA_then mA_was mA_tape mA_strengths mA_sounds mA_stand mA_scheme mA_isKept mA_kept mA_trace o_m_thrown o_m_status m_acts m_taped m_cursor m_start m_token m_value m_fault m_faultAt m_latest o_m_stands o_m_least o_m_ways m_nearFoot m_nearFeet m_nearCost m_traced m_lane m_many m_item m_poem o_m_then o_m_strengths o_m_sounds o_m_stand) H → va_D A (WX7_who K m_a mA_lane mA_many mA_item mA_poem mA_fresh mA_then mA_was mA_tape mA_strengths mA_sounds mA_stand mA_scheme mA_isKept mA_kept mA_trace o_m_thrown o_m_status m_acts m_taped m_cursor m_start m_token m_value m_fault m_faultAt m_latest o_m_stands o_m_least o_m_ways m_nearFoot m_nearFeet m_nearCost m_traced m_lane m_many m_item m_poem o_m_then o_m_strengths o_m_sounds o_m_stand) → va_S A s.heap H locs → W p l e rmX7_who s m args below meth c H locs 0 0 Q (F0 m pc ls [.int r])) (k78 : Int32 → Int32 → Int32 → Int32 → Int32 → (Nat → Int32) → (Nat → Int32) → (Nat → Int32) → (Nat → Int32) → Int32 → Int32 → Option (Int32 × (Int32) × (Int32) × (Int32) × (Int32) × (Int32) × (Nat → Int32) × (Nat → Int32) × (Nat → Int32) × (Nat → Int32))) (hk78 : ∀ (m_thrown : Int32) (m_status : Int32) (m_stands : Int32) (m_least : Int32) (m_ways : Int32) (m_then : Nat → Int32) (m_strengths : Nat → Int32) (m_sounds : Nat → Int32) (m_stand : Nat → Int32) (x6 : Int32) (x7 : Int32), k78 m_thrown m_status m_stands m_least m_ways m_then m_strengths m_sounds m_stand x6 x7 = some (r, o_m_thrown, o_m_status, o_m_stands, o_m_least, o_m_ways, o_m_then, o_m_strengths, o_m_sounds, o_m_stand) → ∀ (H : Heap) (locs : List Loc) (ls : Array Slot), va_P G vwCl (WX7_who K m_a mA_lane mA_many mA_item mA_poem mA_fresh mA_then mA_was mA_tape mA_strengths mA_sounds mA_stand mA_scheme mA_isKept mA_kept mA_trace m_thrown m_status m_acts m_taped m_cursor m_start m_token m_value m_fault m_faultAt m_latest m_stands m_least m_ways m_nearFoot m_nearFeet m_nearCost m_traced m_lane m_many m_item m_poem m_then m_strengths m_sounds m_stand) H → va_D A (WX7_who K m_a mA_lane mA_many mA_item mA_poem mA_fresh mA_then mA_was mA_tape mA_strengths mA_sounds mA_stand mA_scheme mA_isKept mA_kept mA_trace m_thrown m_status m_acts m_taped m_cursor m_start m_token m_value m_fault m_faultAt m_latest m_stands m_least m_ways m_nearFoot m_nearFeet m_nearCost m_traced m_lane m_many m_item m_poem m_then m_strengths m_sounds m_stand) → va_S A s.heap H locs → lv_has ls 8 [(0, .ref m_a), (1, .int p1), (2, .int p2), (3, .int p3), (4, .int p4), (6, .int x6), (7, .int x7)] → W p l e rmX7_who s m args below meth c H locs 0 0 Q (F0 m 78 ls [])) (m_thrown : Int32) (m_status : Int32) (m_stands : Int32) (m_least : Int32) (m_ways : Int32) (m_then : Nat → Int32) (m_strengths : Nat → Int32) (m_sounds : Nat → Int32) (m_stand : Nat → Int32) (x6 : Int32) (x7 : Int32) (s0 : Int32) (s1 : Int32) (hM : mX7_who_b90 m_lane m_many m_item m_poem p1 p2 p3 p4 k78 m_thrown m_status m_stands m_least m_ways m_then m_strengths m_sounds m_stand x6 x7 s0 s1 = some (r, o_m_thrown, o_m_status, o_m_stands, o_m_least, o_m_ways, o_m_then, o_m_strengths, o_m_sounds, o_m_stand)) : ∀ (H : Heap) (locs : List Loc) (ls : Array Slot), va_P G vwCl (WX7_who K m_a mA_lane mA_many mA_item mA_poem mA_fresh mA_then mA_was mA_tape mA_strengths mA_sounds mA_stand mA_scheme mA_isKept mA_kept mA_trace m_thrown m_status m_acts m_taped m_cursor m_start m_token m_value m_fault m_faultAt m_latest m_stands m_least m_ways m_nearFoot m_nearFeet m_nearCost m_traced m_lane m_many m_item m_poem m_then m_strengths m_sounds m_stand) H → va_D A (WX7_who K m_a mA_lane mA_many mA_item mA_poem mA_fresh mA_then mA_was mA_tape mA_strengths mA_sounds mA_stand mA_scheme mA_isKept mA_kept mA_trace m_thrown m_status m_acts m_taped m_cursor m_start m_token m_value m_fault m_faultAt m_latest m_stands m_least m_ways m_nearFoot m_nearFeet m_nearCost m_traced m_lane m_many m_item m_poem m_then m_strengths m_sounds m_stand) → va_S A s.heap H locs → lv_has ls 8 [(0, .ref m_a), (1, .int p1), (2, .int p2), (3, .int p3), (4, .int p4), (6, .int x6), (7, .int x7)] → W p l e rmX7_who s m args below meth c H locs 0 0 Q (F0 m 90 ls [.int s1, .int s0]) := by
  obtain ⟨hx, hb, hml, hown, hts, hK, hA, hEo, hE⟩ := id C0
  intro H locs ls hP hD hS hl
  unfold mX7_who_b90 at hM
  refine lv_icmp_gt (tgt := 161) hx hb dX7_who_90 (by decide) (fun c_4 => ?_) (fun c_4 => ?_)
  · rw [if_pos c_4] at hM
    refine lv_iload hx hb dX7_who_161 (lv_at hl 5 rfl) ?_
    have t0 := Option.some.inj hM
    obtain ⟨q1, t1⟩ := Prod.mk.inj t0
    obtain ⟨q2, t2⟩ := Prod.mk.inj t1
    obtain ⟨q3, t3⟩ := Prod.mk.inj t2
    obtain ⟨q4, t4⟩ := Prod.mk.inj t3
    obtain ⟨q5, t5⟩ := Prod.mk.inj t4
    obtain ⟨q6, t6⟩ := Prod.mk.inj t5
    obtain ⟨q7, t7⟩ := Prod.mk.inj t6
    obtain ⟨q8, t8⟩ := Prod.mk.inj t7
    obtain ⟨q9, t9⟩ := Prod.mk.inj t8
    subst q1
    subst q2
    subst q3
    subst q4
    subst q5
    subst q6
    subst q7
    subst q8
    subst q9
    subst t9
    exact kr _ _ _ _ dX7_who_163 hP hD hS
  · rw [if_neg c_4] at hM
    refine lv_aload_n hx hb dX7_who_93 rfl (lv_at hl 0 rfl) ?_
    obtain ⟨u0_5, hC, hM⟩ := oe1 hM
    refine cV_v (As := []) (rest := []) C0 hP hD hS [0, 4, 5] (kX7_layThen l G K m_a mA_lane mA_many mA_item mA_poem mA_fresh mA_then mA_was mA_tape mA_strengths mA_sounds mA_stand mA_scheme mA_isKept mA_kept mA_trace m_thrown m_status m_acts m_taped m_cursor m_start m_token m_value m_fault m_faultAt m_latest m_stands m_least m_ways m_nearFoot m_nearFeet m_nearCost m_traced m_poem m_then H.size u0_5 hC) rfl rfl rfl tb1164 tb1166 tp45 tb9 tb1167 hdX7_layThen (va_recv hK hP (ci := 7) (q0 := 0) rfl rfl) ⟨Nat.le_of_ble_eq_true rfl, Nat.le_of_ble_eq_true rfl⟩ rfl hl.1 (Nat.le_of_ble_eq_true rfl) rfl ⟨Nat.le_refl _, Nat.le_refl _⟩ dX7_who_94 (fun H locs hP hD hS => ?_)
    have hP : va_P G vwCl (WX7_who K m_a mA_lane mA_many mA_item mA_poem mA_fresh mA_then mA_was mA_tape mA_strengths mA_sounds mA_stand mA_scheme mA_isKept mA_kept mA_trace m_thrown m_status m_acts m_taped m_cursor m_start m_token m_value m_fault m_faultAt m_latest m_stands m_least m_ways m_nearFoot m_nearFeet m_nearCost m_traced m_lane m_many m_item m_poem u0_5 m_strengths m_sounds m_stand) H := hP
    have hD : va_D A (WX7_who K m_a mA_lane mA_many mA_item mA_poem mA_fresh mA_then mA_was mA_tape mA_strengths mA_sounds mA_stand mA_scheme mA_isKept mA_kept mA_trace m_thrown m_status m_acts m_taped m_cursor m_start m_token m_value m_fault m_faultAt m_latest m_stands m_least m_ways m_nearFoot m_nearFeet m_nearCost m_traced m_lane m_many m_item m_poem u0_5 m_strengths m_sounds m_stand) := hD
    refine lv_aload_n hx hb dX7_who_97 rfl (lv_at hl 0 rfl) ?_
    refine va_get (D := G) (ci := 7) (v := .ref mA_then) (C := RX7) (T := TX7) (N := 33) hx hb hts inX7 hown hK hP 0 rfl rfl 7 (by decide) (hts _ tb771) (fun _ h9 => h9) rfl dX7_who_98 ?_
    refine lv_iload_n hx hb dX7_who_101 rfl (lv_at hl 2 rfl) ?_
    refine lv_if_ne (tgt := 109) hx hb dX7_who_102 (by decide) (fun c_6 => ?_) (fun c_6 => ?_)
    · rw [if_neg c_6] at hM
      refine lv_iload_n hx hb dX7_who_109 rfl (lv_at hl 2 rfl) ?_
      refine lv_iconst (v := 1) hx hb dX7_who_110 (by decide) ?_
      refine lv_icmp_ne (tgt := 118) hx hb dX7_who_111 (by decide) (fun c_7 => ?_) (fun c_7 => ?_)
      · rw [if_neg c_7] at hM
        refine lv_bipush (v := 7) hx hb dX7_who_118 (by decide) ?_
        refine lv_bipush (v := 10) hx hb dX7_who_120 (by decide) ?_
        refine lv_iload_n hx hb dX7_who_122 rfl (lv_at hl 1 rfl) ?_
        refine lv_imul hx hb dX7_who_123 ?_
        refine lv_iadd hx hb dX7_who_124 ?_
        exact wX7_who_b125 C0 m_a mA_lane mA_many mA_item mA_poem mA_fresh mA_then mA_was mA_tape mA_strengths mA_sounds mA_stand mA_scheme mA_isKept mA_kept mA_trace m_acts m_taped m_cursor m_start m_token m_value m_fault m_faultAt m_latest m_nearFoot m_nearFeet m_nearCost m_traced m_lane m_many m_item m_poem p1 p2 p3 p4 r o_m_thrown o_m_status o_m_stands o_m_least o_m_ways o_m_then o_m_strengths o_m_sounds o_m_stand kr k78 hk78 m_thrown m_status m_stands m_least m_ways u0_5 m_strengths m_sounds m_stand x6 x7 ((7 : Int32) + ((10 : Int32) * p1)) hM _ _ _ hP hD hS (lv_sub hl [0, 1, 2, 3, 4, 5, 6] rfl)
      · rw [if_pos c_7] at hM
        refine lv_iconst (v := 1) hx hb dX7_who_114 (by decide) ?_
        refine lv_goto (tgt := 125) hx hb dX7_who_115 (by decide) ?_
        exact wX7_who_b125 C0 m_a mA_lane mA_many mA_item mA_poem mA_fresh mA_then mA_was mA_tape mA_strengths mA_sounds mA_stand mA_scheme mA_isKept mA_kept mA_trace m_acts m_taped m_cursor m_start m_token m_value m_fault m_faultAt m_latest m_nearFoot m_nearFeet m_nearCost m_traced m_lane m_many m_item m_poem p1 p2 p3 p4 r o_m_thrown o_m_status o_m_stands o_m_least o_m_ways o_m_then o_m_strengths o_m_sounds o_m_stand kr k78 hk78 m_thrown m_status m_stands m_least m_ways u0_5 m_strengths m_sounds m_stand x6 x7 (1 : Int32) hM _ _ _ hP hD hS (lv_sub hl [0, 1, 2, 3, 4, 5, 6] rfl)
    · rw [if_pos c_6] at hM
      refine lv_iconst (v := 2) hx hb dX7_who_105 (by decide) ?_
      refine lv_goto (tgt := 125) hx hb dX7_who_106 (by decide) ?_
      exact wX7_who_b125 C0 m_a mA_lane mA_many mA_item mA_poem mA_fresh mA_then mA_was mA_tape mA_strengths mA_sounds mA_stand mA_scheme mA_isKept mA_kept mA_trace m_acts m_taped m_cursor m_start m_token m_value m_fault m_faultAt m_latest m_nearFoot m_nearFeet m_nearCost m_traced m_lane m_many m_item m_poem p1 p2 p3 p4 r o_m_thrown o_m_status o_m_stands o_m_least o_m_ways o_m_then o_m_strengths o_m_sounds o_m_stand kr k78 hk78 m_thrown m_status m_stands m_least m_ways u0_5 m_strengths m_sounds m_stand x6 x7 (2 : Int32) hM _ _ _ hP hD hS (lv_sub hl [0, 1, 2, 3, 4, 5, 6] rfl)
set_option maxHeartbeats 4000000 in
set_option maxRecDepth 100000 in
theorem wX7_who_b78 {p : Program} {l : Launch} {e : Env} {s : State} {m : MethodId} {args : Array Value} {below : List Frame} {meth : Method} {c : Code} {Q : State → Prop} {G : va_G} {K : Nat → ClassId} {A : Nat → Prop} (C0 : CX p s m args c cX7_who 8 RX7 G K E0 A) (m_a mA_lane mA_many mA_item mA_poem mA_fresh mA_then mA_was mA_tape mA_strengths mA_sounds mA_stand mA_scheme mA_isKept mA_kept mA_trace : Nat) (m_acts : Int32) (m_taped : Int32) (m_cursor : Int32) (m_start : Int32) (m_token : Int32) (m_value : Int32) (m_fault : Int32) (m_faultAt : Int32) (m_latest : Int32) (m_nearFoot : Int32) (m_nearFeet : Int32) (m_nearCost : Int32) (m_traced : Int32) (m_lane : Nat → Int32) (m_many : Nat → Int32) (m_item : Nat → Int32) (m_poem : Nat → Int32) (p1 : Int32) (p2 : Int32) (p3 : Int32) (p4 : Int32) (r : Int32) (o_m_thrown : Int32) (o_m_status : Int32) (o_m_stands : Int32) (o_m_least : Int32) (o_m_ways : Int32) (o_m_then : Nat → Int32) (o_m_strengths : Nat → Int32) (o_m_sounds : Nat → Int32) (o_m_stand : Nat → Int32) (kr : ∀ (H : Heap) (locs : List Loc) (ls : Array Slot) (pc : Nat), decode cX7_who pc = .ok (.ireturn, 1) → va_P G vwCl (WX7_who K m_a mA_lane mA_many mA_item mA_poem mA_fresh mA_then mA_was mA_tape mA_strengths mA_sounds mA_stand mA_scheme mA_isKept mA_kept mA_trace o_m_thrown o_m_status m_acts m_taped m_cursor m_start m_token m_value m_fault m_faultAt m_latest o_m_stands o_m_least o_m_ways m_nearFoot m_nearFeet m_nearCost m_traced m_lane m_many m_item m_poem o_m_then o_m_strengths o_m_sounds o_m_stand) H → va_D A (WX7_who K m_a mA_lane mA_many mA_item mA_poem mA_fresh mA_then mA_was mA_tape mA_strengths mA_sounds mA_stand mA_scheme mA_isKept mA_kept mA_trace o_m_thrown o_m_status m_acts m_taped m_cursor m_start m_token m_value m_fault m_faultAt m_latest o_m_stands o_m_least o_m_ways m_nearFoot m_nearFeet m_nearCost m_traced m_lane m_many m_item m_poem o_m_then o_m_strengths o_m_sounds o_m_stand) → va_S A s.heap H locs → W p l e rmX7_who s m args below meth c H locs 0 0 Q (F0 m pc ls [.int r])) (n : Nat) : ∀ (m_thrown : Int32) (m_status : Int32) (m_stands : Int32) (m_least : Int32) (m_ways : Int32) (m_then : Nat → Int32) (m_strengths : Nat → Int32) (m_sounds : Nat → Int32) (m_stand : Nat → Int32) (x6 : Int32) (x7 : Int32), mX7_who_b78 m_lane m_many m_item m_poem p1 p2 p3 p4  n m_thrown m_status m_stands m_least m_ways m_then m_strengths m_sounds m_stand x6 x7 = some (r, o_m_thrown, o_m_status, o_m_stands, o_m_least, o_m_ways, o_m_then, o_m_strengths, o_m_sounds, o_m_stand) → ∀ (H : Heap) (locs : List Loc) (ls : Array Slot), va_P G vwCl (WX7_who K m_a mA_lane mA_many mA_item mA_poem mA_fresh mA_then mA_was mA_tape mA_strengths mA_sounds mA_stand mA_scheme mA_isKept mA_kept mA_trace m_thrown m_status m_acts m_taped m_cursor m_start m_token m_value m_fault m_faultAt m_latest m_stands m_least m_ways m_nearFoot m_nearFeet m_nearCost m_traced m_lane m_many m_item m_poem m_then m_strengths m_sounds m_stand) H → va_D A (WX7_who K m_a mA_lane mA_many mA_item mA_poem mA_fresh mA_then mA_was mA_tape mA_strengths mA_sounds mA_stand mA_scheme mA_isKept mA_kept mA_trace m_thrown m_status m_acts m_taped m_cursor m_start m_token m_value m_fault m_faultAt m_latest m_stands m_least m_ways m_nearFoot m_nearFeet m_nearCost m_traced m_lane m_many m_item m_poem m_then m_strengths m_sounds m_stand) → va_S A s.heap H locs → lv_has ls 8 [(0, .ref m_a), (1, .int p1), (2, .int p2), (3, .int p3), (4, .int p4), (6, .int x6), (7, .int x7)] → W p l e rmX7_who s m args below meth c H locs 0 0 Q (F0 m 78 ls []) := by
  obtain ⟨hx, hb, hml, hown, hts, hK, hA, hEo, hE⟩ := id C0
  induction n with
  | zero =>
    intro m_thrown m_status m_stands m_least m_ways m_then m_strengths m_sounds m_stand x6 x7 hM
    cases hM
  | succ n ih =>
    intro m_thrown m_status m_stands m_least m_ways m_then m_strengths m_sounds m_stand x6 x7 hM H locs ls hP hD hS hl
    rw [mX7_who_b78] at hM
    refine lv_iload hx hb dX7_who_78 (lv_at hl 6 rfl) ?_
    refine lv_iload_n hx hb dX7_who_80 rfl (lv_at hl 2 rfl) ?_
    refine lv_iconst (v := 1) hx hb dX7_who_81 (by decide) ?_
    refine lv_icmp_ne (tgt := 89) hx hb dX7_who_82 (by decide) (fun c_8 => ?_) (fun c_8 => ?_)
    · rw [if_neg c_8] at hM
      refine lv_iconst (v := 5) hx hb dX7_who_89 (by decide) ?_
      exact wX7_who_b90 C0 m_a mA_lane mA_many mA_item mA_poem mA_fresh mA_then mA_was mA_tape mA_strengths mA_sounds mA_stand mA_scheme mA_isKept mA_kept mA_trace m_acts m_taped m_cursor m_start m_token m_value m_fault m_faultAt m_latest m_nearFoot m_nearFeet m_nearCost m_traced m_lane m_many m_item m_poem p1 p2 p3 p4 r o_m_thrown o_m_status o_m_stands o_m_least o_m_ways o_m_then o_m_strengths o_m_sounds o_m_stand kr (mX7_who_b78 m_lane m_many m_item m_poem p1 p2 p3 p4  n) ih m_thrown m_status m_stands m_least m_ways m_then m_strengths m_sounds m_stand x6 x7 x7 (5 : Int32) hM _ _ _ hP hD hS (lv_sub hl [0, 1, 2, 3, 4, 5, 6] rfl)
    · rw [if_pos c_8] at hM
      refine lv_iconst (v := 3) hx hb dX7_who_85 (by decide) ?_
      refine lv_goto (tgt := 90) hx hb dX7_who_86 (by decide) ?_
      exact wX7_who_b90 C0 m_a mA_lane mA_many mA_item mA_poem mA_fresh mA_then mA_was mA_tape mA_strengths mA_sounds mA_stand mA_scheme mA_isKept mA_kept mA_trace m_acts m_taped m_cursor m_start m_token m_value m_fault m_faultAt m_latest m_nearFoot m_nearFeet m_nearCost m_traced m_lane m_many m_item m_poem p1 p2 p3 p4 r o_m_thrown o_m_status o_m_stands o_m_least o_m_ways o_m_then o_m_strengths o_m_sounds o_m_stand kr (mX7_who_b78 m_lane m_many m_item m_poem p1 p2 p3 p4  n) ih m_thrown m_status m_stands m_least m_ways m_then m_strengths m_sounds m_stand x6 x7 x7 (3 : Int32) hM _ _ _ hP hD hS (lv_sub hl [0, 1, 2, 3, 4, 5, 6] rfl)
set_option maxHeartbeats 4000000 in
set_option maxRecDepth 100000 in
theorem wX7_who_b0 {p : Program} {l : Launch} {e : Env} {s : State} {m : MethodId} {args : Array Value} {below : List Frame} {meth : Method} {c : Code} {Q : State → Prop} {G : va_G} {K : Nat → ClassId} {A : Nat → Prop} (C0 : CX p s m args c cX7_who 8 RX7 G K E0 A) (m_a mA_lane mA_many mA_item mA_poem mA_fresh mA_then mA_was mA_tape mA_strengths mA_sounds mA_stand mA_scheme mA_isKept mA_kept mA_trace : Nat) (m_acts : Int32) (m_taped : Int32) (m_cursor : Int32) (m_start : Int32) (m_token : Int32) (m_value : Int32) (m_fault : Int32) (m_faultAt : Int32) (m_latest : Int32) (m_nearFoot : Int32) (m_nearFeet : Int32) (m_nearCost : Int32) (m_traced : Int32) (m_lane : Nat → Int32) (m_many : Nat → Int32) (m_item : Nat → Int32) (m_poem : Nat → Int32) (p1 : Int32) (p2 : Int32) (p3 : Int32) (p4 : Int32) (r : Int32) (o_m_thrown : Int32) (o_m_status : Int32) (o_m_stands : Int32) (o_m_least : Int32) (o_m_ways : Int32) (o_m_then : Nat → Int32) (o_m_strengths : Nat → Int32) (o_m_sounds : Nat → Int32) (o_m_stand : Nat → Int32) (kr : ∀ (H : Heap) (locs : List Loc) (ls : Array Slot) (pc : Nat), decode cX7_who pc = .ok (.ireturn, 1) → va_P G vwCl (WX7_who K m_a mA_lane mA_many mA_item mA_poem mA_fresh mA_then mA_was mA_tape mA_strengths mA_sounds mA_stand mA_scheme mA_isKept mA_kept mA_trace o_m_thrown o_m_status m_acts m_taped m_cursor m_start m_token m_value m_fault m_faultAt m_latest o_m_stands o_m_least o_m_ways m_nearFoot m_nearFeet m_nearCost m_traced m_lane m_many m_item m_poem o_m_then o_m_strengths o_m_sounds o_m_stand) H → va_D A (WX7_who K m_a mA_lane mA_many mA_item mA_poem mA_fresh mA_then mA_was mA_tape mA_strengths mA_sounds mA_stand mA_scheme mA_isKept mA_kept mA_trace o_m_thrown o_m_status m_acts m_taped m_cursor m_start m_token m_value m_fault m_faultAt m_latest o_m_stands o_m_least o_m_ways m_nearFoot m_nearFeet m_nearCost m_traced m_lane m_many m_item m_poem o_m_then o_m_strengths o_m_sounds o_m_stand) → va_S A s.heap H locs → W p l e rmX7_who s m args below meth c H locs 0 0 Q (F0 m pc ls [.int r])) (m_thrown : Int32) (m_status : Int32) (m_stands : Int32) (m_least : Int32) (m_ways : Int32) (m_then : Nat → Int32) (m_strengths : Nat → Int32) (m_sounds : Nat → Int32) (m_stand : Nat → Int32) (hM : mX7_who_b0 m_lane m_many m_item m_poem p1 p2 p3 p4  m_thrown m_status m_stands m_least m_ways m_then m_strengths m_sounds m_stand = some (r, o_m_thrown, o_m_status, o_m_stands, o_m_least, o_m_ways, o_m_then, o_m_strengths, o_m_sounds, o_m_stand)) : ∀ (H : Heap) (locs : List Loc) (ls : Array Slot), va_P G vwCl (WX7_who K m_a mA_lane mA_many mA_item mA_poem mA_fresh mA_then mA_was mA_tape mA_strengths mA_sounds mA_stand mA_scheme mA_isKept mA_kept mA_trace m_thrown m_status m_acts m_taped m_cursor m_start m_token m_value m_fault m_faultAt m_latest m_stands m_least m_ways m_nearFoot m_nearFeet m_nearCost m_traced m_lane m_many m_item m_poem m_then m_strengths m_sounds m_stand) H → va_D A (WX7_who K m_a mA_lane mA_many mA_item mA_poem mA_fresh mA_then mA_was mA_tape mA_strengths mA_sounds mA_stand mA_scheme mA_isKept mA_kept mA_trace m_thrown m_status m_acts m_taped m_cursor m_start m_token m_value m_fault m_faultAt m_latest m_stands m_least m_ways m_nearFoot m_nearFeet m_nearCost m_traced m_lane m_many m_item m_poem m_then m_strengths m_sounds m_stand) → va_S A s.heap H locs → lv_has ls 8 [(0, .ref m_a), (1, .int p1), (2, .int p2), (3, .int p3), (4, .int p4)] → W p l e rmX7_who s m args below meth c H locs 0 0 Q (F0 m 0 ls []) := by
  obtain ⟨hx, hb, hml, hown, hts, hK, hA, hEo, hE⟩ := id C0
  intro H locs ls hP hD hS hl
  unfold mX7_who_b0 at hM
  refine lv_aload_n hx hb dX7_who_0 rfl (lv_at hl 0 rfl) ?_
  refine lv_iconst (v := 0) hx hb dX7_who_1 (by decide) ?_
  refine va_put (D := G) (ci := 7) (v := .int (0 : Int32)) (ty := .int) (C := RX7) (T := TX7) (N := 33) hx hb hts inX7 tyX7 tyX7_ok nmX7 hown hK hP hD hS 0 rfl rfl 0 (by decide) (hts _ tb764) (fun _ h9 => h9) rfl (tyX7_ok 0 (by decide)) rfl rfl (Nat.le_of_ble_eq_true rfl) dX7_who_2 (fun H locs hP hD hS => ?_)
  have hP : va_P G vwCl (WX7_who K m_a mA_lane mA_many mA_item mA_poem mA_fresh mA_then mA_was mA_tape mA_strengths mA_sounds mA_stand mA_scheme mA_isKept mA_kept mA_trace (0 : Int32) m_status m_acts m_taped m_cursor m_start m_token m_value m_fault m_faultAt m_latest m_stands m_least m_ways m_nearFoot m_nearFeet m_nearCost m_traced m_lane m_many m_item m_poem m_then m_strengths m_sounds m_stand) H := hP
  have hD : va_D A (WX7_who K m_a mA_lane mA_many mA_item mA_poem mA_fresh mA_then mA_was mA_tape mA_strengths mA_sounds mA_stand mA_scheme mA_isKept mA_kept mA_trace (0 : Int32) m_status m_acts m_taped m_cursor m_start m_token m_value m_fault m_faultAt m_latest m_stands m_least m_ways m_nearFoot m_nearFeet m_nearCost m_traced m_lane m_many m_item m_poem m_then m_strengths m_sounds m_stand) := hD
  refine lv_aload_n hx hb dX7_who_5 rfl (lv_at hl 0 rfl) ?_
  refine lv_iload_n hx hb dX7_who_6 rfl (lv_at hl 1 rfl) ?_
  obtain ⟨r_9, hC, hM⟩ := oe1 hM
  refine cV_i (As := [.int p1]) (rest := []) C0 hP hD hS [0, 4] (kX7_isWord l G K m_a mA_lane mA_many mA_item mA_poem mA_fresh mA_then mA_was mA_tape mA_strengths mA_sounds mA_stand mA_scheme mA_isKept mA_kept mA_trace (0 : Int32) m_status m_acts m_taped m_cursor m_start m_token m_value m_fault m_faultAt m_latest m_stands m_least m_ways m_nearFoot m_nearFeet m_nearCost m_traced m_poem p1 H.size r_9 hC) rfl rfl rfl tb970 tb972 tp25 tb9 tb973 hdX7_isWord (va_recv hK hP (ci := 7) (q0 := 0) rfl rfl) ⟨Nat.le_of_ble_eq_true rfl, Nat.le_of_ble_eq_true rfl⟩ rfl hl.1 (Nat.le_of_ble_eq_true rfl) rfl ⟨Nat.le_refl _, Nat.le_refl _⟩ dX7_who_7 (fun H locs hP hD hS => ?_)
  have hP : va_P G vwCl (WX7_who K m_a mA_lane mA_many mA_item mA_poem mA_fresh mA_then mA_was mA_tape mA_strengths mA_sounds mA_stand mA_scheme mA_isKept mA_kept mA_trace (0 : Int32) m_status m_acts m_taped m_cursor m_start m_token m_value m_fault m_faultAt m_latest m_stands m_least m_ways m_nearFoot m_nearFeet m_nearCost m_traced m_lane m_many m_item m_poem m_then m_strengths m_sounds m_stand) H := hP
  have hD : va_D A (WX7_who K m_a mA_lane mA_many mA_item mA_poem mA_fresh mA_then mA_was mA_tape mA_strengths mA_sounds mA_stand mA_scheme mA_isKept mA_kept mA_trace (0 : Int32) m_status m_acts m_taped m_cursor m_start m_token m_value m_fault m_faultAt m_latest m_stands m_least m_ways m_nearFoot m_nearFeet m_nearCost m_traced m_lane m_many m_item m_poem m_then m_strengths m_sounds m_stand) := hD
  refine lv_if_eq (tgt := 32) hx hb dX7_who_10 (by decide) (fun c_10 => ?_) (fun c_10 => ?_)
  · rw [if_pos c_10] at hM
    refine lv_ldc (v := -1000001) hx hb hown (hts _ tb877) dX7_who_32 ?_
    have t0 := Option.some.inj hM
    obtain ⟨q1, t1⟩ := Prod.mk.inj t0
    obtain ⟨q2, t2⟩ := Prod.mk.inj t1
    obtain ⟨q3, t3⟩ := Prod.mk.inj t2
    obtain ⟨q4, t4⟩ := Prod.mk.inj t3
    obtain ⟨q5, t5⟩ := Prod.mk.inj t4
    obtain ⟨q6, t6⟩ := Prod.mk.inj t5
    obtain ⟨q7, t7⟩ := Prod.mk.inj t6
    obtain ⟨q8, t8⟩ := Prod.mk.inj t7
    obtain ⟨q9, t9⟩ := Prod.mk.inj t8
    subst q1
    subst q2
    subst q3
    subst q4
    subst q5
    subst q6
    subst q7
    subst q8
    subst q9
    subst t9
    exact kr _ _ _ _ dX7_who_34 hP hD hS
  · rw [if_neg c_10] at hM
    refine lv_iload_n hx hb dX7_who_13 rfl (lv_at hl 2 rfl) ?_
    refine lv_i2l hx hb dX7_who_14 rfl ?_
    refine lv_lconst (v := 0) hx hb dX7_who_15 (by decide) ?_
    refine lv_ldc2 (v := 2) hx hb hown (hts _ tb876) dX7_who_16 ?_
    obtain ⟨r_11, hC, hM⟩ := oe1 hM
    refine cS_i (As := [.long p2.toInt64, .long (0 : Int64), .long (2 : Int64)]) (rest := []) C0 hP hD hS [] (kX7_in l G K p2.toInt64 (0 : Int64) (2 : Int64) H.size r_11 hC) rfl rfl rfl tb873 tb874 tb9 tb875 hdX7_in ⟨Nat.le_of_ble_eq_true rfl, Nat.le_of_ble_eq_true rfl⟩ rfl hl.1 (Nat.le_of_ble_eq_true rfl) rfl ⟨Nat.le_refl _, Nat.le_refl _⟩ dX7_who_19 (fun H locs hP hD hS => ?_)
    have hP : va_P G vwCl (WX7_who K m_a mA_lane mA_many mA_item mA_poem mA_fresh mA_then mA_was mA_tape mA_strengths mA_sounds mA_stand mA_scheme mA_isKept mA_kept mA_trace (0 : Int32) m_status m_acts m_taped m_cursor m_start m_token m_value m_fault m_faultAt m_latest m_stands m_least m_ways m_nearFoot m_nearFeet m_nearCost m_traced m_lane m_many m_item m_poem m_then m_strengths m_sounds m_stand) H := hP
    have hD : va_D A (WX7_who K m_a mA_lane mA_many mA_item mA_poem mA_fresh mA_then mA_was mA_tape mA_strengths mA_sounds mA_stand mA_scheme mA_isKept mA_kept mA_trace (0 : Int32) m_status m_acts m_taped m_cursor m_start m_token m_value m_fault m_faultAt m_latest m_stands m_least m_ways m_nearFoot m_nearFeet m_nearCost m_traced m_lane m_many m_item m_poem m_then m_strengths m_sounds m_stand) := hD
    refine lv_if_eq (tgt := 32) hx hb dX7_who_22 (by decide) (fun c_12 => ?_) (fun c_12 => ?_)
    · rw [if_pos c_12] at hM
      refine lv_ldc (v := -1000001) hx hb hown (hts _ tb877) dX7_who_32 ?_
      have t0 := Option.some.inj hM
      obtain ⟨q1, t1⟩ := Prod.mk.inj t0
      obtain ⟨q2, t2⟩ := Prod.mk.inj t1
      obtain ⟨q3, t3⟩ := Prod.mk.inj t2
      obtain ⟨q4, t4⟩ := Prod.mk.inj t3
      obtain ⟨q5, t5⟩ := Prod.mk.inj t4
      obtain ⟨q6, t6⟩ := Prod.mk.inj t5
      obtain ⟨q7, t7⟩ := Prod.mk.inj t6
      obtain ⟨q8, t8⟩ := Prod.mk.inj t7
      obtain ⟨q9, t9⟩ := Prod.mk.inj t8
      subst q1
      subst q2
      subst q3
      subst q4
      subst q5
      subst q6
      subst q7
      subst q8
      subst q9
      subst t9
      exact kr _ _ _ _ dX7_who_34 hP hD hS
    · rw [if_neg c_12] at hM
      refine lv_iload_n hx hb dX7_who_25 rfl (lv_at hl 3 rfl) ?_
      obtain ⟨r_13, hC, hM⟩ := oe1 hM
      refine cS_i (As := [.int p3]) (rest := []) C0 hP hD hS [] (kX7_isRow l G K p3 H.size r_13 hC) rfl rfl rfl tb869 tb870 tb9 tb871 hdX7_isRow ⟨Nat.le_of_ble_eq_true rfl, Nat.le_of_ble_eq_true rfl⟩ rfl hl.1 (Nat.le_of_ble_eq_true rfl) rfl ⟨Nat.le_refl _, Nat.le_refl _⟩ dX7_who_26 (fun H locs hP hD hS => ?_)
      have hP : va_P G vwCl (WX7_who K m_a mA_lane mA_many mA_item mA_poem mA_fresh mA_then mA_was mA_tape mA_strengths mA_sounds mA_stand mA_scheme mA_isKept mA_kept mA_trace (0 : Int32) m_status m_acts m_taped m_cursor m_start m_token m_value m_fault m_faultAt m_latest m_stands m_least m_ways m_nearFoot m_nearFeet m_nearCost m_traced m_lane m_many m_item m_poem m_then m_strengths m_sounds m_stand) H := hP
      have hD : va_D A (WX7_who K m_a mA_lane mA_many mA_item mA_poem mA_fresh mA_then mA_was mA_tape mA_strengths mA_sounds mA_stand mA_scheme mA_isKept mA_kept mA_trace (0 : Int32) m_status m_acts m_taped m_cursor m_start m_token m_value m_fault m_faultAt m_latest m_stands m_least m_ways m_nearFoot m_nearFeet m_nearCost m_traced m_lane m_many m_item m_poem m_then m_strengths m_sounds m_stand) := hD
      refine lv_if_ne (tgt := 35) hx hb dX7_who_29 (by decide) (fun c_14 => ?_) (fun c_14 => ?_)
      · rw [if_neg c_14] at hM
        refine lv_aload_n hx hb dX7_who_35 rfl (lv_at hl 0 rfl) ?_
        refine lv_iload_n hx hb dX7_who_36 rfl (lv_at hl 3 rfl) ?_
        refine lv_iload hx hb dX7_who_37 (lv_at hl 4 rfl) ?_
        refine lv_aload_n hx hb dX7_who_39 rfl (lv_at hl 0 rfl) ?_
        refine va_get (D := G) (ci := 7) (v := .ref mA_poem) (C := RX7) (T := TX7) (N := 33) hx hb hts inX7 hown hK hP 0 rfl rfl 5 (by decide) (hts _ tb769) (fun _ h9 => h9) rfl dX7_who_40 ?_
        refine lv_iconst (v := 0) hx hb dX7_who_43 (by decide) ?_
        refine va_iald hx hb hK hP 4 0 rfl rfl (show ¬ ((0 : Int32) < 0 ∨ 207 ≤ ((0 : Int32)).toNatClampNeg) by decide) dX7_who_44 ?_
        obtain ⟨r_15, u0_15, hC, hM⟩ := oe2 hM
        refine cV_i (As := [.int p3, .int p4, .int (m_poem (0 : Int32).toNatClampNeg)]) (rest := []) C0 hP hD hS [0, 1, 2] (kX7_rowFound l G K m_a mA_lane mA_many mA_item mA_poem mA_fresh mA_then mA_was mA_tape mA_strengths mA_sounds mA_stand mA_scheme mA_isKept mA_kept mA_trace (0 : Int32) m_status m_acts m_taped m_cursor m_start m_token m_value m_fault m_faultAt m_latest m_stands m_least m_ways m_nearFoot m_nearFeet m_nearCost m_traced m_lane m_many p3 p4 (m_poem (0 : Int32).toNatClampNeg) H.size r_15 u0_15 hC) rfl rfl rfl tb991 tb993 tp28 tb9 tb994 hdX7_rowFound (va_recv hK hP (ci := 7) (q0 := 0) rfl rfl) ⟨Nat.le_of_ble_eq_true rfl, Nat.le_of_ble_eq_true rfl⟩ rfl hl.1 (Nat.le_of_ble_eq_true rfl) rfl ⟨Nat.le_refl _, Nat.le_refl _⟩ dX7_who_45 (fun H locs hP hD hS => ?_)
        have hP : va_P G vwCl (WX7_who K m_a mA_lane mA_many mA_item mA_poem mA_fresh mA_then mA_was mA_tape mA_strengths mA_sounds mA_stand mA_scheme mA_isKept mA_kept mA_trace (0 : Int32) u0_15 m_acts m_taped m_cursor m_start m_token m_value m_fault m_faultAt m_latest m_stands m_least m_ways m_nearFoot m_nearFeet m_nearCost m_traced m_lane m_many m_item m_poem m_then m_strengths m_sounds m_stand) H := hP
        have hD : va_D A (WX7_who K m_a mA_lane mA_many mA_item mA_poem mA_fresh mA_then mA_was mA_tape mA_strengths mA_sounds mA_stand mA_scheme mA_isKept mA_kept mA_trace (0 : Int32) u0_15 m_acts m_taped m_cursor m_start m_token m_value m_fault m_faultAt m_latest m_stands m_least m_ways m_nearFoot m_nearFeet m_nearCost m_traced m_lane m_many m_item m_poem m_then m_strengths m_sounds m_stand) := hD
        refine lv_istore (lv' := [(5, .int r_15), (0, .ref m_a), (1, .int p1), (2, .int p2), (3, .int p3), (4, .int p4)]) hx hb dX7_who_48 hl (by decide) rfl (fun ls hl => ?_)
        refine lv_iload hx hb dX7_who_50 (lv_at hl 0 rfl) ?_
        refine lv_if_eq (tgt := 58) hx hb dX7_who_52 (by decide) (fun c_16 => ?_) (fun c_16 => ?_)
        · rw [if_pos c_16] at hM
          refine lv_aload_n hx hb dX7_who_58 rfl (lv_at hl 1 rfl) ?_
          refine lv_iconst (v := 0) hx hb dX7_who_59 (by decide) ?_
          refine va_put (D := G) (ci := 7) (v := .int (0 : Int32)) (ty := .int) (C := RX7) (T := TX7) (N := 33) hx hb hts inX7 tyX7 tyX7_ok nmX7 hown hK hP hD hS 0 rfl rfl 1 (by decide) (hts _ tb765) (fun _ h9 => h9) rfl (tyX7_ok 1 (by decide)) rfl rfl (Nat.le_of_ble_eq_true rfl) dX7_who_60 (fun H locs hP hD hS => ?_)
          have hP : va_P G vwCl (WX7_who K m_a mA_lane mA_many mA_item mA_poem mA_fresh mA_then mA_was mA_tape mA_strengths mA_sounds mA_stand mA_scheme mA_isKept mA_kept mA_trace (0 : Int32) (0 : Int32) m_acts m_taped m_cursor m_start m_token m_value m_fault m_faultAt m_latest m_stands m_least m_ways m_nearFoot m_nearFeet m_nearCost m_traced m_lane m_many m_item m_poem m_then m_strengths m_sounds m_stand) H := hP
          have hD : va_D A (WX7_who K m_a mA_lane mA_many mA_item mA_poem mA_fresh mA_then mA_was mA_tape mA_strengths mA_sounds mA_stand mA_scheme mA_isKept mA_kept mA_trace (0 : Int32) (0 : Int32) m_acts m_taped m_cursor m_start m_token m_value m_fault m_faultAt m_latest m_stands m_least m_ways m_nearFoot m_nearFeet m_nearCost m_traced m_lane m_many m_item m_poem m_then m_strengths m_sounds m_stand) := hD
          refine lv_iconst (v := 0) hx hb dX7_who_63 (by decide) ?_
          refine lv_istore (lv' := [(6, .int (0 : Int32)), (5, .int r_15), (0, .ref m_a), (1, .int p1), (2, .int p2), (3, .int p3), (4, .int p4)]) hx hb dX7_who_64 hl (by decide) rfl (fun ls hl => ?_)
          refine lv_iload_n hx hb dX7_who_66 rfl (lv_at hl 4 rfl) ?_
          refine lv_iconst (v := 1) hx hb dX7_who_67 (by decide) ?_
          refine lv_icmp_ne (tgt := 75) hx hb dX7_who_68 (by decide) (fun c_17 => ?_) (fun c_17 => ?_)
          · rw [if_neg c_17] at hM
            refine lv_iconst (v := 1) hx hb dX7_who_75 (by decide) ?_
            refine lv_istore (lv' := [(7, .int (1 : Int32)), (6, .int (0 : Int32)), (5, .int r_15), (0, .ref m_a), (1, .int p1), (2, .int p2), (3, .int p3), (4, .int p4)]) hx hb dX7_who_76 hl (by decide) rfl (fun ls hl => ?_)
            exact wX7_who_b78 C0 m_a mA_lane mA_many mA_item mA_poem mA_fresh mA_then mA_was mA_tape mA_strengths mA_sounds mA_stand mA_scheme mA_isKept mA_kept mA_trace m_acts m_taped m_cursor m_start m_token m_value m_fault m_faultAt m_latest m_nearFoot m_nearFeet m_nearCost m_traced m_lane m_many m_item m_poem p1 p2 p3 p4 r o_m_thrown o_m_status o_m_stands o_m_least o_m_ways o_m_then o_m_strengths o_m_sounds o_m_stand kr  FU (0 : Int32) (0 : Int32) m_stands m_least m_ways m_then m_strengths m_sounds m_stand (0 : Int32) (1 : Int32) hM _ _ _ hP hD hS (lv_sub hl [3, 4, 5, 6, 7, 1, 0] rfl)
          · rw [if_pos c_17] at hM
            refine lv_iconst (v := 0) hx hb dX7_who_71 (by decide) ?_
            refine lv_goto (tgt := 76) hx hb dX7_who_72 (by decide) ?_
            refine lv_istore (lv' := [(7, .int (0 : Int32)), (6, .int (0 : Int32)), (5, .int r_15), (0, .ref m_a), (1, .int p1), (2, .int p2), (3, .int p3), (4, .int p4)]) hx hb dX7_who_76 hl (by decide) rfl (fun ls hl => ?_)
            exact wX7_who_b78 C0 m_a mA_lane mA_many mA_item mA_poem mA_fresh mA_then mA_was mA_tape mA_strengths mA_sounds mA_stand mA_scheme mA_isKept mA_kept mA_trace m_acts m_taped m_cursor m_start m_token m_value m_fault m_faultAt m_latest m_nearFoot m_nearFeet m_nearCost m_traced m_lane m_many m_item m_poem p1 p2 p3 p4 r o_m_thrown o_m_status o_m_stands o_m_least o_m_ways o_m_then o_m_strengths o_m_sounds o_m_stand kr  FU (0 : Int32) (0 : Int32) m_stands m_least m_ways m_then m_strengths m_sounds m_stand (0 : Int32) (0 : Int32) hM _ _ _ hP hD hS (lv_sub hl [3, 4, 5, 6, 7, 1, 0] rfl)
        · rw [if_neg c_16] at hM
          refine lv_iload hx hb dX7_who_55 (lv_at hl 0 rfl) ?_
          have t0 := Option.some.inj hM
          obtain ⟨q1, t1⟩ := Prod.mk.inj t0
          obtain ⟨q2, t2⟩ := Prod.mk.inj t1
          obtain ⟨q3, t3⟩ := Prod.mk.inj t2
          obtain ⟨q4, t4⟩ := Prod.mk.inj t3
          obtain ⟨q5, t5⟩ := Prod.mk.inj t4
          obtain ⟨q6, t6⟩ := Prod.mk.inj t5
          obtain ⟨q7, t7⟩ := Prod.mk.inj t6
          obtain ⟨q8, t8⟩ := Prod.mk.inj t7
          obtain ⟨q9, t9⟩ := Prod.mk.inj t8
          subst q1
          subst q2
          subst q3
          subst q4
          subst q5
          subst q6
          subst q7
          subst q8
          subst q9
          subst t9
          exact kr _ _ _ _ dX7_who_57 hP hD hS
      · rw [if_pos c_14] at hM
        refine lv_ldc (v := -1000001) hx hb hown (hts _ tb877) dX7_who_32 ?_
        have t0 := Option.some.inj hM
        obtain ⟨q1, t1⟩ := Prod.mk.inj t0
        obtain ⟨q2, t2⟩ := Prod.mk.inj t1
        obtain ⟨q3, t3⟩ := Prod.mk.inj t2
        obtain ⟨q4, t4⟩ := Prod.mk.inj t3
        obtain ⟨q5, t5⟩ := Prod.mk.inj t4
        obtain ⟨q6, t6⟩ := Prod.mk.inj t5
        obtain ⟨q7, t7⟩ := Prod.mk.inj t6
        obtain ⟨q8, t8⟩ := Prod.mk.inj t7
        obtain ⟨q9, t9⟩ := Prod.mk.inj t8
        subst q1
        subst q2
        subst q3
        subst q4
        subst q5
        subst q6
        subst q7
        subst q8
        subst q9
        subst t9
        exact kr _ _ _ _ dX7_who_34 hP hD hS
set_option maxHeartbeats 4000000 in
set_option maxRecDepth 100000 in
theorem kX7_who (l : Launch) (G : va_G) (K : Nat → ClassId) (m_a mA_lane mA_many mA_item mA_poem mA_fresh mA_then mA_was mA_tape mA_strengths mA_sounds mA_stand mA_scheme mA_isKept mA_kept mA_trace : Nat) (m_thrown : Int32) (m_status : Int32) (m_acts : Int32) (m_taped : Int32) (m_cursor : Int32) (m_start : Int32) (m_token : Int32) (m_value : Int32) (m_fault : Int32) (m_faultAt : Int32) (m_latest : Int32) (m_stands : Int32) (m_least : Int32) (m_ways : Int32) (m_nearFoot : Int32) (m_nearFeet : Int32) (m_nearCost : Int32) (m_traced : Int32) (m_lane : Nat → Int32) (m_many : Nat → Int32) (m_item : Nat → Int32) (m_poem : Nat → Int32) (m_then : Nat → Int32) (m_strengths : Nat → Int32) (m_sounds : Nat → Int32) (m_stand : Nat → Int32) (p1 : Int32) (p2 : Int32) (p3 : Int32) (p4 : Int32) (sz : Nat) (r : Int32) (o_m_thrown : Int32) (o_m_status : Int32) (o_m_stands : Int32) (o_m_least : Int32) (o_m_ways : Int32) (o_m_then : Nat → Int32) (o_m_strengths : Nat → Int32) (o_m_sounds : Nat → Int32) (o_m_stand : Nat → Int32) (hM : mX7_who m_lane m_many m_item m_poem m_thrown m_status m_stands m_least m_ways m_then m_strengths m_sounds m_stand p1 p2 p3 p4 = some (r, o_m_thrown, o_m_status, o_m_stands, o_m_least, o_m_ways, o_m_then, o_m_strengths, o_m_sounds, o_m_stand)) : Met l yX7_who (mC yX7_who cX7_who 8 (some .int)) rmX7_who (va_Pc [.ref m_a, .int p1, .int p2, .int p3, .int p4] (PCe G K E0 (WX7_who K m_a mA_lane mA_many mA_item mA_poem mA_fresh mA_then mA_was mA_tape mA_strengths mA_sounds mA_stand mA_scheme mA_isKept mA_kept mA_trace m_thrown m_status m_acts m_taped m_cursor m_start m_token m_value m_fault m_faultAt m_latest m_stands m_least m_ways m_nearFoot m_nearFeet m_nearCost m_traced m_lane m_many m_item m_poem m_then m_strengths m_sounds m_stand) sz)) (va_Qi (fun (x : Int32) (_ : Unit) => x = r) (fun _ t => va_P G vwCl (WX7_who K m_a mA_lane mA_many mA_item mA_poem mA_fresh mA_then mA_was mA_tape mA_strengths mA_sounds mA_stand mA_scheme mA_isKept mA_kept mA_trace o_m_thrown o_m_status m_acts m_taped m_cursor m_start m_token m_value m_fault m_faultAt m_latest o_m_stands o_m_least o_m_ways m_nearFoot m_nearFeet m_nearCost m_traced m_lane m_many m_item m_poem o_m_then o_m_strengths o_m_sounds o_m_stand) t.heap) (va_A (WX7_who K m_a mA_lane mA_many mA_item mA_poem mA_fresh mA_then mA_was mA_tape mA_strengths mA_sounds mA_stand mA_scheme mA_isKept mA_kept mA_trace m_thrown m_status m_acts m_taped m_cursor m_start m_token m_value m_fault m_faultAt m_latest m_stands m_least m_ways m_nearFoot m_nearFeet m_nearCost m_traced m_lane m_many m_item m_poem m_then m_strengths m_sounds m_stand) sz)) rmX7_who.cells rmX7_who.slots (va_A (WX7_who K m_a mA_lane mA_many mA_item mA_poem mA_fresh mA_then mA_was mA_tape mA_strengths mA_sounds mA_stand mA_scheme mA_isKept mA_kept mA_trace m_thrown m_status m_acts m_taped m_cursor m_start m_token m_value m_fault m_faultAt m_latest m_stands m_least m_ways m_nearFoot m_nearFeet m_nearCost m_traced m_lane m_many m_item m_poem m_then m_strengths m_sounds m_stand) sz) := by
  refine Met.ofW (cc := cX7_who) (maxL := 8) (ret := (some .int)) (by decide) rfl ?_
  intro p e s m args below meth c s₁ B hml hv
  obtain ⟨rfl, hsz, hP, hK, hD0, hE⟩ := hv
  have hx := B.exec
  have hb := B.bytes
  have hr := B.returns
  have hts0 := atoms_spec (ws := mC yX7_who cX7_who 8 (some .int)) B.pre
  have hts : ∀ w ∈ tbG, w.before _ s = true := fun w h => hts0 w (List.mem_cons_of_mem _ h)
  have hown : s.vm.findClass RX7 = some m.cls := findClass_of_methodNamed B.named
  subst hsz
  have hD := hD0.self (sz := s.heap.size)
  generalize hAe : va_A (WX7_who K m_a mA_lane mA_many mA_item mA_poem mA_fresh mA_then mA_was mA_tape mA_strengths mA_sounds mA_stand mA_scheme mA_isKept mA_kept mA_trace m_thrown m_status m_acts m_taped m_cursor m_start m_token m_value m_fault m_faultAt m_latest m_stands m_least m_ways m_nearFoot m_nearFeet m_nearCost m_traced m_lane m_many m_item m_poem m_then m_strengths m_sounds m_stand) s.heap.size = A at hD hE ⊢
  have hA : ∀ q : Nat, s.heap.size ≤ q → A q := fun q h => by rw [← hAe]; exact Or.inr h
  have hS : va_S A s.heap s.heap [] := va_S.rf
  have hl := lv_entry ([.ref m_a, .int p1, .int p2, .int p3, .int p4]) (n := 8) (Nat.le_of_ble_eq_true rfl)
  rw [lg_entry_eq]
  generalize (lg_sl ([.ref m_a, .int p1, .int p2, .int p3, .int p4]) ++ List.replicate (8 - (lg_sl ([.ref m_a, .int p1, .int p2, .int p3, .int p4])).length) Slot.unset).toArray = ls at hl ⊢
  have hl : lv_has ls 8 [(0, .ref m_a), (1, .int p1), (2, .int p2), (3, .int p3), (4, .int p4)] := hl
  exact wX7_who_b0 ⟨hx, hb, hml, hown, hts, hK, hA, E0_ok, hE⟩ m_a mA_lane mA_many mA_item mA_poem mA_fresh mA_then mA_was mA_tape mA_strengths mA_sounds mA_stand mA_scheme mA_isKept mA_kept mA_trace m_acts m_taped m_cursor m_start m_token m_value m_fault m_faultAt m_latest m_nearFoot m_nearFeet m_nearCost m_traced m_lane m_many m_item m_poem p1 p2 p3 p4 r o_m_thrown o_m_status o_m_stands o_m_least o_m_ways o_m_then o_m_strengths o_m_sounds o_m_stand (fun H locs ls pc hdg hP hD hS => W.iret (v := r) hx hb hr (fun t ht hW => ⟨⟨r, (), rfl, rfl, (show va_P G vwCl _ t.heap by rw [ht]; exact hP)⟩, hS.F ht⟩) hS.2.2 hdg) m_thrown m_status m_stands m_least m_ways m_then m_strengths m_sounds m_stand  hM _ _ _ hP hD hS hl
