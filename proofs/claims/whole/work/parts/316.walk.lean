abbrev WX7_whole (K : Nat → ClassId) (m_a mA_lane mA_many mA_item mA_poem mA_fresh mA_then mA_was mA_tape mA_strengths mA_sounds mA_stand mA_scheme mA_isKept mA_kept mA_trace : Nat) (m_thrown : Int32) (m_status : Int32) (m_acts : Int32) (m_taped : Int32) (m_cursor : Int32) (m_start : Int32) (m_token : Int32) (m_value : Int32) (m_fault : Int32) (m_faultAt : Int32) (m_latest : Int32) (m_stands : Int32) (m_least : Int32) (m_ways : Int32) (m_nearFoot : Int32) (m_nearFeet : Int32) (m_nearCost : Int32) (m_traced : Int32) (m_poem : Nat → Int32) (m_strengths : Nat → Int32) (m_sounds : Nat → Int32) (m_stand : Nat → Int32) (m_scheme : Nat → Int32) : va_W := [(m_a, .inr (7, [.int m_thrown, .int m_status, .ref mA_lane, .ref mA_many, .ref mA_item, .ref mA_poem, .ref mA_fresh, .ref mA_then, .ref mA_was, .int m_acts, .ref mA_tape, .int m_taped, .int m_cursor, .int m_start, .int m_token, .int m_value, .int m_fault, .int m_faultAt, .int m_latest, .ref mA_strengths, .ref mA_sounds, .ref mA_stand, .int m_stands, .int m_least, .int m_ways, .ref mA_scheme, .int m_nearFoot, .int m_nearFeet, .int m_nearCost, .ref mA_isKept, .ref mA_kept, .ref mA_trace, .int m_traced])), aI K mA_poem 207 m_poem, aI K mA_strengths 20 m_strengths, aI K mA_sounds 5 m_sounds, aI K mA_stand 20 m_stand, aI K mA_scheme 4 m_scheme]
def rmX7_whole : Room := { frames := 11, cells := 0, slots := 0, locals := 247 }
theorem hdX7_whole : yX7_whole.cls = RX7 ∧ yX7_whole.cls ≠ "java/lang/invoke/MethodHandle" ∧ yX7_whole.cls ≠ "java/lang/invoke/VarHandle" ∧ (parseMethodDescriptor yX7_whole.desc).map (fun d => d.parameters.length) = some 1 := by decide +kernel
set_option maxHeartbeats 4000000 in
set_option maxRecDepth 100000 in
theorem wX7_whole_b0 {p : Program} {l : Launch} {e : Env} {s : State} {m : MethodId} {args : Array Value} {below : List Frame} {meth : Method} {c : Code} {Q : State → Prop} {G : va_G} {K : Nat → ClassId} {A : Nat → Prop} (C0 : CX p s m args c cX7_whole 2 RX7 G K E0 A) (m_a mA_lane mA_many mA_item mA_poem mA_fresh mA_then mA_was mA_tape mA_strengths mA_sounds mA_stand mA_scheme mA_isKept mA_kept mA_trace : Nat) (m_status : Int32) (m_acts : Int32) (m_taped : Int32) (m_cursor : Int32) (m_start : Int32) (m_token : Int32) (m_value : Int32) (m_fault : Int32) (m_faultAt : Int32) (m_latest : Int32) (m_traced : Int32) (m_poem : Nat → Int32) (p1 : Int32) (r : Int32) (o_m_thrown : Int32) (o_m_stands : Int32) (o_m_least : Int32) (o_m_ways : Int32) (o_m_nearFoot : Int32) (o_m_nearFeet : Int32) (o_m_nearCost : Int32) (o_m_strengths : Nat → Int32) (o_m_sounds : Nat → Int32) (o_m_stand : Nat → Int32) (o_m_scheme : Nat → Int32) (kr : ∀ (H : Heap) (locs : List Loc) (ls : Array Slot) (pc : Nat), decode cX7_whole pc = .ok (.ireturn, 1) → va_P G vwCl (WX7_whole K m_a mA_lane mA_many mA_item mA_poem mA_fresh mA_then mA_was mA_tape mA_strengths mA_sounds mA_stand mA_scheme mA_isKept mA_kept mA_trace o_m_thrown m_status m_acts m_taped m_cursor m_start m_token m_value m_fault m_faultAt m_latest o_m_stands o_m_least o_m_ways o_m_nearFoot o_m_nearFeet o_m_nearCost m_traced m_poem o_m_strengths o_m_sounds o_m_stand o_m_scheme) H → va_D A (WX7_whole K m_a mA_lane mA_many mA_item mA_poem mA_fresh mA_then mA_was mA_tape mA_strengths mA_sounds mA_stand mA_scheme mA_isKept mA_kept mA_trace o_m_thrown m_status m_acts m_taped m_cursor m_start m_token m_value m_fault m_faultAt m_latest o_m_stands o_m_least o_m_ways o_m_nearFoot o_m_nearFeet o_m_nearCost m_traced m_poem o_m_strengths o_m_sounds o_m_stand o_m_scheme) → va_S A s.heap H locs → W p l e rmX7_whole s m args below meth c H locs 0 0 Q (F0 m pc ls [.int r])) (m_thrown : Int32) (m_stands : Int32) (m_least : Int32) (m_ways : Int32) (m_nearFoot : Int32) (m_nearFeet : Int32) (m_nearCost : Int32) (m_strengths : Nat → Int32) (m_sounds : Nat → Int32) (m_stand : Nat → Int32) (m_scheme : Nat → Int32) (hM : mX7_whole_b0 m_poem p1  m_thrown m_stands m_least m_ways m_nearFoot m_nearFeet m_nearCost m_strengths m_sounds m_stand m_scheme = some (r, o_m_thrown, o_m_stands, o_m_least, o_m_ways, o_m_nearFoot, o_m_nearFeet, o_m_nearCost, o_m_strengths, o_m_sounds, o_m_stand, o_m_scheme)) : ∀ (H : Heap) (locs : List Loc) (ls : Array Slot), va_P G vwCl (WX7_whole K m_a mA_lane mA_many mA_item mA_poem mA_fresh mA_then mA_was mA_tape mA_strengths mA_sounds mA_stand mA_scheme mA_isKept mA_kept mA_trace m_thrown m_status m_acts m_taped m_cursor m_start m_token m_value m_fault m_faultAt m_latest m_stands m_least m_ways m_nearFoot m_nearFeet m_nearCost m_traced m_poem m_strengths m_sounds m_stand m_scheme) H → va_D A (WX7_whole K m_a mA_lane mA_many mA_item mA_poem mA_fresh mA_then mA_was mA_tape mA_strengths mA_sounds mA_stand mA_scheme mA_isKept mA_kept mA_trace m_thrown m_status m_acts m_taped m_cursor m_start m_token m_value m_fault m_faultAt m_latest m_stands m_least m_ways m_nearFoot m_nearFeet m_nearCost m_traced m_poem m_strengths m_sounds m_stand m_scheme) → va_S A s.heap H locs → lv_has ls 2 [(0, .ref m_a), (1, .int p1)] → W p l e rmX7_whole s m args below meth c H locs 0 0 Q (F0 m 0 ls []) := by
  obtain ⟨hx, hb, hml, hown, hts, hK, hA, hEo, hE⟩ := id C0
  intro H locs ls hP hD hS hl
  unfold mX7_whole_b0 at hM
  refine lv_aload_n hx hb dX7_whole_0 rfl (lv_at hl 0 rfl) ?_
  refine lv_iconst (v := 0) hx hb dX7_whole_1 (by decide) ?_
  refine va_put (D := G) (ci := 7) (v := .int (0 : Int32)) (ty := .int) (C := RX7) (T := TX7) (N := 33) hx hb hts inX7 tyX7 tyX7_ok nmX7 hown hK hP hD hS 0 rfl rfl 0 (by decide) (hts _ tb764) (fun _ h9 => h9) rfl (tyX7_ok 0 (by decide)) rfl rfl (Nat.le_of_ble_eq_true rfl) dX7_whole_2 (fun H locs hP hD hS => ?_)
  have hP : va_P G vwCl (WX7_whole K m_a mA_lane mA_many mA_item mA_poem mA_fresh mA_then mA_was mA_tape mA_strengths mA_sounds mA_stand mA_scheme mA_isKept mA_kept mA_trace (0 : Int32) m_status m_acts m_taped m_cursor m_start m_token m_value m_fault m_faultAt m_latest m_stands m_least m_ways m_nearFoot m_nearFeet m_nearCost m_traced m_poem m_strengths m_sounds m_stand m_scheme) H := hP
  have hD : va_D A (WX7_whole K m_a mA_lane mA_many mA_item mA_poem mA_fresh mA_then mA_was mA_tape mA_strengths mA_sounds mA_stand mA_scheme mA_isKept mA_kept mA_trace (0 : Int32) m_status m_acts m_taped m_cursor m_start m_token m_value m_fault m_faultAt m_latest m_stands m_least m_ways m_nearFoot m_nearFeet m_nearCost m_traced m_poem m_strengths m_sounds m_stand m_scheme) := hD
  refine lv_aload_n hx hb dX7_whole_5 rfl (lv_at hl 0 rfl) ?_
  obtain ⟨r_1, hC, hM⟩ := oe1 hM
  refine cV_i (As := []) (rest := []) C0 hP hD hS [0, 1] (kX7_isThere l G K m_a mA_lane mA_many mA_item mA_poem mA_fresh mA_then mA_was mA_tape mA_strengths mA_sounds mA_stand mA_scheme mA_isKept mA_kept mA_trace (0 : Int32) m_status m_acts m_taped m_cursor m_start m_token m_value m_fault m_faultAt m_latest m_stands m_least m_ways m_nearFoot m_nearFeet m_nearCost m_traced m_poem H.size r_1 hC) rfl rfl rfl tb1014 tb1016 tp29 tb9 tb1017 hdX7_isThere (va_recv hK hP (ci := 7) (q0 := 0) rfl rfl) ⟨Nat.le_of_ble_eq_true rfl, Nat.le_of_ble_eq_true rfl⟩ rfl hl.1 (Nat.le_of_ble_eq_true rfl) rfl ⟨Nat.le_refl _, Nat.le_refl _⟩ dX7_whole_6 (fun H locs hP hD hS => ?_)
  have hP : va_P G vwCl (WX7_whole K m_a mA_lane mA_many mA_item mA_poem mA_fresh mA_then mA_was mA_tape mA_strengths mA_sounds mA_stand mA_scheme mA_isKept mA_kept mA_trace (0 : Int32) m_status m_acts m_taped m_cursor m_start m_token m_value m_fault m_faultAt m_latest m_stands m_least m_ways m_nearFoot m_nearFeet m_nearCost m_traced m_poem m_strengths m_sounds m_stand m_scheme) H := hP
  have hD : va_D A (WX7_whole K m_a mA_lane mA_many mA_item mA_poem mA_fresh mA_then mA_was mA_tape mA_strengths mA_sounds mA_stand mA_scheme mA_isKept mA_kept mA_trace (0 : Int32) m_status m_acts m_taped m_cursor m_start m_token m_value m_fault m_faultAt m_latest m_stands m_least m_ways m_nearFoot m_nearFeet m_nearCost m_traced m_poem m_strengths m_sounds m_stand m_scheme) := hD
  refine lv_if_ne (tgt := 16) hx hb dX7_whole_9 (by decide) (fun c_2 => ?_) (fun c_2 => ?_)
  · rw [if_neg c_2] at hM
    refine lv_iload_n hx hb dX7_whole_16 rfl (lv_at hl 1 rfl) ?_
    by_cases c_3 : p1 = 0
    · rw [if_pos c_3] at hM
      refine lv_tableIn (off := 47) (tgt := 64) hx hb dX7_whole_17 (by rw [c_3]; decide) (by rw [c_3]; decide) (by rw [c_3]; decide) (by decide) ?_
      refine lv_aload_n hx hb dX7_whole_64 rfl (lv_at hl 0 rfl) ?_
      refine va_get (D := G) (ci := 7) (v := .ref mA_poem) (C := RX7) (T := TX7) (N := 33) hx hb hts inX7 hown hK hP 0 rfl rfl 5 (by decide) (hts _ tb769) (fun _ h9 => h9) rfl dX7_whole_65 ?_
      refine lv_iconst (v := 1) hx hb dX7_whole_68 (by decide) ?_
      refine lv_iload_n hx hb dX7_whole_69 rfl (lv_at hl 1 rfl) ?_
      refine lv_iadd hx hb dX7_whole_70 ?_
      obtain ⟨g_4, hM⟩ := ng hM
      refine va_iald hx hb hK hP 1 0 rfl rfl g_4 dX7_whole_71 ?_
      have t0 := Option.some.inj hM
      obtain ⟨q1, t1⟩ := Prod.mk.inj t0
      obtain ⟨q2, t2⟩ := Prod.mk.inj t1
      obtain ⟨q3, t3⟩ := Prod.mk.inj t2
      obtain ⟨q4, t4⟩ := Prod.mk.inj t3
      obtain ⟨q5, t5⟩ := Prod.mk.inj t4
      obtain ⟨q6, t6⟩ := Prod.mk.inj t5
      obtain ⟨q7, t7⟩ := Prod.mk.inj t6
      obtain ⟨q8, t8⟩ := Prod.mk.inj t7
      obtain ⟨q9, t9⟩ := Prod.mk.inj t8
      obtain ⟨q10, t10⟩ := Prod.mk.inj t9
      obtain ⟨q11, t11⟩ := Prod.mk.inj t10
      subst q1
      subst q2
      subst q3
      subst q4
      subst q5
      subst q6
      subst q7
      subst q8
      subst q9
      subst q10
      subst q11
      subst t11
      exact kr _ _ _ _ dX7_whole_72 hP hD hS
    · rw [if_neg c_3] at hM
      by_cases c_5 : p1 = 1
      · rw [if_pos c_5] at hM
        refine lv_tableIn (off := 47) (tgt := 64) hx hb dX7_whole_17 (by rw [c_5]; decide) (by rw [c_5]; decide) (by rw [c_5]; decide) (by decide) ?_
        refine lv_aload_n hx hb dX7_whole_64 rfl (lv_at hl 0 rfl) ?_
        refine va_get (D := G) (ci := 7) (v := .ref mA_poem) (C := RX7) (T := TX7) (N := 33) hx hb hts inX7 hown hK hP 0 rfl rfl 5 (by decide) (hts _ tb769) (fun _ h9 => h9) rfl dX7_whole_65 ?_
        refine lv_iconst (v := 1) hx hb dX7_whole_68 (by decide) ?_
        refine lv_iload_n hx hb dX7_whole_69 rfl (lv_at hl 1 rfl) ?_
        refine lv_iadd hx hb dX7_whole_70 ?_
        obtain ⟨g_6, hM⟩ := ng hM
        refine va_iald hx hb hK hP 1 0 rfl rfl g_6 dX7_whole_71 ?_
        have t0 := Option.some.inj hM
        obtain ⟨q1, t1⟩ := Prod.mk.inj t0
        obtain ⟨q2, t2⟩ := Prod.mk.inj t1
        obtain ⟨q3, t3⟩ := Prod.mk.inj t2
        obtain ⟨q4, t4⟩ := Prod.mk.inj t3
        obtain ⟨q5, t5⟩ := Prod.mk.inj t4
        obtain ⟨q6, t6⟩ := Prod.mk.inj t5
        obtain ⟨q7, t7⟩ := Prod.mk.inj t6
        obtain ⟨q8, t8⟩ := Prod.mk.inj t7
        obtain ⟨q9, t9⟩ := Prod.mk.inj t8
        obtain ⟨q10, t10⟩ := Prod.mk.inj t9
        obtain ⟨q11, t11⟩ := Prod.mk.inj t10
        subst q1
        subst q2
        subst q3
        subst q4
        subst q5
        subst q6
        subst q7
        subst q8
        subst q9
        subst q10
        subst q11
        subst t11
        exact kr _ _ _ _ dX7_whole_72 hP hD hS
      · rw [if_neg c_5] at hM
        by_cases c_7 : p1 = 2
        · rw [if_pos c_7] at hM
          refine lv_tableIn (off := 56) (tgt := 73) hx hb dX7_whole_17 (by rw [c_7]; decide) (by rw [c_7]; decide) (by rw [c_7]; decide) (by decide) ?_
          refine lv_aload_n hx hb dX7_whole_73 rfl (lv_at hl 0 rfl) ?_
          refine lv_aload_n hx hb dX7_whole_74 rfl (lv_at hl 0 rfl) ?_
          refine va_get (D := G) (ci := 7) (v := .ref mA_poem) (C := RX7) (T := TX7) (N := 33) hx hb hts inX7 hown hK hP 0 rfl rfl 5 (by decide) (hts _ tb769) (fun _ h9 => h9) rfl dX7_whole_75 ?_
          refine lv_aload_n hx hb dX7_whole_78 rfl (lv_at hl 0 rfl) ?_
          refine va_get (D := G) (ci := 7) (v := .ref mA_poem) (C := RX7) (T := TX7) (N := 33) hx hb hts inX7 hown hK hP 0 rfl rfl 5 (by decide) (hts _ tb769) (fun _ h9 => h9) rfl dX7_whole_79 ?_
          refine lv_iconst (v := 1) hx hb dX7_whole_82 (by decide) ?_
          refine va_iald hx hb hK hP 1 0 rfl rfl (show ¬ ((1 : Int32) < 0 ∨ 207 ≤ ((1 : Int32)).toNatClampNeg) by decide) dX7_whole_83 ?_
          refine lv_aload_n hx hb dX7_whole_84 rfl (lv_at hl 0 rfl) ?_
          refine va_get (D := G) (ci := 7) (v := .ref mA_poem) (C := RX7) (T := TX7) (N := 33) hx hb hts inX7 hown hK hP 0 rfl rfl 5 (by decide) (hts _ tb769) (fun _ h9 => h9) rfl dX7_whole_85 ?_
          refine lv_iconst (v := 2) hx hb dX7_whole_88 (by decide) ?_
          refine va_iald hx hb hK hP 1 0 rfl rfl (show ¬ ((2 : Int32) < 0 ∨ 207 ≤ ((2 : Int32)).toNatClampNeg) by decide) dX7_whole_89 ?_
          obtain ⟨r_8, u0_8, u1_8, u2_8, u3_8, u4_8, u5_8, hC, hM⟩ := oe7 hM
          refine cV_i (As := [.ref mA_poem, .int (m_poem (1 : Int32).toNatClampNeg), .int (m_poem (2 : Int32).toNatClampNeg)]) (rest := []) C0 hP hD hS [0, 2, 3, 4, 1] (kX7_allBy l G K m_a mA_lane mA_many mA_item mA_poem mA_fresh mA_then mA_was mA_tape mA_strengths mA_sounds mA_stand mA_scheme mA_isKept mA_kept mA_trace mA_poem (0 : Int32) m_status m_acts m_taped m_cursor m_start m_token m_value m_fault m_faultAt m_latest m_stands m_least m_ways m_nearFoot m_nearFeet m_nearCost m_traced m_strengths m_sounds m_stand m_poem (m_poem (1 : Int32).toNatClampNeg) (m_poem (2 : Int32).toNatClampNeg) H.size r_8 u0_8 u1_8 u2_8 u3_8 u4_8 u5_8 hC) rfl rfl rfl tb1139 tb1141 tp42 tb9 tb1142 hdX7_allBy (va_recv hK hP (ci := 7) (q0 := 0) rfl rfl) ⟨Nat.le_of_ble_eq_true rfl, Nat.le_of_ble_eq_true rfl⟩ rfl hl.1 (Nat.le_of_ble_eq_true rfl) rfl ⟨Nat.le_refl _, Nat.le_refl _⟩ dX7_whole_90 (fun H locs hP hD hS => ?_)
          have hP : va_P G vwCl (WX7_whole K m_a mA_lane mA_many mA_item mA_poem mA_fresh mA_then mA_was mA_tape mA_strengths mA_sounds mA_stand mA_scheme mA_isKept mA_kept mA_trace (0 : Int32) m_status m_acts m_taped m_cursor m_start m_token m_value m_fault m_faultAt m_latest u0_8 u1_8 u2_8 m_nearFoot m_nearFeet m_nearCost m_traced m_poem u3_8 u4_8 u5_8 m_scheme) H := hP
          have hD : va_D A (WX7_whole K m_a mA_lane mA_many mA_item mA_poem mA_fresh mA_then mA_was mA_tape mA_strengths mA_sounds mA_stand mA_scheme mA_isKept mA_kept mA_trace (0 : Int32) m_status m_acts m_taped m_cursor m_start m_token m_value m_fault m_faultAt m_latest u0_8 u1_8 u2_8 m_nearFoot m_nearFeet m_nearCost m_traced m_poem u3_8 u4_8 u5_8 m_scheme) := hD
          have t0 := Option.some.inj hM
          obtain ⟨q1, t1⟩ := Prod.mk.inj t0
          obtain ⟨q2, t2⟩ := Prod.mk.inj t1
          obtain ⟨q3, t3⟩ := Prod.mk.inj t2
          obtain ⟨q4, t4⟩ := Prod.mk.inj t3
          obtain ⟨q5, t5⟩ := Prod.mk.inj t4
          obtain ⟨q6, t6⟩ := Prod.mk.inj t5
          obtain ⟨q7, t7⟩ := Prod.mk.inj t6
          obtain ⟨q8, t8⟩ := Prod.mk.inj t7
          obtain ⟨q9, t9⟩ := Prod.mk.inj t8
          obtain ⟨q10, t10⟩ := Prod.mk.inj t9
          obtain ⟨q11, t11⟩ := Prod.mk.inj t10
          subst q1
          subst q2
          subst q3
          subst q4
          subst q5
          subst q6
          subst q7
          subst q8
          subst q9
          subst q10
          subst q11
          subst t11
          exact kr _ _ _ _ dX7_whole_93 hP hD hS
        · rw [if_neg c_7] at hM
          by_cases c_9 : p1 = 3
          · rw [if_pos c_9] at hM
            refine lv_tableIn (off := 77) (tgt := 94) hx hb dX7_whole_17 (by rw [c_9]; decide) (by rw [c_9]; decide) (by rw [c_9]; decide) (by decide) ?_
            refine lv_aload_n hx hb dX7_whole_94 rfl (lv_at hl 0 rfl) ?_
            refine lv_iload_n hx hb dX7_whole_95 rfl (lv_at hl 1 rfl) ?_
            refine lv_iconst (v := 3) hx hb dX7_whole_96 (by decide) ?_
            refine lv_isub hx hb dX7_whole_97 ?_
            obtain ⟨r_10, u0_10, u1_10, u2_10, u3_10, u4_10, u5_10, u6_10, u7_10, u8_10, hC, hM⟩ := oe10 hM
            refine cV_i (As := [.int (p1 - (3 : Int32))]) (rest := []) C0 hP hD hS [0, 1, 2, 3, 4] (kX7_nearestOfAll l G K m_a mA_lane mA_many mA_item mA_poem mA_fresh mA_then mA_was mA_tape mA_strengths mA_sounds mA_stand mA_scheme mA_isKept mA_kept mA_trace (0 : Int32) m_status m_acts m_taped m_cursor m_start m_token m_value m_fault m_faultAt m_latest m_stands m_least m_ways m_nearFoot m_nearFeet m_nearCost m_traced m_poem m_strengths m_sounds m_stand (p1 - (3 : Int32)) H.size r_10 u0_10 u1_10 u2_10 u3_10 u4_10 u5_10 u6_10 u7_10 u8_10 hC) rfl rfl rfl tb1143 tb1145 tp43 tb9 tb1146 hdX7_nearestOfAll (va_recv hK hP (ci := 7) (q0 := 0) rfl rfl) ⟨Nat.le_of_ble_eq_true rfl, Nat.le_of_ble_eq_true rfl⟩ rfl hl.1 (Nat.le_of_ble_eq_true rfl) rfl ⟨Nat.le_refl _, Nat.le_refl _⟩ dX7_whole_98 (fun H locs hP hD hS => ?_)
            have hP : va_P G vwCl (WX7_whole K m_a mA_lane mA_many mA_item mA_poem mA_fresh mA_then mA_was mA_tape mA_strengths mA_sounds mA_stand mA_scheme mA_isKept mA_kept mA_trace (0 : Int32) m_status m_acts m_taped m_cursor m_start m_token m_value m_fault m_faultAt m_latest u0_10 u1_10 u2_10 u3_10 u4_10 u5_10 m_traced m_poem u6_10 u7_10 u8_10 m_scheme) H := hP
            have hD : va_D A (WX7_whole K m_a mA_lane mA_many mA_item mA_poem mA_fresh mA_then mA_was mA_tape mA_strengths mA_sounds mA_stand mA_scheme mA_isKept mA_kept mA_trace (0 : Int32) m_status m_acts m_taped m_cursor m_start m_token m_value m_fault m_faultAt m_latest u0_10 u1_10 u2_10 u3_10 u4_10 u5_10 m_traced m_poem u6_10 u7_10 u8_10 m_scheme) := hD
            have t0 := Option.some.inj hM
            obtain ⟨q1, t1⟩ := Prod.mk.inj t0
            obtain ⟨q2, t2⟩ := Prod.mk.inj t1
            obtain ⟨q3, t3⟩ := Prod.mk.inj t2
            obtain ⟨q4, t4⟩ := Prod.mk.inj t3
            obtain ⟨q5, t5⟩ := Prod.mk.inj t4
            obtain ⟨q6, t6⟩ := Prod.mk.inj t5
            obtain ⟨q7, t7⟩ := Prod.mk.inj t6
            obtain ⟨q8, t8⟩ := Prod.mk.inj t7
            obtain ⟨q9, t9⟩ := Prod.mk.inj t8
            obtain ⟨q10, t10⟩ := Prod.mk.inj t9
            obtain ⟨q11, t11⟩ := Prod.mk.inj t10
            subst q1
            subst q2
            subst q3
            subst q4
            subst q5
            subst q6
            subst q7
            subst q8
            subst q9
            subst q10
            subst q11
            subst t11
            exact kr _ _ _ _ dX7_whole_101 hP hD hS
          · rw [if_neg c_9] at hM
            by_cases c_11 : p1 = 4
            · rw [if_pos c_11] at hM
              refine lv_tableIn (off := 77) (tgt := 94) hx hb dX7_whole_17 (by rw [c_11]; decide) (by rw [c_11]; decide) (by rw [c_11]; decide) (by decide) ?_
              refine lv_aload_n hx hb dX7_whole_94 rfl (lv_at hl 0 rfl) ?_
              refine lv_iload_n hx hb dX7_whole_95 rfl (lv_at hl 1 rfl) ?_
              refine lv_iconst (v := 3) hx hb dX7_whole_96 (by decide) ?_
              refine lv_isub hx hb dX7_whole_97 ?_
              obtain ⟨r_12, u0_12, u1_12, u2_12, u3_12, u4_12, u5_12, u6_12, u7_12, u8_12, hC, hM⟩ := oe10 hM
              refine cV_i (As := [.int (p1 - (3 : Int32))]) (rest := []) C0 hP hD hS [0, 1, 2, 3, 4] (kX7_nearestOfAll l G K m_a mA_lane mA_many mA_item mA_poem mA_fresh mA_then mA_was mA_tape mA_strengths mA_sounds mA_stand mA_scheme mA_isKept mA_kept mA_trace (0 : Int32) m_status m_acts m_taped m_cursor m_start m_token m_value m_fault m_faultAt m_latest m_stands m_least m_ways m_nearFoot m_nearFeet m_nearCost m_traced m_poem m_strengths m_sounds m_stand (p1 - (3 : Int32)) H.size r_12 u0_12 u1_12 u2_12 u3_12 u4_12 u5_12 u6_12 u7_12 u8_12 hC) rfl rfl rfl tb1143 tb1145 tp43 tb9 tb1146 hdX7_nearestOfAll (va_recv hK hP (ci := 7) (q0 := 0) rfl rfl) ⟨Nat.le_of_ble_eq_true rfl, Nat.le_of_ble_eq_true rfl⟩ rfl hl.1 (Nat.le_of_ble_eq_true rfl) rfl ⟨Nat.le_refl _, Nat.le_refl _⟩ dX7_whole_98 (fun H locs hP hD hS => ?_)
              have hP : va_P G vwCl (WX7_whole K m_a mA_lane mA_many mA_item mA_poem mA_fresh mA_then mA_was mA_tape mA_strengths mA_sounds mA_stand mA_scheme mA_isKept mA_kept mA_trace (0 : Int32) m_status m_acts m_taped m_cursor m_start m_token m_value m_fault m_faultAt m_latest u0_12 u1_12 u2_12 u3_12 u4_12 u5_12 m_traced m_poem u6_12 u7_12 u8_12 m_scheme) H := hP
              have hD : va_D A (WX7_whole K m_a mA_lane mA_many mA_item mA_poem mA_fresh mA_then mA_was mA_tape mA_strengths mA_sounds mA_stand mA_scheme mA_isKept mA_kept mA_trace (0 : Int32) m_status m_acts m_taped m_cursor m_start m_token m_value m_fault m_faultAt m_latest u0_12 u1_12 u2_12 u3_12 u4_12 u5_12 m_traced m_poem u6_12 u7_12 u8_12 m_scheme) := hD
              have t0 := Option.some.inj hM
              obtain ⟨q1, t1⟩ := Prod.mk.inj t0
              obtain ⟨q2, t2⟩ := Prod.mk.inj t1
              obtain ⟨q3, t3⟩ := Prod.mk.inj t2
              obtain ⟨q4, t4⟩ := Prod.mk.inj t3
              obtain ⟨q5, t5⟩ := Prod.mk.inj t4
              obtain ⟨q6, t6⟩ := Prod.mk.inj t5
              obtain ⟨q7, t7⟩ := Prod.mk.inj t6
              obtain ⟨q8, t8⟩ := Prod.mk.inj t7
              obtain ⟨q9, t9⟩ := Prod.mk.inj t8
              obtain ⟨q10, t10⟩ := Prod.mk.inj t9
              obtain ⟨q11, t11⟩ := Prod.mk.inj t10
              subst q1
              subst q2
              subst q3
              subst q4
              subst q5
              subst q6
              subst q7
              subst q8
              subst q9
              subst q10
              subst q11
              subst t11
              exact kr _ _ _ _ dX7_whole_101 hP hD hS
            · rw [if_neg c_11] at hM
              by_cases c_13 : p1 = 5
              · rw [if_pos c_13] at hM
                refine lv_tableIn (off := 77) (tgt := 94) hx hb dX7_whole_17 (by rw [c_13]; decide) (by rw [c_13]; decide) (by rw [c_13]; decide) (by decide) ?_
                refine lv_aload_n hx hb dX7_whole_94 rfl (lv_at hl 0 rfl) ?_
                refine lv_iload_n hx hb dX7_whole_95 rfl (lv_at hl 1 rfl) ?_
                refine lv_iconst (v := 3) hx hb dX7_whole_96 (by decide) ?_
                refine lv_isub hx hb dX7_whole_97 ?_
                obtain ⟨r_14, u0_14, u1_14, u2_14, u3_14, u4_14, u5_14, u6_14, u7_14, u8_14, hC, hM⟩ := oe10 hM
                refine cV_i (As := [.int (p1 - (3 : Int32))]) (rest := []) C0 hP hD hS [0, 1, 2, 3, 4] (kX7_nearestOfAll l G K m_a mA_lane mA_many mA_item mA_poem mA_fresh mA_then mA_was mA_tape mA_strengths mA_sounds mA_stand mA_scheme mA_isKept mA_kept mA_trace (0 : Int32) m_status m_acts m_taped m_cursor m_start m_token m_value m_fault m_faultAt m_latest m_stands m_least m_ways m_nearFoot m_nearFeet m_nearCost m_traced m_poem m_strengths m_sounds m_stand (p1 - (3 : Int32)) H.size r_14 u0_14 u1_14 u2_14 u3_14 u4_14 u5_14 u6_14 u7_14 u8_14 hC) rfl rfl rfl tb1143 tb1145 tp43 tb9 tb1146 hdX7_nearestOfAll (va_recv hK hP (ci := 7) (q0 := 0) rfl rfl) ⟨Nat.le_of_ble_eq_true rfl, Nat.le_of_ble_eq_true rfl⟩ rfl hl.1 (Nat.le_of_ble_eq_true rfl) rfl ⟨Nat.le_refl _, Nat.le_refl _⟩ dX7_whole_98 (fun H locs hP hD hS => ?_)
                have hP : va_P G vwCl (WX7_whole K m_a mA_lane mA_many mA_item mA_poem mA_fresh mA_then mA_was mA_tape mA_strengths mA_sounds mA_stand mA_scheme mA_isKept mA_kept mA_trace (0 : Int32) m_status m_acts m_taped m_cursor m_start m_token m_value m_fault m_faultAt m_latest u0_14 u1_14 u2_14 u3_14 u4_14 u5_14 m_traced m_poem u6_14 u7_14 u8_14 m_scheme) H := hP
                have hD : va_D A (WX7_whole K m_a mA_lane mA_many mA_item mA_poem mA_fresh mA_then mA_was mA_tape mA_strengths mA_sounds mA_stand mA_scheme mA_isKept mA_kept mA_trace (0 : Int32) m_status m_acts m_taped m_cursor m_start m_token m_value m_fault m_faultAt m_latest u0_14 u1_14 u2_14 u3_14 u4_14 u5_14 m_traced m_poem u6_14 u7_14 u8_14 m_scheme) := hD
                have t0 := Option.some.inj hM
                obtain ⟨q1, t1⟩ := Prod.mk.inj t0
                obtain ⟨q2, t2⟩ := Prod.mk.inj t1
                obtain ⟨q3, t3⟩ := Prod.mk.inj t2
                obtain ⟨q4, t4⟩ := Prod.mk.inj t3
                obtain ⟨q5, t5⟩ := Prod.mk.inj t4
                obtain ⟨q6, t6⟩ := Prod.mk.inj t5
                obtain ⟨q7, t7⟩ := Prod.mk.inj t6
                obtain ⟨q8, t8⟩ := Prod.mk.inj t7
                obtain ⟨q9, t9⟩ := Prod.mk.inj t8
                obtain ⟨q10, t10⟩ := Prod.mk.inj t9
                obtain ⟨q11, t11⟩ := Prod.mk.inj t10
                subst q1
                subst q2
                subst q3
                subst q4
                subst q5
                subst q6
                subst q7
                subst q8
                subst q9
                subst q10
                subst q11
                subst t11
                exact kr _ _ _ _ dX7_whole_101 hP hD hS
              · rw [if_neg c_13] at hM
                by_cases c_15 : p1 = 6
                · rw [if_pos c_15] at hM
                  refine lv_tableIn (off := 85) (tgt := 102) hx hb dX7_whole_17 (by rw [c_15]; decide) (by rw [c_15]; decide) (by rw [c_15]; decide) (by decide) ?_
                  refine lv_aload_n hx hb dX7_whole_102 rfl (lv_at hl 0 rfl) ?_
                  obtain ⟨r_16, u0_16, hC, hM⟩ := oe2 hM
                  refine cV_i (As := []) (rest := []) C0 hP hD hS [0, 1, 5] (kX7_nameOf l G K m_a mA_lane mA_many mA_item mA_poem mA_fresh mA_then mA_was mA_tape mA_strengths mA_sounds mA_stand mA_scheme mA_isKept mA_kept mA_trace (0 : Int32) m_status m_acts m_taped m_cursor m_start m_token m_value m_fault m_faultAt m_latest m_stands m_least m_ways m_nearFoot m_nearFeet m_nearCost m_traced m_poem m_scheme H.size r_16 u0_16 hC) rfl rfl rfl tb1147 tb1149 tp44 tb9 tb1150 hdX7_nameOf (va_recv hK hP (ci := 7) (q0 := 0) rfl rfl) ⟨Nat.le_of_ble_eq_true rfl, Nat.le_of_ble_eq_true rfl⟩ rfl hl.1 (Nat.le_of_ble_eq_true rfl) rfl ⟨Nat.le_refl _, Nat.le_refl _⟩ dX7_whole_103 (fun H locs hP hD hS => ?_)
                  have hP : va_P G vwCl (WX7_whole K m_a mA_lane mA_many mA_item mA_poem mA_fresh mA_then mA_was mA_tape mA_strengths mA_sounds mA_stand mA_scheme mA_isKept mA_kept mA_trace (0 : Int32) m_status m_acts m_taped m_cursor m_start m_token m_value m_fault m_faultAt m_latest m_stands m_least m_ways m_nearFoot m_nearFeet m_nearCost m_traced m_poem m_strengths m_sounds m_stand u0_16) H := hP
                  have hD : va_D A (WX7_whole K m_a mA_lane mA_many mA_item mA_poem mA_fresh mA_then mA_was mA_tape mA_strengths mA_sounds mA_stand mA_scheme mA_isKept mA_kept mA_trace (0 : Int32) m_status m_acts m_taped m_cursor m_start m_token m_value m_fault m_faultAt m_latest m_stands m_least m_ways m_nearFoot m_nearFeet m_nearCost m_traced m_poem m_strengths m_sounds m_stand u0_16) := hD
                  have t0 := Option.some.inj hM
                  obtain ⟨q1, t1⟩ := Prod.mk.inj t0
                  obtain ⟨q2, t2⟩ := Prod.mk.inj t1
                  obtain ⟨q3, t3⟩ := Prod.mk.inj t2
                  obtain ⟨q4, t4⟩ := Prod.mk.inj t3
                  obtain ⟨q5, t5⟩ := Prod.mk.inj t4
                  obtain ⟨q6, t6⟩ := Prod.mk.inj t5
                  obtain ⟨q7, t7⟩ := Prod.mk.inj t6
                  obtain ⟨q8, t8⟩ := Prod.mk.inj t7
                  obtain ⟨q9, t9⟩ := Prod.mk.inj t8
                  obtain ⟨q10, t10⟩ := Prod.mk.inj t9
                  obtain ⟨q11, t11⟩ := Prod.mk.inj t10
                  subst q1
                  subst q2
                  subst q3
                  subst q4
                  subst q5
                  subst q6
                  subst q7
                  subst q8
                  subst q9
                  subst q10
                  subst q11
                  subst t11
                  exact kr _ _ _ _ dX7_whole_106 hP hD hS
                · rw [if_neg c_15] at hM
                  by_cases c_17 : p1 = 7
                  · rw [if_pos c_17] at hM
                    refine lv_tableIn (off := 90) (tgt := 107) hx hb dX7_whole_17 (by rw [c_17]; decide) (by rw [c_17]; decide) (by rw [c_17]; decide) (by decide) ?_
                    refine lv_aload_n hx hb dX7_whole_107 rfl (lv_at hl 0 rfl) ?_
                    obtain ⟨r_18, u0_18, hC, hM⟩ := oe2 hM
                    refine cV_i (As := []) (rest := []) C0 hP hD hS [0, 1, 5] (kX7_layScheme l G K m_a mA_lane mA_many mA_item mA_poem mA_fresh mA_then mA_was mA_tape mA_strengths mA_sounds mA_stand mA_scheme mA_isKept mA_kept mA_trace (0 : Int32) m_status m_acts m_taped m_cursor m_start m_token m_value m_fault m_faultAt m_latest m_stands m_least m_ways m_nearFoot m_nearFeet m_nearCost m_traced m_poem m_scheme H.size r_18 u0_18 hC) rfl rfl rfl tb1068 tb1070 tp31 tb9 tb1071 hdX7_layScheme (va_recv hK hP (ci := 7) (q0 := 0) rfl rfl) ⟨Nat.le_of_ble_eq_true rfl, Nat.le_of_ble_eq_true rfl⟩ rfl hl.1 (Nat.le_of_ble_eq_true rfl) rfl ⟨Nat.le_refl _, Nat.le_refl _⟩ dX7_whole_108 (fun H locs hP hD hS => ?_)
                    have hP : va_P G vwCl (WX7_whole K m_a mA_lane mA_many mA_item mA_poem mA_fresh mA_then mA_was mA_tape mA_strengths mA_sounds mA_stand mA_scheme mA_isKept mA_kept mA_trace (0 : Int32) m_status m_acts m_taped m_cursor m_start m_token m_value m_fault m_faultAt m_latest m_stands m_least m_ways m_nearFoot m_nearFeet m_nearCost m_traced m_poem m_strengths m_sounds m_stand u0_18) H := hP
                    have hD : va_D A (WX7_whole K m_a mA_lane mA_many mA_item mA_poem mA_fresh mA_then mA_was mA_tape mA_strengths mA_sounds mA_stand mA_scheme mA_isKept mA_kept mA_trace (0 : Int32) m_status m_acts m_taped m_cursor m_start m_token m_value m_fault m_faultAt m_latest m_stands m_least m_ways m_nearFoot m_nearFeet m_nearCost m_traced m_poem m_strengths m_sounds m_stand u0_18) := hD
                    have t0 := Option.some.inj hM
                    obtain ⟨q1, t1⟩ := Prod.mk.inj t0
                    obtain ⟨q2, t2⟩ := Prod.mk.inj t1
                    obtain ⟨q3, t3⟩ := Prod.mk.inj t2
                    obtain ⟨q4, t4⟩ := Prod.mk.inj t3
                    obtain ⟨q5, t5⟩ := Prod.mk.inj t4
                    obtain ⟨q6, t6⟩ := Prod.mk.inj t5
                    obtain ⟨q7, t7⟩ := Prod.mk.inj t6
                    obtain ⟨q8, t8⟩ := Prod.mk.inj t7
                    obtain ⟨q9, t9⟩ := Prod.mk.inj t8
                    obtain ⟨q10, t10⟩ := Prod.mk.inj t9
                    obtain ⟨q11, t11⟩ := Prod.mk.inj t10
                    subst q1
                    subst q2
                    subst q3
                    subst q4
                    subst q5
                    subst q6
                    subst q7
                    subst q8
                    subst q9
                    subst q10
                    subst q11
                    subst t11
                    exact kr _ _ _ _ dX7_whole_111 hP hD hS
                  · rw [if_neg c_17] at hM
                    refine lv_tableOut (tgt := 112) hx hb dX7_whole_17 (by have q0 : p1.toInt ≠ 0 := (fun q => c_3 (Int32.toInt_inj.mp (q.trans (by decide)))); have q1 : p1.toInt ≠ 1 := (fun q => c_5 (Int32.toInt_inj.mp (q.trans (by decide)))); have q2 : p1.toInt ≠ 2 := (fun q => c_7 (Int32.toInt_inj.mp (q.trans (by decide)))); have q3 : p1.toInt ≠ 3 := (fun q => c_9 (Int32.toInt_inj.mp (q.trans (by decide)))); have q4 : p1.toInt ≠ 4 := (fun q => c_11 (Int32.toInt_inj.mp (q.trans (by decide)))); have q5 : p1.toInt ≠ 5 := (fun q => c_13 (Int32.toInt_inj.mp (q.trans (by decide)))); have q6 : p1.toInt ≠ 6 := (fun q => c_15 (Int32.toInt_inj.mp (q.trans (by decide)))); have q7 : p1.toInt ≠ 7 := (fun q => c_17 (Int32.toInt_inj.mp (q.trans (by decide)))); omega) (by decide) ?_
                    refine lv_ldc (v := -1000001) hx hb hown (hts _ tb877) dX7_whole_112 ?_
                    have t0 := Option.some.inj hM
                    obtain ⟨q1, t1⟩ := Prod.mk.inj t0
                    obtain ⟨q2, t2⟩ := Prod.mk.inj t1
                    obtain ⟨q3, t3⟩ := Prod.mk.inj t2
                    obtain ⟨q4, t4⟩ := Prod.mk.inj t3
                    obtain ⟨q5, t5⟩ := Prod.mk.inj t4
                    obtain ⟨q6, t6⟩ := Prod.mk.inj t5
                    obtain ⟨q7, t7⟩ := Prod.mk.inj t6
                    obtain ⟨q8, t8⟩ := Prod.mk.inj t7
                    obtain ⟨q9, t9⟩ := Prod.mk.inj t8
                    obtain ⟨q10, t10⟩ := Prod.mk.inj t9
                    obtain ⟨q11, t11⟩ := Prod.mk.inj t10
                    subst q1
                    subst q2
                    subst q3
                    subst q4
                    subst q5
                    subst q6
                    subst q7
                    subst q8
                    subst q9
                    subst q10
                    subst q11
                    subst t11
                    exact kr _ _ _ _ dX7_whole_114 hP hD hS
  · rw [if_pos c_2] at hM
    refine lv_ldcw (v := -1000002) hx hb hown (hts _ tb977) dX7_whole_12 ?_
    have t0 := Option.some.inj hM
    obtain ⟨q1, t1⟩ := Prod.mk.inj t0
    obtain ⟨q2, t2⟩ := Prod.mk.inj t1
    obtain ⟨q3, t3⟩ := Prod.mk.inj t2
    obtain ⟨q4, t4⟩ := Prod.mk.inj t3
    obtain ⟨q5, t5⟩ := Prod.mk.inj t4
    obtain ⟨q6, t6⟩ := Prod.mk.inj t5
    obtain ⟨q7, t7⟩ := Prod.mk.inj t6
    obtain ⟨q8, t8⟩ := Prod.mk.inj t7
    obtain ⟨q9, t9⟩ := Prod.mk.inj t8
    obtain ⟨q10, t10⟩ := Prod.mk.inj t9
    obtain ⟨q11, t11⟩ := Prod.mk.inj t10
    subst q1
    subst q2
    subst q3
    subst q4
    subst q5
    subst q6
    subst q7
    subst q8
    subst q9
    subst q10
    subst q11
    subst t11
    exact kr _ _ _ _ dX7_whole_15 hP hD hS
set_option maxHeartbeats 4000000 in
set_option maxRecDepth 100000 in
theorem kX7_whole (l : Launch) (G : va_G) (K : Nat → ClassId) (m_a mA_lane mA_many mA_item mA_poem mA_fresh mA_then mA_was mA_tape mA_strengths mA_sounds mA_stand mA_scheme mA_isKept mA_kept mA_trace : Nat) (m_thrown : Int32) (m_status : Int32) (m_acts : Int32) (m_taped : Int32) (m_cursor : Int32) (m_start : Int32) (m_token : Int32) (m_value : Int32) (m_fault : Int32) (m_faultAt : Int32) (m_latest : Int32) (m_stands : Int32) (m_least : Int32) (m_ways : Int32) (m_nearFoot : Int32) (m_nearFeet : Int32) (m_nearCost : Int32) (m_traced : Int32) (m_poem : Nat → Int32) (m_strengths : Nat → Int32) (m_sounds : Nat → Int32) (m_stand : Nat → Int32) (m_scheme : Nat → Int32) (p1 : Int32) (sz : Nat) (r : Int32) (o_m_thrown : Int32) (o_m_stands : Int32) (o_m_least : Int32) (o_m_ways : Int32) (o_m_nearFoot : Int32) (o_m_nearFeet : Int32) (o_m_nearCost : Int32) (o_m_strengths : Nat → Int32) (o_m_sounds : Nat → Int32) (o_m_stand : Nat → Int32) (o_m_scheme : Nat → Int32) (hM : mX7_whole m_poem m_thrown m_stands m_least m_ways m_nearFoot m_nearFeet m_nearCost m_strengths m_sounds m_stand m_scheme p1 = some (r, o_m_thrown, o_m_stands, o_m_least, o_m_ways, o_m_nearFoot, o_m_nearFeet, o_m_nearCost, o_m_strengths, o_m_sounds, o_m_stand, o_m_scheme)) : Met l yX7_whole (mC yX7_whole cX7_whole 2 (some .int)) rmX7_whole (va_Pc [.ref m_a, .int p1] (PCe G K E0 (WX7_whole K m_a mA_lane mA_many mA_item mA_poem mA_fresh mA_then mA_was mA_tape mA_strengths mA_sounds mA_stand mA_scheme mA_isKept mA_kept mA_trace m_thrown m_status m_acts m_taped m_cursor m_start m_token m_value m_fault m_faultAt m_latest m_stands m_least m_ways m_nearFoot m_nearFeet m_nearCost m_traced m_poem m_strengths m_sounds m_stand m_scheme) sz)) (va_Qi (fun (x : Int32) (_ : Unit) => x = r) (fun _ t => va_P G vwCl (WX7_whole K m_a mA_lane mA_many mA_item mA_poem mA_fresh mA_then mA_was mA_tape mA_strengths mA_sounds mA_stand mA_scheme mA_isKept mA_kept mA_trace o_m_thrown m_status m_acts m_taped m_cursor m_start m_token m_value m_fault m_faultAt m_latest o_m_stands o_m_least o_m_ways o_m_nearFoot o_m_nearFeet o_m_nearCost m_traced m_poem o_m_strengths o_m_sounds o_m_stand o_m_scheme) t.heap) (va_A (WX7_whole K m_a mA_lane mA_many mA_item mA_poem mA_fresh mA_then mA_was mA_tape mA_strengths mA_sounds mA_stand mA_scheme mA_isKept mA_kept mA_trace m_thrown m_status m_acts m_taped m_cursor m_start m_token m_value m_fault m_faultAt m_latest m_stands m_least m_ways m_nearFoot m_nearFeet m_nearCost m_traced m_poem m_strengths m_sounds m_stand m_scheme) sz)) rmX7_whole.cells rmX7_whole.slots (va_A (WX7_whole K m_a mA_lane mA_many mA_item mA_poem mA_fresh mA_then mA_was mA_tape mA_strengths mA_sounds mA_stand mA_scheme mA_isKept mA_kept mA_trace m_thrown m_status m_acts m_taped m_cursor m_start m_token m_value m_fault m_faultAt m_latest m_stands m_least m_ways m_nearFoot m_nearFeet m_nearCost m_traced m_poem m_strengths m_sounds m_stand m_scheme) sz) := by
  refine Met.ofW (cc := cX7_whole) (maxL := 2) (ret := (some .int)) (by decide) rfl ?_
  intro p e s m args below meth c s₁ B hml hv
  obtain ⟨rfl, hsz, hP, hK, hD0, hE⟩ := hv
  have hx := B.exec
  have hb := B.bytes
  have hr := B.returns
  have hts0 := atoms_spec (ws := mC yX7_whole cX7_whole 2 (some .int)) B.pre
  have hts : ∀ w ∈ tbG, w.before _ s = true := fun w h => hts0 w (List.mem_cons_of_mem _ h)
  have hown : s.vm.findClass RX7 = some m.cls := findClass_of_methodNamed B.named
  subst hsz
  have hD := hD0.self (sz := s.heap.size)
  generalize hAe : va_A (WX7_whole K m_a mA_lane mA_many mA_item mA_poem mA_fresh mA_then mA_was mA_tape mA_strengths mA_sounds mA_stand mA_scheme mA_isKept mA_kept mA_trace m_thrown m_status m_acts m_taped m_cursor m_start m_token m_value m_fault m_faultAt m_latest m_stands m_least m_ways m_nearFoot m_nearFeet m_nearCost m_traced m_poem m_strengths m_sounds m_stand m_scheme) s.heap.size = A at hD hE ⊢
  have hA : ∀ q : Nat, s.heap.size ≤ q → A q := fun q h => by rw [← hAe]; exact Or.inr h
  have hS : va_S A s.heap s.heap [] := va_S.rf
  have hl := lv_entry ([.ref m_a, .int p1]) (n := 2) (Nat.le_of_ble_eq_true rfl)
  rw [lg_entry_eq]
  generalize (lg_sl ([.ref m_a, .int p1]) ++ List.replicate (2 - (lg_sl ([.ref m_a, .int p1])).length) Slot.unset).toArray = ls at hl ⊢
  have hl : lv_has ls 2 [(0, .ref m_a), (1, .int p1)] := hl
  exact wX7_whole_b0 ⟨hx, hb, hml, hown, hts, hK, hA, E0_ok, hE⟩ m_a mA_lane mA_many mA_item mA_poem mA_fresh mA_then mA_was mA_tape mA_strengths mA_sounds mA_stand mA_scheme mA_isKept mA_kept mA_trace m_status m_acts m_taped m_cursor m_start m_token m_value m_fault m_faultAt m_latest m_traced m_poem p1 r o_m_thrown o_m_stands o_m_least o_m_ways o_m_nearFoot o_m_nearFeet o_m_nearCost o_m_strengths o_m_sounds o_m_stand o_m_scheme (fun H locs ls pc hdg hP hD hS => W.iret (v := r) hx hb hr (fun t ht hW => ⟨⟨r, (), rfl, rfl, (show va_P G vwCl _ t.heap by rw [ht]; exact hP)⟩, hS.F ht⟩) hS.2.2 hdg) m_thrown m_stands m_least m_ways m_nearFoot m_nearFeet m_nearCost m_strengths m_sounds m_stand m_scheme  hM _ _ _ hP hD hS hl
abbrev WX7_rhymes (K : Nat → ClassId) (m_a mA_lane mA_many mA_item mA_poem mA_fresh mA_then mA_was mA_tape mA_strengths mA_sounds mA_stand mA_scheme mA_isKept mA_kept mA_trace : Nat) (m_thrown : Int32) (m_status : Int32) (m_acts : Int32) (m_taped : Int32) (m_cursor : Int32) (m_start : Int32) (m_token : Int32) (m_value : Int32) (m_fault : Int32) (m_faultAt : Int32) (m_latest : Int32) (m_stands : Int32) (m_least : Int32) (m_ways : Int32) (m_nearFoot : Int32) (m_nearFeet : Int32) (m_nearCost : Int32) (m_traced : Int32) (m_poem : Nat → Int32) : va_W := [(m_a, .inr (7, [.int m_thrown, .int m_status, .ref mA_lane, .ref mA_many, .ref mA_item, .ref mA_poem, .ref mA_fresh, .ref mA_then, .ref mA_was, .int m_acts, .ref mA_tape, .int m_taped, .int m_cursor, .int m_start, .int m_token, .int m_value, .int m_fault, .int m_faultAt, .int m_latest, .ref mA_strengths, .ref mA_sounds, .ref mA_stand, .int m_stands, .int m_least, .int m_ways, .ref mA_scheme, .int m_nearFoot, .int m_nearFeet, .int m_nearCost, .ref mA_isKept, .ref mA_kept, .ref mA_trace, .int m_traced])), aI K mA_poem 207 m_poem]
def rmX7_rhymes : Room := { frames := 9, cells := 0, slots := 0, locals := 202 }
theorem hdX7_rhymes : yX7_rhymes.cls = RX7 ∧ yX7_rhymes.cls ≠ "java/lang/invoke/MethodHandle" ∧ yX7_rhymes.cls ≠ "java/lang/invoke/VarHandle" ∧ (parseMethodDescriptor yX7_rhymes.desc).map (fun d => d.parameters.length) = some 2 := by decide +kernel
set_option maxHeartbeats 4000000 in
set_option maxRecDepth 100000 in
theorem wX7_rhymes_b0 {p : Program} {l : Launch} {e : Env} {s : State} {m : MethodId} {args : Array Value} {below : List Frame} {meth : Method} {c : Code} {Q : State → Prop} {G : va_G} {K : Nat → ClassId} {A : Nat → Prop} (C0 : CX p s m args c cX7_rhymes 3 RX7 G K E0 A) (m_a mA_lane mA_many mA_item mA_poem mA_fresh mA_then mA_was mA_tape mA_strengths mA_sounds mA_stand mA_scheme mA_isKept mA_kept mA_trace : Nat) (m_status : Int32) (m_acts : Int32) (m_taped : Int32) (m_cursor : Int32) (m_start : Int32) (m_token : Int32) (m_value : Int32) (m_fault : Int32) (m_faultAt : Int32) (m_latest : Int32) (m_stands : Int32) (m_least : Int32) (m_ways : Int32) (m_nearFoot : Int32) (m_nearFeet : Int32) (m_nearCost : Int32) (m_traced : Int32) (m_poem : Nat → Int32) (p1 : Int32) (p2 : Int32) (r : Int32) (o_m_thrown : Int32) (kr : ∀ (H : Heap) (locs : List Loc) (ls : Array Slot) (pc : Nat), decode cX7_rhymes pc = .ok (.ireturn, 1) → va_P G vwCl (WX7_rhymes K m_a mA_lane mA_many mA_item mA_poem mA_fresh mA_then mA_was mA_tape mA_strengths mA_sounds mA_stand mA_scheme mA_isKept mA_kept mA_trace o_m_thrown m_status m_acts m_taped m_cursor m_start m_token m_value m_fault m_faultAt m_latest m_stands m_least m_ways m_nearFoot m_nearFeet m_nearCost m_traced m_poem) H → va_D A (WX7_rhymes K m_a mA_lane mA_many mA_item mA_poem mA_fresh mA_then mA_was mA_tape mA_strengths mA_sounds mA_stand mA_scheme mA_isKept mA_kept mA_trace o_m_thrown m_status m_acts m_taped m_cursor m_start m_token m_value m_fault m_faultAt m_latest m_stands m_least m_ways m_nearFoot m_nearFeet m_nearCost m_traced m_poem) → va_S A s.heap H locs → W p l e rmX7_rhymes s m args below meth c H locs 0 0 Q (F0 m pc ls [.int r])) (m_thrown : Int32) (hM : mX7_rhymes_b0 m_poem p1 p2  m_thrown = some (r, o_m_thrown)) : ∀ (H : Heap) (locs : List Loc) (ls : Array Slot), va_P G vwCl (WX7_rhymes K m_a mA_lane mA_many mA_item mA_poem mA_fresh mA_then mA_was mA_tape mA_strengths mA_sounds mA_stand mA_scheme mA_isKept mA_kept mA_trace m_thrown m_status m_acts m_taped m_cursor m_start m_token m_value m_fault m_faultAt m_latest m_stands m_least m_ways m_nearFoot m_nearFeet m_nearCost m_traced m_poem) H → va_D A (WX7_rhymes K m_a mA_lane mA_many mA_item mA_poem mA_fresh mA_then mA_was mA_tape mA_strengths mA_sounds mA_stand mA_scheme mA_isKept mA_kept mA_trace m_thrown m_status m_acts m_taped m_cursor m_start m_token m_value m_fault m_faultAt m_latest m_stands m_least m_ways m_nearFoot m_nearFeet m_nearCost m_traced m_poem) → va_S A s.heap H locs → lv_has ls 3 [(0, .ref m_a), (1, .int p1), (2, .int p2)] → W p l e rmX7_rhymes s m args below meth c H locs 0 0 Q (F0 m 0 ls []) := by
  obtain ⟨hx, hb, hml, hown, hts, hK, hA, hEo, hE⟩ := id C0
  intro H locs ls hP hD hS hl
  unfold mX7_rhymes_b0 at hM
  refine lv_aload_n hx hb dX7_rhymes_0 rfl (lv_at hl 0 rfl) ?_
  refine lv_iconst (v := 0) hx hb dX7_rhymes_1 (by decide) ?_
  refine va_put (D := G) (ci := 7) (v := .int (0 : Int32)) (ty := .int) (C := RX7) (T := TX7) (N := 33) hx hb hts inX7 tyX7 tyX7_ok nmX7 hown hK hP hD hS 0 rfl rfl 0 (by decide) (hts _ tb764) (fun _ h9 => h9) rfl (tyX7_ok 0 (by decide)) rfl rfl (Nat.le_of_ble_eq_true rfl) dX7_rhymes_2 (fun H locs hP hD hS => ?_)
  have hP : va_P G vwCl (WX7_rhymes K m_a mA_lane mA_many mA_item mA_poem mA_fresh mA_then mA_was mA_tape mA_strengths mA_sounds mA_stand mA_scheme mA_isKept mA_kept mA_trace (0 : Int32) m_status m_acts m_taped m_cursor m_start m_token m_value m_fault m_faultAt m_latest m_stands m_least m_ways m_nearFoot m_nearFeet m_nearCost m_traced m_poem) H := hP
  have hD : va_D A (WX7_rhymes K m_a mA_lane mA_many mA_item mA_poem mA_fresh mA_then mA_was mA_tape mA_strengths mA_sounds mA_stand mA_scheme mA_isKept mA_kept mA_trace (0 : Int32) m_status m_acts m_taped m_cursor m_start m_token m_value m_fault m_faultAt m_latest m_stands m_least m_ways m_nearFoot m_nearFeet m_nearCost m_traced m_poem) := hD
  refine lv_aload_n hx hb dX7_rhymes_5 rfl (lv_at hl 0 rfl) ?_
  refine lv_iload_n hx hb dX7_rhymes_6 rfl (lv_at hl 1 rfl) ?_
  obtain ⟨r_1, hC, hM⟩ := oe1 hM
  refine cV_i (As := [.int p1]) (rest := []) C0 hP hD hS [0, 1] (kX7_isLine l G K m_a mA_lane mA_many mA_item mA_poem mA_fresh mA_then mA_was mA_tape mA_strengths mA_sounds mA_stand mA_scheme mA_isKept mA_kept mA_trace (0 : Int32) m_status m_acts m_taped m_cursor m_start m_token m_value m_fault m_faultAt m_latest m_stands m_least m_ways m_nearFoot m_nearFeet m_nearCost m_traced m_poem p1 H.size r_1 hC) rfl rfl rfl tb986 tb988 tp27 tb9 tb989 hdX7_isLine (va_recv hK hP (ci := 7) (q0 := 0) rfl rfl) ⟨Nat.le_of_ble_eq_true rfl, Nat.le_of_ble_eq_true rfl⟩ rfl hl.1 (Nat.le_of_ble_eq_true rfl) rfl ⟨Nat.le_refl _, Nat.le_refl _⟩ dX7_rhymes_7 (fun H locs hP hD hS => ?_)
  have hP : va_P G vwCl (WX7_rhymes K m_a mA_lane mA_many mA_item mA_poem mA_fresh mA_then mA_was mA_tape mA_strengths mA_sounds mA_stand mA_scheme mA_isKept mA_kept mA_trace (0 : Int32) m_status m_acts m_taped m_cursor m_start m_token m_value m_fault m_faultAt m_latest m_stands m_least m_ways m_nearFoot m_nearFeet m_nearCost m_traced m_poem) H := hP
  have hD : va_D A (WX7_rhymes K m_a mA_lane mA_many mA_item mA_poem mA_fresh mA_then mA_was mA_tape mA_strengths mA_sounds mA_stand mA_scheme mA_isKept mA_kept mA_trace (0 : Int32) m_status m_acts m_taped m_cursor m_start m_token m_value m_fault m_faultAt m_latest m_stands m_least m_ways m_nearFoot m_nearFeet m_nearCost m_traced m_poem) := hD
  refine lv_if_eq (tgt := 21) hx hb dX7_rhymes_10 (by decide) (fun c_2 => ?_) (fun c_2 => ?_)
  · rw [if_pos c_2] at hM
    refine lv_ldc (v := -1000001) hx hb hown (hts _ tb877) dX7_rhymes_21 ?_
    have t0 := Option.some.inj hM
    obtain ⟨q1, t1⟩ := Prod.mk.inj t0
    subst q1
    subst t1
    exact kr _ _ _ _ dX7_rhymes_23 hP hD hS
  · rw [if_neg c_2] at hM
    refine lv_aload_n hx hb dX7_rhymes_13 rfl (lv_at hl 0 rfl) ?_
    refine lv_iload_n hx hb dX7_rhymes_14 rfl (lv_at hl 2 rfl) ?_
    obtain ⟨r_3, hC, hM⟩ := oe1 hM
    refine cV_i (As := [.int p2]) (rest := []) C0 hP hD hS [0, 1] (kX7_isLine l G K m_a mA_lane mA_many mA_item mA_poem mA_fresh mA_then mA_was mA_tape mA_strengths mA_sounds mA_stand mA_scheme mA_isKept mA_kept mA_trace (0 : Int32) m_status m_acts m_taped m_cursor m_start m_token m_value m_fault m_faultAt m_latest m_stands m_least m_ways m_nearFoot m_nearFeet m_nearCost m_traced m_poem p2 H.size r_3 hC) rfl rfl rfl tb986 tb988 tp27 tb9 tb989 hdX7_isLine (va_recv hK hP (ci := 7) (q0 := 0) rfl rfl) ⟨Nat.le_of_ble_eq_true rfl, Nat.le_of_ble_eq_true rfl⟩ rfl hl.1 (Nat.le_of_ble_eq_true rfl) rfl ⟨Nat.le_refl _, Nat.le_refl _⟩ dX7_rhymes_15 (fun H locs hP hD hS => ?_)
    have hP : va_P G vwCl (WX7_rhymes K m_a mA_lane mA_many mA_item mA_poem mA_fresh mA_then mA_was mA_tape mA_strengths mA_sounds mA_stand mA_scheme mA_isKept mA_kept mA_trace (0 : Int32) m_status m_acts m_taped m_cursor m_start m_token m_value m_fault m_faultAt m_latest m_stands m_least m_ways m_nearFoot m_nearFeet m_nearCost m_traced m_poem) H := hP
    have hD : va_D A (WX7_rhymes K m_a mA_lane mA_many mA_item mA_poem mA_fresh mA_then mA_was mA_tape mA_strengths mA_sounds mA_stand mA_scheme mA_isKept mA_kept mA_trace (0 : Int32) m_status m_acts m_taped m_cursor m_start m_token m_value m_fault m_faultAt m_latest m_stands m_least m_ways m_nearFoot m_nearFeet m_nearCost m_traced m_poem) := hD
    refine lv_if_ne (tgt := 24) hx hb dX7_rhymes_18 (by decide) (fun c_4 => ?_) (fun c_4 => ?_)
    · rw [if_neg c_4] at hM
      refine lv_aload_n hx hb dX7_rhymes_24 rfl (lv_at hl 0 rfl) ?_
      refine va_get (D := G) (ci := 7) (v := .ref mA_poem) (C := RX7) (T := TX7) (N := 33) hx hb hts inX7 hown hK hP 0 rfl rfl 5 (by decide) (hts _ tb769) (fun _ h9 => h9) rfl dX7_rhymes_25 ?_
      refine lv_aload_n hx hb dX7_rhymes_28 rfl (lv_at hl 0 rfl) ?_
      refine va_get (D := G) (ci := 7) (v := .ref mA_poem) (C := RX7) (T := TX7) (N := 33) hx hb hts inX7 hown hK hP 0 rfl rfl 5 (by decide) (hts _ tb769) (fun _ h9 => h9) rfl dX7_rhymes_29 ?_
      refine lv_iload_n hx hb dX7_rhymes_32 rfl (lv_at hl 1 rfl) ?_
      obtain ⟨r_5, hC, hM⟩ := oe1 hM
      refine cS_i (As := [.ref mA_poem, .int p1]) (rest := [.ref mA_poem]) C0 hP hD hS [1] (kX7_endOf l G K mA_poem m_poem p1 H.size r_5 hC) rfl rfl rfl tb1059 tb1060 tb9 tb1061 hdX7_endOf ⟨Nat.le_of_ble_eq_true rfl, Nat.le_of_ble_eq_true rfl⟩ rfl hl.1 (Nat.le_of_ble_eq_true rfl) rfl ⟨Nat.le_refl _, Nat.le_refl _⟩ dX7_rhymes_33 (fun H locs hP hD hS => ?_)
      have hP : va_P G vwCl (WX7_rhymes K m_a mA_lane mA_many mA_item mA_poem mA_fresh mA_then mA_was mA_tape mA_strengths mA_sounds mA_stand mA_scheme mA_isKept mA_kept mA_trace (0 : Int32) m_status m_acts m_taped m_cursor m_start m_token m_value m_fault m_faultAt m_latest m_stands m_least m_ways m_nearFoot m_nearFeet m_nearCost m_traced m_poem) H := hP
      have hD : va_D A (WX7_rhymes K m_a mA_lane mA_many mA_item mA_poem mA_fresh mA_then mA_was mA_tape mA_strengths mA_sounds mA_stand mA_scheme mA_isKept mA_kept mA_trace (0 : Int32) m_status m_acts m_taped m_cursor m_start m_token m_value m_fault m_faultAt m_latest m_stands m_least m_ways m_nearFoot m_nearFeet m_nearCost m_traced m_poem) := hD
      refine lv_aload_n hx hb dX7_rhymes_36 rfl (lv_at hl 0 rfl) ?_
      refine va_get (D := G) (ci := 7) (v := .ref mA_poem) (C := RX7) (T := TX7) (N := 33) hx hb hts inX7 hown hK hP 0 rfl rfl 5 (by decide) (hts _ tb769) (fun _ h9 => h9) rfl dX7_rhymes_37 ?_
      refine lv_iload_n hx hb dX7_rhymes_40 rfl (lv_at hl 2 rfl) ?_
      obtain ⟨r_6, hC, hM⟩ := oe1 hM
      refine cS_i (As := [.ref mA_poem, .int p2]) (rest := [.int r_5, .ref mA_poem]) C0 hP hD hS [1] (kX7_endOf l G K mA_poem m_poem p2 H.size r_6 hC) rfl rfl rfl tb1059 tb1060 tb9 tb1061 hdX7_endOf ⟨Nat.le_of_ble_eq_true rfl, Nat.le_of_ble_eq_true rfl⟩ rfl hl.1 (Nat.le_of_ble_eq_true rfl) rfl ⟨Nat.le_refl _, Nat.le_refl _⟩ dX7_rhymes_41 (fun H locs hP hD hS => ?_)
      have hP : va_P G vwCl (WX7_rhymes K m_a mA_lane mA_many mA_item mA_poem mA_fresh mA_then mA_was mA_tape mA_strengths mA_sounds mA_stand mA_scheme mA_isKept mA_kept mA_trace (0 : Int32) m_status m_acts m_taped m_cursor m_start m_token m_value m_fault m_faultAt m_latest m_stands m_least m_ways m_nearFoot m_nearFeet m_nearCost m_traced m_poem) H := hP
      have hD : va_D A (WX7_rhymes K m_a mA_lane mA_many mA_item mA_poem mA_fresh mA_then mA_was mA_tape mA_strengths mA_sounds mA_stand mA_scheme mA_isKept mA_kept mA_trace (0 : Int32) m_status m_acts m_taped m_cursor m_start m_token m_value m_fault m_faultAt m_latest m_stands m_least m_ways m_nearFoot m_nearFeet m_nearCost m_traced m_poem) := hD
      obtain ⟨r_7, hC, hM⟩ := oe1 hM
      refine cS_i (As := [.ref mA_poem, .int r_5, .int r_6]) (rest := []) C0 hP hD hS [1] (kX7_areAlike l G K mA_poem m_poem r_5 r_6 H.size r_7 hC) rfl rfl rfl tb1072 tb1073 tb9 tb1074 hdX7_areAlike ⟨Nat.le_of_ble_eq_true rfl, Nat.le_of_ble_eq_true rfl⟩ rfl hl.1 (Nat.le_of_ble_eq_true rfl) rfl ⟨Nat.le_refl _, Nat.le_refl _⟩ dX7_rhymes_44 (fun H locs hP hD hS => ?_)
      have hP : va_P G vwCl (WX7_rhymes K m_a mA_lane mA_many mA_item mA_poem mA_fresh mA_then mA_was mA_tape mA_strengths mA_sounds mA_stand mA_scheme mA_isKept mA_kept mA_trace (0 : Int32) m_status m_acts m_taped m_cursor m_start m_token m_value m_fault m_faultAt m_latest m_stands m_least m_ways m_nearFoot m_nearFeet m_nearCost m_traced m_poem) H := hP
      have hD : va_D A (WX7_rhymes K m_a mA_lane mA_many mA_item mA_poem mA_fresh mA_then mA_was mA_tape mA_strengths mA_sounds mA_stand mA_scheme mA_isKept mA_kept mA_trace (0 : Int32) m_status m_acts m_taped m_cursor m_start m_token m_value m_fault m_faultAt m_latest m_stands m_least m_ways m_nearFoot m_nearFeet m_nearCost m_traced m_poem) := hD
      refine lv_if_eq (tgt := 54) hx hb dX7_rhymes_47 (by decide) (fun c_8 => ?_) (fun c_8 => ?_)
      · rw [if_pos c_8] at hM
        refine lv_iconst (v := 0) hx hb dX7_rhymes_54 (by decide) ?_
        have t0 := Option.some.inj hM
        obtain ⟨q1, t1⟩ := Prod.mk.inj t0
        subst q1
        subst t1
        exact kr _ _ _ _ dX7_rhymes_55 hP hD hS
      · rw [if_neg c_8] at hM
        refine lv_iconst (v := 1) hx hb dX7_rhymes_50 (by decide) ?_
        refine lv_goto (tgt := 55) hx hb dX7_rhymes_51 (by decide) ?_
        have t0 := Option.some.inj hM
        obtain ⟨q1, t1⟩ := Prod.mk.inj t0
        subst q1
        subst t1
        exact kr _ _ _ _ dX7_rhymes_55 hP hD hS
    · rw [if_pos c_4] at hM
      refine lv_ldc (v := -1000001) hx hb hown (hts _ tb877) dX7_rhymes_21 ?_
      have t0 := Option.some.inj hM
      obtain ⟨q1, t1⟩ := Prod.mk.inj t0
      subst q1
      subst t1
      exact kr _ _ _ _ dX7_rhymes_23 hP hD hS
set_option maxHeartbeats 4000000 in
set_option maxRecDepth 100000 in
theorem kX7_rhymes (l : Launch) (G : va_G) (K : Nat → ClassId) (m_a mA_lane mA_many mA_item mA_poem mA_fresh mA_then mA_was mA_tape mA_strengths mA_sounds mA_stand mA_scheme mA_isKept mA_kept mA_trace : Nat) (m_thrown : Int32) (m_status : Int32) (m_acts : Int32) (m_taped : Int32) (m_cursor : Int32) (m_start : Int32) (m_token : Int32) (m_value : Int32) (m_fault : Int32) (m_faultAt : Int32) (m_latest : Int32) (m_stands : Int32) (m_least : Int32) (m_ways : Int32) (m_nearFoot : Int32) (m_nearFeet : Int32) (m_nearCost : Int32) (m_traced : Int32) (m_poem : Nat → Int32) (p1 : Int32) (p2 : Int32) (sz : Nat) (r : Int32) (o_m_thrown : Int32) (hM : mX7_rhymes m_poem m_thrown p1 p2 = some (r, o_m_thrown)) : Met l yX7_rhymes (mC yX7_rhymes cX7_rhymes 3 (some .int)) rmX7_rhymes (va_Pc [.ref m_a, .int p1, .int p2] (PCe G K E0 (WX7_rhymes K m_a mA_lane mA_many mA_item mA_poem mA_fresh mA_then mA_was mA_tape mA_strengths mA_sounds mA_stand mA_scheme mA_isKept mA_kept mA_trace m_thrown m_status m_acts m_taped m_cursor m_start m_token m_value m_fault m_faultAt m_latest m_stands m_least m_ways m_nearFoot m_nearFeet m_nearCost m_traced m_poem) sz)) (va_Qi (fun (x : Int32) (_ : Unit) => x = r) (fun _ t => va_P G vwCl (WX7_rhymes K m_a mA_lane mA_many mA_item mA_poem mA_fresh mA_then mA_was mA_tape mA_strengths mA_sounds mA_stand mA_scheme mA_isKept mA_kept mA_trace o_m_thrown m_status m_acts m_taped m_cursor m_start m_token m_value m_fault m_faultAt m_latest m_stands m_least m_ways m_nearFoot m_nearFeet m_nearCost m_traced m_poem) t.heap) (va_A (WX7_rhymes K m_a mA_lane mA_many mA_item mA_poem mA_fresh mA_then mA_was mA_tape mA_strengths mA_sounds mA_stand mA_scheme mA_isKept mA_kept mA_trace m_thrown m_status m_acts m_taped m_cursor m_start m_token m_value m_fault m_faultAt m_latest m_stands m_least m_ways m_nearFoot m_nearFeet m_nearCost m_traced m_poem) sz)) rmX7_rhymes.cells rmX7_rhymes.slots (va_A (WX7_rhymes K m_a mA_lane mA_many mA_item mA_poem mA_fresh mA_then mA_was mA_tape mA_strengths mA_sounds mA_stand mA_scheme mA_isKept mA_kept mA_trace m_thrown m_status m_acts m_taped m_cursor m_start m_token m_value m_fault m_faultAt m_latest m_stands m_least m_ways m_nearFoot m_nearFeet m_nearCost m_traced m_poem) sz) := by
  refine Met.ofW (cc := cX7_rhymes) (maxL := 3) (ret := (some .int)) (by decide) rfl ?_
  intro p e s m args below meth c s₁ B hml hv
  obtain ⟨rfl, hsz, hP, hK, hD0, hE⟩ := hv
  have hx := B.exec
  have hb := B.bytes
  have hr := B.returns
  have hts0 := atoms_spec (ws := mC yX7_rhymes cX7_rhymes 3 (some .int)) B.pre
  have hts : ∀ w ∈ tbG, w.before _ s = true := fun w h => hts0 w (List.mem_cons_of_mem _ h)
  have hown : s.vm.findClass RX7 = some m.cls := findClass_of_methodNamed B.named
  subst hsz
  have hD := hD0.self (sz := s.heap.size)
  generalize hAe : va_A (WX7_rhymes K m_a mA_lane mA_many mA_item mA_poem mA_fresh mA_then mA_was mA_tape mA_strengths mA_sounds mA_stand mA_scheme mA_isKept mA_kept mA_trace m_thrown m_status m_acts m_taped m_cursor m_start m_token m_value m_fault m_faultAt m_latest m_stands m_least m_ways m_nearFoot m_nearFeet m_nearCost m_traced m_poem) s.heap.size = A at hD hE ⊢
  have hA : ∀ q : Nat, s.heap.size ≤ q → A q := fun q h => by rw [← hAe]; exact Or.inr h
  have hS : va_S A s.heap s.heap [] := va_S.rf
  have hl := lv_entry ([.ref m_a, .int p1, .int p2]) (n := 3) (Nat.le_of_ble_eq_true rfl)
  rw [lg_entry_eq]
  generalize (lg_sl ([.ref m_a, .int p1, .int p2]) ++ List.replicate (3 - (lg_sl ([.ref m_a, .int p1, .int p2])).length) Slot.unset).toArray = ls at hl ⊢
  have hl : lv_has ls 3 [(0, .ref m_a), (1, .int p1), (2, .int p2)] := hl
  exact wX7_rhymes_b0 ⟨hx, hb, hml, hown, hts, hK, hA, E0_ok, hE⟩ m_a mA_lane mA_many mA_item mA_poem mA_fresh mA_then mA_was mA_tape mA_strengths mA_sounds mA_stand mA_scheme mA_isKept mA_kept mA_trace m_status m_acts m_taped m_cursor m_start m_token m_value m_fault m_faultAt m_latest m_stands m_least m_ways m_nearFoot m_nearFeet m_nearCost m_traced m_poem p1 p2 r o_m_thrown (fun H locs ls pc hdg hP hD hS => W.iret (v := r) hx hb hr (fun t ht hW => ⟨⟨r, (), rfl, rfl, (show va_P G vwCl _ t.heap by rw [ht]; exact hP)⟩, hS.F ht⟩) hS.2.2 hdg) m_thrown  hM _ _ _ hP hD hS hl
abbrev WX7_ends (K : Nat → ClassId) (m_a mA_lane mA_many mA_item mA_poem mA_fresh mA_then mA_was mA_tape mA_strengths mA_sounds mA_stand mA_scheme mA_isKept mA_kept mA_trace : Nat) (m_thrown : Int32) (m_status : Int32) (m_acts : Int32) (m_taped : Int32) (m_cursor : Int32) (m_start : Int32) (m_token : Int32) (m_value : Int32) (m_fault : Int32) (m_faultAt : Int32) (m_latest : Int32) (m_stands : Int32) (m_least : Int32) (m_ways : Int32) (m_nearFoot : Int32) (m_nearFeet : Int32) (m_nearCost : Int32) (m_traced : Int32) (m_poem : Nat → Int32) : va_W := [(m_a, .inr (7, [.int m_thrown, .int m_status, .ref mA_lane, .ref mA_many, .ref mA_item, .ref mA_poem, .ref mA_fresh, .ref mA_then, .ref mA_was, .int m_acts, .ref mA_tape, .int m_taped, .int m_cursor, .int m_start, .int m_token, .int m_value, .int m_fault, .int m_faultAt, .int m_latest, .ref mA_strengths, .ref mA_sounds, .ref mA_stand, .int m_stands, .int m_least, .int m_ways, .ref mA_scheme, .int m_nearFoot, .int m_nearFeet, .int m_nearCost, .ref mA_isKept, .ref mA_kept, .ref mA_trace, .int m_traced])), aI K mA_poem 207 m_poem]
def rmX7_ends : Room := { frames := 9, cells := 0, slots := 0, locals := 202 }
theorem hdX7_ends : yX7_ends.cls = RX7 ∧ yX7_ends.cls ≠ "java/lang/invoke/MethodHandle" ∧ yX7_ends.cls ≠ "java/lang/invoke/VarHandle" ∧ (parseMethodDescriptor yX7_ends.desc).map (fun d => d.parameters.length) = some 2 := by decide +kernel
set_option maxHeartbeats 4000000 in
set_option maxRecDepth 100000 in
theorem wX7_ends_b34 {p : Program} {l : Launch} {e : Env} {s : State} {m : MethodId} {args : Array Value} {below : List Frame} {meth : Method} {c : Code} {Q : State → Prop} {G : va_G} {K : Nat → ClassId} {A : Nat → Prop} (C0 : CX p s m args c cX7_ends 5 RX7 G K E0 A) (m_a mA_lane mA_many mA_item mA_poem mA_fresh mA_then mA_was mA_tape mA_strengths mA_sounds mA_stand mA_scheme mA_isKept mA_kept mA_trace : Nat) (m_status : Int32) (m_acts : Int32) (m_taped : Int32) (m_cursor : Int32) (m_start : Int32) (m_token : Int32) (m_value : Int32) (m_fault : Int32) (m_faultAt : Int32) (m_latest : Int32) (m_stands : Int32) (m_least : Int32) (m_ways : Int32) (m_nearFoot : Int32) (m_nearFeet : Int32) (m_nearCost : Int32) (m_traced : Int32) (m_poem : Nat → Int32) (p1 : Int32) (p2 : Int32) (r : Int32) (o_m_thrown : Int32) (kr : ∀ (H : Heap) (locs : List Loc) (ls : Array Slot) (pc : Nat), decode cX7_ends pc = .ok (.ireturn, 1) → va_P G vwCl (WX7_ends K m_a mA_lane mA_many mA_item mA_poem mA_fresh mA_then mA_was mA_tape mA_strengths mA_sounds mA_stand mA_scheme mA_isKept mA_kept mA_trace o_m_thrown m_status m_acts m_taped m_cursor m_start m_token m_value m_fault m_faultAt m_latest m_stands m_least m_ways m_nearFoot m_nearFeet m_nearCost m_traced m_poem) H → va_D A (WX7_ends K m_a mA_lane mA_many mA_item mA_poem mA_fresh mA_then mA_was mA_tape mA_strengths mA_sounds mA_stand mA_scheme mA_isKept mA_kept mA_trace o_m_thrown m_status m_acts m_taped m_cursor m_start m_token m_value m_fault m_faultAt m_latest m_stands m_least m_ways m_nearFoot m_nearFeet m_nearCost m_traced m_poem) → va_S A s.heap H locs → W p l e rmX7_ends s m args below meth c H locs 0 0 Q (F0 m pc ls [.int r])) (n : Nat) : ∀ (m_thrown : Int32) (x3 : Int32) (x4 : Int32), mX7_ends_b34 m_poem p1 p2  n m_thrown x3 x4 = some (r, o_m_thrown) → ∀ (H : Heap) (locs : List Loc) (ls : Array Slot), va_P G vwCl (WX7_ends K m_a mA_lane mA_many mA_item mA_poem mA_fresh mA_then mA_was mA_tape mA_strengths mA_sounds mA_stand mA_scheme mA_isKept mA_kept mA_trace m_thrown m_status m_acts m_taped m_cursor m_start m_token m_value m_fault m_faultAt m_latest m_stands m_least m_ways m_nearFoot m_nearFeet m_nearCost m_traced m_poem) H → va_D A (WX7_ends K m_a mA_lane mA_many mA_item mA_poem mA_fresh mA_then mA_was mA_tape mA_strengths mA_sounds mA_stand mA_scheme mA_isKept mA_kept mA_trace m_thrown m_status m_acts m_taped m_cursor m_start m_token m_value m_fault m_faultAt m_latest m_stands m_least m_ways m_nearFoot m_nearFeet m_nearCost m_traced m_poem) → va_S A s.heap H locs → lv_has ls 5 [(0, .ref m_a), (2, .int p2), (3, .int x3), (4, .int x4)] → W p l e rmX7_ends s m args below meth c H locs 0 0 Q (F0 m 34 ls []) := by
  obtain ⟨hx, hb, hml, hown, hts, hK, hA, hEo, hE⟩ := id C0
  induction n with
  | zero =>
    intro m_thrown x3 x4 hM
    cases hM
  | succ n ih =>
    intro m_thrown x3 x4 hM H locs ls hP hD hS hl
    rw [mX7_ends_b34] at hM
    refine lv_iload hx hb dX7_ends_34 (lv_at hl 3 rfl) ?_
    refine lv_aload_n hx hb dX7_ends_36 rfl (lv_at hl 0 rfl) ?_
    refine va_get (D := G) (ci := 7) (v := .ref mA_poem) (C := RX7) (T := TX7) (N := 33) hx hb hts inX7 hown hK hP 0 rfl rfl 5 (by decide) (hts _ tb769) (fun _ h9 => h9) rfl dX7_ends_37 ?_
    obtain ⟨r_1, hC, hM⟩ := oe1 hM
    refine cS_i (As := [.ref mA_poem]) (rest := [.int x4]) C0 hP hD hS [1] (kX7_wordsOf l G K mA_poem m_poem H.size r_1 hC) rfl rfl rfl tb951 tb952 tb9 tb953 hdX7_wordsOf ⟨Nat.le_of_ble_eq_true rfl, Nat.le_of_ble_eq_true rfl⟩ rfl hl.1 (Nat.le_of_ble_eq_true rfl) rfl ⟨Nat.le_refl _, Nat.le_refl _⟩ dX7_ends_40 (fun H locs hP hD hS => ?_)
    have hP : va_P G vwCl (WX7_ends K m_a mA_lane mA_many mA_item mA_poem mA_fresh mA_then mA_was mA_tape mA_strengths mA_sounds mA_stand mA_scheme mA_isKept mA_kept mA_trace m_thrown m_status m_acts m_taped m_cursor m_start m_token m_value m_fault m_faultAt m_latest m_stands m_least m_ways m_nearFoot m_nearFeet m_nearCost m_traced m_poem) H := hP
    have hD : va_D A (WX7_ends K m_a mA_lane mA_many mA_item mA_poem mA_fresh mA_then mA_was mA_tape mA_strengths mA_sounds mA_stand mA_scheme mA_isKept mA_kept mA_trace m_thrown m_status m_acts m_taped m_cursor m_start m_token m_value m_fault m_faultAt m_latest m_stands m_least m_ways m_nearFoot m_nearFeet m_nearCost m_traced m_poem) := hD
    refine lv_icmp_ge (tgt := 83) hx hb dX7_ends_43 (by decide) (fun c_2 => ?_) (fun c_2 => ?_)
    · rw [if_pos c_2] at hM
      refine lv_iload_n hx hb dX7_ends_83 rfl (lv_at hl 2 rfl) ?_
      have t0 := Option.some.inj hM
      obtain ⟨q1, t1⟩ := Prod.mk.inj t0
      subst q1
      subst t1
      exact kr _ _ _ _ dX7_ends_84 hP hD hS
    · rw [if_neg c_2] at hM
      refine lv_iload_n hx hb dX7_ends_46 rfl (lv_at hl 2 rfl) ?_
      refine lv_aload_n hx hb dX7_ends_47 rfl (lv_at hl 0 rfl) ?_
      refine va_get (D := G) (ci := 7) (v := .ref mA_poem) (C := RX7) (T := TX7) (N := 33) hx hb hts inX7 hown hK hP 0 rfl rfl 5 (by decide) (hts _ tb769) (fun _ h9 => h9) rfl dX7_ends_48 ?_
      refine lv_iload hx hb dX7_ends_51 (lv_at hl 3 rfl) ?_
      refine lv_aload_n hx hb dX7_ends_53 rfl (lv_at hl 0 rfl) ?_
      refine va_get (D := G) (ci := 7) (v := .ref mA_poem) (C := RX7) (T := TX7) (N := 33) hx hb hts inX7 hown hK hP 0 rfl rfl 5 (by decide) (hts _ tb769) (fun _ h9 => h9) rfl dX7_ends_54 ?_
      refine lv_iload_n hx hb dX7_ends_57 rfl (lv_at hl 1 rfl) ?_
      obtain ⟨r_3, hC, hM⟩ := oe1 hM
      refine cS_i (As := [.ref mA_poem, .int p2]) (rest := [.int x4, .ref mA_poem, .int x3]) C0 hP hD hS [1] (kX7_endOf l G K mA_poem m_poem p2 H.size r_3 hC) rfl rfl rfl tb1059 tb1060 tb9 tb1061 hdX7_endOf ⟨Nat.le_of_ble_eq_true rfl, Nat.le_of_ble_eq_true rfl⟩ rfl hl.1 (Nat.le_of_ble_eq_true rfl) rfl ⟨Nat.le_refl _, Nat.le_refl _⟩ dX7_ends_58 (fun H locs hP hD hS => ?_)
      have hP : va_P G vwCl (WX7_ends K m_a mA_lane mA_many mA_item mA_poem mA_fresh mA_then mA_was mA_tape mA_strengths mA_sounds mA_stand mA_scheme mA_isKept mA_kept mA_trace m_thrown m_status m_acts m_taped m_cursor m_start m_token m_value m_fault m_faultAt m_latest m_stands m_least m_ways m_nearFoot m_nearFeet m_nearCost m_traced m_poem) H := hP
      have hD : va_D A (WX7_ends K m_a mA_lane mA_many mA_item mA_poem mA_fresh mA_then mA_was mA_tape mA_strengths mA_sounds mA_stand mA_scheme mA_isKept mA_kept mA_trace m_thrown m_status m_acts m_taped m_cursor m_start m_token m_value m_fault m_faultAt m_latest m_stands m_least m_ways m_nearFoot m_nearFeet m_nearCost m_traced m_poem) := hD
      obtain ⟨r_4, hC, hM⟩ := oe1 hM
      refine cS_i (As := [.ref mA_poem, .int x4, .int r_3]) (rest := [.int x3]) C0 hP hD hS [1] (kX7_areAlike l G K mA_poem m_poem x4 r_3 H.size r_4 hC) rfl rfl rfl tb1072 tb1073 tb9 tb1074 hdX7_areAlike ⟨Nat.le_of_ble_eq_true rfl, Nat.le_of_ble_eq_true rfl⟩ rfl hl.1 (Nat.le_of_ble_eq_true rfl) rfl ⟨Nat.le_refl _, Nat.le_refl _⟩ dX7_ends_61 (fun H locs hP hD hS => ?_)
      have hP : va_P G vwCl (WX7_ends K m_a mA_lane mA_many mA_item mA_poem mA_fresh mA_then mA_was mA_tape mA_strengths mA_sounds mA_stand mA_scheme mA_isKept mA_kept mA_trace m_thrown m_status m_acts m_taped m_cursor m_start m_token m_value m_fault m_faultAt m_latest m_stands m_least m_ways m_nearFoot m_nearFeet m_nearCost m_traced m_poem) H := hP
      have hD : va_D A (WX7_ends K m_a mA_lane mA_many mA_item mA_poem mA_fresh mA_then mA_was mA_tape mA_strengths mA_sounds mA_stand mA_scheme mA_isKept mA_kept mA_trace m_thrown m_status m_acts m_taped m_cursor m_start m_token m_value m_fault m_faultAt m_latest m_stands m_least m_ways m_nearFoot m_nearFeet m_nearCost m_traced m_poem) := hD
      refine lv_if_eq (tgt := 74) hx hb dX7_ends_64 (by decide) (fun c_5 => ?_) (fun c_5 => ?_)
      · rw [if_pos c_5] at hM
        refine lv_iconst (v := 0) hx hb dX7_ends_74 (by decide) ?_
        refine lv_ior hx hb dX7_ends_75 ?_
        refine lv_istore_n (lv' := [(3, .int (x3 ||| (0 : Int32))), (0, .ref m_a), (2, .int p2), (4, .int x4)]) hx hb dX7_ends_76 rfl hl (by decide) rfl (fun ls hl => ?_)
        refine lv_iinc (v := (x4 + 1)) (lv' := [(4, .int (x4 + 1)), (3, .int (x3 ||| (0 : Int32))), (0, .ref m_a), (2, .int p2)]) hx hb dX7_ends_77 hl (k := 3) rfl rfl (by decide) rfl (fun ls hl => ?_)
        refine lv_goto (tgt := 34) hx hb dX7_ends_80 (by decide) ?_
        exact ih m_thrown (x3 ||| (0 : Int32)) (x4 + 1) hM _ _ _ hP hD hS (lv_sub hl [2, 3, 1, 0] rfl)
      · rw [if_neg c_5] at hM
        refine lv_iconst (v := 1) hx hb dX7_ends_67 (by decide) ?_
        refine lv_iload hx hb dX7_ends_68 (lv_at hl 3 rfl) ?_
        refine lv_ishl hx hb dX7_ends_70 ?_
        refine lv_goto (tgt := 75) hx hb dX7_ends_71 (by decide) ?_
        refine lv_ior hx hb dX7_ends_75 ?_
        refine lv_istore_n (lv' := [(3, .int (x3 ||| ((1 : Int32) <<< (x4 &&& 31)))), (0, .ref m_a), (2, .int p2), (4, .int x4)]) hx hb dX7_ends_76 rfl hl (by decide) rfl (fun ls hl => ?_)
        refine lv_iinc (v := (x4 + 1)) (lv' := [(4, .int (x4 + 1)), (3, .int (x3 ||| ((1 : Int32) <<< (x4 &&& 31)))), (0, .ref m_a), (2, .int p2)]) hx hb dX7_ends_77 hl (k := 3) rfl rfl (by decide) rfl (fun ls hl => ?_)
        refine lv_goto (tgt := 34) hx hb dX7_ends_80 (by decide) ?_
        exact ih m_thrown (x3 ||| ((1 : Int32) <<< (x4 &&& 31))) (x4 + 1) hM _ _ _ hP hD hS (lv_sub hl [2, 3, 1, 0] rfl)
set_option maxHeartbeats 4000000 in
set_option maxRecDepth 100000 in
theorem wX7_ends_b0 {p : Program} {l : Launch} {e : Env} {s : State} {m : MethodId} {args : Array Value} {below : List Frame} {meth : Method} {c : Code} {Q : State → Prop} {G : va_G} {K : Nat → ClassId} {A : Nat → Prop} (C0 : CX p s m args c cX7_ends 5 RX7 G K E0 A) (m_a mA_lane mA_many mA_item mA_poem mA_fresh mA_then mA_was mA_tape mA_strengths mA_sounds mA_stand mA_scheme mA_isKept mA_kept mA_trace : Nat) (m_status : Int32) (m_acts : Int32) (m_taped : Int32) (m_cursor : Int32) (m_start : Int32) (m_token : Int32) (m_value : Int32) (m_fault : Int32) (m_faultAt : Int32) (m_latest : Int32) (m_stands : Int32) (m_least : Int32) (m_ways : Int32) (m_nearFoot : Int32) (m_nearFeet : Int32) (m_nearCost : Int32) (m_traced : Int32) (m_poem : Nat → Int32) (p1 : Int32) (p2 : Int32) (r : Int32) (o_m_thrown : Int32) (kr : ∀ (H : Heap) (locs : List Loc) (ls : Array Slot) (pc : Nat), decode cX7_ends pc = .ok (.ireturn, 1) → va_P G vwCl (WX7_ends K m_a mA_lane mA_many mA_item mA_poem mA_fresh mA_then mA_was mA_tape mA_strengths mA_sounds mA_stand mA_scheme mA_isKept mA_kept mA_trace o_m_thrown m_status m_acts m_taped m_cursor m_start m_token m_value m_fault m_faultAt m_latest m_stands m_least m_ways m_nearFoot m_nearFeet m_nearCost m_traced m_poem) H → va_D A (WX7_ends K m_a mA_lane mA_many mA_item mA_poem mA_fresh mA_then mA_was mA_tape mA_strengths mA_sounds mA_stand mA_scheme mA_isKept mA_kept mA_trace o_m_thrown m_status m_acts m_taped m_cursor m_start m_token m_value m_fault m_faultAt m_latest m_stands m_least m_ways m_nearFoot m_nearFeet m_nearCost m_traced m_poem) → va_S A s.heap H locs → W p l e rmX7_ends s m args below meth c H locs 0 0 Q (F0 m pc ls [.int r])) (m_thrown : Int32) (hM : mX7_ends_b0 m_poem p1 p2  m_thrown = some (r, o_m_thrown)) : ∀ (H : Heap) (locs : List Loc) (ls : Array Slot), va_P G vwCl (WX7_ends K m_a mA_lane mA_many mA_item mA_poem mA_fresh mA_then mA_was mA_tape mA_strengths mA_sounds mA_stand mA_scheme mA_isKept mA_kept mA_trace m_thrown m_status m_acts m_taped m_cursor m_start m_token m_value m_fault m_faultAt m_latest m_stands m_least m_ways m_nearFoot m_nearFeet m_nearCost m_traced m_poem) H → va_D A (WX7_ends K m_a mA_lane mA_many mA_item mA_poem mA_fresh mA_then mA_was mA_tape mA_strengths mA_sounds mA_stand mA_scheme mA_isKept mA_kept mA_trace m_thrown m_status m_acts m_taped m_cursor m_start m_token m_value m_fault m_faultAt m_latest m_stands m_least m_ways m_nearFoot m_nearFeet m_nearCost m_traced m_poem) → va_S A s.heap H locs → lv_has ls 5 [(0, .ref m_a), (1, .int p1), (2, .int p2)] → W p l e rmX7_ends s m args below meth c H locs 0 0 Q (F0 m 0 ls []) := by
  obtain ⟨hx, hb, hml, hown, hts, hK, hA, hEo, hE⟩ := id C0
  intro H locs ls hP hD hS hl
  unfold mX7_ends_b0 at hM
  refine lv_aload_n hx hb dX7_ends_0 rfl (lv_at hl 0 rfl) ?_
  refine lv_iconst (v := 0) hx hb dX7_ends_1 (by decide) ?_
  refine va_put (D := G) (ci := 7) (v := .int (0 : Int32)) (ty := .int) (C := RX7) (T := TX7) (N := 33) hx hb hts inX7 tyX7 tyX7_ok nmX7 hown hK hP hD hS 0 rfl rfl 0 (by decide) (hts _ tb764) (fun _ h9 => h9) rfl (tyX7_ok 0 (by decide)) rfl rfl (Nat.le_of_ble_eq_true rfl) dX7_ends_2 (fun H locs hP hD hS => ?_)
  have hP : va_P G vwCl (WX7_ends K m_a mA_lane mA_many mA_item mA_poem mA_fresh mA_then mA_was mA_tape mA_strengths mA_sounds mA_stand mA_scheme mA_isKept mA_kept mA_trace (0 : Int32) m_status m_acts m_taped m_cursor m_start m_token m_value m_fault m_faultAt m_latest m_stands m_least m_ways m_nearFoot m_nearFeet m_nearCost m_traced m_poem) H := hP
  have hD : va_D A (WX7_ends K m_a mA_lane mA_many mA_item mA_poem mA_fresh mA_then mA_was mA_tape mA_strengths mA_sounds mA_stand mA_scheme mA_isKept mA_kept mA_trace (0 : Int32) m_status m_acts m_taped m_cursor m_start m_token m_value m_fault m_faultAt m_latest m_stands m_least m_ways m_nearFoot m_nearFeet m_nearCost m_traced m_poem) := hD
  refine lv_aload_n hx hb dX7_ends_5 rfl (lv_at hl 0 rfl) ?_
  refine lv_iload_n hx hb dX7_ends_6 rfl (lv_at hl 1 rfl) ?_
  obtain ⟨r_6, hC, hM⟩ := oe1 hM
  refine cV_i (As := [.int p1]) (rest := []) C0 hP hD hS [0, 1] (kX7_isLine l G K m_a mA_lane mA_many mA_item mA_poem mA_fresh mA_then mA_was mA_tape mA_strengths mA_sounds mA_stand mA_scheme mA_isKept mA_kept mA_trace (0 : Int32) m_status m_acts m_taped m_cursor m_start m_token m_value m_fault m_faultAt m_latest m_stands m_least m_ways m_nearFoot m_nearFeet m_nearCost m_traced m_poem p1 H.size r_6 hC) rfl rfl rfl tb986 tb988 tp27 tb9 tb989 hdX7_isLine (va_recv hK hP (ci := 7) (q0 := 0) rfl rfl) ⟨Nat.le_of_ble_eq_true rfl, Nat.le_of_ble_eq_true rfl⟩ rfl hl.1 (Nat.le_of_ble_eq_true rfl) rfl ⟨Nat.le_refl _, Nat.le_refl _⟩ dX7_ends_7 (fun H locs hP hD hS => ?_)
  have hP : va_P G vwCl (WX7_ends K m_a mA_lane mA_many mA_item mA_poem mA_fresh mA_then mA_was mA_tape mA_strengths mA_sounds mA_stand mA_scheme mA_isKept mA_kept mA_trace (0 : Int32) m_status m_acts m_taped m_cursor m_start m_token m_value m_fault m_faultAt m_latest m_stands m_least m_ways m_nearFoot m_nearFeet m_nearCost m_traced m_poem) H := hP
  have hD : va_D A (WX7_ends K m_a mA_lane mA_many mA_item mA_poem mA_fresh mA_then mA_was mA_tape mA_strengths mA_sounds mA_stand mA_scheme mA_isKept mA_kept mA_trace (0 : Int32) m_status m_acts m_taped m_cursor m_start m_token m_value m_fault m_faultAt m_latest m_stands m_least m_ways m_nearFoot m_nearFeet m_nearCost m_traced m_poem) := hD
  refine lv_if_eq (tgt := 26) hx hb dX7_ends_10 (by decide) (fun c_7 => ?_) (fun c_7 => ?_)
  · rw [if_pos c_7] at hM
    refine lv_ldc (v := -1000001) hx hb hown (hts _ tb877) dX7_ends_26 ?_
    have t0 := Option.some.inj hM
    obtain ⟨q1, t1⟩ := Prod.mk.inj t0
    subst q1
    subst t1
    exact kr _ _ _ _ dX7_ends_28 hP hD hS
  · rw [if_neg c_7] at hM
    refine lv_aload_n hx hb dX7_ends_13 rfl (lv_at hl 0 rfl) ?_
    refine lv_iload_n hx hb dX7_ends_14 rfl (lv_at hl 2 rfl) ?_
    obtain ⟨r_8, hC, hM⟩ := oe1 hM
    refine cV_i (As := [.int p2]) (rest := []) C0 hP hD hS [0, 1] (kX7_isLine l G K m_a mA_lane mA_many mA_item mA_poem mA_fresh mA_then mA_was mA_tape mA_strengths mA_sounds mA_stand mA_scheme mA_isKept mA_kept mA_trace (0 : Int32) m_status m_acts m_taped m_cursor m_start m_token m_value m_fault m_faultAt m_latest m_stands m_least m_ways m_nearFoot m_nearFeet m_nearCost m_traced m_poem p2 H.size r_8 hC) rfl rfl rfl tb986 tb988 tp27 tb9 tb989 hdX7_isLine (va_recv hK hP (ci := 7) (q0 := 0) rfl rfl) ⟨Nat.le_of_ble_eq_true rfl, Nat.le_of_ble_eq_true rfl⟩ rfl hl.1 (Nat.le_of_ble_eq_true rfl) rfl ⟨Nat.le_refl _, Nat.le_refl _⟩ dX7_ends_15 (fun H locs hP hD hS => ?_)
    have hP : va_P G vwCl (WX7_ends K m_a mA_lane mA_many mA_item mA_poem mA_fresh mA_then mA_was mA_tape mA_strengths mA_sounds mA_stand mA_scheme mA_isKept mA_kept mA_trace (0 : Int32) m_status m_acts m_taped m_cursor m_start m_token m_value m_fault m_faultAt m_latest m_stands m_least m_ways m_nearFoot m_nearFeet m_nearCost m_traced m_poem) H := hP
    have hD : va_D A (WX7_ends K m_a mA_lane mA_many mA_item mA_poem mA_fresh mA_then mA_was mA_tape mA_strengths mA_sounds mA_stand mA_scheme mA_isKept mA_kept mA_trace (0 : Int32) m_status m_acts m_taped m_cursor m_start m_token m_value m_fault m_faultAt m_latest m_stands m_least m_ways m_nearFoot m_nearFeet m_nearCost m_traced m_poem) := hD
    refine lv_if_eq (tgt := 26) hx hb dX7_ends_18 (by decide) (fun c_9 => ?_) (fun c_9 => ?_)
    · rw [if_pos c_9] at hM
      refine lv_ldc (v := -1000001) hx hb hown (hts _ tb877) dX7_ends_26 ?_
      have t0 := Option.some.inj hM
      obtain ⟨q1, t1⟩ := Prod.mk.inj t0
      subst q1
      subst t1
      exact kr _ _ _ _ dX7_ends_28 hP hD hS
    · rw [if_neg c_9] at hM
      refine lv_iload_n hx hb dX7_ends_21 rfl (lv_at hl 1 rfl) ?_
      refine lv_iload_n hx hb dX7_ends_22 rfl (lv_at hl 2 rfl) ?_
      refine lv_icmp_ne (tgt := 29) hx hb dX7_ends_23 (by decide) (fun c_10 => ?_) (fun c_10 => ?_)
      · rw [if_neg c_10] at hM
        refine lv_iconst (v := 0) hx hb dX7_ends_29 (by decide) ?_
        refine lv_istore_n (lv' := [(3, .int (0 : Int32)), (0, .ref m_a), (1, .int p1), (2, .int p2)]) hx hb dX7_ends_30 rfl hl (by decide) rfl (fun ls hl => ?_)
        refine lv_iconst (v := 0) hx hb dX7_ends_31 (by decide) ?_
        refine lv_istore (lv' := [(4, .int (0 : Int32)), (3, .int (0 : Int32)), (0, .ref m_a), (1, .int p1), (2, .int p2)]) hx hb dX7_ends_32 hl (by decide) rfl (fun ls hl => ?_)
        exact wX7_ends_b34 C0 m_a mA_lane mA_many mA_item mA_poem mA_fresh mA_then mA_was mA_tape mA_strengths mA_sounds mA_stand mA_scheme mA_isKept mA_kept mA_trace m_status m_acts m_taped m_cursor m_start m_token m_value m_fault m_faultAt m_latest m_stands m_least m_ways m_nearFoot m_nearFeet m_nearCost m_traced m_poem p1 p2 r o_m_thrown kr  FU (0 : Int32) (0 : Int32) (0 : Int32) hM _ _ _ hP hD hS (lv_sub hl [2, 4, 1, 0] rfl)
      · rw [if_pos c_10] at hM
        refine lv_ldc (v := -1000001) hx hb hown (hts _ tb877) dX7_ends_26 ?_
        have t0 := Option.some.inj hM
        obtain ⟨q1, t1⟩ := Prod.mk.inj t0
        subst q1
        subst t1
        exact kr _ _ _ _ dX7_ends_28 hP hD hS
set_option maxHeartbeats 4000000 in
set_option maxRecDepth 100000 in
theorem kX7_ends (l : Launch) (G : va_G) (K : Nat → ClassId) (m_a mA_lane mA_many mA_item mA_poem mA_fresh mA_then mA_was mA_tape mA_strengths mA_sounds mA_stand mA_scheme mA_isKept mA_kept mA_trace : Nat) (m_thrown : Int32) (m_status : Int32) (m_acts : Int32) (m_taped : Int32) (m_cursor : Int32) (m_start : Int32) (m_token : Int32) (m_value : Int32) (m_fault : Int32) (m_faultAt : Int32) (m_latest : Int32) (m_stands : Int32) (m_least : Int32) (m_ways : Int32) (m_nearFoot : Int32) (m_nearFeet : Int32) (m_nearCost : Int32) (m_traced : Int32) (m_poem : Nat → Int32) (p1 : Int32) (p2 : Int32) (sz : Nat) (r : Int32) (o_m_thrown : Int32) (hM : mX7_ends m_poem m_thrown p1 p2 = some (r, o_m_thrown)) : Met l yX7_ends (mC yX7_ends cX7_ends 5 (some .int)) rmX7_ends (va_Pc [.ref m_a, .int p1, .int p2] (PCe G K E0 (WX7_ends K m_a mA_lane mA_many mA_item mA_poem mA_fresh mA_then mA_was mA_tape mA_strengths mA_sounds mA_stand mA_scheme mA_isKept mA_kept mA_trace m_thrown m_status m_acts m_taped m_cursor m_start m_token m_value m_fault m_faultAt m_latest m_stands m_least m_ways m_nearFoot m_nearFeet m_nearCost m_traced m_poem) sz)) (va_Qi (fun (x : Int32) (_ : Unit) => x = r) (fun _ t => va_P G vwCl (WX7_ends K m_a mA_lane mA_many mA_item mA_poem mA_fresh mA_then mA_was mA_tape mA_strengths mA_sounds mA_stand mA_scheme mA_isKept mA_kept mA_trace o_m_thrown m_status m_acts m_taped m_cursor m_start m_token m_value m_fault m_faultAt m_latest m_stands m_least m_ways m_nearFoot m_nearFeet m_nearCost m_traced m_poem) t.heap) (va_A (WX7_ends K m_a mA_lane mA_many mA_item mA_poem mA_fresh mA_then mA_was mA_tape mA_strengths mA_sounds mA_stand mA_scheme mA_isKept mA_kept mA_trace m_thrown m_status m_acts m_taped m_cursor m_start m_token m_value m_fault m_faultAt m_latest m_stands m_least m_ways m_nearFoot m_nearFeet m_nearCost m_traced m_poem) sz)) rmX7_ends.cells rmX7_ends.slots (va_A (WX7_ends K m_a mA_lane mA_many mA_item mA_poem mA_fresh mA_then mA_was mA_tape mA_strengths mA_sounds mA_stand mA_scheme mA_isKept mA_kept mA_trace m_thrown m_status m_acts m_taped m_cursor m_start m_token m_value m_fault m_faultAt m_latest m_stands m_least m_ways m_nearFoot m_nearFeet m_nearCost m_traced m_poem) sz) := by
  refine Met.ofW (cc := cX7_ends) (maxL := 5) (ret := (some .int)) (by decide) rfl ?_
  intro p e s m args below meth c s₁ B hml hv
  obtain ⟨rfl, hsz, hP, hK, hD0, hE⟩ := hv
  have hx := B.exec
  have hb := B.bytes
  have hr := B.returns
  have hts0 := atoms_spec (ws := mC yX7_ends cX7_ends 5 (some .int)) B.pre
  have hts : ∀ w ∈ tbG, w.before _ s = true := fun w h => hts0 w (List.mem_cons_of_mem _ h)
  have hown : s.vm.findClass RX7 = some m.cls := findClass_of_methodNamed B.named
  subst hsz
  have hD := hD0.self (sz := s.heap.size)
  generalize hAe : va_A (WX7_ends K m_a mA_lane mA_many mA_item mA_poem mA_fresh mA_then mA_was mA_tape mA_strengths mA_sounds mA_stand mA_scheme mA_isKept mA_kept mA_trace m_thrown m_status m_acts m_taped m_cursor m_start m_token m_value m_fault m_faultAt m_latest m_stands m_least m_ways m_nearFoot m_nearFeet m_nearCost m_traced m_poem) s.heap.size = A at hD hE ⊢
  have hA : ∀ q : Nat, s.heap.size ≤ q → A q := fun q h => by rw [← hAe]; exact Or.inr h
  have hS : va_S A s.heap s.heap [] := va_S.rf
  have hl := lv_entry ([.ref m_a, .int p1, .int p2]) (n := 5) (Nat.le_of_ble_eq_true rfl)
  rw [lg_entry_eq]
  generalize (lg_sl ([.ref m_a, .int p1, .int p2]) ++ List.replicate (5 - (lg_sl ([.ref m_a, .int p1, .int p2])).length) Slot.unset).toArray = ls at hl ⊢
  have hl : lv_has ls 5 [(0, .ref m_a), (1, .int p1), (2, .int p2)] := hl
  exact wX7_ends_b0 ⟨hx, hb, hml, hown, hts, hK, hA, E0_ok, hE⟩ m_a mA_lane mA_many mA_item mA_poem mA_fresh mA_then mA_was mA_tape mA_strengths mA_sounds mA_stand mA_scheme mA_isKept mA_kept mA_trace m_status m_acts m_taped m_cursor m_start m_token m_value m_fault m_faultAt m_latest m_stands m_least m_ways m_nearFoot m_nearFeet m_nearCost m_traced m_poem p1 p2 r o_m_thrown (fun H locs ls pc hdg hP hD hS => W.iret (v := r) hx hb hr (fun t ht hW => ⟨⟨r, (), rfl, rfl, (show va_P G vwCl _ t.heap by rw [ht]; exact hP)⟩, hS.F ht⟩) hS.2.2 hdg) m_thrown  hM _ _ _ hP hD hS hl
