abbrev WX7_layScan (K : Nat → ClassId) (m_a mA_lane mA_many mA_item mA_poem mA_fresh mA_then mA_was mA_tape mA_strengths mA_sounds mA_stand mA_scheme mA_isKept mA_kept mA_trace : Nat) (m_thrown : Int32) (m_status : Int32) (m_acts : Int32) (m_taped : Int32) (m_cursor : Int32) (m_start : Int32) (m_token : Int32) (m_value : Int32) (m_fault : Int32) (m_faultAt : Int32) (m_latest : Int32) (m_stands : Int32) (m_least : Int32) (m_ways : Int32) (m_nearFoot : Int32) (m_nearFeet : Int32) (m_nearCost : Int32) (m_traced : Int32) (m_strengths : Nat → Int32) (m_sounds : Nat → Int32) (m_stand : Nat → Int32) : va_W := [(m_a, .inr (7, [.int m_thrown, .int m_status, .ref mA_lane, .ref mA_many, .ref mA_item, .ref mA_poem, .ref mA_fresh, .ref mA_then, .ref mA_was, .int m_acts, .ref mA_tape, .int m_taped, .int m_cursor, .int m_start, .int m_token, .int m_value, .int m_fault, .int m_faultAt, .int m_latest, .ref mA_strengths, .ref mA_sounds, .ref mA_stand, .int m_stands, .int m_least, .int m_ways, .ref mA_scheme, .int m_nearFoot, .int m_nearFeet, .int m_nearCost, .ref mA_isKept, .ref mA_kept, .ref mA_trace, .int m_traced])), aI K mA_strengths 20 m_strengths, aI K mA_sounds 5 m_sounds, aI K mA_stand 20 m_stand]
def rmX7_layScan : Room := { frames := 0, cells := 0, slots := 0, locals := 0 }
theorem hdX7_layScan : yX7_layScan.cls = RX7 ∧ yX7_layScan.cls ≠ "java/lang/invoke/MethodHandle" ∧ yX7_layScan.cls ≠ "java/lang/invoke/VarHandle" ∧ (parseMethodDescriptor yX7_layScan.desc).map (fun d => d.parameters.length) = some 2 := by decide +kernel
set_option maxHeartbeats 4000000 in
set_option maxRecDepth 100000 in
theorem wX7_layScan_b15 {p : Program} {l : Launch} {e : Env} {s : State} {m : MethodId} {args : Array Value} {below : List Frame} {meth : Method} {c : Code} {Q : State → Prop} {G : va_G} {K : Nat → ClassId} {A : Nat → Prop} (C0 : CX p s m args c cX7_layScan 5 RX7 G K E0 A) (m_a mA_lane mA_many mA_item mA_poem mA_fresh mA_then mA_was mA_tape mA_strengths mA_sounds mA_stand mA_scheme mA_isKept mA_kept mA_trace : Nat) (m_thrown : Int32) (m_status : Int32) (m_acts : Int32) (m_taped : Int32) (m_cursor : Int32) (m_start : Int32) (m_token : Int32) (m_value : Int32) (m_fault : Int32) (m_faultAt : Int32) (m_latest : Int32) (m_least : Int32) (m_ways : Int32) (m_nearFoot : Int32) (m_nearFeet : Int32) (m_nearCost : Int32) (m_traced : Int32) (m_strengths : Nat → Int32) (m_sounds : Nat → Int32) (p1 : Int32) (p2 : Int32) (o_m_stands : Int32) (o_m_stand : Nat → Int32) (kr : ∀ (H : Heap) (locs : List Loc) (ls : Array Slot) (pc : Nat), decode cX7_layScan pc = .ok (.return_, 1) → va_P G vwCl (WX7_layScan K m_a mA_lane mA_many mA_item mA_poem mA_fresh mA_then mA_was mA_tape mA_strengths mA_sounds mA_stand mA_scheme mA_isKept mA_kept mA_trace m_thrown m_status m_acts m_taped m_cursor m_start m_token m_value m_fault m_faultAt m_latest o_m_stands m_least m_ways m_nearFoot m_nearFeet m_nearCost m_traced m_strengths m_sounds o_m_stand) H → va_D A (WX7_layScan K m_a mA_lane mA_many mA_item mA_poem mA_fresh mA_then mA_was mA_tape mA_strengths mA_sounds mA_stand mA_scheme mA_isKept mA_kept mA_trace m_thrown m_status m_acts m_taped m_cursor m_start m_token m_value m_fault m_faultAt m_latest o_m_stands m_least m_ways m_nearFoot m_nearFeet m_nearCost m_traced m_strengths m_sounds o_m_stand) → va_S A s.heap H locs → W p l e rmX7_layScan s m args below meth c H locs 0 0 Q (F0 m pc ls [])) (k7 : Int32 → (Nat → Int32) → Int32 → Option ((Int32) × (Nat → Int32))) (hk7 : ∀ (m_stands : Int32) (m_stand : Nat → Int32) (x3 : Int32), k7 m_stands m_stand x3 = some (o_m_stands, o_m_stand) → ∀ (H : Heap) (locs : List Loc) (ls : Array Slot), va_P G vwCl (WX7_layScan K m_a mA_lane mA_many mA_item mA_poem mA_fresh mA_then mA_was mA_tape mA_strengths mA_sounds mA_stand mA_scheme mA_isKept mA_kept mA_trace m_thrown m_status m_acts m_taped m_cursor m_start m_token m_value m_fault m_faultAt m_latest m_stands m_least m_ways m_nearFoot m_nearFeet m_nearCost m_traced m_strengths m_sounds m_stand) H → va_D A (WX7_layScan K m_a mA_lane mA_many mA_item mA_poem mA_fresh mA_then mA_was mA_tape mA_strengths mA_sounds mA_stand mA_scheme mA_isKept mA_kept mA_trace m_thrown m_status m_acts m_taped m_cursor m_start m_token m_value m_fault m_faultAt m_latest m_stands m_least m_ways m_nearFoot m_nearFeet m_nearCost m_traced m_strengths m_sounds m_stand) → va_S A s.heap H locs → lv_has ls 5 [(0, .ref m_a), (1, .int p1), (2, .int p2), (3, .int x3)] → W p l e rmX7_layScan s m args below meth c H locs 0 0 Q (F0 m 7 ls [])) (n : Nat) : ∀ (m_stands : Int32) (m_stand : Nat → Int32) (x3 : Int32) (x4 : Int32), mX7_layScan_b15 m_strengths m_sounds p1 p2 k7 n m_stands m_stand x3 x4 = some (o_m_stands, o_m_stand) → ∀ (H : Heap) (locs : List Loc) (ls : Array Slot), va_P G vwCl (WX7_layScan K m_a mA_lane mA_many mA_item mA_poem mA_fresh mA_then mA_was mA_tape mA_strengths mA_sounds mA_stand mA_scheme mA_isKept mA_kept mA_trace m_thrown m_status m_acts m_taped m_cursor m_start m_token m_value m_fault m_faultAt m_latest m_stands m_least m_ways m_nearFoot m_nearFeet m_nearCost m_traced m_strengths m_sounds m_stand) H → va_D A (WX7_layScan K m_a mA_lane mA_many mA_item mA_poem mA_fresh mA_then mA_was mA_tape mA_strengths mA_sounds mA_stand mA_scheme mA_isKept mA_kept mA_trace m_thrown m_status m_acts m_taped m_cursor m_start m_token m_value m_fault m_faultAt m_latest m_stands m_least m_ways m_nearFoot m_nearFeet m_nearCost m_traced m_strengths m_sounds m_stand) → va_S A s.heap H locs → lv_has ls 5 [(0, .ref m_a), (1, .int p1), (2, .int p2), (3, .int x3), (4, .int x4)] → W p l e rmX7_layScan s m args below meth c H locs 0 0 Q (F0 m 15 ls []) := by
  obtain ⟨hx, hb, hml, hown, hts, hK, hA, hEo, hE⟩ := id C0
  induction n with
  | zero =>
    intro m_stands m_stand x3 x4 hM
    cases hM
  | succ n ih =>
    intro m_stands m_stand x3 x4 hM H locs ls hP hD hS hl
    rw [mX7_layScan_b15] at hM
    refine lv_iload hx hb dX7_layScan_15 (lv_at hl 4 rfl) ?_
    refine lv_aload_n hx hb dX7_layScan_17 rfl (lv_at hl 0 rfl) ?_
    refine va_get (D := G) (ci := 7) (v := .ref mA_sounds) (C := RX7) (T := TX7) (N := 33) hx hb hts inX7 hown hK hP 0 rfl rfl 20 (by decide) (hts _ tb784) (fun _ h9 => h9) rfl dX7_layScan_18 ?_
    refine lv_iload_n hx hb dX7_layScan_21 rfl (lv_at hl 3 rfl) ?_
    obtain ⟨g_1, hM⟩ := ng hM
    refine va_iald hx hb hK hP 2 0 rfl rfl g_1 dX7_layScan_22 ?_
    refine lv_iload_n hx hb dX7_layScan_23 rfl (lv_at hl 2 rfl) ?_
    refine lv_iload_n hx hb dX7_layScan_24 rfl (lv_at hl 3 rfl) ?_
    refine lv_ishr hx hb dX7_layScan_25 ?_
    refine lv_iconst (v := 1) hx hb dX7_layScan_26 (by decide) ?_
    refine lv_iand hx hb dX7_layScan_27 ?_
    refine lv_isub hx hb dX7_layScan_28 ?_
    refine lv_icmp_ge (tgt := 68) hx hb dX7_layScan_29 (by decide) (fun c_2 => ?_) (fun c_2 => ?_)
    · rw [if_pos c_2] at hM
      refine lv_iinc (v := (x3 + 1)) (lv' := [(3, .int (x3 + 1)), (0, .ref m_a), (1, .int p1), (2, .int p2), (4, .int x4)]) hx hb dX7_layScan_68 hl (k := 3) rfl rfl (by decide) rfl (fun ls hl => ?_)
      refine lv_goto (tgt := 7) hx hb dX7_layScan_71 (by decide) ?_
      exact hk7 m_stands m_stand (x3 + 1) hM _ _ _ hP hD hS (lv_sub hl [1, 2, 3, 0] rfl)
    · rw [if_neg c_2] at hM
      refine lv_aload_n hx hb dX7_layScan_32 rfl (lv_at hl 0 rfl) ?_
      refine va_get (D := G) (ci := 7) (v := .ref mA_stand) (C := RX7) (T := TX7) (N := 33) hx hb hts inX7 hown hK hP 0 rfl rfl 21 (by decide) (hts _ tb785) (fun _ h9 => h9) rfl dX7_layScan_33 ?_
      refine lv_aload_n hx hb dX7_layScan_36 rfl (lv_at hl 0 rfl) ?_
      refine va_get (D := G) (ci := 7) (v := .int m_stands) (C := RX7) (T := TX7) (N := 33) hx hb hts inX7 hown hK hP 0 rfl rfl 22 (by decide) (hts _ tb786) (fun _ h9 => h9) rfl dX7_layScan_37 ?_
      refine lv_aload_n hx hb dX7_layScan_40 rfl (lv_at hl 0 rfl) ?_
      refine va_get (D := G) (ci := 7) (v := .ref mA_strengths) (C := RX7) (T := TX7) (N := 33) hx hb hts inX7 hown hK hP 0 rfl rfl 19 (by decide) (hts _ tb783) (fun _ h9 => h9) rfl dX7_layScan_41 ?_
      refine lv_iconst (v := 4) hx hb dX7_layScan_44 (by decide) ?_
      refine lv_iload_n hx hb dX7_layScan_45 rfl (lv_at hl 3 rfl) ?_
      refine lv_imul hx hb dX7_layScan_46 ?_
      refine lv_iload hx hb dX7_layScan_47 (lv_at hl 4 rfl) ?_
      refine lv_iadd hx hb dX7_layScan_49 ?_
      obtain ⟨g_3, hM⟩ := ng hM
      refine va_iald hx hb hK hP 1 0 rfl rfl g_3 dX7_layScan_50 ?_
      obtain ⟨g_4, hM⟩ := ng hM
      refine va_iast hx hb hK hP hD hS 3 0 rfl rfl g_4 dX7_layScan_51 (fun H locs hP hD hS => ?_)
      have hP : va_P G vwCl (WX7_layScan K m_a mA_lane mA_many mA_item mA_poem mA_fresh mA_then mA_was mA_tape mA_strengths mA_sounds mA_stand mA_scheme mA_isKept mA_kept mA_trace m_thrown m_status m_acts m_taped m_cursor m_start m_token m_value m_fault m_faultAt m_latest m_stands m_least m_ways m_nearFoot m_nearFeet m_nearCost m_traced m_strengths m_sounds (upd m_stand m_stands.toNatClampNeg (m_strengths (((4 : Int32) * x3) + x4).toNatClampNeg))) H := hP
      have hD : va_D A (WX7_layScan K m_a mA_lane mA_many mA_item mA_poem mA_fresh mA_then mA_was mA_tape mA_strengths mA_sounds mA_stand mA_scheme mA_isKept mA_kept mA_trace m_thrown m_status m_acts m_taped m_cursor m_start m_token m_value m_fault m_faultAt m_latest m_stands m_least m_ways m_nearFoot m_nearFeet m_nearCost m_traced m_strengths m_sounds (upd m_stand m_stands.toNatClampNeg (m_strengths (((4 : Int32) * x3) + x4).toNatClampNeg))) := hD
      refine lv_aload_n hx hb dX7_layScan_52 rfl (lv_at hl 0 rfl) ?_
      refine lv_dup hx hb dX7_layScan_53 rfl ?_
      refine va_get (D := G) (ci := 7) (v := .int m_stands) (C := RX7) (T := TX7) (N := 33) hx hb hts inX7 hown hK hP 0 rfl rfl 22 (by decide) (hts _ tb786) (fun _ h9 => h9) rfl dX7_layScan_54 ?_
      refine lv_iconst (v := 1) hx hb dX7_layScan_57 (by decide) ?_
      refine lv_iadd hx hb dX7_layScan_58 ?_
      refine va_put (D := G) (ci := 7) (v := .int (m_stands + (1 : Int32))) (ty := .int) (C := RX7) (T := TX7) (N := 33) hx hb hts inX7 tyX7 tyX7_ok nmX7 hown hK hP hD hS 0 rfl rfl 22 (by decide) (hts _ tb786) (fun _ h9 => h9) rfl (tyX7_ok 22 (by decide)) rfl rfl (Nat.le_of_ble_eq_true rfl) dX7_layScan_59 (fun H locs hP hD hS => ?_)
      have hP : va_P G vwCl (WX7_layScan K m_a mA_lane mA_many mA_item mA_poem mA_fresh mA_then mA_was mA_tape mA_strengths mA_sounds mA_stand mA_scheme mA_isKept mA_kept mA_trace m_thrown m_status m_acts m_taped m_cursor m_start m_token m_value m_fault m_faultAt m_latest (m_stands + (1 : Int32)) m_least m_ways m_nearFoot m_nearFeet m_nearCost m_traced m_strengths m_sounds (upd m_stand m_stands.toNatClampNeg (m_strengths (((4 : Int32) * x3) + x4).toNatClampNeg))) H := hP
      have hD : va_D A (WX7_layScan K m_a mA_lane mA_many mA_item mA_poem mA_fresh mA_then mA_was mA_tape mA_strengths mA_sounds mA_stand mA_scheme mA_isKept mA_kept mA_trace m_thrown m_status m_acts m_taped m_cursor m_start m_token m_value m_fault m_faultAt m_latest (m_stands + (1 : Int32)) m_least m_ways m_nearFoot m_nearFeet m_nearCost m_traced m_strengths m_sounds (upd m_stand m_stands.toNatClampNeg (m_strengths (((4 : Int32) * x3) + x4).toNatClampNeg))) := hD
      refine lv_iinc (v := (x4 + 1)) (lv' := [(4, .int (x4 + 1)), (0, .ref m_a), (1, .int p1), (2, .int p2), (3, .int x3)]) hx hb dX7_layScan_62 hl (k := 4) rfl rfl (by decide) rfl (fun ls hl => ?_)
      refine lv_goto (tgt := 15) hx hb dX7_layScan_65 (by decide) ?_
      exact ih (m_stands + (1 : Int32)) (upd m_stand m_stands.toNatClampNeg (m_strengths (((4 : Int32) * x3) + x4).toNatClampNeg)) x3 (x4 + 1) hM _ _ _ hP hD hS (lv_sub hl [1, 2, 3, 4, 0] rfl)
set_option maxHeartbeats 4000000 in
set_option maxRecDepth 100000 in
theorem wX7_layScan_b7 {p : Program} {l : Launch} {e : Env} {s : State} {m : MethodId} {args : Array Value} {below : List Frame} {meth : Method} {c : Code} {Q : State → Prop} {G : va_G} {K : Nat → ClassId} {A : Nat → Prop} (C0 : CX p s m args c cX7_layScan 5 RX7 G K E0 A) (m_a mA_lane mA_many mA_item mA_poem mA_fresh mA_then mA_was mA_tape mA_strengths mA_sounds mA_stand mA_scheme mA_isKept mA_kept mA_trace : Nat) (m_thrown : Int32) (m_status : Int32) (m_acts : Int32) (m_taped : Int32) (m_cursor : Int32) (m_start : Int32) (m_token : Int32) (m_value : Int32) (m_fault : Int32) (m_faultAt : Int32) (m_latest : Int32) (m_least : Int32) (m_ways : Int32) (m_nearFoot : Int32) (m_nearFeet : Int32) (m_nearCost : Int32) (m_traced : Int32) (m_strengths : Nat → Int32) (m_sounds : Nat → Int32) (p1 : Int32) (p2 : Int32) (o_m_stands : Int32) (o_m_stand : Nat → Int32) (kr : ∀ (H : Heap) (locs : List Loc) (ls : Array Slot) (pc : Nat), decode cX7_layScan pc = .ok (.return_, 1) → va_P G vwCl (WX7_layScan K m_a mA_lane mA_many mA_item mA_poem mA_fresh mA_then mA_was mA_tape mA_strengths mA_sounds mA_stand mA_scheme mA_isKept mA_kept mA_trace m_thrown m_status m_acts m_taped m_cursor m_start m_token m_value m_fault m_faultAt m_latest o_m_stands m_least m_ways m_nearFoot m_nearFeet m_nearCost m_traced m_strengths m_sounds o_m_stand) H → va_D A (WX7_layScan K m_a mA_lane mA_many mA_item mA_poem mA_fresh mA_then mA_was mA_tape mA_strengths mA_sounds mA_stand mA_scheme mA_isKept mA_kept mA_trace m_thrown m_status m_acts m_taped m_cursor m_start m_token m_value m_fault m_faultAt m_latest o_m_stands m_least m_ways m_nearFoot m_nearFeet m_nearCost m_traced m_strengths m_sounds o_m_stand) → va_S A s.heap H locs → W p l e rmX7_layScan s m args below meth c H locs 0 0 Q (F0 m pc ls [])) (n : Nat) : ∀ (m_stands : Int32) (m_stand : Nat → Int32) (x3 : Int32), mX7_layScan_b7 m_strengths m_sounds p1 p2  n m_stands m_stand x3 = some (o_m_stands, o_m_stand) → ∀ (H : Heap) (locs : List Loc) (ls : Array Slot), va_P G vwCl (WX7_layScan K m_a mA_lane mA_many mA_item mA_poem mA_fresh mA_then mA_was mA_tape mA_strengths mA_sounds mA_stand mA_scheme mA_isKept mA_kept mA_trace m_thrown m_status m_acts m_taped m_cursor m_start m_token m_value m_fault m_faultAt m_latest m_stands m_least m_ways m_nearFoot m_nearFeet m_nearCost m_traced m_strengths m_sounds m_stand) H → va_D A (WX7_layScan K m_a mA_lane mA_many mA_item mA_poem mA_fresh mA_then mA_was mA_tape mA_strengths mA_sounds mA_stand mA_scheme mA_isKept mA_kept mA_trace m_thrown m_status m_acts m_taped m_cursor m_start m_token m_value m_fault m_faultAt m_latest m_stands m_least m_ways m_nearFoot m_nearFeet m_nearCost m_traced m_strengths m_sounds m_stand) → va_S A s.heap H locs → lv_has ls 5 [(0, .ref m_a), (1, .int p1), (2, .int p2), (3, .int x3)] → W p l e rmX7_layScan s m args below meth c H locs 0 0 Q (F0 m 7 ls []) := by
  obtain ⟨hx, hb, hml, hown, hts, hK, hA, hEo, hE⟩ := id C0
  induction n with
  | zero =>
    intro m_stands m_stand x3 hM
    cases hM
  | succ n ih =>
    intro m_stands m_stand x3 hM H locs ls hP hD hS hl
    rw [mX7_layScan_b7] at hM
    refine lv_iload_n hx hb dX7_layScan_7 rfl (lv_at hl 3 rfl) ?_
    refine lv_iload_n hx hb dX7_layScan_8 rfl (lv_at hl 1 rfl) ?_
    refine lv_icmp_ge (tgt := 74) hx hb dX7_layScan_9 (by decide) (fun c_5 => ?_) (fun c_5 => ?_)
    · rw [if_pos c_5] at hM
      have t0 := Option.some.inj hM
      obtain ⟨q1, t1⟩ := Prod.mk.inj t0
      subst q1
      subst t1
      exact kr _ _ _ _ dX7_layScan_74 hP hD hS
    · rw [if_neg c_5] at hM
      refine lv_iconst (v := 0) hx hb dX7_layScan_12 (by decide) ?_
      refine lv_istore (lv' := [(4, .int (0 : Int32)), (0, .ref m_a), (1, .int p1), (2, .int p2), (3, .int x3)]) hx hb dX7_layScan_13 hl (by decide) rfl (fun ls hl => ?_)
      exact wX7_layScan_b15 C0 m_a mA_lane mA_many mA_item mA_poem mA_fresh mA_then mA_was mA_tape mA_strengths mA_sounds mA_stand mA_scheme mA_isKept mA_kept mA_trace m_thrown m_status m_acts m_taped m_cursor m_start m_token m_value m_fault m_faultAt m_latest m_least m_ways m_nearFoot m_nearFeet m_nearCost m_traced m_strengths m_sounds p1 p2 o_m_stands o_m_stand kr (mX7_layScan_b7 m_strengths m_sounds p1 p2  n) ih FU m_stands m_stand x3 (0 : Int32) hM _ _ _ hP hD hS (lv_sub hl [1, 2, 3, 4, 0] rfl)
set_option maxHeartbeats 4000000 in
set_option maxRecDepth 100000 in
theorem wX7_layScan_b0 {p : Program} {l : Launch} {e : Env} {s : State} {m : MethodId} {args : Array Value} {below : List Frame} {meth : Method} {c : Code} {Q : State → Prop} {G : va_G} {K : Nat → ClassId} {A : Nat → Prop} (C0 : CX p s m args c cX7_layScan 5 RX7 G K E0 A) (m_a mA_lane mA_many mA_item mA_poem mA_fresh mA_then mA_was mA_tape mA_strengths mA_sounds mA_stand mA_scheme mA_isKept mA_kept mA_trace : Nat) (m_thrown : Int32) (m_status : Int32) (m_acts : Int32) (m_taped : Int32) (m_cursor : Int32) (m_start : Int32) (m_token : Int32) (m_value : Int32) (m_fault : Int32) (m_faultAt : Int32) (m_latest : Int32) (m_least : Int32) (m_ways : Int32) (m_nearFoot : Int32) (m_nearFeet : Int32) (m_nearCost : Int32) (m_traced : Int32) (m_strengths : Nat → Int32) (m_sounds : Nat → Int32) (p1 : Int32) (p2 : Int32) (o_m_stands : Int32) (o_m_stand : Nat → Int32) (kr : ∀ (H : Heap) (locs : List Loc) (ls : Array Slot) (pc : Nat), decode cX7_layScan pc = .ok (.return_, 1) → va_P G vwCl (WX7_layScan K m_a mA_lane mA_many mA_item mA_poem mA_fresh mA_then mA_was mA_tape mA_strengths mA_sounds mA_stand mA_scheme mA_isKept mA_kept mA_trace m_thrown m_status m_acts m_taped m_cursor m_start m_token m_value m_fault m_faultAt m_latest o_m_stands m_least m_ways m_nearFoot m_nearFeet m_nearCost m_traced m_strengths m_sounds o_m_stand) H → va_D A (WX7_layScan K m_a mA_lane mA_many mA_item mA_poem mA_fresh mA_then mA_was mA_tape mA_strengths mA_sounds mA_stand mA_scheme mA_isKept mA_kept mA_trace m_thrown m_status m_acts m_taped m_cursor m_start m_token m_value m_fault m_faultAt m_latest o_m_stands m_least m_ways m_nearFoot m_nearFeet m_nearCost m_traced m_strengths m_sounds o_m_stand) → va_S A s.heap H locs → W p l e rmX7_layScan s m args below meth c H locs 0 0 Q (F0 m pc ls [])) (m_stands : Int32) (m_stand : Nat → Int32) (hM : mX7_layScan_b0 m_strengths m_sounds p1 p2  m_stands m_stand = some (o_m_stands, o_m_stand)) : ∀ (H : Heap) (locs : List Loc) (ls : Array Slot), va_P G vwCl (WX7_layScan K m_a mA_lane mA_many mA_item mA_poem mA_fresh mA_then mA_was mA_tape mA_strengths mA_sounds mA_stand mA_scheme mA_isKept mA_kept mA_trace m_thrown m_status m_acts m_taped m_cursor m_start m_token m_value m_fault m_faultAt m_latest m_stands m_least m_ways m_nearFoot m_nearFeet m_nearCost m_traced m_strengths m_sounds m_stand) H → va_D A (WX7_layScan K m_a mA_lane mA_many mA_item mA_poem mA_fresh mA_then mA_was mA_tape mA_strengths mA_sounds mA_stand mA_scheme mA_isKept mA_kept mA_trace m_thrown m_status m_acts m_taped m_cursor m_start m_token m_value m_fault m_faultAt m_latest m_stands m_least m_ways m_nearFoot m_nearFeet m_nearCost m_traced m_strengths m_sounds m_stand) → va_S A s.heap H locs → lv_has ls 5 [(0, .ref m_a), (1, .int p1), (2, .int p2)] → W p l e rmX7_layScan s m args below meth c H locs 0 0 Q (F0 m 0 ls []) := by
  obtain ⟨hx, hb, hml, hown, hts, hK, hA, hEo, hE⟩ := id C0
  intro H locs ls hP hD hS hl
  unfold mX7_layScan_b0 at hM
  refine lv_aload_n hx hb dX7_layScan_0 rfl (lv_at hl 0 rfl) ?_
  refine lv_iconst (v := 0) hx hb dX7_layScan_1 (by decide) ?_
  refine va_put (D := G) (ci := 7) (v := .int (0 : Int32)) (ty := .int) (C := RX7) (T := TX7) (N := 33) hx hb hts inX7 tyX7 tyX7_ok nmX7 hown hK hP hD hS 0 rfl rfl 22 (by decide) (hts _ tb786) (fun _ h9 => h9) rfl (tyX7_ok 22 (by decide)) rfl rfl (Nat.le_of_ble_eq_true rfl) dX7_layScan_2 (fun H locs hP hD hS => ?_)
  have hP : va_P G vwCl (WX7_layScan K m_a mA_lane mA_many mA_item mA_poem mA_fresh mA_then mA_was mA_tape mA_strengths mA_sounds mA_stand mA_scheme mA_isKept mA_kept mA_trace m_thrown m_status m_acts m_taped m_cursor m_start m_token m_value m_fault m_faultAt m_latest (0 : Int32) m_least m_ways m_nearFoot m_nearFeet m_nearCost m_traced m_strengths m_sounds m_stand) H := hP
  have hD : va_D A (WX7_layScan K m_a mA_lane mA_many mA_item mA_poem mA_fresh mA_then mA_was mA_tape mA_strengths mA_sounds mA_stand mA_scheme mA_isKept mA_kept mA_trace m_thrown m_status m_acts m_taped m_cursor m_start m_token m_value m_fault m_faultAt m_latest (0 : Int32) m_least m_ways m_nearFoot m_nearFeet m_nearCost m_traced m_strengths m_sounds m_stand) := hD
  refine lv_iconst (v := 0) hx hb dX7_layScan_5 (by decide) ?_
  refine lv_istore_n (lv' := [(3, .int (0 : Int32)), (0, .ref m_a), (1, .int p1), (2, .int p2)]) hx hb dX7_layScan_6 rfl hl (by decide) rfl (fun ls hl => ?_)
  exact wX7_layScan_b7 C0 m_a mA_lane mA_many mA_item mA_poem mA_fresh mA_then mA_was mA_tape mA_strengths mA_sounds mA_stand mA_scheme mA_isKept mA_kept mA_trace m_thrown m_status m_acts m_taped m_cursor m_start m_token m_value m_fault m_faultAt m_latest m_least m_ways m_nearFoot m_nearFeet m_nearCost m_traced m_strengths m_sounds p1 p2 o_m_stands o_m_stand kr  FU (0 : Int32) m_stand (0 : Int32) hM _ _ _ hP hD hS (lv_sub hl [1, 2, 3, 0] rfl)
set_option maxHeartbeats 4000000 in
set_option maxRecDepth 100000 in
theorem kX7_layScan (l : Launch) (G : va_G) (K : Nat → ClassId) (m_a mA_lane mA_many mA_item mA_poem mA_fresh mA_then mA_was mA_tape mA_strengths mA_sounds mA_stand mA_scheme mA_isKept mA_kept mA_trace : Nat) (m_thrown : Int32) (m_status : Int32) (m_acts : Int32) (m_taped : Int32) (m_cursor : Int32) (m_start : Int32) (m_token : Int32) (m_value : Int32) (m_fault : Int32) (m_faultAt : Int32) (m_latest : Int32) (m_stands : Int32) (m_least : Int32) (m_ways : Int32) (m_nearFoot : Int32) (m_nearFeet : Int32) (m_nearCost : Int32) (m_traced : Int32) (m_strengths : Nat → Int32) (m_sounds : Nat → Int32) (m_stand : Nat → Int32) (p1 : Int32) (p2 : Int32) (sz : Nat) (o_m_stands : Int32) (o_m_stand : Nat → Int32) (hM : mX7_layScan m_strengths m_sounds m_stands m_stand p1 p2 = some (o_m_stands, o_m_stand)) : Met l yX7_layScan (mC yX7_layScan cX7_layScan 5 none) rmX7_layScan (va_Pc [.ref m_a, .int p1, .int p2] (PCe G K E0 (WX7_layScan K m_a mA_lane mA_many mA_item mA_poem mA_fresh mA_then mA_was mA_tape mA_strengths mA_sounds mA_stand mA_scheme mA_isKept mA_kept mA_trace m_thrown m_status m_acts m_taped m_cursor m_start m_token m_value m_fault m_faultAt m_latest m_stands m_least m_ways m_nearFoot m_nearFeet m_nearCost m_traced m_strengths m_sounds m_stand) sz)) (va_Qv (fun (_ : Unit) => True) (fun _ t => va_P G vwCl (WX7_layScan K m_a mA_lane mA_many mA_item mA_poem mA_fresh mA_then mA_was mA_tape mA_strengths mA_sounds mA_stand mA_scheme mA_isKept mA_kept mA_trace m_thrown m_status m_acts m_taped m_cursor m_start m_token m_value m_fault m_faultAt m_latest o_m_stands m_least m_ways m_nearFoot m_nearFeet m_nearCost m_traced m_strengths m_sounds o_m_stand) t.heap) (va_A (WX7_layScan K m_a mA_lane mA_many mA_item mA_poem mA_fresh mA_then mA_was mA_tape mA_strengths mA_sounds mA_stand mA_scheme mA_isKept mA_kept mA_trace m_thrown m_status m_acts m_taped m_cursor m_start m_token m_value m_fault m_faultAt m_latest m_stands m_least m_ways m_nearFoot m_nearFeet m_nearCost m_traced m_strengths m_sounds m_stand) sz)) rmX7_layScan.cells rmX7_layScan.slots (va_A (WX7_layScan K m_a mA_lane mA_many mA_item mA_poem mA_fresh mA_then mA_was mA_tape mA_strengths mA_sounds mA_stand mA_scheme mA_isKept mA_kept mA_trace m_thrown m_status m_acts m_taped m_cursor m_start m_token m_value m_fault m_faultAt m_latest m_stands m_least m_ways m_nearFoot m_nearFeet m_nearCost m_traced m_strengths m_sounds m_stand) sz) := by
  refine Met.ofW (cc := cX7_layScan) (maxL := 5) (ret := none) (by decide) rfl ?_
  intro p e s m args below meth c s₁ B hml hv
  obtain ⟨rfl, hsz, hP, hK, hD0, hE⟩ := hv
  have hx := B.exec
  have hb := B.bytes
  have hr := B.returns
  have hts0 := atoms_spec (ws := mC yX7_layScan cX7_layScan 5 none) B.pre
  have hts : ∀ w ∈ tbG, w.before _ s = true := fun w h => hts0 w (List.mem_cons_of_mem _ h)
  have hown : s.vm.findClass RX7 = some m.cls := findClass_of_methodNamed B.named
  subst hsz
  have hD := hD0.self (sz := s.heap.size)
  generalize hAe : va_A (WX7_layScan K m_a mA_lane mA_many mA_item mA_poem mA_fresh mA_then mA_was mA_tape mA_strengths mA_sounds mA_stand mA_scheme mA_isKept mA_kept mA_trace m_thrown m_status m_acts m_taped m_cursor m_start m_token m_value m_fault m_faultAt m_latest m_stands m_least m_ways m_nearFoot m_nearFeet m_nearCost m_traced m_strengths m_sounds m_stand) s.heap.size = A at hD hE ⊢
  have hA : ∀ q : Nat, s.heap.size ≤ q → A q := fun q h => by rw [← hAe]; exact Or.inr h
  have hS : va_S A s.heap s.heap [] := va_S.rf
  have hl := lv_entry ([.ref m_a, .int p1, .int p2]) (n := 5) (Nat.le_of_ble_eq_true rfl)
  rw [lg_entry_eq]
  generalize (lg_sl ([.ref m_a, .int p1, .int p2]) ++ List.replicate (5 - (lg_sl ([.ref m_a, .int p1, .int p2])).length) Slot.unset).toArray = ls at hl ⊢
  have hl : lv_has ls 5 [(0, .ref m_a), (1, .int p1), (2, .int p2)] := hl
  exact wX7_layScan_b0 ⟨hx, hb, hml, hown, hts, hK, hA, E0_ok, hE⟩ m_a mA_lane mA_many mA_item mA_poem mA_fresh mA_then mA_was mA_tape mA_strengths mA_sounds mA_stand mA_scheme mA_isKept mA_kept mA_trace m_thrown m_status m_acts m_taped m_cursor m_start m_token m_value m_fault m_faultAt m_latest m_least m_ways m_nearFoot m_nearFeet m_nearCost m_traced m_strengths m_sounds p1 p2 o_m_stands o_m_stand (fun H locs ls pc hdg hP hD hS => W.vret hx hb hr (fun t ht hW => ⟨⟨(), rfl, trivial, (show va_P G vwCl _ t.heap by rw [ht]; exact hP)⟩, hS.F ht⟩) hS.2.2 hdg) m_stands m_stand  hM _ _ _ hP hD hS hl
def rmX7_size : Room := { frames := 0, cells := 0, slots := 0, locals := 0 }
theorem hdX7_size : yX7_size.cls ≠ "java/lang/invoke/MethodHandle" ∧ yX7_size.cls ≠ "java/lang/invoke/VarHandle" ∧ (parseMethodDescriptor yX7_size.desc).map (fun d => d.parameters.length) = some 1 := by decide +kernel
set_option maxHeartbeats 4000000 in
set_option maxRecDepth 100000 in
theorem wX7_size_b0 {p : Program} {l : Launch} {e : Env} {s : State} {m : MethodId} {args : Array Value} {below : List Frame} {meth : Method} {c : Code} {Q : State → Prop} {G : va_G} {K : Nat → ClassId} {A : Nat → Prop} (C0 : CX p s m args c cX7_size 1 RX7 G K E0 A)  (p1 : Int32) (r : Int32)  (kr : ∀ (H : Heap) (locs : List Loc) (ls : Array Slot) (pc : Nat), decode cX7_size pc = .ok (.ireturn, 1) → va_P G vwCl [] H → va_D A [] → va_S A s.heap H locs → W p l e rmX7_size s m args below meth c H locs 0 0 Q (F0 m pc ls [.int r]))  (hM : mX7_size_b0 p1   = some r) : ∀ (H : Heap) (locs : List Loc) (ls : Array Slot), va_P G vwCl [] H → va_D A [] → va_S A s.heap H locs → lv_has ls 1 [(0, .int p1)] → W p l e rmX7_size s m args below meth c H locs 0 0 Q (F0 m 0 ls []) := by
  obtain ⟨hx, hb, hml, hown, hts, hK, hA, hEo, hE⟩ := id C0
  intro H locs ls hP hD hS hl
  unfold mX7_size_b0 at hM
  refine lv_iload_n hx hb dX7_size_0 rfl (lv_at hl 0 rfl) ?_
  refine lv_iconst (v := 2) hx hb dX7_size_1 (by decide) ?_
  refine lv_icmp_ge (tgt := 9) hx hb dX7_size_2 (by decide) (fun c_1 => ?_) (fun c_1 => ?_)
  · rw [if_pos c_1] at hM
    refine lv_iconst (v := 3) hx hb dX7_size_9 (by decide) ?_
    have q1 := Option.some.inj hM
    subst q1
    exact kr _ _ _ _ dX7_size_10 hP hD hS
  · rw [if_neg c_1] at hM
    refine lv_iconst (v := 2) hx hb dX7_size_5 (by decide) ?_
    refine lv_goto (tgt := 10) hx hb dX7_size_6 (by decide) ?_
    have q1 := Option.some.inj hM
    subst q1
    exact kr _ _ _ _ dX7_size_10 hP hD hS
set_option maxHeartbeats 4000000 in
set_option maxRecDepth 100000 in
theorem kX7_size (l : Launch) (G : va_G) (K : Nat → ClassId)  (p1 : Int32) (sz : Nat) (r : Int32)  (hM : mX7_size p1 = some r) : Met l yX7_size (mC yX7_size cX7_size 1 (some .int)) rmX7_size (va_Pc [.int p1] (PCe G K E0 [] sz)) (va_Qi (fun (x : Int32) (_ : Unit) => x = r) (fun _ t => va_P G vwCl [] t.heap) (va_A [] sz)) rmX7_size.cells rmX7_size.slots (va_A [] sz) := by
  refine Met.ofW (cc := cX7_size) (maxL := 1) (ret := (some .int)) (by decide) rfl ?_
  intro p e s m args below meth c s₁ B hml hv
  obtain ⟨rfl, hsz, hP, hK, hD0, hE⟩ := hv
  have hx := B.exec
  have hb := B.bytes
  have hr := B.returns
  have hts0 := atoms_spec (ws := mC yX7_size cX7_size 1 (some .int)) B.pre
  have hts : ∀ w ∈ tbG, w.before _ s = true := fun w h => hts0 w (List.mem_cons_of_mem _ h)
  have hown : s.vm.findClass RX7 = some m.cls := findClass_of_methodNamed B.named
  subst hsz
  have hD := hD0.self (sz := s.heap.size)
  generalize hAe : va_A [] s.heap.size = A at hD hE ⊢
  have hA : ∀ q : Nat, s.heap.size ≤ q → A q := fun q h => by rw [← hAe]; exact Or.inr h
  have hS : va_S A s.heap s.heap [] := va_S.rf
  have hl := lv_entry ([.int p1]) (n := 1) (Nat.le_of_ble_eq_true rfl)
  rw [lg_entry_eq]
  generalize (lg_sl ([.int p1]) ++ List.replicate (1 - (lg_sl ([.int p1])).length) Slot.unset).toArray = ls at hl ⊢
  have hl : lv_has ls 1 [(0, .int p1)] := hl
  exact wX7_size_b0 ⟨hx, hb, hml, hown, hts, hK, hA, E0_ok, hE⟩ p1 r (fun H locs ls pc hdg hP hD hS => W.iret (v := r) hx hb hr (fun t ht hW => ⟨⟨r, (), rfl, rfl, (show va_P G vwCl _ t.heap by rw [ht]; exact hP)⟩, hS.F ht⟩) hS.2.2 hdg)   hM _ _ _ hP hD hS hl
def rmX7_isStrong : Room := { frames := 0, cells := 0, slots := 0, locals := 0 }
theorem hdX7_isStrong : yX7_isStrong.cls ≠ "java/lang/invoke/MethodHandle" ∧ yX7_isStrong.cls ≠ "java/lang/invoke/VarHandle" ∧ (parseMethodDescriptor yX7_isStrong.desc).map (fun d => d.parameters.length) = some 2 := by decide +kernel
set_option maxHeartbeats 4000000 in
set_option maxRecDepth 100000 in
theorem wX7_isStrong_b0 {p : Program} {l : Launch} {e : Env} {s : State} {m : MethodId} {args : Array Value} {below : List Frame} {meth : Method} {c : Code} {Q : State → Prop} {G : va_G} {K : Nat → ClassId} {A : Nat → Prop} (C0 : CX p s m args c cX7_isStrong 2 RX7 G K E0 A)  (p1 : Int32) (p2 : Int32) (r : Int32)  (kr : ∀ (H : Heap) (locs : List Loc) (ls : Array Slot) (pc : Nat), decode cX7_isStrong pc = .ok (.ireturn, 1) → (r = 0 ∨ r = 1) → va_P G vwCl [] H → va_D A [] → va_S A s.heap H locs → W p l e rmX7_isStrong s m args below meth c H locs 0 0 Q (F0 m pc ls [.int r]))  (hM : mX7_isStrong_b0 p1 p2   = some r) : ∀ (H : Heap) (locs : List Loc) (ls : Array Slot), va_P G vwCl [] H → va_D A [] → va_S A s.heap H locs → lv_has ls 2 [(0, .int p1), (1, .int p2)] → W p l e rmX7_isStrong s m args below meth c H locs 0 0 Q (F0 m 0 ls []) := by
  obtain ⟨hx, hb, hml, hown, hts, hK, hA, hEo, hE⟩ := id C0
  intro H locs ls hP hD hS hl
  unfold mX7_isStrong_b0 at hM
  refine lv_iload_n hx hb dX7_isStrong_0 rfl (lv_at hl 0 rfl) ?_
  refine lv_if_ne (tgt := 17) hx hb dX7_isStrong_1 (by decide) (fun c_1 => ?_) (fun c_1 => ?_)
  · rw [if_neg c_1] at hM
    refine lv_iload_n hx hb dX7_isStrong_17 rfl (lv_at hl 0 rfl) ?_
    refine lv_iconst (v := 2) hx hb dX7_isStrong_18 (by decide) ?_
    refine lv_icmp_ne (tgt := 35) hx hb dX7_isStrong_19 (by decide) (fun c_2 => ?_) (fun c_2 => ?_)
    · rw [if_neg c_2] at hM
      refine lv_iload_n hx hb dX7_isStrong_35 rfl (lv_at hl 1 rfl) ?_
      refine lv_if_ne (tgt := 43) hx hb dX7_isStrong_36 (by decide) (fun c_3 => ?_) (fun c_3 => ?_)
      · rw [if_neg c_3] at hM
        refine lv_iconst (v := 0) hx hb dX7_isStrong_43 (by decide) ?_
        have q1 := Option.some.inj hM
        subst q1
        exact kr _ _ _ _ dX7_isStrong_44 (by decide) hP hD hS
      · rw [if_pos c_3] at hM
        refine lv_iconst (v := 1) hx hb dX7_isStrong_39 (by decide) ?_
        refine lv_goto (tgt := 44) hx hb dX7_isStrong_40 (by decide) ?_
        have q1 := Option.some.inj hM
        subst q1
        exact kr _ _ _ _ dX7_isStrong_44 (by decide) hP hD hS
    · rw [if_pos c_2] at hM
      refine lv_iload_n hx hb dX7_isStrong_22 rfl (lv_at hl 1 rfl) ?_
      refine lv_iconst (v := 2) hx hb dX7_isStrong_23 (by decide) ?_
      refine lv_icmp_ne (tgt := 31) hx hb dX7_isStrong_24 (by decide) (fun c_4 => ?_) (fun c_4 => ?_)
      · rw [if_neg c_4] at hM
        refine lv_iconst (v := 0) hx hb dX7_isStrong_31 (by decide) ?_
        refine lv_goto (tgt := 44) hx hb dX7_isStrong_32 (by decide) ?_
        have q1 := Option.some.inj hM
        subst q1
        exact kr _ _ _ _ dX7_isStrong_44 (by decide) hP hD hS
      · rw [if_pos c_4] at hM
        refine lv_iconst (v := 1) hx hb dX7_isStrong_27 (by decide) ?_
        refine lv_goto (tgt := 44) hx hb dX7_isStrong_28 (by decide) ?_
        have q1 := Option.some.inj hM
        subst q1
        exact kr _ _ _ _ dX7_isStrong_44 (by decide) hP hD hS
  · rw [if_pos c_1] at hM
    refine lv_iload_n hx hb dX7_isStrong_4 rfl (lv_at hl 1 rfl) ?_
    refine lv_iconst (v := 1) hx hb dX7_isStrong_5 (by decide) ?_
    refine lv_icmp_ne (tgt := 13) hx hb dX7_isStrong_6 (by decide) (fun c_5 => ?_) (fun c_5 => ?_)
    · rw [if_neg c_5] at hM
      refine lv_iconst (v := 0) hx hb dX7_isStrong_13 (by decide) ?_
      refine lv_goto (tgt := 44) hx hb dX7_isStrong_14 (by decide) ?_
      have q1 := Option.some.inj hM
      subst q1
      exact kr _ _ _ _ dX7_isStrong_44 (by decide) hP hD hS
    · rw [if_pos c_5] at hM
      refine lv_iconst (v := 1) hx hb dX7_isStrong_9 (by decide) ?_
      refine lv_goto (tgt := 44) hx hb dX7_isStrong_10 (by decide) ?_
      have q1 := Option.some.inj hM
      subst q1
      exact kr _ _ _ _ dX7_isStrong_44 (by decide) hP hD hS
set_option maxHeartbeats 4000000 in
set_option maxRecDepth 100000 in
theorem kX7_isStrong (l : Launch) (G : va_G) (K : Nat → ClassId)  (p1 : Int32) (p2 : Int32) (sz : Nat) (r : Int32)  (hM : mX7_isStrong p1 p2 = some r) : Met l yX7_isStrong (mC yX7_isStrong cX7_isStrong 2 (some .boolean)) rmX7_isStrong (va_Pc [.int p1, .int p2] (PCe G K E0 [] sz)) (va_Qi (fun (x : Int32) (_ : Unit) => x = r) (fun _ t => va_P G vwCl [] t.heap) (va_A [] sz)) rmX7_isStrong.cells rmX7_isStrong.slots (va_A [] sz) := by
  refine Met.ofW (cc := cX7_isStrong) (maxL := 2) (ret := (some .boolean)) (by decide) rfl ?_
  intro p e s m args below meth c s₁ B hml hv
  obtain ⟨rfl, hsz, hP, hK, hD0, hE⟩ := hv
  have hx := B.exec
  have hb := B.bytes
  have hr := B.returns
  have hts0 := atoms_spec (ws := mC yX7_isStrong cX7_isStrong 2 (some .boolean)) B.pre
  have hts : ∀ w ∈ tbG, w.before _ s = true := fun w h => hts0 w (List.mem_cons_of_mem _ h)
  have hown : s.vm.findClass RX7 = some m.cls := findClass_of_methodNamed B.named
  subst hsz
  have hD := hD0.self (sz := s.heap.size)
  generalize hAe : va_A [] s.heap.size = A at hD hE ⊢
  have hA : ∀ q : Nat, s.heap.size ≤ q → A q := fun q h => by rw [← hAe]; exact Or.inr h
  have hS : va_S A s.heap s.heap [] := va_S.rf
  have hl := lv_entry ([.int p1, .int p2]) (n := 2) (Nat.le_of_ble_eq_true rfl)
  rw [lg_entry_eq]
  generalize (lg_sl ([.int p1, .int p2]) ++ List.replicate (2 - (lg_sl ([.int p1, .int p2])).length) Slot.unset).toArray = ls at hl ⊢
  have hl : lv_has ls 2 [(0, .int p1), (1, .int p2)] := hl
  exact wX7_isStrong_b0 ⟨hx, hb, hml, hown, hts, hK, hA, E0_ok, hE⟩ p1 p2 r (fun H locs ls pc hdg hz hP hD hS => W.zret (v := r) (ty := .boolean) hx hb hr (nar_b hz) (fun t ht hW => ⟨⟨r, (), rfl, rfl, (show va_P G vwCl _ t.heap by rw [ht]; exact hP)⟩, hS.F ht⟩) hS.2.2 hdg)   hM _ _ _ hP hD hS hl
abbrev WX7_costOf (K : Nat → ClassId) (m_a mA_lane mA_many mA_item mA_poem mA_fresh mA_then mA_was mA_tape mA_strengths mA_sounds mA_stand mA_scheme mA_isKept mA_kept mA_trace : Nat) (m_thrown : Int32) (m_status : Int32) (m_acts : Int32) (m_taped : Int32) (m_cursor : Int32) (m_start : Int32) (m_token : Int32) (m_value : Int32) (m_fault : Int32) (m_faultAt : Int32) (m_latest : Int32) (m_stands : Int32) (m_least : Int32) (m_ways : Int32) (m_nearFoot : Int32) (m_nearFeet : Int32) (m_nearCost : Int32) (m_traced : Int32) (m_stand : Nat → Int32) : va_W := [(m_a, .inr (7, [.int m_thrown, .int m_status, .ref mA_lane, .ref mA_many, .ref mA_item, .ref mA_poem, .ref mA_fresh, .ref mA_then, .ref mA_was, .int m_acts, .ref mA_tape, .int m_taped, .int m_cursor, .int m_start, .int m_token, .int m_value, .int m_fault, .int m_faultAt, .int m_latest, .ref mA_strengths, .ref mA_sounds, .ref mA_stand, .int m_stands, .int m_least, .int m_ways, .ref mA_scheme, .int m_nearFoot, .int m_nearFeet, .int m_nearCost, .ref mA_isKept, .ref mA_kept, .ref mA_trace, .int m_traced])), aI K mA_stand 20 m_stand]
def rmX7_costOf : Room := { frames := 1, cells := 0, slots := 0, locals := 21 }
theorem hdX7_costOf : yX7_costOf.cls = RX7 ∧ yX7_costOf.cls ≠ "java/lang/invoke/MethodHandle" ∧ yX7_costOf.cls ≠ "java/lang/invoke/VarHandle" ∧ (parseMethodDescriptor yX7_costOf.desc).map (fun d => d.parameters.length) = some 3 := by decide +kernel
set_option maxHeartbeats 4000000 in
set_option maxRecDepth 100000 in
theorem wX7_costOf_b187 {p : Program} {l : Launch} {e : Env} {s : State} {m : MethodId} {args : Array Value} {below : List Frame} {meth : Method} {c : Code} {Q : State → Prop} {G : va_G} {K : Nat → ClassId} {A : Nat → Prop} (C0 : CX p s m args c cX7_costOf 10 RX7 G K E0 A) (m_a mA_lane mA_many mA_item mA_poem mA_fresh mA_then mA_was mA_tape mA_strengths mA_sounds mA_stand mA_scheme mA_isKept mA_kept mA_trace : Nat) (m_thrown : Int32) (m_status : Int32) (m_acts : Int32) (m_taped : Int32) (m_cursor : Int32) (m_start : Int32) (m_token : Int32) (m_value : Int32) (m_fault : Int32) (m_faultAt : Int32) (m_latest : Int32) (m_stands : Int32) (m_least : Int32) (m_ways : Int32) (m_nearFoot : Int32) (m_nearFeet : Int32) (m_nearCost : Int32) (m_traced : Int32) (m_stand : Nat → Int32) (p1 : Int32) (p2 : Int32) (p3 : Int32) (r : Int32)  (kr : ∀ (H : Heap) (locs : List Loc) (ls : Array Slot) (pc : Nat), decode cX7_costOf pc = .ok (.ireturn, 1) → va_P G vwCl (WX7_costOf K m_a mA_lane mA_many mA_item mA_poem mA_fresh mA_then mA_was mA_tape mA_strengths mA_sounds mA_stand mA_scheme mA_isKept mA_kept mA_trace m_thrown m_status m_acts m_taped m_cursor m_start m_token m_value m_fault m_faultAt m_latest m_stands m_least m_ways m_nearFoot m_nearFeet m_nearCost m_traced m_stand) H → va_D A (WX7_costOf K m_a mA_lane mA_many mA_item mA_poem mA_fresh mA_then mA_was mA_tape mA_strengths mA_sounds mA_stand mA_scheme mA_isKept mA_kept mA_trace m_thrown m_status m_acts m_taped m_cursor m_start m_token m_value m_fault m_faultAt m_latest m_stands m_least m_ways m_nearFoot m_nearFeet m_nearCost m_traced m_stand) → va_S A s.heap H locs → W p l e rmX7_costOf s m args below meth c H locs 0 0 Q (F0 m pc ls [.int r])) (k100 : Int32 → Int32 → Int32 → Option (Int32)) (hk100 : ∀ (x4 : Int32) (x6 : Int32) (x7 : Int32), k100 x4 x6 x7 = some r → ∀ (H : Heap) (locs : List Loc) (ls : Array Slot), va_P G vwCl (WX7_costOf K m_a mA_lane mA_many mA_item mA_poem mA_fresh mA_then mA_was mA_tape mA_strengths mA_sounds mA_stand mA_scheme mA_isKept mA_kept mA_trace m_thrown m_status m_acts m_taped m_cursor m_start m_token m_value m_fault m_faultAt m_latest m_stands m_least m_ways m_nearFoot m_nearFeet m_nearCost m_traced m_stand) H → va_D A (WX7_costOf K m_a mA_lane mA_many mA_item mA_poem mA_fresh mA_then mA_was mA_tape mA_strengths mA_sounds mA_stand mA_scheme mA_isKept mA_kept mA_trace m_thrown m_status m_acts m_taped m_cursor m_start m_token m_value m_fault m_faultAt m_latest m_stands m_least m_ways m_nearFoot m_nearFeet m_nearCost m_traced m_stand) → va_S A s.heap H locs → lv_has ls 10 [(0, .ref m_a), (1, .int p1), (3, .int p3), (4, .int x4), (6, .int x6), (7, .int x7)] → W p l e rmX7_costOf s m args below meth c H locs 0 0 Q (F0 m 100 ls [])) (x4 : Int32) (x7 : Int32) (x9 : Int32) (s0 : Int32) (hM : mX7_costOf_b187 m_stands m_stand p1 p2 p3 k100 x4 x7 x9 s0 = some r) : ∀ (H : Heap) (locs : List Loc) (ls : Array Slot), va_P G vwCl (WX7_costOf K m_a mA_lane mA_many mA_item mA_poem mA_fresh mA_then mA_was mA_tape mA_strengths mA_sounds mA_stand mA_scheme mA_isKept mA_kept mA_trace m_thrown m_status m_acts m_taped m_cursor m_start m_token m_value m_fault m_faultAt m_latest m_stands m_least m_ways m_nearFoot m_nearFeet m_nearCost m_traced m_stand) H → va_D A (WX7_costOf K m_a mA_lane mA_many mA_item mA_poem mA_fresh mA_then mA_was mA_tape mA_strengths mA_sounds mA_stand mA_scheme mA_isKept mA_kept mA_trace m_thrown m_status m_acts m_taped m_cursor m_start m_token m_value m_fault m_faultAt m_latest m_stands m_least m_ways m_nearFoot m_nearFeet m_nearCost m_traced m_stand) → va_S A s.heap H locs → lv_has ls 10 [(0, .ref m_a), (1, .int p1), (3, .int p3), (4, .int x4), (7, .int x7), (9, .int x9)] → W p l e rmX7_costOf s m args below meth c H locs 0 0 Q (F0 m 187 ls [.int s0]) := by
  obtain ⟨hx, hb, hml, hown, hts, hK, hA, hEo, hE⟩ := id C0
  intro H locs ls hP hD hS hl
  unfold mX7_costOf_b187 at hM
  refine lv_iload hx hb dX7_costOf_187 (lv_at hl 5 rfl) ?_
  refine lv_if_ne (tgt := 207) hx hb dX7_costOf_189 (by decide) (fun c_1 => ?_) (fun c_1 => ?_)
  · rw [if_neg c_1] at hM
    refine lv_iconst (v := 0) hx hb dX7_costOf_207 (by decide) ?_
    refine lv_iadd hx hb dX7_costOf_208 ?_
    refine lv_istore (lv' := [(6, .int (s0 + (0 : Int32))), (0, .ref m_a), (1, .int p1), (3, .int p3), (4, .int x4), (7, .int x7), (9, .int x9)]) hx hb dX7_costOf_209 hl (by decide) rfl (fun ls hl => ?_)
    refine lv_iinc (v := (x7 + 1)) (lv' := [(7, .int (x7 + 1)), (6, .int (s0 + (0 : Int32))), (0, .ref m_a), (1, .int p1), (3, .int p3), (4, .int x4), (9, .int x9)]) hx hb dX7_costOf_211 hl (k := 5) rfl rfl (by decide) rfl (fun ls hl => ?_)
    refine lv_goto (tgt := 100) hx hb dX7_costOf_214 (by decide) ?_
    exact hk100 x4 (s0 + (0 : Int32)) (x7 + 1) hM _ _ _ hP hD hS (lv_sub hl [2, 3, 4, 5, 1, 0] rfl)
  · rw [if_pos c_1] at hM
    refine lv_aload_n hx hb dX7_costOf_192 rfl (lv_at hl 0 rfl) ?_
    refine va_get (D := G) (ci := 7) (v := .ref mA_stand) (C := RX7) (T := TX7) (N := 33) hx hb hts inX7 hown hK hP 0 rfl rfl 21 (by decide) (hts _ tb785) (fun _ h9 => h9) rfl dX7_costOf_193 ?_
    refine lv_iload hx hb dX7_costOf_196 (lv_at hl 4 rfl) ?_
    obtain ⟨g_2, hM⟩ := ng hM
    refine va_iald hx hb hK hP 1 0 rfl rfl g_2 dX7_costOf_198 ?_
    refine lv_iconst (v := 1) hx hb dX7_costOf_199 (by decide) ?_
    refine lv_icmp_ne (tgt := 207) hx hb dX7_costOf_200 (by decide) (fun c_3 => ?_) (fun c_3 => ?_)
    · rw [if_neg c_3] at hM
      refine lv_iconst (v := 0) hx hb dX7_costOf_207 (by decide) ?_
      refine lv_iadd hx hb dX7_costOf_208 ?_
      refine lv_istore (lv' := [(6, .int (s0 + (0 : Int32))), (0, .ref m_a), (1, .int p1), (3, .int p3), (4, .int x4), (7, .int x7), (9, .int x9)]) hx hb dX7_costOf_209 hl (by decide) rfl (fun ls hl => ?_)
      refine lv_iinc (v := (x7 + 1)) (lv' := [(7, .int (x7 + 1)), (6, .int (s0 + (0 : Int32))), (0, .ref m_a), (1, .int p1), (3, .int p3), (4, .int x4), (9, .int x9)]) hx hb dX7_costOf_211 hl (k := 5) rfl rfl (by decide) rfl (fun ls hl => ?_)
      refine lv_goto (tgt := 100) hx hb dX7_costOf_214 (by decide) ?_
      exact hk100 x4 (s0 + (0 : Int32)) (x7 + 1) hM _ _ _ hP hD hS (lv_sub hl [2, 3, 4, 5, 1, 0] rfl)
    · rw [if_pos c_3] at hM
      refine lv_iconst (v := 2) hx hb dX7_costOf_203 (by decide) ?_
      refine lv_goto (tgt := 208) hx hb dX7_costOf_204 (by decide) ?_
      refine lv_iadd hx hb dX7_costOf_208 ?_
      refine lv_istore (lv' := [(6, .int (s0 + (2 : Int32))), (0, .ref m_a), (1, .int p1), (3, .int p3), (4, .int x4), (7, .int x7), (9, .int x9)]) hx hb dX7_costOf_209 hl (by decide) rfl (fun ls hl => ?_)
      refine lv_iinc (v := (x7 + 1)) (lv' := [(7, .int (x7 + 1)), (6, .int (s0 + (2 : Int32))), (0, .ref m_a), (1, .int p1), (3, .int p3), (4, .int x4), (9, .int x9)]) hx hb dX7_costOf_211 hl (k := 5) rfl rfl (by decide) rfl (fun ls hl => ?_)
      refine lv_goto (tgt := 100) hx hb dX7_costOf_214 (by decide) ?_
      exact hk100 x4 (s0 + (2 : Int32)) (x7 + 1) hM _ _ _ hP hD hS (lv_sub hl [2, 3, 4, 5, 1, 0] rfl)
set_option maxHeartbeats 4000000 in
set_option maxRecDepth 100000 in
theorem wX7_costOf_b150 {p : Program} {l : Launch} {e : Env} {s : State} {m : MethodId} {args : Array Value} {below : List Frame} {meth : Method} {c : Code} {Q : State → Prop} {G : va_G} {K : Nat → ClassId} {A : Nat → Prop} (C0 : CX p s m args c cX7_costOf 10 RX7 G K E0 A) (m_a mA_lane mA_many mA_item mA_poem mA_fresh mA_then mA_was mA_tape mA_strengths mA_sounds mA_stand mA_scheme mA_isKept mA_kept mA_trace : Nat) (m_thrown : Int32) (m_status : Int32) (m_acts : Int32) (m_taped : Int32) (m_cursor : Int32) (m_start : Int32) (m_token : Int32) (m_value : Int32) (m_fault : Int32) (m_faultAt : Int32) (m_latest : Int32) (m_stands : Int32) (m_least : Int32) (m_ways : Int32) (m_nearFoot : Int32) (m_nearFeet : Int32) (m_nearCost : Int32) (m_traced : Int32) (m_stand : Nat → Int32) (p1 : Int32) (p2 : Int32) (p3 : Int32) (r : Int32)  (kr : ∀ (H : Heap) (locs : List Loc) (ls : Array Slot) (pc : Nat), decode cX7_costOf pc = .ok (.ireturn, 1) → va_P G vwCl (WX7_costOf K m_a mA_lane mA_many mA_item mA_poem mA_fresh mA_then mA_was mA_tape mA_strengths mA_sounds mA_stand mA_scheme mA_isKept mA_kept mA_trace m_thrown m_status m_acts m_taped m_cursor m_start m_token m_value m_fault m_faultAt m_latest m_stands m_least m_ways m_nearFoot m_nearFeet m_nearCost m_traced m_stand) H → va_D A (WX7_costOf K m_a mA_lane mA_many mA_item mA_poem mA_fresh mA_then mA_was mA_tape mA_strengths mA_sounds mA_stand mA_scheme mA_isKept mA_kept mA_trace m_thrown m_status m_acts m_taped m_cursor m_start m_token m_value m_fault m_faultAt m_latest m_stands m_least m_ways m_nearFoot m_nearFeet m_nearCost m_traced m_stand) → va_S A s.heap H locs → W p l e rmX7_costOf s m args below meth c H locs 0 0 Q (F0 m pc ls [.int r])) (k100 : Int32 → Int32 → Int32 → Option (Int32)) (hk100 : ∀ (x4 : Int32) (x6 : Int32) (x7 : Int32), k100 x4 x6 x7 = some r → ∀ (H : Heap) (locs : List Loc) (ls : Array Slot), va_P G vwCl (WX7_costOf K m_a mA_lane mA_many mA_item mA_poem mA_fresh mA_then mA_was mA_tape mA_strengths mA_sounds mA_stand mA_scheme mA_isKept mA_kept mA_trace m_thrown m_status m_acts m_taped m_cursor m_start m_token m_value m_fault m_faultAt m_latest m_stands m_least m_ways m_nearFoot m_nearFeet m_nearCost m_traced m_stand) H → va_D A (WX7_costOf K m_a mA_lane mA_many mA_item mA_poem mA_fresh mA_then mA_was mA_tape mA_strengths mA_sounds mA_stand mA_scheme mA_isKept mA_kept mA_trace m_thrown m_status m_acts m_taped m_cursor m_start m_token m_value m_fault m_faultAt m_latest m_stands m_least m_ways m_nearFoot m_nearFeet m_nearCost m_traced m_stand) → va_S A s.heap H locs → lv_has ls 10 [(0, .ref m_a), (1, .int p1), (3, .int p3), (4, .int x4), (6, .int x6), (7, .int x7)] → W p l e rmX7_costOf s m args below meth c H locs 0 0 Q (F0 m 100 ls [])) (x4 : Int32) (x6 : Int32) (x7 : Int32) (s0 : Int32) (hM : mX7_costOf_b150 m_stands m_stand p1 p2 p3 k100 x4 x6 x7 s0 = some r) : ∀ (H : Heap) (locs : List Loc) (ls : Array Slot), va_P G vwCl (WX7_costOf K m_a mA_lane mA_many mA_item mA_poem mA_fresh mA_then mA_was mA_tape mA_strengths mA_sounds mA_stand mA_scheme mA_isKept mA_kept mA_trace m_thrown m_status m_acts m_taped m_cursor m_start m_token m_value m_fault m_faultAt m_latest m_stands m_least m_ways m_nearFoot m_nearFeet m_nearCost m_traced m_stand) H → va_D A (WX7_costOf K m_a mA_lane mA_many mA_item mA_poem mA_fresh mA_then mA_was mA_tape mA_strengths mA_sounds mA_stand mA_scheme mA_isKept mA_kept mA_trace m_thrown m_status m_acts m_taped m_cursor m_start m_token m_value m_fault m_faultAt m_latest m_stands m_least m_ways m_nearFoot m_nearFeet m_nearCost m_traced m_stand) → va_S A s.heap H locs → lv_has ls 10 [(0, .ref m_a), (1, .int p1), (3, .int p3), (4, .int x4), (6, .int x6), (7, .int x7)] → W p l e rmX7_costOf s m args below meth c H locs 0 0 Q (F0 m 150 ls [.int s0]) := by
  obtain ⟨hx, hb, hml, hown, hts, hK, hA, hEo, hE⟩ := id C0
  intro H locs ls hP hD hS hl
  unfold mX7_costOf_b150 at hM
  refine lv_istore (lv' := [(8, .int s0), (0, .ref m_a), (1, .int p1), (3, .int p3), (4, .int x4), (6, .int x6), (7, .int x7)]) hx hb dX7_costOf_150 hl (by decide) rfl (fun ls hl => ?_)
  refine lv_iload hx hb dX7_costOf_152 (lv_at hl 0 rfl) ?_
  refine lv_iload hx hb dX7_costOf_154 (lv_at hl 6 rfl) ?_
  refine lv_iload_n hx hb dX7_costOf_156 rfl (lv_at hl 2 rfl) ?_
  obtain ⟨r_4, hC, hM⟩ := oe1 hM
  refine cS_i (As := [.int p1]) (rest := [.int x7, .int s0]) C0 hP hD hS [] (kX7_size l G K p1 H.size r_4 hC) rfl rfl rfl tb1113 tb1114 tb9 tb1115 hdX7_size ⟨Nat.le_of_ble_eq_true rfl, Nat.le_of_ble_eq_true rfl⟩ rfl hl.1 (Nat.le_of_ble_eq_true rfl) rfl ⟨Nat.le_refl _, Nat.le_refl _⟩ dX7_costOf_157 (fun H locs hP hD hS => ?_)
  have hP : va_P G vwCl (WX7_costOf K m_a mA_lane mA_many mA_item mA_poem mA_fresh mA_then mA_was mA_tape mA_strengths mA_sounds mA_stand mA_scheme mA_isKept mA_kept mA_trace m_thrown m_status m_acts m_taped m_cursor m_start m_token m_value m_fault m_faultAt m_latest m_stands m_least m_ways m_nearFoot m_nearFeet m_nearCost m_traced m_stand) H := hP
  have hD : va_D A (WX7_costOf K m_a mA_lane mA_many mA_item mA_poem mA_fresh mA_then mA_was mA_tape mA_strengths mA_sounds mA_stand mA_scheme mA_isKept mA_kept mA_trace m_thrown m_status m_acts m_taped m_cursor m_start m_token m_value m_fault m_faultAt m_latest m_stands m_least m_ways m_nearFoot m_nearFeet m_nearCost m_traced m_stand) := hD
  obtain ⟨g_5, hM⟩ := ng hM
  refine lv_irem hx hb dX7_costOf_160 g_5 ?_
  obtain ⟨r_6, hC, hM⟩ := oe1 hM
  refine cS_i (As := [.int s0, .int (x7 - x7 / r_4 * r_4)]) (rest := []) C0 hP hD hS [] (kX7_isStrong l G K s0 (x7 - x7 / r_4 * r_4) H.size r_6 hC) rfl rfl rfl tb1116 tb1117 tb9 tb1118 hdX7_isStrong ⟨Nat.le_of_ble_eq_true rfl, Nat.le_of_ble_eq_true rfl⟩ rfl hl.1 (Nat.le_of_ble_eq_true rfl) rfl ⟨Nat.le_refl _, Nat.le_refl _⟩ dX7_costOf_161 (fun H locs hP hD hS => ?_)
  have hP : va_P G vwCl (WX7_costOf K m_a mA_lane mA_many mA_item mA_poem mA_fresh mA_then mA_was mA_tape mA_strengths mA_sounds mA_stand mA_scheme mA_isKept mA_kept mA_trace m_thrown m_status m_acts m_taped m_cursor m_start m_token m_value m_fault m_faultAt m_latest m_stands m_least m_ways m_nearFoot m_nearFeet m_nearCost m_traced m_stand) H := hP
  have hD : va_D A (WX7_costOf K m_a mA_lane mA_many mA_item mA_poem mA_fresh mA_then mA_was mA_tape mA_strengths mA_sounds mA_stand mA_scheme mA_isKept mA_kept mA_trace m_thrown m_status m_acts m_taped m_cursor m_start m_token m_value m_fault m_faultAt m_latest m_stands m_least m_ways m_nearFoot m_nearFeet m_nearCost m_traced m_stand) := hD
  refine lv_istore (lv' := [(9, .int r_6), (8, .int s0), (0, .ref m_a), (1, .int p1), (3, .int p3), (4, .int x4), (6, .int x6), (7, .int x7)]) hx hb dX7_costOf_164 hl (by decide) rfl (fun ls hl => ?_)
  refine lv_iload hx hb dX7_costOf_166 (lv_at hl 6 rfl) ?_
  refine lv_iload hx hb dX7_costOf_168 (lv_at hl 0 rfl) ?_
  refine lv_if_eq (tgt := 187) hx hb dX7_costOf_170 (by decide) (fun c_7 => ?_) (fun c_7 => ?_)
  · rw [if_pos c_7] at hM
    exact wX7_costOf_b187 C0 m_a mA_lane mA_many mA_item mA_poem mA_fresh mA_then mA_was mA_tape mA_strengths mA_sounds mA_stand mA_scheme mA_isKept mA_kept mA_trace m_thrown m_status m_acts m_taped m_cursor m_start m_token m_value m_fault m_faultAt m_latest m_stands m_least m_ways m_nearFoot m_nearFeet m_nearCost m_traced m_stand p1 p2 p3 r kr k100 hk100 x4 x7 r_6 x6 hM _ _ _ hP hD hS (lv_sub hl [2, 3, 4, 5, 7, 0] rfl)
  · rw [if_neg c_7] at hM
    refine lv_aload_n hx hb dX7_costOf_173 rfl (lv_at hl 2 rfl) ?_
    refine va_get (D := G) (ci := 7) (v := .ref mA_stand) (C := RX7) (T := TX7) (N := 33) hx hb hts inX7 hown hK hP 0 rfl rfl 21 (by decide) (hts _ tb785) (fun _ h9 => h9) rfl dX7_costOf_174 ?_
    refine lv_iload hx hb dX7_costOf_177 (lv_at hl 7 rfl) ?_
    obtain ⟨g_8, hM⟩ := ng hM
    refine va_iald hx hb hK hP 1 0 rfl rfl g_8 dX7_costOf_179 ?_
    refine lv_if_ne (tgt := 187) hx hb dX7_costOf_180 (by decide) (fun c_9 => ?_) (fun c_9 => ?_)
    · rw [if_neg c_9] at hM
      exact wX7_costOf_b187 C0 m_a mA_lane mA_many mA_item mA_poem mA_fresh mA_then mA_was mA_tape mA_strengths mA_sounds mA_stand mA_scheme mA_isKept mA_kept mA_trace m_thrown m_status m_acts m_taped m_cursor m_start m_token m_value m_fault m_faultAt m_latest m_stands m_least m_ways m_nearFoot m_nearFeet m_nearCost m_traced m_stand p1 p2 p3 r kr k100 hk100 x4 x7 r_6 x6 hM _ _ _ hP hD hS (lv_sub hl [2, 3, 4, 5, 7, 0] rfl)
    · rw [if_pos c_9] at hM
      refine lv_iconst (v := 3) hx hb dX7_costOf_183 (by decide) ?_
      refine lv_goto (tgt := 208) hx hb dX7_costOf_184 (by decide) ?_
      refine lv_iadd hx hb dX7_costOf_208 ?_
      refine lv_istore (lv' := [(6, .int (x6 + (3 : Int32))), (9, .int r_6), (8, .int s0), (0, .ref m_a), (1, .int p1), (3, .int p3), (4, .int x4), (7, .int x7)]) hx hb dX7_costOf_209 hl (by decide) rfl (fun ls hl => ?_)
      refine lv_iinc (v := (x7 + 1)) (lv' := [(7, .int (x7 + 1)), (6, .int (x6 + (3 : Int32))), (9, .int r_6), (8, .int s0), (0, .ref m_a), (1, .int p1), (3, .int p3), (4, .int x4)]) hx hb dX7_costOf_211 hl (k := 7) rfl rfl (by decide) rfl (fun ls hl => ?_)
      refine lv_goto (tgt := 100) hx hb dX7_costOf_214 (by decide) ?_
      exact hk100 x4 (x6 + (3 : Int32)) (x7 + 1) hM _ _ _ hP hD hS (lv_sub hl [4, 5, 6, 7, 1, 0] rfl)
set_option maxHeartbeats 4000000 in
set_option maxRecDepth 100000 in
theorem wX7_costOf_b149 {p : Program} {l : Launch} {e : Env} {s : State} {m : MethodId} {args : Array Value} {below : List Frame} {meth : Method} {c : Code} {Q : State → Prop} {G : va_G} {K : Nat → ClassId} {A : Nat → Prop} (C0 : CX p s m args c cX7_costOf 10 RX7 G K E0 A) (m_a mA_lane mA_many mA_item mA_poem mA_fresh mA_then mA_was mA_tape mA_strengths mA_sounds mA_stand mA_scheme mA_isKept mA_kept mA_trace : Nat) (m_thrown : Int32) (m_status : Int32) (m_acts : Int32) (m_taped : Int32) (m_cursor : Int32) (m_start : Int32) (m_token : Int32) (m_value : Int32) (m_fault : Int32) (m_faultAt : Int32) (m_latest : Int32) (m_stands : Int32) (m_least : Int32) (m_ways : Int32) (m_nearFoot : Int32) (m_nearFeet : Int32) (m_nearCost : Int32) (m_traced : Int32) (m_stand : Nat → Int32) (p1 : Int32) (p2 : Int32) (p3 : Int32) (r : Int32)  (kr : ∀ (H : Heap) (locs : List Loc) (ls : Array Slot) (pc : Nat), decode cX7_costOf pc = .ok (.ireturn, 1) → va_P G vwCl (WX7_costOf K m_a mA_lane mA_many mA_item mA_poem mA_fresh mA_then mA_was mA_tape mA_strengths mA_sounds mA_stand mA_scheme mA_isKept mA_kept mA_trace m_thrown m_status m_acts m_taped m_cursor m_start m_token m_value m_fault m_faultAt m_latest m_stands m_least m_ways m_nearFoot m_nearFeet m_nearCost m_traced m_stand) H → va_D A (WX7_costOf K m_a mA_lane mA_many mA_item mA_poem mA_fresh mA_then mA_was mA_tape mA_strengths mA_sounds mA_stand mA_scheme mA_isKept mA_kept mA_trace m_thrown m_status m_acts m_taped m_cursor m_start m_token m_value m_fault m_faultAt m_latest m_stands m_least m_ways m_nearFoot m_nearFeet m_nearCost m_traced m_stand) → va_S A s.heap H locs → W p l e rmX7_costOf s m args below meth c H locs 0 0 Q (F0 m pc ls [.int r])) (k100 : Int32 → Int32 → Int32 → Option (Int32)) (hk100 : ∀ (x4 : Int32) (x6 : Int32) (x7 : Int32), k100 x4 x6 x7 = some r → ∀ (H : Heap) (locs : List Loc) (ls : Array Slot), va_P G vwCl (WX7_costOf K m_a mA_lane mA_many mA_item mA_poem mA_fresh mA_then mA_was mA_tape mA_strengths mA_sounds mA_stand mA_scheme mA_isKept mA_kept mA_trace m_thrown m_status m_acts m_taped m_cursor m_start m_token m_value m_fault m_faultAt m_latest m_stands m_least m_ways m_nearFoot m_nearFeet m_nearCost m_traced m_stand) H → va_D A (WX7_costOf K m_a mA_lane mA_many mA_item mA_poem mA_fresh mA_then mA_was mA_tape mA_strengths mA_sounds mA_stand mA_scheme mA_isKept mA_kept mA_trace m_thrown m_status m_acts m_taped m_cursor m_start m_token m_value m_fault m_faultAt m_latest m_stands m_least m_ways m_nearFoot m_nearFeet m_nearCost m_traced m_stand) → va_S A s.heap H locs → lv_has ls 10 [(0, .ref m_a), (1, .int p1), (3, .int p3), (4, .int x4), (6, .int x6), (7, .int x7)] → W p l e rmX7_costOf s m args below meth c H locs 0 0 Q (F0 m 100 ls [])) (x4 : Int32) (x6 : Int32) (x7 : Int32) (hM : mX7_costOf_b149 m_stands m_stand p1 p2 p3 k100 x4 x6 x7 = some r) : ∀ (H : Heap) (locs : List Loc) (ls : Array Slot), va_P G vwCl (WX7_costOf K m_a mA_lane mA_many mA_item mA_poem mA_fresh mA_then mA_was mA_tape mA_strengths mA_sounds mA_stand mA_scheme mA_isKept mA_kept mA_trace m_thrown m_status m_acts m_taped m_cursor m_start m_token m_value m_fault m_faultAt m_latest m_stands m_least m_ways m_nearFoot m_nearFeet m_nearCost m_traced m_stand) H → va_D A (WX7_costOf K m_a mA_lane mA_many mA_item mA_poem mA_fresh mA_then mA_was mA_tape mA_strengths mA_sounds mA_stand mA_scheme mA_isKept mA_kept mA_trace m_thrown m_status m_acts m_taped m_cursor m_start m_token m_value m_fault m_faultAt m_latest m_stands m_least m_ways m_nearFoot m_nearFeet m_nearCost m_traced m_stand) → va_S A s.heap H locs → lv_has ls 10 [(0, .ref m_a), (1, .int p1), (3, .int p3), (4, .int x4), (6, .int x6), (7, .int x7)] → W p l e rmX7_costOf s m args below meth c H locs 0 0 Q (F0 m 149 ls []) := by
  obtain ⟨hx, hb, hml, hown, hts, hK, hA, hEo, hE⟩ := id C0
  intro H locs ls hP hD hS hl
  unfold mX7_costOf_b149 at hM
  refine lv_iload_n hx hb dX7_costOf_149 rfl (lv_at hl 1 rfl) ?_
  exact wX7_costOf_b150 C0 m_a mA_lane mA_many mA_item mA_poem mA_fresh mA_then mA_was mA_tape mA_strengths mA_sounds mA_stand mA_scheme mA_isKept mA_kept mA_trace m_thrown m_status m_acts m_taped m_cursor m_start m_token m_value m_fault m_faultAt m_latest m_stands m_least m_ways m_nearFoot m_nearFeet m_nearCost m_traced m_stand p1 p2 p3 r kr k100 hk100 x4 x6 x7 p1 hM _ _ _ hP hD hS (lv_sub hl [0, 1, 2, 3, 4, 5] rfl)
set_option maxHeartbeats 4000000 in
set_option maxRecDepth 100000 in
theorem wX7_costOf_b100 {p : Program} {l : Launch} {e : Env} {s : State} {m : MethodId} {args : Array Value} {below : List Frame} {meth : Method} {c : Code} {Q : State → Prop} {G : va_G} {K : Nat → ClassId} {A : Nat → Prop} (C0 : CX p s m args c cX7_costOf 10 RX7 G K E0 A) (m_a mA_lane mA_many mA_item mA_poem mA_fresh mA_then mA_was mA_tape mA_strengths mA_sounds mA_stand mA_scheme mA_isKept mA_kept mA_trace : Nat) (m_thrown : Int32) (m_status : Int32) (m_acts : Int32) (m_taped : Int32) (m_cursor : Int32) (m_start : Int32) (m_token : Int32) (m_value : Int32) (m_fault : Int32) (m_faultAt : Int32) (m_latest : Int32) (m_stands : Int32) (m_least : Int32) (m_ways : Int32) (m_nearFoot : Int32) (m_nearFeet : Int32) (m_nearCost : Int32) (m_traced : Int32) (m_stand : Nat → Int32) (p1 : Int32) (p2 : Int32) (p3 : Int32) (r : Int32)  (kr : ∀ (H : Heap) (locs : List Loc) (ls : Array Slot) (pc : Nat), decode cX7_costOf pc = .ok (.ireturn, 1) → va_P G vwCl (WX7_costOf K m_a mA_lane mA_many mA_item mA_poem mA_fresh mA_then mA_was mA_tape mA_strengths mA_sounds mA_stand mA_scheme mA_isKept mA_kept mA_trace m_thrown m_status m_acts m_taped m_cursor m_start m_token m_value m_fault m_faultAt m_latest m_stands m_least m_ways m_nearFoot m_nearFeet m_nearCost m_traced m_stand) H → va_D A (WX7_costOf K m_a mA_lane mA_many mA_item mA_poem mA_fresh mA_then mA_was mA_tape mA_strengths mA_sounds mA_stand mA_scheme mA_isKept mA_kept mA_trace m_thrown m_status m_acts m_taped m_cursor m_start m_token m_value m_fault m_faultAt m_latest m_stands m_least m_ways m_nearFoot m_nearFeet m_nearCost m_traced m_stand) → va_S A s.heap H locs → W p l e rmX7_costOf s m args below meth c H locs 0 0 Q (F0 m pc ls [.int r])) (n : Nat) : ∀ (x4 : Int32) (x6 : Int32) (x7 : Int32), mX7_costOf_b100 m_stands m_stand p1 p2 p3  n x4 x6 x7 = some r → ∀ (H : Heap) (locs : List Loc) (ls : Array Slot), va_P G vwCl (WX7_costOf K m_a mA_lane mA_many mA_item mA_poem mA_fresh mA_then mA_was mA_tape mA_strengths mA_sounds mA_stand mA_scheme mA_isKept mA_kept mA_trace m_thrown m_status m_acts m_taped m_cursor m_start m_token m_value m_fault m_faultAt m_latest m_stands m_least m_ways m_nearFoot m_nearFeet m_nearCost m_traced m_stand) H → va_D A (WX7_costOf K m_a mA_lane mA_many mA_item mA_poem mA_fresh mA_then mA_was mA_tape mA_strengths mA_sounds mA_stand mA_scheme mA_isKept mA_kept mA_trace m_thrown m_status m_acts m_taped m_cursor m_start m_token m_value m_fault m_faultAt m_latest m_stands m_least m_ways m_nearFoot m_nearFeet m_nearCost m_traced m_stand) → va_S A s.heap H locs → lv_has ls 10 [(0, .ref m_a), (1, .int p1), (3, .int p3), (4, .int x4), (6, .int x6), (7, .int x7)] → W p l e rmX7_costOf s m args below meth c H locs 0 0 Q (F0 m 100 ls []) := by
  obtain ⟨hx, hb, hml, hown, hts, hK, hA, hEo, hE⟩ := id C0
  induction n with
  | zero =>
    intro x4 x6 x7 hM
    cases hM
  | succ n ih =>
    intro x4 x6 x7 hM H locs ls hP hD hS hl
    rw [mX7_costOf_b100] at hM
    refine lv_iload hx hb dX7_costOf_100 (lv_at hl 5 rfl) ?_
    refine lv_aload_n hx hb dX7_costOf_102 rfl (lv_at hl 0 rfl) ?_
    refine va_get (D := G) (ci := 7) (v := .int m_stands) (C := RX7) (T := TX7) (N := 33) hx hb hts inX7 hown hK hP 0 rfl rfl 22 (by decide) (hts _ tb786) (fun _ h9 => h9) rfl dX7_costOf_103 ?_
    refine lv_icmp_ge (tgt := 217) hx hb dX7_costOf_106 (by decide) (fun c_10 => ?_) (fun c_10 => ?_)
    · rw [if_pos c_10] at hM
      refine lv_iload hx hb dX7_costOf_217 (lv_at hl 4 rfl) ?_
      have q1 := Option.some.inj hM
      subst q1
      exact kr _ _ _ _ dX7_costOf_219 hP hD hS
    · rw [if_neg c_10] at hM
      refine lv_iload hx hb dX7_costOf_109 (lv_at hl 5 rfl) ?_
      refine lv_iload hx hb dX7_costOf_111 (lv_at hl 3 rfl) ?_
      refine lv_icmp_lt (tgt := 130) hx hb dX7_costOf_113 (by decide) (fun c_11 => ?_) (fun c_11 => ?_)
      · rw [if_pos c_11] at hM
        refine lv_iload_n hx hb dX7_costOf_130 rfl (lv_at hl 2 rfl) ?_
        refine lv_if_eq (tgt := 149) hx hb dX7_costOf_131 (by decide) (fun c_12 => ?_) (fun c_12 => ?_)
        · rw [if_pos c_12] at hM
          exact wX7_costOf_b149 C0 m_a mA_lane mA_many mA_item mA_poem mA_fresh mA_then mA_was mA_tape mA_strengths mA_sounds mA_stand mA_scheme mA_isKept mA_kept mA_trace m_thrown m_status m_acts m_taped m_cursor m_start m_token m_value m_fault m_faultAt m_latest m_stands m_least m_ways m_nearFoot m_nearFeet m_nearCost m_traced m_stand p1 p2 p3 r kr (mX7_costOf_b100 m_stands m_stand p1 p2 p3  n) ih x4 x6 x7 hM _ _ _ hP hD hS (lv_sub hl [0, 1, 2, 3, 4, 5] rfl)
        · rw [if_neg c_12] at hM
          refine lv_iload hx hb dX7_costOf_134 (lv_at hl 5 rfl) ?_
          refine lv_iload_n hx hb dX7_costOf_136 rfl (lv_at hl 1 rfl) ?_
          obtain ⟨r_13, hC, hM⟩ := oe1 hM
          refine cS_i (As := [.int p1]) (rest := [.int x7]) C0 hP hD hS [] (kX7_size l G K p1 H.size r_13 hC) rfl rfl rfl tb1113 tb1114 tb9 tb1115 hdX7_size ⟨Nat.le_of_ble_eq_true rfl, Nat.le_of_ble_eq_true rfl⟩ rfl hl.1 (Nat.le_of_ble_eq_true rfl) rfl ⟨Nat.le_refl _, Nat.le_refl _⟩ dX7_costOf_137 (fun H locs hP hD hS => ?_)
          have hP : va_P G vwCl (WX7_costOf K m_a mA_lane mA_many mA_item mA_poem mA_fresh mA_then mA_was mA_tape mA_strengths mA_sounds mA_stand mA_scheme mA_isKept mA_kept mA_trace m_thrown m_status m_acts m_taped m_cursor m_start m_token m_value m_fault m_faultAt m_latest m_stands m_least m_ways m_nearFoot m_nearFeet m_nearCost m_traced m_stand) H := hP
          have hD : va_D A (WX7_costOf K m_a mA_lane mA_many mA_item mA_poem mA_fresh mA_then mA_was mA_tape mA_strengths mA_sounds mA_stand mA_scheme mA_isKept mA_kept mA_trace m_thrown m_status m_acts m_taped m_cursor m_start m_token m_value m_fault m_faultAt m_latest m_stands m_least m_ways m_nearFoot m_nearFeet m_nearCost m_traced m_stand) := hD
          refine lv_icmp_ge (tgt := 149) hx hb dX7_costOf_140 (by decide) (fun c_14 => ?_) (fun c_14 => ?_)
          · rw [if_pos c_14] at hM
            exact wX7_costOf_b149 C0 m_a mA_lane mA_many mA_item mA_poem mA_fresh mA_then mA_was mA_tape mA_strengths mA_sounds mA_stand mA_scheme mA_isKept mA_kept mA_trace m_thrown m_status m_acts m_taped m_cursor m_start m_token m_value m_fault m_faultAt m_latest m_stands m_least m_ways m_nearFoot m_nearFeet m_nearCost m_traced m_stand p1 p2 p3 r kr (mX7_costOf_b100 m_stands m_stand p1 p2 p3  n) ih x4 x6 x7 hM _ _ _ hP hD hS (lv_sub hl [0, 1, 2, 3, 4, 5] rfl)
          · rw [if_neg c_14] at hM
            refine lv_iload_n hx hb dX7_costOf_143 rfl (lv_at hl 1 rfl) ?_
            refine lv_iconst (v := 1) hx hb dX7_costOf_144 (by decide) ?_
            refine lv_ixor hx hb dX7_costOf_145 ?_
            refine lv_goto (tgt := 150) hx hb dX7_costOf_146 (by decide) ?_
            exact wX7_costOf_b150 C0 m_a mA_lane mA_many mA_item mA_poem mA_fresh mA_then mA_was mA_tape mA_strengths mA_sounds mA_stand mA_scheme mA_isKept mA_kept mA_trace m_thrown m_status m_acts m_taped m_cursor m_start m_token m_value m_fault m_faultAt m_latest m_stands m_least m_ways m_nearFoot m_nearFeet m_nearCost m_traced m_stand p1 p2 p3 r kr (mX7_costOf_b100 m_stands m_stand p1 p2 p3  n) ih x4 x6 x7 (p1 ^^^ (1 : Int32)) hM _ _ _ hP hD hS (lv_sub hl [0, 1, 2, 3, 4, 5] rfl)
      · rw [if_neg c_11] at hM
        refine lv_aload_n hx hb dX7_costOf_116 rfl (lv_at hl 0 rfl) ?_
        refine va_get (D := G) (ci := 7) (v := .ref mA_stand) (C := RX7) (T := TX7) (N := 33) hx hb hts inX7 hown hK hP 0 rfl rfl 21 (by decide) (hts _ tb785) (fun _ h9 => h9) rfl dX7_costOf_117 ?_
        refine lv_iload hx hb dX7_costOf_120 (lv_at hl 5 rfl) ?_
        obtain ⟨g_15, hM⟩ := ng hM
        refine va_iald hx hb hK hP 1 0 rfl rfl g_15 dX7_costOf_122 ?_
        refine lv_iconst (v := 1) hx hb dX7_costOf_123 (by decide) ?_
        refine lv_icmp_ne (tgt := 211) hx hb dX7_costOf_124 (by decide) (fun c_16 => ?_) (fun c_16 => ?_)
        · rw [if_neg c_16] at hM
          refine lv_iinc (v := (x7 + 1)) (lv' := [(7, .int (x7 + 1)), (0, .ref m_a), (1, .int p1), (3, .int p3), (4, .int x4), (6, .int x6)]) hx hb dX7_costOf_211 hl (k := 5) rfl rfl (by decide) rfl (fun ls hl => ?_)
          refine lv_goto (tgt := 100) hx hb dX7_costOf_214 (by decide) ?_
          exact ih x4 x6 (x7 + 1) hM _ _ _ hP hD hS (lv_sub hl [1, 2, 3, 4, 5, 0] rfl)
        · rw [if_pos c_16] at hM
          refine lv_ldc (v := -1000000) hx hb hown (hts _ tb917) dX7_costOf_127 ?_
          have q1 := Option.some.inj hM
          subst q1
          exact kr _ _ _ _ dX7_costOf_129 hP hD hS
set_option maxHeartbeats 4000000 in
set_option maxRecDepth 100000 in
theorem wX7_costOf_b81 {p : Program} {l : Launch} {e : Env} {s : State} {m : MethodId} {args : Array Value} {below : List Frame} {meth : Method} {c : Code} {Q : State → Prop} {G : va_G} {K : Nat → ClassId} {A : Nat → Prop} (C0 : CX p s m args c cX7_costOf 10 RX7 G K E0 A) (m_a mA_lane mA_many mA_item mA_poem mA_fresh mA_then mA_was mA_tape mA_strengths mA_sounds mA_stand mA_scheme mA_isKept mA_kept mA_trace : Nat) (m_thrown : Int32) (m_status : Int32) (m_acts : Int32) (m_taped : Int32) (m_cursor : Int32) (m_start : Int32) (m_token : Int32) (m_value : Int32) (m_fault : Int32) (m_faultAt : Int32) (m_latest : Int32) (m_stands : Int32) (m_least : Int32) (m_ways : Int32) (m_nearFoot : Int32) (m_nearFeet : Int32) (m_nearCost : Int32) (m_traced : Int32) (m_stand : Nat → Int32) (p1 : Int32) (p2 : Int32) (p3 : Int32) (r : Int32)  (kr : ∀ (H : Heap) (locs : List Loc) (ls : Array Slot) (pc : Nat), decode cX7_costOf pc = .ok (.ireturn, 1) → va_P G vwCl (WX7_costOf K m_a mA_lane mA_many mA_item mA_poem mA_fresh mA_then mA_was mA_tape mA_strengths mA_sounds mA_stand mA_scheme mA_isKept mA_kept mA_trace m_thrown m_status m_acts m_taped m_cursor m_start m_token m_value m_fault m_faultAt m_latest m_stands m_least m_ways m_nearFoot m_nearFeet m_nearCost m_traced m_stand) H → va_D A (WX7_costOf K m_a mA_lane mA_many mA_item mA_poem mA_fresh mA_then mA_was mA_tape mA_strengths mA_sounds mA_stand mA_scheme mA_isKept mA_kept mA_trace m_thrown m_status m_acts m_taped m_cursor m_start m_token m_value m_fault m_faultAt m_latest m_stands m_least m_ways m_nearFoot m_nearFeet m_nearCost m_traced m_stand) → va_S A s.heap H locs → W p l e rmX7_costOf s m args below meth c H locs 0 0 Q (F0 m pc ls [.int r])) (x4 : Int32) (s0 : Int32) (hM : mX7_costOf_b81 m_stands m_stand p1 p2 p3  x4 s0 = some r) : ∀ (H : Heap) (locs : List Loc) (ls : Array Slot), va_P G vwCl (WX7_costOf K m_a mA_lane mA_many mA_item mA_poem mA_fresh mA_then mA_was mA_tape mA_strengths mA_sounds mA_stand mA_scheme mA_isKept mA_kept mA_trace m_thrown m_status m_acts m_taped m_cursor m_start m_token m_value m_fault m_faultAt m_latest m_stands m_least m_ways m_nearFoot m_nearFeet m_nearCost m_traced m_stand) H → va_D A (WX7_costOf K m_a mA_lane mA_many mA_item mA_poem mA_fresh mA_then mA_was mA_tape mA_strengths mA_sounds mA_stand mA_scheme mA_isKept mA_kept mA_trace m_thrown m_status m_acts m_taped m_cursor m_start m_token m_value m_fault m_faultAt m_latest m_stands m_least m_ways m_nearFoot m_nearFeet m_nearCost m_traced m_stand) → va_S A s.heap H locs → lv_has ls 10 [(0, .ref m_a), (1, .int p1), (3, .int p3), (4, .int x4)] → W p l e rmX7_costOf s m args below meth c H locs 0 0 Q (F0 m 81 ls [.int s0]) := by
  obtain ⟨hx, hb, hml, hown, hts, hK, hA, hEo, hE⟩ := id C0
  intro H locs ls hP hD hS hl
  unfold mX7_costOf_b81 at hM
  refine lv_istore (lv' := [(6, .int s0), (0, .ref m_a), (1, .int p1), (3, .int p3), (4, .int x4)]) hx hb dX7_costOf_81 hl (by decide) rfl (fun ls hl => ?_)
  refine lv_iload hx hb dX7_costOf_83 (lv_at hl 0 rfl) ?_
  refine lv_iload_n hx hb dX7_costOf_85 rfl (lv_at hl 3 rfl) ?_
  refine lv_if_eq (tgt := 93) hx hb dX7_costOf_86 (by decide) (fun c_17 => ?_) (fun c_17 => ?_)
  · rw [if_pos c_17] at hM
    refine lv_iconst (v := 0) hx hb dX7_costOf_93 (by decide) ?_
    refine lv_iadd hx hb dX7_costOf_94 ?_
    refine lv_istore (lv' := [(6, .int (s0 + (0 : Int32))), (0, .ref m_a), (1, .int p1), (3, .int p3), (4, .int x4)]) hx hb dX7_costOf_95 hl (by decide) rfl (fun ls hl => ?_)
    refine lv_iconst (v := 0) hx hb dX7_costOf_97 (by decide) ?_
    refine lv_istore (lv' := [(7, .int (0 : Int32)), (6, .int (s0 + (0 : Int32))), (0, .ref m_a), (1, .int p1), (3, .int p3), (4, .int x4)]) hx hb dX7_costOf_98 hl (by decide) rfl (fun ls hl => ?_)
    exact wX7_costOf_b100 C0 m_a mA_lane mA_many mA_item mA_poem mA_fresh mA_then mA_was mA_tape mA_strengths mA_sounds mA_stand mA_scheme mA_isKept mA_kept mA_trace m_thrown m_status m_acts m_taped m_cursor m_start m_token m_value m_fault m_faultAt m_latest m_stands m_least m_ways m_nearFoot m_nearFeet m_nearCost m_traced m_stand p1 p2 p3 r kr  FU x4 (s0 + (0 : Int32)) (0 : Int32) hM _ _ _ hP hD hS (lv_sub hl [2, 3, 4, 5, 1, 0] rfl)
  · rw [if_neg c_17] at hM
    refine lv_iconst (v := 1) hx hb dX7_costOf_89 (by decide) ?_
    refine lv_goto (tgt := 94) hx hb dX7_costOf_90 (by decide) ?_
    refine lv_iadd hx hb dX7_costOf_94 ?_
    refine lv_istore (lv' := [(6, .int (s0 + (1 : Int32))), (0, .ref m_a), (1, .int p1), (3, .int p3), (4, .int x4)]) hx hb dX7_costOf_95 hl (by decide) rfl (fun ls hl => ?_)
    refine lv_iconst (v := 0) hx hb dX7_costOf_97 (by decide) ?_
    refine lv_istore (lv' := [(7, .int (0 : Int32)), (6, .int (s0 + (1 : Int32))), (0, .ref m_a), (1, .int p1), (3, .int p3), (4, .int x4)]) hx hb dX7_costOf_98 hl (by decide) rfl (fun ls hl => ?_)
    exact wX7_costOf_b100 C0 m_a mA_lane mA_many mA_item mA_poem mA_fresh mA_then mA_was mA_tape mA_strengths mA_sounds mA_stand mA_scheme mA_isKept mA_kept mA_trace m_thrown m_status m_acts m_taped m_cursor m_start m_token m_value m_fault m_faultAt m_latest m_stands m_least m_ways m_nearFoot m_nearFeet m_nearCost m_traced m_stand p1 p2 p3 r kr  FU x4 (s0 + (1 : Int32)) (0 : Int32) hM _ _ _ hP hD hS (lv_sub hl [2, 3, 4, 5, 1, 0] rfl)
set_option maxHeartbeats 4000000 in
set_option maxRecDepth 100000 in
theorem wX7_costOf_b27 {p : Program} {l : Launch} {e : Env} {s : State} {m : MethodId} {args : Array Value} {below : List Frame} {meth : Method} {c : Code} {Q : State → Prop} {G : va_G} {K : Nat → ClassId} {A : Nat → Prop} (C0 : CX p s m args c cX7_costOf 10 RX7 G K E0 A) (m_a mA_lane mA_many mA_item mA_poem mA_fresh mA_then mA_was mA_tape mA_strengths mA_sounds mA_stand mA_scheme mA_isKept mA_kept mA_trace : Nat) (m_thrown : Int32) (m_status : Int32) (m_acts : Int32) (m_taped : Int32) (m_cursor : Int32) (m_start : Int32) (m_token : Int32) (m_value : Int32) (m_fault : Int32) (m_faultAt : Int32) (m_latest : Int32) (m_stands : Int32) (m_least : Int32) (m_ways : Int32) (m_nearFoot : Int32) (m_nearFeet : Int32) (m_nearCost : Int32) (m_traced : Int32) (m_stand : Nat → Int32) (p1 : Int32) (p2 : Int32) (p3 : Int32) (r : Int32)  (kr : ∀ (H : Heap) (locs : List Loc) (ls : Array Slot) (pc : Nat), decode cX7_costOf pc = .ok (.ireturn, 1) → va_P G vwCl (WX7_costOf K m_a mA_lane mA_many mA_item mA_poem mA_fresh mA_then mA_was mA_tape mA_strengths mA_sounds mA_stand mA_scheme mA_isKept mA_kept mA_trace m_thrown m_status m_acts m_taped m_cursor m_start m_token m_value m_fault m_faultAt m_latest m_stands m_least m_ways m_nearFoot m_nearFeet m_nearCost m_traced m_stand) H → va_D A (WX7_costOf K m_a mA_lane mA_many mA_item mA_poem mA_fresh mA_then mA_was mA_tape mA_strengths mA_sounds mA_stand mA_scheme mA_isKept mA_kept mA_trace m_thrown m_status m_acts m_taped m_cursor m_start m_token m_value m_fault m_faultAt m_latest m_stands m_least m_ways m_nearFoot m_nearFeet m_nearCost m_traced m_stand) → va_S A s.heap H locs → W p l e rmX7_costOf s m args below meth c H locs 0 0 Q (F0 m pc ls [.int r])) (x4 : Int32) (s0 : Int32) (hM : mX7_costOf_b27 m_stands m_stand p1 p2 p3  x4 s0 = some r) : ∀ (H : Heap) (locs : List Loc) (ls : Array Slot), va_P G vwCl (WX7_costOf K m_a mA_lane mA_many mA_item mA_poem mA_fresh mA_then mA_was mA_tape mA_strengths mA_sounds mA_stand mA_scheme mA_isKept mA_kept mA_trace m_thrown m_status m_acts m_taped m_cursor m_start m_token m_value m_fault m_faultAt m_latest m_stands m_least m_ways m_nearFoot m_nearFeet m_nearCost m_traced m_stand) H → va_D A (WX7_costOf K m_a mA_lane mA_many mA_item mA_poem mA_fresh mA_then mA_was mA_tape mA_strengths mA_sounds mA_stand mA_scheme mA_isKept mA_kept mA_trace m_thrown m_status m_acts m_taped m_cursor m_start m_token m_value m_fault m_faultAt m_latest m_stands m_least m_ways m_nearFoot m_nearFeet m_nearCost m_traced m_stand) → va_S A s.heap H locs → lv_has ls 10 [(0, .ref m_a), (1, .int p1), (3, .int p3), (4, .int x4)] → W p l e rmX7_costOf s m args below meth c H locs 0 0 Q (F0 m 27 ls [.int s0]) := by
  obtain ⟨hx, hb, hml, hown, hts, hK, hA, hEo, hE⟩ := id C0
  intro H locs ls hP hD hS hl
  unfold mX7_costOf_b27 at hM
  refine lv_istore (lv' := [(5, .int s0), (0, .ref m_a), (1, .int p1), (3, .int p3), (4, .int x4)]) hx hb dX7_costOf_27 hl (by decide) rfl (fun ls hl => ?_)
  refine lv_aload_n hx hb dX7_costOf_29 rfl (lv_at hl 1 rfl) ?_
  refine va_get (D := G) (ci := 7) (v := .int m_stands) (C := RX7) (T := TX7) (N := 33) hx hb hts inX7 hown hK hP 0 rfl rfl 22 (by decide) (hts _ tb786) (fun _ h9 => h9) rfl dX7_costOf_30 ?_
  refine lv_iload hx hb dX7_costOf_33 (lv_at hl 4 rfl) ?_
  refine lv_iload hx hb dX7_costOf_35 (lv_at hl 0 rfl) ?_
  refine lv_isub hx hb dX7_costOf_37 ?_
  refine lv_icmp_lt (tgt := 52) hx hb dX7_costOf_38 (by decide) (fun c_18 => ?_) (fun c_18 => ?_)
  · rw [if_pos c_18] at hM
    refine lv_ldc (v := -1000000) hx hb hown (hts _ tb917) dX7_costOf_52 ?_
    have q1 := Option.some.inj hM
    subst q1
    exact kr _ _ _ _ dX7_costOf_54 hP hD hS
  · rw [if_neg c_18] at hM
    refine lv_aload_n hx hb dX7_costOf_41 rfl (lv_at hl 1 rfl) ?_
    refine va_get (D := G) (ci := 7) (v := .int m_stands) (C := RX7) (T := TX7) (N := 33) hx hb hts inX7 hown hK hP 0 rfl rfl 22 (by decide) (hts _ tb786) (fun _ h9 => h9) rfl dX7_costOf_42 ?_
    refine lv_iload hx hb dX7_costOf_45 (lv_at hl 4 rfl) ?_
    refine lv_iconst (v := 2) hx hb dX7_costOf_47 (by decide) ?_
    refine lv_iadd hx hb dX7_costOf_48 ?_
    refine lv_icmp_le (tgt := 55) hx hb dX7_costOf_49 (by decide) (fun c_19 => ?_) (fun c_19 => ?_)
    · rw [if_pos c_19] at hM
      refine lv_aload_n hx hb dX7_costOf_55 rfl (lv_at hl 1 rfl) ?_
      refine va_get (D := G) (ci := 7) (v := .int m_stands) (C := RX7) (T := TX7) (N := 33) hx hb hts inX7 hown hK hP 0 rfl rfl 22 (by decide) (hts _ tb786) (fun _ h9 => h9) rfl dX7_costOf_56 ?_
      refine lv_iload hx hb dX7_costOf_59 (lv_at hl 4 rfl) ?_
      refine lv_icmp_ge (tgt := 74) hx hb dX7_costOf_61 (by decide) (fun c_20 => ?_) (fun c_20 => ?_)
      · rw [if_pos c_20] at hM
        refine lv_aload_n hx hb dX7_costOf_74 rfl (lv_at hl 1 rfl) ?_
        refine va_get (D := G) (ci := 7) (v := .int m_stands) (C := RX7) (T := TX7) (N := 33) hx hb hts inX7 hown hK hP 0 rfl rfl 22 (by decide) (hts _ tb786) (fun _ h9 => h9) rfl dX7_costOf_75 ?_
        refine lv_iload hx hb dX7_costOf_78 (lv_at hl 4 rfl) ?_
        refine lv_isub hx hb dX7_costOf_80 ?_
        exact wX7_costOf_b81 C0 m_a mA_lane mA_many mA_item mA_poem mA_fresh mA_then mA_was mA_tape mA_strengths mA_sounds mA_stand mA_scheme mA_isKept mA_kept mA_trace m_thrown m_status m_acts m_taped m_cursor m_start m_token m_value m_fault m_faultAt m_latest m_stands m_least m_ways m_nearFoot m_nearFeet m_nearCost m_traced m_stand p1 p2 p3 r kr  x4 (m_stands - x4) hM _ _ _ hP hD hS (lv_sub hl [1, 2, 3, 4] rfl)
      · rw [if_neg c_20] at hM
        refine lv_iload hx hb dX7_costOf_64 (lv_at hl 4 rfl) ?_
        refine lv_aload_n hx hb dX7_costOf_66 rfl (lv_at hl 1 rfl) ?_
        refine va_get (D := G) (ci := 7) (v := .int m_stands) (C := RX7) (T := TX7) (N := 33) hx hb hts inX7 hown hK hP 0 rfl rfl 22 (by decide) (hts _ tb786) (fun _ h9 => h9) rfl dX7_costOf_67 ?_
        refine lv_isub hx hb dX7_costOf_70 ?_
        refine lv_goto (tgt := 81) hx hb dX7_costOf_71 (by decide) ?_
        exact wX7_costOf_b81 C0 m_a mA_lane mA_many mA_item mA_poem mA_fresh mA_then mA_was mA_tape mA_strengths mA_sounds mA_stand mA_scheme mA_isKept mA_kept mA_trace m_thrown m_status m_acts m_taped m_cursor m_start m_token m_value m_fault m_faultAt m_latest m_stands m_least m_ways m_nearFoot m_nearFeet m_nearCost m_traced m_stand p1 p2 p3 r kr  x4 (x4 - m_stands) hM _ _ _ hP hD hS (lv_sub hl [1, 2, 3, 4] rfl)
    · rw [if_neg c_19] at hM
      refine lv_ldc (v := -1000000) hx hb hown (hts _ tb917) dX7_costOf_52 ?_
      have q1 := Option.some.inj hM
      subst q1
      exact kr _ _ _ _ dX7_costOf_54 hP hD hS
set_option maxHeartbeats 4000000 in
set_option maxRecDepth 100000 in
theorem wX7_costOf_b0 {p : Program} {l : Launch} {e : Env} {s : State} {m : MethodId} {args : Array Value} {below : List Frame} {meth : Method} {c : Code} {Q : State → Prop} {G : va_G} {K : Nat → ClassId} {A : Nat → Prop} (C0 : CX p s m args c cX7_costOf 10 RX7 G K E0 A) (m_a mA_lane mA_many mA_item mA_poem mA_fresh mA_then mA_was mA_tape mA_strengths mA_sounds mA_stand mA_scheme mA_isKept mA_kept mA_trace : Nat) (m_thrown : Int32) (m_status : Int32) (m_acts : Int32) (m_taped : Int32) (m_cursor : Int32) (m_start : Int32) (m_token : Int32) (m_value : Int32) (m_fault : Int32) (m_faultAt : Int32) (m_latest : Int32) (m_stands : Int32) (m_least : Int32) (m_ways : Int32) (m_nearFoot : Int32) (m_nearFeet : Int32) (m_nearCost : Int32) (m_traced : Int32) (m_stand : Nat → Int32) (p1 : Int32) (p2 : Int32) (p3 : Int32) (r : Int32)  (kr : ∀ (H : Heap) (locs : List Loc) (ls : Array Slot) (pc : Nat), decode cX7_costOf pc = .ok (.ireturn, 1) → va_P G vwCl (WX7_costOf K m_a mA_lane mA_many mA_item mA_poem mA_fresh mA_then mA_was mA_tape mA_strengths mA_sounds mA_stand mA_scheme mA_isKept mA_kept mA_trace m_thrown m_status m_acts m_taped m_cursor m_start m_token m_value m_fault m_faultAt m_latest m_stands m_least m_ways m_nearFoot m_nearFeet m_nearCost m_traced m_stand) H → va_D A (WX7_costOf K m_a mA_lane mA_many mA_item mA_poem mA_fresh mA_then mA_was mA_tape mA_strengths mA_sounds mA_stand mA_scheme mA_isKept mA_kept mA_trace m_thrown m_status m_acts m_taped m_cursor m_start m_token m_value m_fault m_faultAt m_latest m_stands m_least m_ways m_nearFoot m_nearFeet m_nearCost m_traced m_stand) → va_S A s.heap H locs → W p l e rmX7_costOf s m args below meth c H locs 0 0 Q (F0 m pc ls [.int r]))  (hM : mX7_costOf_b0 m_stands m_stand p1 p2 p3   = some r) : ∀ (H : Heap) (locs : List Loc) (ls : Array Slot), va_P G vwCl (WX7_costOf K m_a mA_lane mA_many mA_item mA_poem mA_fresh mA_then mA_was mA_tape mA_strengths mA_sounds mA_stand mA_scheme mA_isKept mA_kept mA_trace m_thrown m_status m_acts m_taped m_cursor m_start m_token m_value m_fault m_faultAt m_latest m_stands m_least m_ways m_nearFoot m_nearFeet m_nearCost m_traced m_stand) H → va_D A (WX7_costOf K m_a mA_lane mA_many mA_item mA_poem mA_fresh mA_then mA_was mA_tape mA_strengths mA_sounds mA_stand mA_scheme mA_isKept mA_kept mA_trace m_thrown m_status m_acts m_taped m_cursor m_start m_token m_value m_fault m_faultAt m_latest m_stands m_least m_ways m_nearFoot m_nearFeet m_nearCost m_traced m_stand) → va_S A s.heap H locs → lv_has ls 10 [(0, .ref m_a), (1, .int p1), (2, .int p2), (3, .int p3)] → W p l e rmX7_costOf s m args below meth c H locs 0 0 Q (F0 m 0 ls []) := by
  obtain ⟨hx, hb, hml, hown, hts, hK, hA, hEo, hE⟩ := id C0
  intro H locs ls hP hD hS hl
  unfold mX7_costOf_b0 at hM
  refine lv_iload_n hx hb dX7_costOf_0 rfl (lv_at hl 2 rfl) ?_
  refine lv_iload_n hx hb dX7_costOf_1 rfl (lv_at hl 1 rfl) ?_
  obtain ⟨r_21, hC, hM⟩ := oe1 hM
  refine cS_i (As := [.int p1]) (rest := [.int p2]) C0 hP hD hS [] (kX7_size l G K p1 H.size r_21 hC) rfl rfl rfl tb1113 tb1114 tb9 tb1115 hdX7_size ⟨Nat.le_of_ble_eq_true rfl, Nat.le_of_ble_eq_true rfl⟩ rfl hl.1 (Nat.le_of_ble_eq_true rfl) rfl ⟨Nat.le_refl _, Nat.le_refl _⟩ dX7_costOf_2 (fun H locs hP hD hS => ?_)
  have hP : va_P G vwCl (WX7_costOf K m_a mA_lane mA_many mA_item mA_poem mA_fresh mA_then mA_was mA_tape mA_strengths mA_sounds mA_stand mA_scheme mA_isKept mA_kept mA_trace m_thrown m_status m_acts m_taped m_cursor m_start m_token m_value m_fault m_faultAt m_latest m_stands m_least m_ways m_nearFoot m_nearFeet m_nearCost m_traced m_stand) H := hP
  have hD : va_D A (WX7_costOf K m_a mA_lane mA_many mA_item mA_poem mA_fresh mA_then mA_was mA_tape mA_strengths mA_sounds mA_stand mA_scheme mA_isKept mA_kept mA_trace m_thrown m_status m_acts m_taped m_cursor m_start m_token m_value m_fault m_faultAt m_latest m_stands m_least m_ways m_nearFoot m_nearFeet m_nearCost m_traced m_stand) := hD
  refine lv_imul hx hb dX7_costOf_5 ?_
  refine lv_istore (lv' := [(4, .int (p2 * r_21)), (0, .ref m_a), (1, .int p1), (2, .int p2), (3, .int p3)]) hx hb dX7_costOf_6 hl (by decide) rfl (fun ls hl => ?_)
  refine lv_iload_n hx hb dX7_costOf_8 rfl (lv_at hl 2 rfl) ?_
  refine lv_iconst (v := 1) hx hb dX7_costOf_9 (by decide) ?_
  refine lv_icmp_ne (tgt := 17) hx hb dX7_costOf_10 (by decide) (fun c_22 => ?_) (fun c_22 => ?_)
  · rw [if_neg c_22] at hM
    refine lv_iload_n hx hb dX7_costOf_17 rfl (lv_at hl 2 rfl) ?_
    refine lv_iconst (v := 3) hx hb dX7_costOf_18 (by decide) ?_
    refine lv_icmp_ne (tgt := 26) hx hb dX7_costOf_19 (by decide) (fun c_23 => ?_) (fun c_23 => ?_)
    · rw [if_neg c_23] at hM
      refine lv_iconst (v := 0) hx hb dX7_costOf_26 (by decide) ?_
      exact wX7_costOf_b27 C0 m_a mA_lane mA_many mA_item mA_poem mA_fresh mA_then mA_was mA_tape mA_strengths mA_sounds mA_stand mA_scheme mA_isKept mA_kept mA_trace m_thrown m_status m_acts m_taped m_cursor m_start m_token m_value m_fault m_faultAt m_latest m_stands m_least m_ways m_nearFoot m_nearFeet m_nearCost m_traced m_stand p1 p2 p3 r kr  (p2 * r_21) (0 : Int32) hM _ _ _ hP hD hS (lv_sub hl [1, 2, 4, 0] rfl)
    · rw [if_pos c_23] at hM
      refine lv_iconst (v := 2) hx hb dX7_costOf_22 (by decide) ?_
      refine lv_goto (tgt := 27) hx hb dX7_costOf_23 (by decide) ?_
      exact wX7_costOf_b27 C0 m_a mA_lane mA_many mA_item mA_poem mA_fresh mA_then mA_was mA_tape mA_strengths mA_sounds mA_stand mA_scheme mA_isKept mA_kept mA_trace m_thrown m_status m_acts m_taped m_cursor m_start m_token m_value m_fault m_faultAt m_latest m_stands m_least m_ways m_nearFoot m_nearFeet m_nearCost m_traced m_stand p1 p2 p3 r kr  (p2 * r_21) (2 : Int32) hM _ _ _ hP hD hS (lv_sub hl [1, 2, 4, 0] rfl)
  · rw [if_pos c_22] at hM
    refine lv_iconst (v := 1) hx hb dX7_costOf_13 (by decide) ?_
    refine lv_goto (tgt := 27) hx hb dX7_costOf_14 (by decide) ?_
    exact wX7_costOf_b27 C0 m_a mA_lane mA_many mA_item mA_poem mA_fresh mA_then mA_was mA_tape mA_strengths mA_sounds mA_stand mA_scheme mA_isKept mA_kept mA_trace m_thrown m_status m_acts m_taped m_cursor m_start m_token m_value m_fault m_faultAt m_latest m_stands m_least m_ways m_nearFoot m_nearFeet m_nearCost m_traced m_stand p1 p2 p3 r kr  (p2 * r_21) (1 : Int32) hM _ _ _ hP hD hS (lv_sub hl [1, 2, 4, 0] rfl)
set_option maxHeartbeats 4000000 in
set_option maxRecDepth 100000 in
theorem kX7_costOf (l : Launch) (G : va_G) (K : Nat → ClassId) (m_a mA_lane mA_many mA_item mA_poem mA_fresh mA_then mA_was mA_tape mA_strengths mA_sounds mA_stand mA_scheme mA_isKept mA_kept mA_trace : Nat) (m_thrown : Int32) (m_status : Int32) (m_acts : Int32) (m_taped : Int32) (m_cursor : Int32) (m_start : Int32) (m_token : Int32) (m_value : Int32) (m_fault : Int32) (m_faultAt : Int32) (m_latest : Int32) (m_stands : Int32) (m_least : Int32) (m_ways : Int32) (m_nearFoot : Int32) (m_nearFeet : Int32) (m_nearCost : Int32) (m_traced : Int32) (m_stand : Nat → Int32) (p1 : Int32) (p2 : Int32) (p3 : Int32) (sz : Nat) (r : Int32)  (hM : mX7_costOf m_stands m_stand p1 p2 p3 = some r) : Met l yX7_costOf (mC yX7_costOf cX7_costOf 10 (some .int)) rmX7_costOf (va_Pc [.ref m_a, .int p1, .int p2, .int p3] (PCe G K E0 (WX7_costOf K m_a mA_lane mA_many mA_item mA_poem mA_fresh mA_then mA_was mA_tape mA_strengths mA_sounds mA_stand mA_scheme mA_isKept mA_kept mA_trace m_thrown m_status m_acts m_taped m_cursor m_start m_token m_value m_fault m_faultAt m_latest m_stands m_least m_ways m_nearFoot m_nearFeet m_nearCost m_traced m_stand) sz)) (va_Qi (fun (x : Int32) (_ : Unit) => x = r) (fun _ t => va_P G vwCl (WX7_costOf K m_a mA_lane mA_many mA_item mA_poem mA_fresh mA_then mA_was mA_tape mA_strengths mA_sounds mA_stand mA_scheme mA_isKept mA_kept mA_trace m_thrown m_status m_acts m_taped m_cursor m_start m_token m_value m_fault m_faultAt m_latest m_stands m_least m_ways m_nearFoot m_nearFeet m_nearCost m_traced m_stand) t.heap) (va_A (WX7_costOf K m_a mA_lane mA_many mA_item mA_poem mA_fresh mA_then mA_was mA_tape mA_strengths mA_sounds mA_stand mA_scheme mA_isKept mA_kept mA_trace m_thrown m_status m_acts m_taped m_cursor m_start m_token m_value m_fault m_faultAt m_latest m_stands m_least m_ways m_nearFoot m_nearFeet m_nearCost m_traced m_stand) sz)) rmX7_costOf.cells rmX7_costOf.slots (va_A (WX7_costOf K m_a mA_lane mA_many mA_item mA_poem mA_fresh mA_then mA_was mA_tape mA_strengths mA_sounds mA_stand mA_scheme mA_isKept mA_kept mA_trace m_thrown m_status m_acts m_taped m_cursor m_start m_token m_value m_fault m_faultAt m_latest m_stands m_least m_ways m_nearFoot m_nearFeet m_nearCost m_traced m_stand) sz) := by
  refine Met.ofW (cc := cX7_costOf) (maxL := 10) (ret := (some .int)) (by decide) rfl ?_
  intro p e s m args below meth c s₁ B hml hv
  obtain ⟨rfl, hsz, hP, hK, hD0, hE⟩ := hv
  have hx := B.exec
  have hb := B.bytes
  have hr := B.returns
  have hts0 := atoms_spec (ws := mC yX7_costOf cX7_costOf 10 (some .int)) B.pre
  have hts : ∀ w ∈ tbG, w.before _ s = true := fun w h => hts0 w (List.mem_cons_of_mem _ h)
  have hown : s.vm.findClass RX7 = some m.cls := findClass_of_methodNamed B.named
  subst hsz
  have hD := hD0.self (sz := s.heap.size)
  generalize hAe : va_A (WX7_costOf K m_a mA_lane mA_many mA_item mA_poem mA_fresh mA_then mA_was mA_tape mA_strengths mA_sounds mA_stand mA_scheme mA_isKept mA_kept mA_trace m_thrown m_status m_acts m_taped m_cursor m_start m_token m_value m_fault m_faultAt m_latest m_stands m_least m_ways m_nearFoot m_nearFeet m_nearCost m_traced m_stand) s.heap.size = A at hD hE ⊢
  have hA : ∀ q : Nat, s.heap.size ≤ q → A q := fun q h => by rw [← hAe]; exact Or.inr h
  have hS : va_S A s.heap s.heap [] := va_S.rf
  have hl := lv_entry ([.ref m_a, .int p1, .int p2, .int p3]) (n := 10) (Nat.le_of_ble_eq_true rfl)
  rw [lg_entry_eq]
  generalize (lg_sl ([.ref m_a, .int p1, .int p2, .int p3]) ++ List.replicate (10 - (lg_sl ([.ref m_a, .int p1, .int p2, .int p3])).length) Slot.unset).toArray = ls at hl ⊢
  have hl : lv_has ls 10 [(0, .ref m_a), (1, .int p1), (2, .int p2), (3, .int p3)] := hl
  exact wX7_costOf_b0 ⟨hx, hb, hml, hown, hts, hK, hA, E0_ok, hE⟩ m_a mA_lane mA_many mA_item mA_poem mA_fresh mA_then mA_was mA_tape mA_strengths mA_sounds mA_stand mA_scheme mA_isKept mA_kept mA_trace m_thrown m_status m_acts m_taped m_cursor m_start m_token m_value m_fault m_faultAt m_latest m_stands m_least m_ways m_nearFoot m_nearFeet m_nearCost m_traced m_stand p1 p2 p3 r (fun H locs ls pc hdg hP hD hS => W.iret (v := r) hx hb hr (fun t ht hW => ⟨⟨r, (), rfl, rfl, (show va_P G vwCl _ t.heap by rw [ht]; exact hP)⟩, hS.F ht⟩) hS.2.2 hdg)   hM _ _ _ hP hD hS hl
abbrev WX7_counts (K : Nat → ClassId) (m_a mA_lane mA_many mA_item mA_poem mA_fresh mA_then mA_was mA_tape mA_strengths mA_sounds mA_stand mA_scheme mA_isKept mA_kept mA_trace : Nat) (m_thrown : Int32) (m_status : Int32) (m_acts : Int32) (m_taped : Int32) (m_cursor : Int32) (m_start : Int32) (m_token : Int32) (m_value : Int32) (m_fault : Int32) (m_faultAt : Int32) (m_latest : Int32) (m_stands : Int32) (m_least : Int32) (m_ways : Int32) (m_nearFoot : Int32) (m_nearFeet : Int32) (m_nearCost : Int32) (m_traced : Int32) : va_W := [(m_a, .inr (7, [.int m_thrown, .int m_status, .ref mA_lane, .ref mA_many, .ref mA_item, .ref mA_poem, .ref mA_fresh, .ref mA_then, .ref mA_was, .int m_acts, .ref mA_tape, .int m_taped, .int m_cursor, .int m_start, .int m_token, .int m_value, .int m_fault, .int m_faultAt, .int m_latest, .ref mA_strengths, .ref mA_sounds, .ref mA_stand, .int m_stands, .int m_least, .int m_ways, .ref mA_scheme, .int m_nearFoot, .int m_nearFeet, .int m_nearCost, .ref mA_isKept, .ref mA_kept, .ref mA_trace, .int m_traced]))]
def rmX7_counts : Room := { frames := 0, cells := 0, slots := 0, locals := 0 }
theorem hdX7_counts : yX7_counts.cls = RX7 ∧ yX7_counts.cls ≠ "java/lang/invoke/MethodHandle" ∧ yX7_counts.cls ≠ "java/lang/invoke/VarHandle" ∧ (parseMethodDescriptor yX7_counts.desc).map (fun d => d.parameters.length) = some 1 := by decide +kernel
set_option maxHeartbeats 4000000 in
set_option maxRecDepth 100000 in
theorem wX7_counts_b33 {p : Program} {l : Launch} {e : Env} {s : State} {m : MethodId} {args : Array Value} {below : List Frame} {meth : Method} {c : Code} {Q : State → Prop} {G : va_G} {K : Nat → ClassId} {A : Nat → Prop} (C0 : CX p s m args c cX7_counts 2 RX7 G K E0 A) (m_a mA_lane mA_many mA_item mA_poem mA_fresh mA_then mA_was mA_tape mA_strengths mA_sounds mA_stand mA_scheme mA_isKept mA_kept mA_trace : Nat) (m_thrown : Int32) (m_status : Int32) (m_acts : Int32) (m_taped : Int32) (m_cursor : Int32) (m_start : Int32) (m_token : Int32) (m_value : Int32) (m_fault : Int32) (m_faultAt : Int32) (m_latest : Int32) (m_stands : Int32) (m_nearFoot : Int32) (m_nearFeet : Int32) (m_nearCost : Int32) (m_traced : Int32) (p1 : Int32) (o_m_least : Int32) (o_m_ways : Int32) (kr : ∀ (H : Heap) (locs : List Loc) (ls : Array Slot) (pc : Nat), decode cX7_counts pc = .ok (.return_, 1) → va_P G vwCl (WX7_counts K m_a mA_lane mA_many mA_item mA_poem mA_fresh mA_then mA_was mA_tape mA_strengths mA_sounds mA_stand mA_scheme mA_isKept mA_kept mA_trace m_thrown m_status m_acts m_taped m_cursor m_start m_token m_value m_fault m_faultAt m_latest m_stands o_m_least o_m_ways m_nearFoot m_nearFeet m_nearCost m_traced) H → va_D A (WX7_counts K m_a mA_lane mA_many mA_item mA_poem mA_fresh mA_then mA_was mA_tape mA_strengths mA_sounds mA_stand mA_scheme mA_isKept mA_kept mA_trace m_thrown m_status m_acts m_taped m_cursor m_start m_token m_value m_fault m_faultAt m_latest m_stands o_m_least o_m_ways m_nearFoot m_nearFeet m_nearCost m_traced) → va_S A s.heap H locs → W p l e rmX7_counts s m args below meth c H locs 0 0 Q (F0 m pc ls [])) (m_least : Int32) (m_ways : Int32) (hM : mX7_counts_b33 p1  m_least m_ways = some (o_m_least, o_m_ways)) : ∀ (H : Heap) (locs : List Loc) (ls : Array Slot), va_P G vwCl (WX7_counts K m_a mA_lane mA_many mA_item mA_poem mA_fresh mA_then mA_was mA_tape mA_strengths mA_sounds mA_stand mA_scheme mA_isKept mA_kept mA_trace m_thrown m_status m_acts m_taped m_cursor m_start m_token m_value m_fault m_faultAt m_latest m_stands m_least m_ways m_nearFoot m_nearFeet m_nearCost m_traced) H → va_D A (WX7_counts K m_a mA_lane mA_many mA_item mA_poem mA_fresh mA_then mA_was mA_tape mA_strengths mA_sounds mA_stand mA_scheme mA_isKept mA_kept mA_trace m_thrown m_status m_acts m_taped m_cursor m_start m_token m_value m_fault m_faultAt m_latest m_stands m_least m_ways m_nearFoot m_nearFeet m_nearCost m_traced) → va_S A s.heap H locs → lv_has ls 2 [(0, .ref m_a), (1, .int p1)] → W p l e rmX7_counts s m args below meth c H locs 0 0 Q (F0 m 33 ls []) := by
  obtain ⟨hx, hb, hml, hown, hts, hK, hA, hEo, hE⟩ := id C0
  intro H locs ls hP hD hS hl
  unfold mX7_counts_b33 at hM
  refine lv_aload_n hx hb dX7_counts_33 rfl (lv_at hl 0 rfl) ?_
  refine lv_dup hx hb dX7_counts_34 rfl ?_
  refine va_get (D := G) (ci := 7) (v := .int m_ways) (C := RX7) (T := TX7) (N := 33) hx hb hts inX7 hown hK hP 0 rfl rfl 24 (by decide) (hts _ tb788) (fun _ h9 => h9) rfl dX7_counts_35 ?_
  refine lv_iload_n hx hb dX7_counts_38 rfl (lv_at hl 1 rfl) ?_
  refine lv_ldc (v := -1000000) hx hb hown (hts _ tb917) dX7_counts_39 ?_
  refine lv_icmp_eq (tgt := 56) hx hb dX7_counts_41 (by decide) (fun c_1 => ?_) (fun c_1 => ?_)
  · rw [if_pos c_1] at hM
    refine lv_iconst (v := 0) hx hb dX7_counts_56 (by decide) ?_
    refine lv_iadd hx hb dX7_counts_57 ?_
    refine va_put (D := G) (ci := 7) (v := .int (m_ways + (0 : Int32))) (ty := .int) (C := RX7) (T := TX7) (N := 33) hx hb hts inX7 tyX7 tyX7_ok nmX7 hown hK hP hD hS 0 rfl rfl 24 (by decide) (hts _ tb788) (fun _ h9 => h9) rfl (tyX7_ok 24 (by decide)) rfl rfl (Nat.le_of_ble_eq_true rfl) dX7_counts_58 (fun H locs hP hD hS => ?_)
    have hP : va_P G vwCl (WX7_counts K m_a mA_lane mA_many mA_item mA_poem mA_fresh mA_then mA_was mA_tape mA_strengths mA_sounds mA_stand mA_scheme mA_isKept mA_kept mA_trace m_thrown m_status m_acts m_taped m_cursor m_start m_token m_value m_fault m_faultAt m_latest m_stands m_least (m_ways + (0 : Int32)) m_nearFoot m_nearFeet m_nearCost m_traced) H := hP
    have hD : va_D A (WX7_counts K m_a mA_lane mA_many mA_item mA_poem mA_fresh mA_then mA_was mA_tape mA_strengths mA_sounds mA_stand mA_scheme mA_isKept mA_kept mA_trace m_thrown m_status m_acts m_taped m_cursor m_start m_token m_value m_fault m_faultAt m_latest m_stands m_least (m_ways + (0 : Int32)) m_nearFoot m_nearFeet m_nearCost m_traced) := hD
    have t0 := Option.some.inj hM
    obtain ⟨q1, t1⟩ := Prod.mk.inj t0
    subst q1
    subst t1
    exact kr _ _ _ _ dX7_counts_61 hP hD hS
  · rw [if_neg c_1] at hM
    refine lv_iload_n hx hb dX7_counts_44 rfl (lv_at hl 1 rfl) ?_
    refine lv_aload_n hx hb dX7_counts_45 rfl (lv_at hl 0 rfl) ?_
    refine va_get (D := G) (ci := 7) (v := .int m_least) (C := RX7) (T := TX7) (N := 33) hx hb hts inX7 hown hK hP 0 rfl rfl 23 (by decide) (hts _ tb787) (fun _ h9 => h9) rfl dX7_counts_46 ?_
    refine lv_icmp_ne (tgt := 56) hx hb dX7_counts_49 (by decide) (fun c_2 => ?_) (fun c_2 => ?_)
    · rw [if_neg c_2] at hM
      refine lv_iconst (v := 0) hx hb dX7_counts_56 (by decide) ?_
      refine lv_iadd hx hb dX7_counts_57 ?_
      refine va_put (D := G) (ci := 7) (v := .int (m_ways + (0 : Int32))) (ty := .int) (C := RX7) (T := TX7) (N := 33) hx hb hts inX7 tyX7 tyX7_ok nmX7 hown hK hP hD hS 0 rfl rfl 24 (by decide) (hts _ tb788) (fun _ h9 => h9) rfl (tyX7_ok 24 (by decide)) rfl rfl (Nat.le_of_ble_eq_true rfl) dX7_counts_58 (fun H locs hP hD hS => ?_)
      have hP : va_P G vwCl (WX7_counts K m_a mA_lane mA_many mA_item mA_poem mA_fresh mA_then mA_was mA_tape mA_strengths mA_sounds mA_stand mA_scheme mA_isKept mA_kept mA_trace m_thrown m_status m_acts m_taped m_cursor m_start m_token m_value m_fault m_faultAt m_latest m_stands m_least (m_ways + (0 : Int32)) m_nearFoot m_nearFeet m_nearCost m_traced) H := hP
      have hD : va_D A (WX7_counts K m_a mA_lane mA_many mA_item mA_poem mA_fresh mA_then mA_was mA_tape mA_strengths mA_sounds mA_stand mA_scheme mA_isKept mA_kept mA_trace m_thrown m_status m_acts m_taped m_cursor m_start m_token m_value m_fault m_faultAt m_latest m_stands m_least (m_ways + (0 : Int32)) m_nearFoot m_nearFeet m_nearCost m_traced) := hD
      have t0 := Option.some.inj hM
      obtain ⟨q1, t1⟩ := Prod.mk.inj t0
      subst q1
      subst t1
      exact kr _ _ _ _ dX7_counts_61 hP hD hS
    · rw [if_pos c_2] at hM
      refine lv_iconst (v := 1) hx hb dX7_counts_52 (by decide) ?_
      refine lv_goto (tgt := 57) hx hb dX7_counts_53 (by decide) ?_
      refine lv_iadd hx hb dX7_counts_57 ?_
      refine va_put (D := G) (ci := 7) (v := .int (m_ways + (1 : Int32))) (ty := .int) (C := RX7) (T := TX7) (N := 33) hx hb hts inX7 tyX7 tyX7_ok nmX7 hown hK hP hD hS 0 rfl rfl 24 (by decide) (hts _ tb788) (fun _ h9 => h9) rfl (tyX7_ok 24 (by decide)) rfl rfl (Nat.le_of_ble_eq_true rfl) dX7_counts_58 (fun H locs hP hD hS => ?_)
      have hP : va_P G vwCl (WX7_counts K m_a mA_lane mA_many mA_item mA_poem mA_fresh mA_then mA_was mA_tape mA_strengths mA_sounds mA_stand mA_scheme mA_isKept mA_kept mA_trace m_thrown m_status m_acts m_taped m_cursor m_start m_token m_value m_fault m_faultAt m_latest m_stands m_least (m_ways + (1 : Int32)) m_nearFoot m_nearFeet m_nearCost m_traced) H := hP
      have hD : va_D A (WX7_counts K m_a mA_lane mA_many mA_item mA_poem mA_fresh mA_then mA_was mA_tape mA_strengths mA_sounds mA_stand mA_scheme mA_isKept mA_kept mA_trace m_thrown m_status m_acts m_taped m_cursor m_start m_token m_value m_fault m_faultAt m_latest m_stands m_least (m_ways + (1 : Int32)) m_nearFoot m_nearFeet m_nearCost m_traced) := hD
      have t0 := Option.some.inj hM
      obtain ⟨q1, t1⟩ := Prod.mk.inj t0
      subst q1
      subst t1
      exact kr _ _ _ _ dX7_counts_61 hP hD hS
set_option maxHeartbeats 4000000 in
set_option maxRecDepth 100000 in
theorem wX7_counts_b23 {p : Program} {l : Launch} {e : Env} {s : State} {m : MethodId} {args : Array Value} {below : List Frame} {meth : Method} {c : Code} {Q : State → Prop} {G : va_G} {K : Nat → ClassId} {A : Nat → Prop} (C0 : CX p s m args c cX7_counts 2 RX7 G K E0 A) (m_a mA_lane mA_many mA_item mA_poem mA_fresh mA_then mA_was mA_tape mA_strengths mA_sounds mA_stand mA_scheme mA_isKept mA_kept mA_trace : Nat) (m_thrown : Int32) (m_status : Int32) (m_acts : Int32) (m_taped : Int32) (m_cursor : Int32) (m_start : Int32) (m_token : Int32) (m_value : Int32) (m_fault : Int32) (m_faultAt : Int32) (m_latest : Int32) (m_stands : Int32) (m_nearFoot : Int32) (m_nearFeet : Int32) (m_nearCost : Int32) (m_traced : Int32) (p1 : Int32) (o_m_least : Int32) (o_m_ways : Int32) (kr : ∀ (H : Heap) (locs : List Loc) (ls : Array Slot) (pc : Nat), decode cX7_counts pc = .ok (.return_, 1) → va_P G vwCl (WX7_counts K m_a mA_lane mA_many mA_item mA_poem mA_fresh mA_then mA_was mA_tape mA_strengths mA_sounds mA_stand mA_scheme mA_isKept mA_kept mA_trace m_thrown m_status m_acts m_taped m_cursor m_start m_token m_value m_fault m_faultAt m_latest m_stands o_m_least o_m_ways m_nearFoot m_nearFeet m_nearCost m_traced) H → va_D A (WX7_counts K m_a mA_lane mA_many mA_item mA_poem mA_fresh mA_then mA_was mA_tape mA_strengths mA_sounds mA_stand mA_scheme mA_isKept mA_kept mA_trace m_thrown m_status m_acts m_taped m_cursor m_start m_token m_value m_fault m_faultAt m_latest m_stands o_m_least o_m_ways m_nearFoot m_nearFeet m_nearCost m_traced) → va_S A s.heap H locs → W p l e rmX7_counts s m args below meth c H locs 0 0 Q (F0 m pc ls [])) (m_least : Int32) (m_ways : Int32) (hM : mX7_counts_b23 p1  m_least m_ways = some (o_m_least, o_m_ways)) : ∀ (H : Heap) (locs : List Loc) (ls : Array Slot), va_P G vwCl (WX7_counts K m_a mA_lane mA_many mA_item mA_poem mA_fresh mA_then mA_was mA_tape mA_strengths mA_sounds mA_stand mA_scheme mA_isKept mA_kept mA_trace m_thrown m_status m_acts m_taped m_cursor m_start m_token m_value m_fault m_faultAt m_latest m_stands m_least m_ways m_nearFoot m_nearFeet m_nearCost m_traced) H → va_D A (WX7_counts K m_a mA_lane mA_many mA_item mA_poem mA_fresh mA_then mA_was mA_tape mA_strengths mA_sounds mA_stand mA_scheme mA_isKept mA_kept mA_trace m_thrown m_status m_acts m_taped m_cursor m_start m_token m_value m_fault m_faultAt m_latest m_stands m_least m_ways m_nearFoot m_nearFeet m_nearCost m_traced) → va_S A s.heap H locs → lv_has ls 2 [(0, .ref m_a), (1, .int p1)] → W p l e rmX7_counts s m args below meth c H locs 0 0 Q (F0 m 23 ls []) := by
  obtain ⟨hx, hb, hml, hown, hts, hK, hA, hEo, hE⟩ := id C0
  intro H locs ls hP hD hS hl
  unfold mX7_counts_b23 at hM
  refine lv_aload_n hx hb dX7_counts_23 rfl (lv_at hl 0 rfl) ?_
  refine lv_iload_n hx hb dX7_counts_24 rfl (lv_at hl 1 rfl) ?_
  refine va_put (D := G) (ci := 7) (v := .int p1) (ty := .int) (C := RX7) (T := TX7) (N := 33) hx hb hts inX7 tyX7 tyX7_ok nmX7 hown hK hP hD hS 0 rfl rfl 23 (by decide) (hts _ tb787) (fun _ h9 => h9) rfl (tyX7_ok 23 (by decide)) rfl rfl (Nat.le_of_ble_eq_true rfl) dX7_counts_25 (fun H locs hP hD hS => ?_)
  have hP : va_P G vwCl (WX7_counts K m_a mA_lane mA_many mA_item mA_poem mA_fresh mA_then mA_was mA_tape mA_strengths mA_sounds mA_stand mA_scheme mA_isKept mA_kept mA_trace m_thrown m_status m_acts m_taped m_cursor m_start m_token m_value m_fault m_faultAt m_latest m_stands p1 m_ways m_nearFoot m_nearFeet m_nearCost m_traced) H := hP
  have hD : va_D A (WX7_counts K m_a mA_lane mA_many mA_item mA_poem mA_fresh mA_then mA_was mA_tape mA_strengths mA_sounds mA_stand mA_scheme mA_isKept mA_kept mA_trace m_thrown m_status m_acts m_taped m_cursor m_start m_token m_value m_fault m_faultAt m_latest m_stands p1 m_ways m_nearFoot m_nearFeet m_nearCost m_traced) := hD
  refine lv_aload_n hx hb dX7_counts_28 rfl (lv_at hl 0 rfl) ?_
  refine lv_iconst (v := 0) hx hb dX7_counts_29 (by decide) ?_
  refine va_put (D := G) (ci := 7) (v := .int (0 : Int32)) (ty := .int) (C := RX7) (T := TX7) (N := 33) hx hb hts inX7 tyX7 tyX7_ok nmX7 hown hK hP hD hS 0 rfl rfl 24 (by decide) (hts _ tb788) (fun _ h9 => h9) rfl (tyX7_ok 24 (by decide)) rfl rfl (Nat.le_of_ble_eq_true rfl) dX7_counts_30 (fun H locs hP hD hS => ?_)
  have hP : va_P G vwCl (WX7_counts K m_a mA_lane mA_many mA_item mA_poem mA_fresh mA_then mA_was mA_tape mA_strengths mA_sounds mA_stand mA_scheme mA_isKept mA_kept mA_trace m_thrown m_status m_acts m_taped m_cursor m_start m_token m_value m_fault m_faultAt m_latest m_stands p1 (0 : Int32) m_nearFoot m_nearFeet m_nearCost m_traced) H := hP
  have hD : va_D A (WX7_counts K m_a mA_lane mA_many mA_item mA_poem mA_fresh mA_then mA_was mA_tape mA_strengths mA_sounds mA_stand mA_scheme mA_isKept mA_kept mA_trace m_thrown m_status m_acts m_taped m_cursor m_start m_token m_value m_fault m_faultAt m_latest m_stands p1 (0 : Int32) m_nearFoot m_nearFeet m_nearCost m_traced) := hD
  exact wX7_counts_b33 C0 m_a mA_lane mA_many mA_item mA_poem mA_fresh mA_then mA_was mA_tape mA_strengths mA_sounds mA_stand mA_scheme mA_isKept mA_kept mA_trace m_thrown m_status m_acts m_taped m_cursor m_start m_token m_value m_fault m_faultAt m_latest m_stands m_nearFoot m_nearFeet m_nearCost m_traced p1 o_m_least o_m_ways kr  p1 (0 : Int32) hM _ _ _ hP hD hS (lv_sub hl [0, 1] rfl)
set_option maxHeartbeats 4000000 in
set_option maxRecDepth 100000 in
theorem wX7_counts_b0 {p : Program} {l : Launch} {e : Env} {s : State} {m : MethodId} {args : Array Value} {below : List Frame} {meth : Method} {c : Code} {Q : State → Prop} {G : va_G} {K : Nat → ClassId} {A : Nat → Prop} (C0 : CX p s m args c cX7_counts 2 RX7 G K E0 A) (m_a mA_lane mA_many mA_item mA_poem mA_fresh mA_then mA_was mA_tape mA_strengths mA_sounds mA_stand mA_scheme mA_isKept mA_kept mA_trace : Nat) (m_thrown : Int32) (m_status : Int32) (m_acts : Int32) (m_taped : Int32) (m_cursor : Int32) (m_start : Int32) (m_token : Int32) (m_value : Int32) (m_fault : Int32) (m_faultAt : Int32) (m_latest : Int32) (m_stands : Int32) (m_nearFoot : Int32) (m_nearFeet : Int32) (m_nearCost : Int32) (m_traced : Int32) (p1 : Int32) (o_m_least : Int32) (o_m_ways : Int32) (kr : ∀ (H : Heap) (locs : List Loc) (ls : Array Slot) (pc : Nat), decode cX7_counts pc = .ok (.return_, 1) → va_P G vwCl (WX7_counts K m_a mA_lane mA_many mA_item mA_poem mA_fresh mA_then mA_was mA_tape mA_strengths mA_sounds mA_stand mA_scheme mA_isKept mA_kept mA_trace m_thrown m_status m_acts m_taped m_cursor m_start m_token m_value m_fault m_faultAt m_latest m_stands o_m_least o_m_ways m_nearFoot m_nearFeet m_nearCost m_traced) H → va_D A (WX7_counts K m_a mA_lane mA_many mA_item mA_poem mA_fresh mA_then mA_was mA_tape mA_strengths mA_sounds mA_stand mA_scheme mA_isKept mA_kept mA_trace m_thrown m_status m_acts m_taped m_cursor m_start m_token m_value m_fault m_faultAt m_latest m_stands o_m_least o_m_ways m_nearFoot m_nearFeet m_nearCost m_traced) → va_S A s.heap H locs → W p l e rmX7_counts s m args below meth c H locs 0 0 Q (F0 m pc ls [])) (m_least : Int32) (m_ways : Int32) (hM : mX7_counts_b0 p1  m_least m_ways = some (o_m_least, o_m_ways)) : ∀ (H : Heap) (locs : List Loc) (ls : Array Slot), va_P G vwCl (WX7_counts K m_a mA_lane mA_many mA_item mA_poem mA_fresh mA_then mA_was mA_tape mA_strengths mA_sounds mA_stand mA_scheme mA_isKept mA_kept mA_trace m_thrown m_status m_acts m_taped m_cursor m_start m_token m_value m_fault m_faultAt m_latest m_stands m_least m_ways m_nearFoot m_nearFeet m_nearCost m_traced) H → va_D A (WX7_counts K m_a mA_lane mA_many mA_item mA_poem mA_fresh mA_then mA_was mA_tape mA_strengths mA_sounds mA_stand mA_scheme mA_isKept mA_kept mA_trace m_thrown m_status m_acts m_taped m_cursor m_start m_token m_value m_fault m_faultAt m_latest m_stands m_least m_ways m_nearFoot m_nearFeet m_nearCost m_traced) → va_S A s.heap H locs → lv_has ls 2 [(0, .ref m_a), (1, .int p1)] → W p l e rmX7_counts s m args below meth c H locs 0 0 Q (F0 m 0 ls []) := by
  obtain ⟨hx, hb, hml, hown, hts, hK, hA, hEo, hE⟩ := id C0
  intro H locs ls hP hD hS hl
  unfold mX7_counts_b0 at hM
  refine lv_iload_n hx hb dX7_counts_0 rfl (lv_at hl 1 rfl) ?_
  refine lv_ldc (v := -1000000) hx hb hown (hts _ tb917) dX7_counts_1 ?_
  refine lv_icmp_eq (tgt := 33) hx hb dX7_counts_3 (by decide) (fun c_3 => ?_) (fun c_3 => ?_)
  · rw [if_pos c_3] at hM
    exact wX7_counts_b33 C0 m_a mA_lane mA_many mA_item mA_poem mA_fresh mA_then mA_was mA_tape mA_strengths mA_sounds mA_stand mA_scheme mA_isKept mA_kept mA_trace m_thrown m_status m_acts m_taped m_cursor m_start m_token m_value m_fault m_faultAt m_latest m_stands m_nearFoot m_nearFeet m_nearCost m_traced p1 o_m_least o_m_ways kr  m_least m_ways hM _ _ _ hP hD hS (lv_sub hl [0, 1] rfl)
  · rw [if_neg c_3] at hM
    refine lv_aload_n hx hb dX7_counts_6 rfl (lv_at hl 0 rfl) ?_
    refine va_get (D := G) (ci := 7) (v := .int m_least) (C := RX7) (T := TX7) (N := 33) hx hb hts inX7 hown hK hP 0 rfl rfl 23 (by decide) (hts _ tb787) (fun _ h9 => h9) rfl dX7_counts_7 ?_
    refine lv_ldc (v := -1000000) hx hb hown (hts _ tb917) dX7_counts_10 ?_
    refine lv_icmp_eq (tgt := 23) hx hb dX7_counts_12 (by decide) (fun c_4 => ?_) (fun c_4 => ?_)
    · rw [if_pos c_4] at hM
      exact wX7_counts_b23 C0 m_a mA_lane mA_many mA_item mA_poem mA_fresh mA_then mA_was mA_tape mA_strengths mA_sounds mA_stand mA_scheme mA_isKept mA_kept mA_trace m_thrown m_status m_acts m_taped m_cursor m_start m_token m_value m_fault m_faultAt m_latest m_stands m_nearFoot m_nearFeet m_nearCost m_traced p1 o_m_least o_m_ways kr  m_least m_ways hM _ _ _ hP hD hS (lv_sub hl [0, 1] rfl)
    · rw [if_neg c_4] at hM
      refine lv_iload_n hx hb dX7_counts_15 rfl (lv_at hl 1 rfl) ?_
      refine lv_aload_n hx hb dX7_counts_16 rfl (lv_at hl 0 rfl) ?_
      refine va_get (D := G) (ci := 7) (v := .int m_least) (C := RX7) (T := TX7) (N := 33) hx hb hts inX7 hown hK hP 0 rfl rfl 23 (by decide) (hts _ tb787) (fun _ h9 => h9) rfl dX7_counts_17 ?_
      refine lv_icmp_ge (tgt := 33) hx hb dX7_counts_20 (by decide) (fun c_5 => ?_) (fun c_5 => ?_)
      · rw [if_pos c_5] at hM
        exact wX7_counts_b33 C0 m_a mA_lane mA_many mA_item mA_poem mA_fresh mA_then mA_was mA_tape mA_strengths mA_sounds mA_stand mA_scheme mA_isKept mA_kept mA_trace m_thrown m_status m_acts m_taped m_cursor m_start m_token m_value m_fault m_faultAt m_latest m_stands m_nearFoot m_nearFeet m_nearCost m_traced p1 o_m_least o_m_ways kr  m_least m_ways hM _ _ _ hP hD hS (lv_sub hl [0, 1] rfl)
      · rw [if_neg c_5] at hM
        exact wX7_counts_b23 C0 m_a mA_lane mA_many mA_item mA_poem mA_fresh mA_then mA_was mA_tape mA_strengths mA_sounds mA_stand mA_scheme mA_isKept mA_kept mA_trace m_thrown m_status m_acts m_taped m_cursor m_start m_token m_value m_fault m_faultAt m_latest m_stands m_nearFoot m_nearFeet m_nearCost m_traced p1 o_m_least o_m_ways kr  m_least m_ways hM _ _ _ hP hD hS (lv_sub hl [0, 1] rfl)
set_option maxHeartbeats 4000000 in
set_option maxRecDepth 100000 in
theorem kX7_counts (l : Launch) (G : va_G) (K : Nat → ClassId) (m_a mA_lane mA_many mA_item mA_poem mA_fresh mA_then mA_was mA_tape mA_strengths mA_sounds mA_stand mA_scheme mA_isKept mA_kept mA_trace : Nat) (m_thrown : Int32) (m_status : Int32) (m_acts : Int32) (m_taped : Int32) (m_cursor : Int32) (m_start : Int32) (m_token : Int32) (m_value : Int32) (m_fault : Int32) (m_faultAt : Int32) (m_latest : Int32) (m_stands : Int32) (m_least : Int32) (m_ways : Int32) (m_nearFoot : Int32) (m_nearFeet : Int32) (m_nearCost : Int32) (m_traced : Int32) (p1 : Int32) (sz : Nat) (o_m_least : Int32) (o_m_ways : Int32) (hM : mX7_counts m_least m_ways p1 = some (o_m_least, o_m_ways)) : Met l yX7_counts (mC yX7_counts cX7_counts 2 none) rmX7_counts (va_Pc [.ref m_a, .int p1] (PCe G K E0 (WX7_counts K m_a mA_lane mA_many mA_item mA_poem mA_fresh mA_then mA_was mA_tape mA_strengths mA_sounds mA_stand mA_scheme mA_isKept mA_kept mA_trace m_thrown m_status m_acts m_taped m_cursor m_start m_token m_value m_fault m_faultAt m_latest m_stands m_least m_ways m_nearFoot m_nearFeet m_nearCost m_traced) sz)) (va_Qv (fun (_ : Unit) => True) (fun _ t => va_P G vwCl (WX7_counts K m_a mA_lane mA_many mA_item mA_poem mA_fresh mA_then mA_was mA_tape mA_strengths mA_sounds mA_stand mA_scheme mA_isKept mA_kept mA_trace m_thrown m_status m_acts m_taped m_cursor m_start m_token m_value m_fault m_faultAt m_latest m_stands o_m_least o_m_ways m_nearFoot m_nearFeet m_nearCost m_traced) t.heap) (va_A (WX7_counts K m_a mA_lane mA_many mA_item mA_poem mA_fresh mA_then mA_was mA_tape mA_strengths mA_sounds mA_stand mA_scheme mA_isKept mA_kept mA_trace m_thrown m_status m_acts m_taped m_cursor m_start m_token m_value m_fault m_faultAt m_latest m_stands m_least m_ways m_nearFoot m_nearFeet m_nearCost m_traced) sz)) rmX7_counts.cells rmX7_counts.slots (va_A (WX7_counts K m_a mA_lane mA_many mA_item mA_poem mA_fresh mA_then mA_was mA_tape mA_strengths mA_sounds mA_stand mA_scheme mA_isKept mA_kept mA_trace m_thrown m_status m_acts m_taped m_cursor m_start m_token m_value m_fault m_faultAt m_latest m_stands m_least m_ways m_nearFoot m_nearFeet m_nearCost m_traced) sz) := by
  refine Met.ofW (cc := cX7_counts) (maxL := 2) (ret := none) (by decide) rfl ?_
  intro p e s m args below meth c s₁ B hml hv
  obtain ⟨rfl, hsz, hP, hK, hD0, hE⟩ := hv
  have hx := B.exec
  have hb := B.bytes
  have hr := B.returns
  have hts0 := atoms_spec (ws := mC yX7_counts cX7_counts 2 none) B.pre
  have hts : ∀ w ∈ tbG, w.before _ s = true := fun w h => hts0 w (List.mem_cons_of_mem _ h)
  have hown : s.vm.findClass RX7 = some m.cls := findClass_of_methodNamed B.named
  subst hsz
  have hD := hD0.self (sz := s.heap.size)
  generalize hAe : va_A (WX7_counts K m_a mA_lane mA_many mA_item mA_poem mA_fresh mA_then mA_was mA_tape mA_strengths mA_sounds mA_stand mA_scheme mA_isKept mA_kept mA_trace m_thrown m_status m_acts m_taped m_cursor m_start m_token m_value m_fault m_faultAt m_latest m_stands m_least m_ways m_nearFoot m_nearFeet m_nearCost m_traced) s.heap.size = A at hD hE ⊢
  have hA : ∀ q : Nat, s.heap.size ≤ q → A q := fun q h => by rw [← hAe]; exact Or.inr h
  have hS : va_S A s.heap s.heap [] := va_S.rf
  have hl := lv_entry ([.ref m_a, .int p1]) (n := 2) (Nat.le_of_ble_eq_true rfl)
  rw [lg_entry_eq]
  generalize (lg_sl ([.ref m_a, .int p1]) ++ List.replicate (2 - (lg_sl ([.ref m_a, .int p1])).length) Slot.unset).toArray = ls at hl ⊢
  have hl : lv_has ls 2 [(0, .ref m_a), (1, .int p1)] := hl
  exact wX7_counts_b0 ⟨hx, hb, hml, hown, hts, hK, hA, E0_ok, hE⟩ m_a mA_lane mA_many mA_item mA_poem mA_fresh mA_then mA_was mA_tape mA_strengths mA_sounds mA_stand mA_scheme mA_isKept mA_kept mA_trace m_thrown m_status m_acts m_taped m_cursor m_start m_token m_value m_fault m_faultAt m_latest m_stands m_nearFoot m_nearFeet m_nearCost m_traced p1 o_m_least o_m_ways (fun H locs ls pc hdg hP hD hS => W.vret hx hb hr (fun t ht hW => ⟨⟨(), rfl, trivial, (show va_P G vwCl _ t.heap by rw [ht]; exact hP)⟩, hS.F ht⟩) hS.2.2 hdg) m_least m_ways  hM _ _ _ hP hD hS hl
