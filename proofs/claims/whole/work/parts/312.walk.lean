abbrev WX7_take (K : Nat → ClassId) (m_a mA_lane mA_many mA_item mA_poem mA_fresh mA_then mA_was mA_tape mA_strengths mA_sounds mA_stand mA_scheme mA_isKept mA_kept mA_trace : Nat) (m_thrown : Int32) (m_status : Int32) (m_acts : Int32) (m_taped : Int32) (m_cursor : Int32) (m_start : Int32) (m_token : Int32) (m_value : Int32) (m_fault : Int32) (m_faultAt : Int32) (m_latest : Int32) (m_stands : Int32) (m_least : Int32) (m_ways : Int32) (m_nearFoot : Int32) (m_nearFeet : Int32) (m_nearCost : Int32) (m_traced : Int32) (m_poem : Nat → Int32) (m_was : Nat → Int32) : va_W := [(m_a, .inr (7, [.int m_thrown, .int m_status, .ref mA_lane, .ref mA_many, .ref mA_item, .ref mA_poem, .ref mA_fresh, .ref mA_then, .ref mA_was, .int m_acts, .ref mA_tape, .int m_taped, .int m_cursor, .int m_start, .int m_token, .int m_value, .int m_fault, .int m_faultAt, .int m_latest, .ref mA_strengths, .ref mA_sounds, .ref mA_stand, .int m_stands, .int m_least, .int m_ways, .ref mA_scheme, .int m_nearFoot, .int m_nearFeet, .int m_nearCost, .ref mA_isKept, .ref mA_kept, .ref mA_trace, .int m_traced])), aI K mA_poem 207 m_poem, aI K mA_was 4968 m_was]
def rmX7_take : Room := { frames := 2, cells := 0, slots := 0, locals := 46 }
theorem hdX7_take : yX7_take.cls = RX7 ∧ yX7_take.cls ≠ "java/lang/invoke/MethodHandle" ∧ yX7_take.cls ≠ "java/lang/invoke/VarHandle" ∧ (parseMethodDescriptor yX7_take.desc).map (fun d => d.parameters.length) = some 1 := by decide +kernel
set_option maxHeartbeats 4000000 in
set_option maxRecDepth 100000 in
theorem wX7_take_b102 {p : Program} {l : Launch} {e : Env} {s : State} {m : MethodId} {args : Array Value} {below : List Frame} {meth : Method} {c : Code} {Q : State → Prop} {G : va_G} {K : Nat → ClassId} {A : Nat → Prop} (C0 : CX p s m args c cX7_take 5 RX7 G K E0 A) (m_a mA_lane mA_many mA_item mA_poem mA_fresh mA_then mA_was mA_tape mA_strengths mA_sounds mA_stand mA_scheme mA_isKept mA_kept mA_trace : Nat) (m_status : Int32) (m_taped : Int32) (m_cursor : Int32) (m_start : Int32) (m_token : Int32) (m_value : Int32) (m_fault : Int32) (m_faultAt : Int32) (m_latest : Int32) (m_stands : Int32) (m_least : Int32) (m_ways : Int32) (m_nearFoot : Int32) (m_nearFeet : Int32) (m_nearCost : Int32) (m_traced : Int32) (p1 : Int32) (r : Int32) (o_m_thrown : Int32) (o_m_acts : Int32) (o_m_poem : Nat → Int32) (o_m_was : Nat → Int32) (kr : ∀ (H : Heap) (locs : List Loc) (ls : Array Slot) (pc : Nat), decode cX7_take pc = .ok (.ireturn, 1) → va_P G vwCl (WX7_take K m_a mA_lane mA_many mA_item mA_poem mA_fresh mA_then mA_was mA_tape mA_strengths mA_sounds mA_stand mA_scheme mA_isKept mA_kept mA_trace o_m_thrown m_status o_m_acts m_taped m_cursor m_start m_token m_value m_fault m_faultAt m_latest m_stands m_least m_ways m_nearFoot m_nearFeet m_nearCost m_traced o_m_poem o_m_was) H → va_D A (WX7_take K m_a mA_lane mA_many mA_item mA_poem mA_fresh mA_then mA_was mA_tape mA_strengths mA_sounds mA_stand mA_scheme mA_isKept mA_kept mA_trace o_m_thrown m_status o_m_acts m_taped m_cursor m_start m_token m_value m_fault m_faultAt m_latest m_stands m_least m_ways m_nearFoot m_nearFeet m_nearCost m_traced o_m_poem o_m_was) → va_S A s.heap H locs → W p l e rmX7_take s m args below meth c H locs 0 0 Q (F0 m pc ls [.int r])) (n : Nat) : ∀ (m_thrown : Int32) (m_acts : Int32) (m_poem : Nat → Int32) (m_was : Nat → Int32) (x2 : Int32) (x3 : Int32) (x4 : Int32), mX7_take_b102 p1  n m_thrown m_acts m_poem m_was x2 x3 x4 = some (r, o_m_thrown, o_m_acts, o_m_poem, o_m_was) → ∀ (H : Heap) (locs : List Loc) (ls : Array Slot), va_P G vwCl (WX7_take K m_a mA_lane mA_many mA_item mA_poem mA_fresh mA_then mA_was mA_tape mA_strengths mA_sounds mA_stand mA_scheme mA_isKept mA_kept mA_trace m_thrown m_status m_acts m_taped m_cursor m_start m_token m_value m_fault m_faultAt m_latest m_stands m_least m_ways m_nearFoot m_nearFeet m_nearCost m_traced m_poem m_was) H → va_D A (WX7_take K m_a mA_lane mA_many mA_item mA_poem mA_fresh mA_then mA_was mA_tape mA_strengths mA_sounds mA_stand mA_scheme mA_isKept mA_kept mA_trace m_thrown m_status m_acts m_taped m_cursor m_start m_token m_value m_fault m_faultAt m_latest m_stands m_least m_ways m_nearFoot m_nearFeet m_nearCost m_traced m_poem m_was) → va_S A s.heap H locs → lv_has ls 5 [(0, .ref m_a), (2, .int x2), (3, .int x3), (4, .int x4)] → W p l e rmX7_take s m args below meth c H locs 0 0 Q (F0 m 102 ls []) := by
  obtain ⟨hx, hb, hml, hown, hts, hK, hA, hEo, hE⟩ := id C0
  induction n with
  | zero =>
    intro m_thrown m_acts m_poem m_was x2 x3 x4 hM
    cases hM
  | succ n ih =>
    intro m_thrown m_acts m_poem m_was x2 x3 x4 hM H locs ls hP hD hS hl
    rw [mX7_take_b102] at hM
    refine lv_iload hx hb dX7_take_102 (lv_at hl 3 rfl) ?_
    refine lv_bipush (v := 10) hx hb dX7_take_104 (by decide) ?_
    refine lv_icmp_ge (tgt := 131) hx hb dX7_take_106 (by decide) (fun c_1 => ?_) (fun c_1 => ?_)
    · rw [if_pos c_1] at hM
      refine lv_aload_n hx hb dX7_take_131 rfl (lv_at hl 0 rfl) ?_
      refine va_get (D := G) (ci := 7) (v := .ref mA_poem) (C := RX7) (T := TX7) (N := 33) hx hb hts inX7 hown hK hP 0 rfl rfl 5 (by decide) (hts _ tb769) (fun _ h9 => h9) rfl dX7_take_132 ?_
      refine lv_iconst (v := 3) hx hb dX7_take_135 (by decide) ?_
      refine lv_iload_n hx hb dX7_take_136 rfl (lv_at hl 1 rfl) ?_
      refine lv_iadd hx hb dX7_take_137 ?_
      refine lv_dup2_11 hx hb dX7_take_138 rfl rfl ?_
      obtain ⟨g_2, hM⟩ := ng hM
      refine va_iald hx hb hK hP 1 0 rfl rfl g_2 dX7_take_139 ?_
      refine lv_iconst (v := 1) hx hb dX7_take_140 (by decide) ?_
      refine lv_isub hx hb dX7_take_141 ?_
      obtain ⟨g_3, hM⟩ := ng hM
      refine va_iast hx hb hK hP hD hS 1 0 rfl rfl g_3 dX7_take_142 (fun H locs hP hD hS => ?_)
      have hP : va_P G vwCl (WX7_take K m_a mA_lane mA_many mA_item mA_poem mA_fresh mA_then mA_was mA_tape mA_strengths mA_sounds mA_stand mA_scheme mA_isKept mA_kept mA_trace m_thrown m_status m_acts m_taped m_cursor m_start m_token m_value m_fault m_faultAt m_latest m_stands m_least m_ways m_nearFoot m_nearFeet m_nearCost m_traced (upd m_poem ((3 : Int32) + x2).toNatClampNeg ((m_poem ((3 : Int32) + x2).toNatClampNeg) - (1 : Int32))) m_was) H := hP
      have hD : va_D A (WX7_take K m_a mA_lane mA_many mA_item mA_poem mA_fresh mA_then mA_was mA_tape mA_strengths mA_sounds mA_stand mA_scheme mA_isKept mA_kept mA_trace m_thrown m_status m_acts m_taped m_cursor m_start m_token m_value m_fault m_faultAt m_latest m_stands m_least m_ways m_nearFoot m_nearFeet m_nearCost m_traced (upd m_poem ((3 : Int32) + x2).toNatClampNeg ((m_poem ((3 : Int32) + x2).toNatClampNeg) - (1 : Int32))) m_was) := hD
      refine lv_aload_n hx hb dX7_take_143 rfl (lv_at hl 0 rfl) ?_
      refine va_get (D := G) (ci := 7) (v := .ref mA_poem) (C := RX7) (T := TX7) (N := 33) hx hb hts inX7 hown hK hP 0 rfl rfl 5 (by decide) (hts _ tb769) (fun _ h9 => h9) rfl dX7_take_144 ?_
      refine lv_iconst (v := 3) hx hb dX7_take_147 (by decide) ?_
      refine lv_iload_n hx hb dX7_take_148 rfl (lv_at hl 1 rfl) ?_
      refine lv_iadd hx hb dX7_take_149 ?_
      obtain ⟨g_4, hM⟩ := ng hM
      refine va_iald hx hb hK hP 1 0 rfl rfl g_4 dX7_take_150 ?_
      have t0 := Option.some.inj hM
      obtain ⟨q1, t1⟩ := Prod.mk.inj t0
      obtain ⟨q2, t2⟩ := Prod.mk.inj t1
      obtain ⟨q3, t3⟩ := Prod.mk.inj t2
      obtain ⟨q4, t4⟩ := Prod.mk.inj t3
      subst q1
      subst q2
      subst q3
      subst q4
      subst t4
      exact kr _ _ _ _ dX7_take_151 hP hD hS
    · rw [if_neg c_1] at hM
      refine lv_aload_n hx hb dX7_take_109 rfl (lv_at hl 0 rfl) ?_
      refine va_get (D := G) (ci := 7) (v := .ref mA_poem) (C := RX7) (T := TX7) (N := 33) hx hb hts inX7 hown hK hP 0 rfl rfl 5 (by decide) (hts _ tb769) (fun _ h9 => h9) rfl dX7_take_110 ?_
      refine lv_bipush (v := 7) hx hb dX7_take_113 (by decide) ?_
      refine lv_bipush (v := 10) hx hb dX7_take_115 (by decide) ?_
      refine lv_iload_n hx hb dX7_take_117 rfl (lv_at hl 2 rfl) ?_
      refine lv_imul hx hb dX7_take_118 ?_
      refine lv_iadd hx hb dX7_take_119 ?_
      refine lv_iload hx hb dX7_take_120 (lv_at hl 3 rfl) ?_
      refine lv_iadd hx hb dX7_take_122 ?_
      refine lv_iconst (v := 0) hx hb dX7_take_123 (by decide) ?_
      obtain ⟨g_5, hM⟩ := ng hM
      refine va_iast hx hb hK hP hD hS 1 0 rfl rfl g_5 dX7_take_124 (fun H locs hP hD hS => ?_)
      have hP : va_P G vwCl (WX7_take K m_a mA_lane mA_many mA_item mA_poem mA_fresh mA_then mA_was mA_tape mA_strengths mA_sounds mA_stand mA_scheme mA_isKept mA_kept mA_trace m_thrown m_status m_acts m_taped m_cursor m_start m_token m_value m_fault m_faultAt m_latest m_stands m_least m_ways m_nearFoot m_nearFeet m_nearCost m_traced (upd m_poem (((7 : Int32) + ((10 : Int32) * x3)) + x4).toNatClampNeg (0 : Int32)) m_was) H := hP
      have hD : va_D A (WX7_take K m_a mA_lane mA_many mA_item mA_poem mA_fresh mA_then mA_was mA_tape mA_strengths mA_sounds mA_stand mA_scheme mA_isKept mA_kept mA_trace m_thrown m_status m_acts m_taped m_cursor m_start m_token m_value m_fault m_faultAt m_latest m_stands m_least m_ways m_nearFoot m_nearFeet m_nearCost m_traced (upd m_poem (((7 : Int32) + ((10 : Int32) * x3)) + x4).toNatClampNeg (0 : Int32)) m_was) := hD
      refine lv_iinc (v := (x4 + 1)) (lv' := [(4, .int (x4 + 1)), (0, .ref m_a), (2, .int x2), (3, .int x3)]) hx hb dX7_take_125 hl (k := 3) rfl rfl (by decide) rfl (fun ls hl => ?_)
      refine lv_goto (tgt := 102) hx hb dX7_take_128 (by decide) ?_
      exact ih m_thrown m_acts (upd m_poem (((7 : Int32) + ((10 : Int32) * x3)) + x4).toNatClampNeg (0 : Int32)) m_was x2 x3 (x4 + 1) hM _ _ _ hP hD hS (lv_sub hl [1, 2, 3, 0] rfl)
set_option maxHeartbeats 4000000 in
set_option maxRecDepth 100000 in
theorem wX7_take_b64 {p : Program} {l : Launch} {e : Env} {s : State} {m : MethodId} {args : Array Value} {below : List Frame} {meth : Method} {c : Code} {Q : State → Prop} {G : va_G} {K : Nat → ClassId} {A : Nat → Prop} (C0 : CX p s m args c cX7_take 5 RX7 G K E0 A) (m_a mA_lane mA_many mA_item mA_poem mA_fresh mA_then mA_was mA_tape mA_strengths mA_sounds mA_stand mA_scheme mA_isKept mA_kept mA_trace : Nat) (m_status : Int32) (m_taped : Int32) (m_cursor : Int32) (m_start : Int32) (m_token : Int32) (m_value : Int32) (m_fault : Int32) (m_faultAt : Int32) (m_latest : Int32) (m_stands : Int32) (m_least : Int32) (m_ways : Int32) (m_nearFoot : Int32) (m_nearFeet : Int32) (m_nearCost : Int32) (m_traced : Int32) (p1 : Int32) (r : Int32) (o_m_thrown : Int32) (o_m_acts : Int32) (o_m_poem : Nat → Int32) (o_m_was : Nat → Int32) (kr : ∀ (H : Heap) (locs : List Loc) (ls : Array Slot) (pc : Nat), decode cX7_take pc = .ok (.ireturn, 1) → va_P G vwCl (WX7_take K m_a mA_lane mA_many mA_item mA_poem mA_fresh mA_then mA_was mA_tape mA_strengths mA_sounds mA_stand mA_scheme mA_isKept mA_kept mA_trace o_m_thrown m_status o_m_acts m_taped m_cursor m_start m_token m_value m_fault m_faultAt m_latest m_stands m_least m_ways m_nearFoot m_nearFeet m_nearCost m_traced o_m_poem o_m_was) H → va_D A (WX7_take K m_a mA_lane mA_many mA_item mA_poem mA_fresh mA_then mA_was mA_tape mA_strengths mA_sounds mA_stand mA_scheme mA_isKept mA_kept mA_trace o_m_thrown m_status o_m_acts m_taped m_cursor m_start m_token m_value m_fault m_faultAt m_latest m_stands m_least m_ways m_nearFoot m_nearFeet m_nearCost m_traced o_m_poem o_m_was) → va_S A s.heap H locs → W p l e rmX7_take s m args below meth c H locs 0 0 Q (F0 m pc ls [.int r])) (n : Nat) : ∀ (m_thrown : Int32) (m_acts : Int32) (m_poem : Nat → Int32) (m_was : Nat → Int32) (x2 : Int32) (x3 : Int32) (x4 : Int32), mX7_take_b64 p1  n m_thrown m_acts m_poem m_was x2 x3 x4 = some (r, o_m_thrown, o_m_acts, o_m_poem, o_m_was) → ∀ (H : Heap) (locs : List Loc) (ls : Array Slot), va_P G vwCl (WX7_take K m_a mA_lane mA_many mA_item mA_poem mA_fresh mA_then mA_was mA_tape mA_strengths mA_sounds mA_stand mA_scheme mA_isKept mA_kept mA_trace m_thrown m_status m_acts m_taped m_cursor m_start m_token m_value m_fault m_faultAt m_latest m_stands m_least m_ways m_nearFoot m_nearFeet m_nearCost m_traced m_poem m_was) H → va_D A (WX7_take K m_a mA_lane mA_many mA_item mA_poem mA_fresh mA_then mA_was mA_tape mA_strengths mA_sounds mA_stand mA_scheme mA_isKept mA_kept mA_trace m_thrown m_status m_acts m_taped m_cursor m_start m_token m_value m_fault m_faultAt m_latest m_stands m_least m_ways m_nearFoot m_nearFeet m_nearCost m_traced m_poem m_was) → va_S A s.heap H locs → lv_has ls 5 [(0, .ref m_a), (2, .int x2), (3, .int x3), (4, .int x4)] → W p l e rmX7_take s m args below meth c H locs 0 0 Q (F0 m 64 ls []) := by
  obtain ⟨hx, hb, hml, hown, hts, hK, hA, hEo, hE⟩ := id C0
  induction n with
  | zero =>
    intro m_thrown m_acts m_poem m_was x2 x3 x4 hM
    cases hM
  | succ n ih =>
    intro m_thrown m_acts m_poem m_was x2 x3 x4 hM H locs ls hP hD hS hl
    rw [mX7_take_b64] at hM
    refine lv_iload hx hb dX7_take_64 (lv_at hl 3 rfl) ?_
    refine lv_bipush (v := 7) hx hb dX7_take_66 (by decide) ?_
    refine lv_bipush (v := 10) hx hb dX7_take_68 (by decide) ?_
    refine lv_iload_n hx hb dX7_take_70 rfl (lv_at hl 2 rfl) ?_
    refine lv_imul hx hb dX7_take_71 ?_
    refine lv_iadd hx hb dX7_take_72 ?_
    refine lv_icmp_ge (tgt := 99) hx hb dX7_take_73 (by decide) (fun c_6 => ?_) (fun c_6 => ?_)
    · rw [if_pos c_6] at hM
      refine lv_iconst (v := 0) hx hb dX7_take_99 (by decide) ?_
      refine lv_istore (lv' := [(4, .int (0 : Int32)), (0, .ref m_a), (2, .int x2), (3, .int x3)]) hx hb dX7_take_100 hl (by decide) rfl (fun ls hl => ?_)
      exact wX7_take_b102 C0 m_a mA_lane mA_many mA_item mA_poem mA_fresh mA_then mA_was mA_tape mA_strengths mA_sounds mA_stand mA_scheme mA_isKept mA_kept mA_trace m_status m_taped m_cursor m_start m_token m_value m_fault m_faultAt m_latest m_stands m_least m_ways m_nearFoot m_nearFeet m_nearCost m_traced p1 r o_m_thrown o_m_acts o_m_poem o_m_was kr  FU m_thrown m_acts m_poem m_was x2 x3 (0 : Int32) hM _ _ _ hP hD hS (lv_sub hl [1, 2, 3, 0] rfl)
    · rw [if_neg c_6] at hM
      refine lv_aload_n hx hb dX7_take_76 rfl (lv_at hl 0 rfl) ?_
      refine va_get (D := G) (ci := 7) (v := .ref mA_poem) (C := RX7) (T := TX7) (N := 33) hx hb hts inX7 hown hK hP 0 rfl rfl 5 (by decide) (hts _ tb769) (fun _ h9 => h9) rfl dX7_take_77 ?_
      refine lv_iload hx hb dX7_take_80 (lv_at hl 3 rfl) ?_
      refine lv_aload_n hx hb dX7_take_82 rfl (lv_at hl 0 rfl) ?_
      refine va_get (D := G) (ci := 7) (v := .ref mA_poem) (C := RX7) (T := TX7) (N := 33) hx hb hts inX7 hown hK hP 0 rfl rfl 5 (by decide) (hts _ tb769) (fun _ h9 => h9) rfl dX7_take_83 ?_
      refine lv_iload hx hb dX7_take_86 (lv_at hl 3 rfl) ?_
      refine lv_bipush (v := 10) hx hb dX7_take_88 (by decide) ?_
      refine lv_iadd hx hb dX7_take_90 ?_
      obtain ⟨g_7, hM⟩ := ng hM
      refine va_iald hx hb hK hP 1 0 rfl rfl g_7 dX7_take_91 ?_
      obtain ⟨g_8, hM⟩ := ng hM
      refine va_iast hx hb hK hP hD hS 1 0 rfl rfl g_8 dX7_take_92 (fun H locs hP hD hS => ?_)
      have hP : va_P G vwCl (WX7_take K m_a mA_lane mA_many mA_item mA_poem mA_fresh mA_then mA_was mA_tape mA_strengths mA_sounds mA_stand mA_scheme mA_isKept mA_kept mA_trace m_thrown m_status m_acts m_taped m_cursor m_start m_token m_value m_fault m_faultAt m_latest m_stands m_least m_ways m_nearFoot m_nearFeet m_nearCost m_traced (upd m_poem x4.toNatClampNeg (m_poem (x4 + (10 : Int32)).toNatClampNeg)) m_was) H := hP
      have hD : va_D A (WX7_take K m_a mA_lane mA_many mA_item mA_poem mA_fresh mA_then mA_was mA_tape mA_strengths mA_sounds mA_stand mA_scheme mA_isKept mA_kept mA_trace m_thrown m_status m_acts m_taped m_cursor m_start m_token m_value m_fault m_faultAt m_latest m_stands m_least m_ways m_nearFoot m_nearFeet m_nearCost m_traced (upd m_poem x4.toNatClampNeg (m_poem (x4 + (10 : Int32)).toNatClampNeg)) m_was) := hD
      refine lv_iinc (v := (x4 + 1)) (lv' := [(4, .int (x4 + 1)), (0, .ref m_a), (2, .int x2), (3, .int x3)]) hx hb dX7_take_93 hl (k := 3) rfl rfl (by decide) rfl (fun ls hl => ?_)
      refine lv_goto (tgt := 64) hx hb dX7_take_96 (by decide) ?_
      exact ih m_thrown m_acts (upd m_poem x4.toNatClampNeg (m_poem (x4 + (10 : Int32)).toNatClampNeg)) m_was x2 x3 (x4 + 1) hM _ _ _ hP hD hS (lv_sub hl [1, 2, 3, 0] rfl)
set_option maxHeartbeats 4000000 in
set_option maxRecDepth 100000 in
theorem wX7_take_b0 {p : Program} {l : Launch} {e : Env} {s : State} {m : MethodId} {args : Array Value} {below : List Frame} {meth : Method} {c : Code} {Q : State → Prop} {G : va_G} {K : Nat → ClassId} {A : Nat → Prop} (C0 : CX p s m args c cX7_take 5 RX7 G K E0 A) (m_a mA_lane mA_many mA_item mA_poem mA_fresh mA_then mA_was mA_tape mA_strengths mA_sounds mA_stand mA_scheme mA_isKept mA_kept mA_trace : Nat) (m_status : Int32) (m_taped : Int32) (m_cursor : Int32) (m_start : Int32) (m_token : Int32) (m_value : Int32) (m_fault : Int32) (m_faultAt : Int32) (m_latest : Int32) (m_stands : Int32) (m_least : Int32) (m_ways : Int32) (m_nearFoot : Int32) (m_nearFeet : Int32) (m_nearCost : Int32) (m_traced : Int32) (p1 : Int32) (r : Int32) (o_m_thrown : Int32) (o_m_acts : Int32) (o_m_poem : Nat → Int32) (o_m_was : Nat → Int32) (kr : ∀ (H : Heap) (locs : List Loc) (ls : Array Slot) (pc : Nat), decode cX7_take pc = .ok (.ireturn, 1) → va_P G vwCl (WX7_take K m_a mA_lane mA_many mA_item mA_poem mA_fresh mA_then mA_was mA_tape mA_strengths mA_sounds mA_stand mA_scheme mA_isKept mA_kept mA_trace o_m_thrown m_status o_m_acts m_taped m_cursor m_start m_token m_value m_fault m_faultAt m_latest m_stands m_least m_ways m_nearFoot m_nearFeet m_nearCost m_traced o_m_poem o_m_was) H → va_D A (WX7_take K m_a mA_lane mA_many mA_item mA_poem mA_fresh mA_then mA_was mA_tape mA_strengths mA_sounds mA_stand mA_scheme mA_isKept mA_kept mA_trace o_m_thrown m_status o_m_acts m_taped m_cursor m_start m_token m_value m_fault m_faultAt m_latest m_stands m_least m_ways m_nearFoot m_nearFeet m_nearCost m_traced o_m_poem o_m_was) → va_S A s.heap H locs → W p l e rmX7_take s m args below meth c H locs 0 0 Q (F0 m pc ls [.int r])) (m_thrown : Int32) (m_acts : Int32) (m_poem : Nat → Int32) (m_was : Nat → Int32) (hM : mX7_take_b0 p1  m_thrown m_acts m_poem m_was = some (r, o_m_thrown, o_m_acts, o_m_poem, o_m_was)) : ∀ (H : Heap) (locs : List Loc) (ls : Array Slot), va_P G vwCl (WX7_take K m_a mA_lane mA_many mA_item mA_poem mA_fresh mA_then mA_was mA_tape mA_strengths mA_sounds mA_stand mA_scheme mA_isKept mA_kept mA_trace m_thrown m_status m_acts m_taped m_cursor m_start m_token m_value m_fault m_faultAt m_latest m_stands m_least m_ways m_nearFoot m_nearFeet m_nearCost m_traced m_poem m_was) H → va_D A (WX7_take K m_a mA_lane mA_many mA_item mA_poem mA_fresh mA_then mA_was mA_tape mA_strengths mA_sounds mA_stand mA_scheme mA_isKept mA_kept mA_trace m_thrown m_status m_acts m_taped m_cursor m_start m_token m_value m_fault m_faultAt m_latest m_stands m_least m_ways m_nearFoot m_nearFeet m_nearCost m_traced m_poem m_was) → va_S A s.heap H locs → lv_has ls 5 [(0, .ref m_a), (1, .int p1)] → W p l e rmX7_take s m args below meth c H locs 0 0 Q (F0 m 0 ls []) := by
  obtain ⟨hx, hb, hml, hown, hts, hK, hA, hEo, hE⟩ := id C0
  intro H locs ls hP hD hS hl
  unfold mX7_take_b0 at hM
  refine lv_aload_n hx hb dX7_take_0 rfl (lv_at hl 0 rfl) ?_
  refine lv_iconst (v := 0) hx hb dX7_take_1 (by decide) ?_
  refine va_put (D := G) (ci := 7) (v := .int (0 : Int32)) (ty := .int) (C := RX7) (T := TX7) (N := 33) hx hb hts inX7 tyX7 tyX7_ok nmX7 hown hK hP hD hS 0 rfl rfl 0 (by decide) (hts _ tb764) (fun _ h9 => h9) rfl (tyX7_ok 0 (by decide)) rfl rfl (Nat.le_of_ble_eq_true rfl) dX7_take_2 (fun H locs hP hD hS => ?_)
  have hP : va_P G vwCl (WX7_take K m_a mA_lane mA_many mA_item mA_poem mA_fresh mA_then mA_was mA_tape mA_strengths mA_sounds mA_stand mA_scheme mA_isKept mA_kept mA_trace (0 : Int32) m_status m_acts m_taped m_cursor m_start m_token m_value m_fault m_faultAt m_latest m_stands m_least m_ways m_nearFoot m_nearFeet m_nearCost m_traced m_poem m_was) H := hP
  have hD : va_D A (WX7_take K m_a mA_lane mA_many mA_item mA_poem mA_fresh mA_then mA_was mA_tape mA_strengths mA_sounds mA_stand mA_scheme mA_isKept mA_kept mA_trace (0 : Int32) m_status m_acts m_taped m_cursor m_start m_token m_value m_fault m_faultAt m_latest m_stands m_least m_ways m_nearFoot m_nearFeet m_nearCost m_traced m_poem m_was) := hD
  refine lv_aload_n hx hb dX7_take_5 rfl (lv_at hl 0 rfl) ?_
  refine lv_iload_n hx hb dX7_take_6 rfl (lv_at hl 1 rfl) ?_
  obtain ⟨r_9, hC, hM⟩ := oe1 hM
  refine cV_i (As := [.int p1]) (rest := []) C0 hP hD hS [0, 1] (kX7_isWord l G K m_a mA_lane mA_many mA_item mA_poem mA_fresh mA_then mA_was mA_tape mA_strengths mA_sounds mA_stand mA_scheme mA_isKept mA_kept mA_trace (0 : Int32) m_status m_acts m_taped m_cursor m_start m_token m_value m_fault m_faultAt m_latest m_stands m_least m_ways m_nearFoot m_nearFeet m_nearCost m_traced m_poem p1 H.size r_9 hC) rfl rfl rfl tb970 tb972 tp25 tb9 tb973 hdX7_isWord (va_recv hK hP (ci := 7) (q0 := 0) rfl rfl) ⟨Nat.le_of_ble_eq_true rfl, Nat.le_of_ble_eq_true rfl⟩ rfl hl.1 (Nat.le_of_ble_eq_true rfl) rfl ⟨Nat.le_refl _, Nat.le_refl _⟩ dX7_take_7 (fun H locs hP hD hS => ?_)
  have hP : va_P G vwCl (WX7_take K m_a mA_lane mA_many mA_item mA_poem mA_fresh mA_then mA_was mA_tape mA_strengths mA_sounds mA_stand mA_scheme mA_isKept mA_kept mA_trace (0 : Int32) m_status m_acts m_taped m_cursor m_start m_token m_value m_fault m_faultAt m_latest m_stands m_least m_ways m_nearFoot m_nearFeet m_nearCost m_traced m_poem m_was) H := hP
  have hD : va_D A (WX7_take K m_a mA_lane mA_many mA_item mA_poem mA_fresh mA_then mA_was mA_tape mA_strengths mA_sounds mA_stand mA_scheme mA_isKept mA_kept mA_trace (0 : Int32) m_status m_acts m_taped m_cursor m_start m_token m_value m_fault m_faultAt m_latest m_stands m_least m_ways m_nearFoot m_nearFeet m_nearCost m_traced m_poem m_was) := hD
  refine lv_if_ne (tgt := 16) hx hb dX7_take_10 (by decide) (fun c_10 => ?_) (fun c_10 => ?_)
  · rw [if_neg c_10] at hM
    refine lv_aload_n hx hb dX7_take_16 rfl (lv_at hl 0 rfl) ?_
    refine va_get (D := G) (ci := 7) (v := .ref mA_poem) (C := RX7) (T := TX7) (N := 33) hx hb hts inX7 hown hK hP 0 rfl rfl 5 (by decide) (hts _ tb769) (fun _ h9 => h9) rfl dX7_take_17 ?_
    refine lv_iload_n hx hb dX7_take_20 rfl (lv_at hl 1 rfl) ?_
    obtain ⟨r_11, hC, hM⟩ := oe1 hM
    refine cS_i (As := [.ref mA_poem, .int p1]) (rest := []) C0 hP hD hS [1] (kX7_lineOf l G K mA_poem m_poem p1 H.size r_11 hC) rfl rfl rfl tb1003 tb1004 tb9 tb1005 hdX7_lineOf ⟨Nat.le_of_ble_eq_true rfl, Nat.le_of_ble_eq_true rfl⟩ rfl hl.1 (Nat.le_of_ble_eq_true rfl) rfl ⟨Nat.le_refl _, Nat.le_refl _⟩ dX7_take_21 (fun H locs hP hD hS => ?_)
    have hP : va_P G vwCl (WX7_take K m_a mA_lane mA_many mA_item mA_poem mA_fresh mA_then mA_was mA_tape mA_strengths mA_sounds mA_stand mA_scheme mA_isKept mA_kept mA_trace (0 : Int32) m_status m_acts m_taped m_cursor m_start m_token m_value m_fault m_faultAt m_latest m_stands m_least m_ways m_nearFoot m_nearFeet m_nearCost m_traced m_poem m_was) H := hP
    have hD : va_D A (WX7_take K m_a mA_lane mA_many mA_item mA_poem mA_fresh mA_then mA_was mA_tape mA_strengths mA_sounds mA_stand mA_scheme mA_isKept mA_kept mA_trace (0 : Int32) m_status m_acts m_taped m_cursor m_start m_token m_value m_fault m_faultAt m_latest m_stands m_least m_ways m_nearFoot m_nearFeet m_nearCost m_traced m_poem m_was) := hD
    refine lv_istore_n (lv' := [(2, .int r_11), (0, .ref m_a), (1, .int p1)]) hx hb dX7_take_24 rfl hl (by decide) rfl (fun ls hl => ?_)
    refine lv_aload_n hx hb dX7_take_25 rfl (lv_at hl 1 rfl) ?_
    refine va_get (D := G) (ci := 7) (v := .ref mA_poem) (C := RX7) (T := TX7) (N := 33) hx hb hts inX7 hown hK hP 0 rfl rfl 5 (by decide) (hts _ tb769) (fun _ h9 => h9) rfl dX7_take_26 ?_
    refine lv_iconst (v := 3) hx hb dX7_take_29 (by decide) ?_
    refine lv_iload_n hx hb dX7_take_30 rfl (lv_at hl 0 rfl) ?_
    refine lv_iadd hx hb dX7_take_31 ?_
    obtain ⟨g_12, hM⟩ := ng hM
    refine va_iald hx hb hK hP 1 0 rfl rfl g_12 dX7_take_32 ?_
    refine lv_iconst (v := 1) hx hb dX7_take_33 (by decide) ?_
    refine lv_icmp_ne (tgt := 41) hx hb dX7_take_34 (by decide) (fun c_13 => ?_) (fun c_13 => ?_)
    · rw [if_neg c_13] at hM
      refine lv_aload_n hx hb dX7_take_41 rfl (lv_at hl 1 rfl) ?_
      obtain ⟨u0_14, u1_14, hC, hM⟩ := oe2 hM
      refine cV_v (As := []) (rest := []) C0 hP hD hS [0, 1, 2] (kX7_keep l G K m_a mA_lane mA_many mA_item mA_poem mA_fresh mA_then mA_was mA_tape mA_strengths mA_sounds mA_stand mA_scheme mA_isKept mA_kept mA_trace (0 : Int32) m_status m_acts m_taped m_cursor m_start m_token m_value m_fault m_faultAt m_latest m_stands m_least m_ways m_nearFoot m_nearFeet m_nearCost m_traced m_poem m_was H.size u0_14 u1_14 hC) rfl rfl rfl tb978 tb980 tp26 tb9 tb981 hdX7_keep (va_recv hK hP (ci := 7) (q0 := 0) rfl rfl) ⟨Nat.le_of_ble_eq_true rfl, Nat.le_of_ble_eq_true rfl⟩ rfl hl.1 (Nat.le_of_ble_eq_true rfl) rfl ⟨Nat.le_refl _, Nat.le_refl _⟩ dX7_take_42 (fun H locs hP hD hS => ?_)
      have hP : va_P G vwCl (WX7_take K m_a mA_lane mA_many mA_item mA_poem mA_fresh mA_then mA_was mA_tape mA_strengths mA_sounds mA_stand mA_scheme mA_isKept mA_kept mA_trace (0 : Int32) m_status u0_14 m_taped m_cursor m_start m_token m_value m_fault m_faultAt m_latest m_stands m_least m_ways m_nearFoot m_nearFeet m_nearCost m_traced m_poem u1_14) H := hP
      have hD : va_D A (WX7_take K m_a mA_lane mA_many mA_item mA_poem mA_fresh mA_then mA_was mA_tape mA_strengths mA_sounds mA_stand mA_scheme mA_isKept mA_kept mA_trace (0 : Int32) m_status u0_14 m_taped m_cursor m_start m_token m_value m_fault m_faultAt m_latest m_stands m_least m_ways m_nearFoot m_nearFeet m_nearCost m_traced m_poem u1_14) := hD
      refine lv_aload_n hx hb dX7_take_45 rfl (lv_at hl 1 rfl) ?_
      refine va_get (D := G) (ci := 7) (v := .ref mA_poem) (C := RX7) (T := TX7) (N := 33) hx hb hts inX7 hown hK hP 0 rfl rfl 5 (by decide) (hts _ tb769) (fun _ h9 => h9) rfl dX7_take_46 ?_
      obtain ⟨r_15, hC, hM⟩ := oe1 hM
      refine cS_i (As := [.ref mA_poem]) (rest := []) C0 hP hD hS [1] (kX7_wordsOf l G K mA_poem m_poem H.size r_15 hC) rfl rfl rfl tb951 tb952 tb9 tb953 hdX7_wordsOf ⟨Nat.le_of_ble_eq_true rfl, Nat.le_of_ble_eq_true rfl⟩ rfl hl.1 (Nat.le_of_ble_eq_true rfl) rfl ⟨Nat.le_refl _, Nat.le_refl _⟩ dX7_take_49 (fun H locs hP hD hS => ?_)
      have hP : va_P G vwCl (WX7_take K m_a mA_lane mA_many mA_item mA_poem mA_fresh mA_then mA_was mA_tape mA_strengths mA_sounds mA_stand mA_scheme mA_isKept mA_kept mA_trace (0 : Int32) m_status u0_14 m_taped m_cursor m_start m_token m_value m_fault m_faultAt m_latest m_stands m_least m_ways m_nearFoot m_nearFeet m_nearCost m_traced m_poem u1_14) H := hP
      have hD : va_D A (WX7_take K m_a mA_lane mA_many mA_item mA_poem mA_fresh mA_then mA_was mA_tape mA_strengths mA_sounds mA_stand mA_scheme mA_isKept mA_kept mA_trace (0 : Int32) m_status u0_14 m_taped m_cursor m_start m_token m_value m_fault m_faultAt m_latest m_stands m_least m_ways m_nearFoot m_nearFeet m_nearCost m_traced m_poem u1_14) := hD
      refine lv_iconst (v := 1) hx hb dX7_take_52 (by decide) ?_
      refine lv_isub hx hb dX7_take_53 ?_
      refine lv_istore_n (lv' := [(3, .int (r_15 - (1 : Int32))), (2, .int r_11), (0, .ref m_a), (1, .int p1)]) hx hb dX7_take_54 rfl hl (by decide) rfl (fun ls hl => ?_)
      refine lv_bipush (v := 7) hx hb dX7_take_55 (by decide) ?_
      refine lv_bipush (v := 10) hx hb dX7_take_57 (by decide) ?_
      refine lv_iload_n hx hb dX7_take_59 rfl (lv_at hl 3 rfl) ?_
      refine lv_imul hx hb dX7_take_60 ?_
      refine lv_iadd hx hb dX7_take_61 ?_
      refine lv_istore (lv' := [(4, .int ((7 : Int32) + ((10 : Int32) * p1))), (3, .int (r_15 - (1 : Int32))), (2, .int r_11), (0, .ref m_a), (1, .int p1)]) hx hb dX7_take_62 hl (by decide) rfl (fun ls hl => ?_)
      exact wX7_take_b64 C0 m_a mA_lane mA_many mA_item mA_poem mA_fresh mA_then mA_was mA_tape mA_strengths mA_sounds mA_stand mA_scheme mA_isKept mA_kept mA_trace m_status m_taped m_cursor m_start m_token m_value m_fault m_faultAt m_latest m_stands m_least m_ways m_nearFoot m_nearFeet m_nearCost m_traced p1 r o_m_thrown o_m_acts o_m_poem o_m_was kr  FU (0 : Int32) u0_14 m_poem u1_14 r_11 (r_15 - (1 : Int32)) ((7 : Int32) + ((10 : Int32) * p1)) hM _ _ _ hP hD hS (lv_sub hl [3, 2, 1, 0] rfl)
    · rw [if_pos c_13] at hM
      refine lv_ldcw (v := -1000002) hx hb hown (hts _ tb977) dX7_take_37 ?_
      have t0 := Option.some.inj hM
      obtain ⟨q1, t1⟩ := Prod.mk.inj t0
      obtain ⟨q2, t2⟩ := Prod.mk.inj t1
      obtain ⟨q3, t3⟩ := Prod.mk.inj t2
      obtain ⟨q4, t4⟩ := Prod.mk.inj t3
      subst q1
      subst q2
      subst q3
      subst q4
      subst t4
      exact kr _ _ _ _ dX7_take_40 hP hD hS
  · rw [if_pos c_10] at hM
    refine lv_ldc (v := -1000001) hx hb hown (hts _ tb877) dX7_take_13 ?_
    have t0 := Option.some.inj hM
    obtain ⟨q1, t1⟩ := Prod.mk.inj t0
    obtain ⟨q2, t2⟩ := Prod.mk.inj t1
    obtain ⟨q3, t3⟩ := Prod.mk.inj t2
    obtain ⟨q4, t4⟩ := Prod.mk.inj t3
    subst q1
    subst q2
    subst q3
    subst q4
    subst t4
    exact kr _ _ _ _ dX7_take_15 hP hD hS
set_option maxHeartbeats 4000000 in
set_option maxRecDepth 100000 in
theorem kX7_take (l : Launch) (G : va_G) (K : Nat → ClassId) (m_a mA_lane mA_many mA_item mA_poem mA_fresh mA_then mA_was mA_tape mA_strengths mA_sounds mA_stand mA_scheme mA_isKept mA_kept mA_trace : Nat) (m_thrown : Int32) (m_status : Int32) (m_acts : Int32) (m_taped : Int32) (m_cursor : Int32) (m_start : Int32) (m_token : Int32) (m_value : Int32) (m_fault : Int32) (m_faultAt : Int32) (m_latest : Int32) (m_stands : Int32) (m_least : Int32) (m_ways : Int32) (m_nearFoot : Int32) (m_nearFeet : Int32) (m_nearCost : Int32) (m_traced : Int32) (m_poem : Nat → Int32) (m_was : Nat → Int32) (p1 : Int32) (sz : Nat) (r : Int32) (o_m_thrown : Int32) (o_m_acts : Int32) (o_m_poem : Nat → Int32) (o_m_was : Nat → Int32) (hM : mX7_take m_thrown m_acts m_poem m_was p1 = some (r, o_m_thrown, o_m_acts, o_m_poem, o_m_was)) : Met l yX7_take (mC yX7_take cX7_take 5 (some .int)) rmX7_take (va_Pc [.ref m_a, .int p1] (PCe G K E0 (WX7_take K m_a mA_lane mA_many mA_item mA_poem mA_fresh mA_then mA_was mA_tape mA_strengths mA_sounds mA_stand mA_scheme mA_isKept mA_kept mA_trace m_thrown m_status m_acts m_taped m_cursor m_start m_token m_value m_fault m_faultAt m_latest m_stands m_least m_ways m_nearFoot m_nearFeet m_nearCost m_traced m_poem m_was) sz)) (va_Qi (fun (x : Int32) (_ : Unit) => x = r) (fun _ t => va_P G vwCl (WX7_take K m_a mA_lane mA_many mA_item mA_poem mA_fresh mA_then mA_was mA_tape mA_strengths mA_sounds mA_stand mA_scheme mA_isKept mA_kept mA_trace o_m_thrown m_status o_m_acts m_taped m_cursor m_start m_token m_value m_fault m_faultAt m_latest m_stands m_least m_ways m_nearFoot m_nearFeet m_nearCost m_traced o_m_poem o_m_was) t.heap) (va_A (WX7_take K m_a mA_lane mA_many mA_item mA_poem mA_fresh mA_then mA_was mA_tape mA_strengths mA_sounds mA_stand mA_scheme mA_isKept mA_kept mA_trace m_thrown m_status m_acts m_taped m_cursor m_start m_token m_value m_fault m_faultAt m_latest m_stands m_least m_ways m_nearFoot m_nearFeet m_nearCost m_traced m_poem m_was) sz)) rmX7_take.cells rmX7_take.slots (va_A (WX7_take K m_a mA_lane mA_many mA_item mA_poem mA_fresh mA_then mA_was mA_tape mA_strengths mA_sounds mA_stand mA_scheme mA_isKept mA_kept mA_trace m_thrown m_status m_acts m_taped m_cursor m_start m_token m_value m_fault m_faultAt m_latest m_stands m_least m_ways m_nearFoot m_nearFeet m_nearCost m_traced m_poem m_was) sz) := by
  refine Met.ofW (cc := cX7_take) (maxL := 5) (ret := (some .int)) (by decide) rfl ?_
  intro p e s m args below meth c s₁ B hml hv
  obtain ⟨rfl, hsz, hP, hK, hD0, hE⟩ := hv
  have hx := B.exec
  have hb := B.bytes
  have hr := B.returns
  have hts0 := atoms_spec (ws := mC yX7_take cX7_take 5 (some .int)) B.pre
  have hts : ∀ w ∈ tbG, w.before _ s = true := fun w h => hts0 w (List.mem_cons_of_mem _ h)
  have hown : s.vm.findClass RX7 = some m.cls := findClass_of_methodNamed B.named
  subst hsz
  have hD := hD0.self (sz := s.heap.size)
  generalize hAe : va_A (WX7_take K m_a mA_lane mA_many mA_item mA_poem mA_fresh mA_then mA_was mA_tape mA_strengths mA_sounds mA_stand mA_scheme mA_isKept mA_kept mA_trace m_thrown m_status m_acts m_taped m_cursor m_start m_token m_value m_fault m_faultAt m_latest m_stands m_least m_ways m_nearFoot m_nearFeet m_nearCost m_traced m_poem m_was) s.heap.size = A at hD hE ⊢
  have hA : ∀ q : Nat, s.heap.size ≤ q → A q := fun q h => by rw [← hAe]; exact Or.inr h
  have hS : va_S A s.heap s.heap [] := va_S.rf
  have hl := lv_entry ([.ref m_a, .int p1]) (n := 5) (Nat.le_of_ble_eq_true rfl)
  rw [lg_entry_eq]
  generalize (lg_sl ([.ref m_a, .int p1]) ++ List.replicate (5 - (lg_sl ([.ref m_a, .int p1])).length) Slot.unset).toArray = ls at hl ⊢
  have hl : lv_has ls 5 [(0, .ref m_a), (1, .int p1)] := hl
  exact wX7_take_b0 ⟨hx, hb, hml, hown, hts, hK, hA, E0_ok, hE⟩ m_a mA_lane mA_many mA_item mA_poem mA_fresh mA_then mA_was mA_tape mA_strengths mA_sounds mA_stand mA_scheme mA_isKept mA_kept mA_trace m_status m_taped m_cursor m_start m_token m_value m_fault m_faultAt m_latest m_stands m_least m_ways m_nearFoot m_nearFeet m_nearCost m_traced p1 r o_m_thrown o_m_acts o_m_poem o_m_was (fun H locs ls pc hdg hP hD hS => W.iret (v := r) hx hb hr (fun t ht hW => ⟨⟨r, (), rfl, rfl, (show va_P G vwCl _ t.heap by rw [ht]; exact hP)⟩, hS.F ht⟩) hS.2.2 hdg) m_thrown m_acts m_poem m_was  hM _ _ _ hP hD hS hl
abbrev WX7_swap (K : Nat → ClassId) (m_a mA_lane mA_many mA_item mA_poem mA_fresh mA_then mA_was mA_tape mA_strengths mA_sounds mA_stand mA_scheme mA_isKept mA_kept mA_trace : Nat) (m_thrown : Int32) (m_status : Int32) (m_acts : Int32) (m_taped : Int32) (m_cursor : Int32) (m_start : Int32) (m_token : Int32) (m_value : Int32) (m_fault : Int32) (m_faultAt : Int32) (m_latest : Int32) (m_stands : Int32) (m_least : Int32) (m_ways : Int32) (m_nearFoot : Int32) (m_nearFeet : Int32) (m_nearCost : Int32) (m_traced : Int32) (m_poem : Nat → Int32) (m_was : Nat → Int32) : va_W := [(m_a, .inr (7, [.int m_thrown, .int m_status, .ref mA_lane, .ref mA_many, .ref mA_item, .ref mA_poem, .ref mA_fresh, .ref mA_then, .ref mA_was, .int m_acts, .ref mA_tape, .int m_taped, .int m_cursor, .int m_start, .int m_token, .int m_value, .int m_fault, .int m_faultAt, .int m_latest, .ref mA_strengths, .ref mA_sounds, .ref mA_stand, .int m_stands, .int m_least, .int m_ways, .ref mA_scheme, .int m_nearFoot, .int m_nearFeet, .int m_nearCost, .ref mA_isKept, .ref mA_kept, .ref mA_trace, .int m_traced])), aI K mA_poem 207 m_poem, aI K mA_was 4968 m_was]
def rmX7_swap : Room := { frames := 2, cells := 0, slots := 0, locals := 46 }
theorem hdX7_swap : yX7_swap.cls = RX7 ∧ yX7_swap.cls ≠ "java/lang/invoke/MethodHandle" ∧ yX7_swap.cls ≠ "java/lang/invoke/VarHandle" ∧ (parseMethodDescriptor yX7_swap.desc).map (fun d => d.parameters.length) = some 2 := by decide +kernel
set_option maxHeartbeats 4000000 in
set_option maxRecDepth 100000 in
theorem wX7_swap_b39 {p : Program} {l : Launch} {e : Env} {s : State} {m : MethodId} {args : Array Value} {below : List Frame} {meth : Method} {c : Code} {Q : State → Prop} {G : va_G} {K : Nat → ClassId} {A : Nat → Prop} (C0 : CX p s m args c cX7_swap 5 RX7 G K E0 A) (m_a mA_lane mA_many mA_item mA_poem mA_fresh mA_then mA_was mA_tape mA_strengths mA_sounds mA_stand mA_scheme mA_isKept mA_kept mA_trace : Nat) (m_status : Int32) (m_taped : Int32) (m_cursor : Int32) (m_start : Int32) (m_token : Int32) (m_value : Int32) (m_fault : Int32) (m_faultAt : Int32) (m_latest : Int32) (m_stands : Int32) (m_least : Int32) (m_ways : Int32) (m_nearFoot : Int32) (m_nearFeet : Int32) (m_nearCost : Int32) (m_traced : Int32) (p1 : Int32) (p2 : Int32) (r : Int32) (o_m_thrown : Int32) (o_m_acts : Int32) (o_m_poem : Nat → Int32) (o_m_was : Nat → Int32) (kr : ∀ (H : Heap) (locs : List Loc) (ls : Array Slot) (pc : Nat), decode cX7_swap pc = .ok (.ireturn, 1) → va_P G vwCl (WX7_swap K m_a mA_lane mA_many mA_item mA_poem mA_fresh mA_then mA_was mA_tape mA_strengths mA_sounds mA_stand mA_scheme mA_isKept mA_kept mA_trace o_m_thrown m_status o_m_acts m_taped m_cursor m_start m_token m_value m_fault m_faultAt m_latest m_stands m_least m_ways m_nearFoot m_nearFeet m_nearCost m_traced o_m_poem o_m_was) H → va_D A (WX7_swap K m_a mA_lane mA_many mA_item mA_poem mA_fresh mA_then mA_was mA_tape mA_strengths mA_sounds mA_stand mA_scheme mA_isKept mA_kept mA_trace o_m_thrown m_status o_m_acts m_taped m_cursor m_start m_token m_value m_fault m_faultAt m_latest m_stands m_least m_ways m_nearFoot m_nearFeet m_nearCost m_traced o_m_poem o_m_was) → va_S A s.heap H locs → W p l e rmX7_swap s m args below meth c H locs 0 0 Q (F0 m pc ls [.int r])) (n : Nat) : ∀ (m_thrown : Int32) (m_acts : Int32) (m_poem : Nat → Int32) (m_was : Nat → Int32) (x3 : Int32), mX7_swap_b39 p1 p2  n m_thrown m_acts m_poem m_was x3 = some (r, o_m_thrown, o_m_acts, o_m_poem, o_m_was) → ∀ (H : Heap) (locs : List Loc) (ls : Array Slot), va_P G vwCl (WX7_swap K m_a mA_lane mA_many mA_item mA_poem mA_fresh mA_then mA_was mA_tape mA_strengths mA_sounds mA_stand mA_scheme mA_isKept mA_kept mA_trace m_thrown m_status m_acts m_taped m_cursor m_start m_token m_value m_fault m_faultAt m_latest m_stands m_least m_ways m_nearFoot m_nearFeet m_nearCost m_traced m_poem m_was) H → va_D A (WX7_swap K m_a mA_lane mA_many mA_item mA_poem mA_fresh mA_then mA_was mA_tape mA_strengths mA_sounds mA_stand mA_scheme mA_isKept mA_kept mA_trace m_thrown m_status m_acts m_taped m_cursor m_start m_token m_value m_fault m_faultAt m_latest m_stands m_least m_ways m_nearFoot m_nearFeet m_nearCost m_traced m_poem m_was) → va_S A s.heap H locs → lv_has ls 5 [(0, .ref m_a), (1, .int p1), (2, .int p2), (3, .int x3)] → W p l e rmX7_swap s m args below meth c H locs 0 0 Q (F0 m 39 ls []) := by
  obtain ⟨hx, hb, hml, hown, hts, hK, hA, hEo, hE⟩ := id C0
  induction n with
  | zero =>
    intro m_thrown m_acts m_poem m_was x3 hM
    cases hM
  | succ n ih =>
    intro m_thrown m_acts m_poem m_was x3 hM H locs ls hP hD hS hl
    rw [mX7_swap_b39] at hM
    refine lv_iload_n hx hb dX7_swap_39 rfl (lv_at hl 3 rfl) ?_
    refine lv_bipush (v := 10) hx hb dX7_swap_40 (by decide) ?_
    refine lv_icmp_ge (tgt := 111) hx hb dX7_swap_42 (by decide) (fun c_1 => ?_) (fun c_1 => ?_)
    · rw [if_pos c_1] at hM
      refine lv_iload_n hx hb dX7_swap_111 rfl (lv_at hl 1 rfl) ?_
      refine lv_iload_n hx hb dX7_swap_112 rfl (lv_at hl 2 rfl) ?_
      refine lv_icmp_ge (tgt := 122) hx hb dX7_swap_113 (by decide) (fun c_2 => ?_) (fun c_2 => ?_)
      · rw [if_pos c_2] at hM
        refine lv_iload_n hx hb dX7_swap_122 rfl (lv_at hl 1 rfl) ?_
        refine lv_iload_n hx hb dX7_swap_123 rfl (lv_at hl 2 rfl) ?_
        refine lv_isub hx hb dX7_swap_124 ?_
        refine lv_iconst (v := 1) hx hb dX7_swap_125 (by decide) ?_
        refine lv_iadd hx hb dX7_swap_126 ?_
        have t0 := Option.some.inj hM
        obtain ⟨q1, t1⟩ := Prod.mk.inj t0
        obtain ⟨q2, t2⟩ := Prod.mk.inj t1
        obtain ⟨q3, t3⟩ := Prod.mk.inj t2
        obtain ⟨q4, t4⟩ := Prod.mk.inj t3
        subst q1
        subst q2
        subst q3
        subst q4
        subst t4
        exact kr _ _ _ _ dX7_swap_127 hP hD hS
      · rw [if_neg c_2] at hM
        refine lv_iload_n hx hb dX7_swap_116 rfl (lv_at hl 2 rfl) ?_
        refine lv_iload_n hx hb dX7_swap_117 rfl (lv_at hl 1 rfl) ?_
        refine lv_isub hx hb dX7_swap_118 ?_
        refine lv_goto (tgt := 125) hx hb dX7_swap_119 (by decide) ?_
        refine lv_iconst (v := 1) hx hb dX7_swap_125 (by decide) ?_
        refine lv_iadd hx hb dX7_swap_126 ?_
        have t0 := Option.some.inj hM
        obtain ⟨q1, t1⟩ := Prod.mk.inj t0
        obtain ⟨q2, t2⟩ := Prod.mk.inj t1
        obtain ⟨q3, t3⟩ := Prod.mk.inj t2
        obtain ⟨q4, t4⟩ := Prod.mk.inj t3
        subst q1
        subst q2
        subst q3
        subst q4
        subst t4
        exact kr _ _ _ _ dX7_swap_127 hP hD hS
    · rw [if_neg c_1] at hM
      refine lv_aload_n hx hb dX7_swap_45 rfl (lv_at hl 0 rfl) ?_
      refine va_get (D := G) (ci := 7) (v := .ref mA_poem) (C := RX7) (T := TX7) (N := 33) hx hb hts inX7 hown hK hP 0 rfl rfl 5 (by decide) (hts _ tb769) (fun _ h9 => h9) rfl dX7_swap_46 ?_
      refine lv_bipush (v := 7) hx hb dX7_swap_49 (by decide) ?_
      refine lv_bipush (v := 10) hx hb dX7_swap_51 (by decide) ?_
      refine lv_iload_n hx hb dX7_swap_53 rfl (lv_at hl 1 rfl) ?_
      refine lv_imul hx hb dX7_swap_54 ?_
      refine lv_iadd hx hb dX7_swap_55 ?_
      refine lv_iload_n hx hb dX7_swap_56 rfl (lv_at hl 3 rfl) ?_
      refine lv_iadd hx hb dX7_swap_57 ?_
      obtain ⟨g_3, hM⟩ := ng hM
      refine va_iald hx hb hK hP 1 0 rfl rfl g_3 dX7_swap_58 ?_
      refine lv_istore (lv' := [(4, .int (m_poem (((7 : Int32) + ((10 : Int32) * p1)) + x3).toNatClampNeg)), (0, .ref m_a), (1, .int p1), (2, .int p2), (3, .int x3)]) hx hb dX7_swap_59 hl (by decide) rfl (fun ls hl => ?_)
      refine lv_aload_n hx hb dX7_swap_61 rfl (lv_at hl 1 rfl) ?_
      refine va_get (D := G) (ci := 7) (v := .ref mA_poem) (C := RX7) (T := TX7) (N := 33) hx hb hts inX7 hown hK hP 0 rfl rfl 5 (by decide) (hts _ tb769) (fun _ h9 => h9) rfl dX7_swap_62 ?_
      refine lv_bipush (v := 7) hx hb dX7_swap_65 (by decide) ?_
      refine lv_bipush (v := 10) hx hb dX7_swap_67 (by decide) ?_
      refine lv_iload_n hx hb dX7_swap_69 rfl (lv_at hl 2 rfl) ?_
      refine lv_imul hx hb dX7_swap_70 ?_
      refine lv_iadd hx hb dX7_swap_71 ?_
      refine lv_iload_n hx hb dX7_swap_72 rfl (lv_at hl 4 rfl) ?_
      refine lv_iadd hx hb dX7_swap_73 ?_
      refine lv_aload_n hx hb dX7_swap_74 rfl (lv_at hl 1 rfl) ?_
      refine va_get (D := G) (ci := 7) (v := .ref mA_poem) (C := RX7) (T := TX7) (N := 33) hx hb hts inX7 hown hK hP 0 rfl rfl 5 (by decide) (hts _ tb769) (fun _ h9 => h9) rfl dX7_swap_75 ?_
      refine lv_bipush (v := 7) hx hb dX7_swap_78 (by decide) ?_
      refine lv_bipush (v := 10) hx hb dX7_swap_80 (by decide) ?_
      refine lv_iload_n hx hb dX7_swap_82 rfl (lv_at hl 3 rfl) ?_
      refine lv_imul hx hb dX7_swap_83 ?_
      refine lv_iadd hx hb dX7_swap_84 ?_
      refine lv_iload_n hx hb dX7_swap_85 rfl (lv_at hl 4 rfl) ?_
      refine lv_iadd hx hb dX7_swap_86 ?_
      obtain ⟨g_4, hM⟩ := ng hM
      refine va_iald hx hb hK hP 1 0 rfl rfl g_4 dX7_swap_87 ?_
      obtain ⟨g_5, hM⟩ := ng hM
      refine va_iast hx hb hK hP hD hS 1 0 rfl rfl g_5 dX7_swap_88 (fun H locs hP hD hS => ?_)
      have hP : va_P G vwCl (WX7_swap K m_a mA_lane mA_many mA_item mA_poem mA_fresh mA_then mA_was mA_tape mA_strengths mA_sounds mA_stand mA_scheme mA_isKept mA_kept mA_trace m_thrown m_status m_acts m_taped m_cursor m_start m_token m_value m_fault m_faultAt m_latest m_stands m_least m_ways m_nearFoot m_nearFeet m_nearCost m_traced (upd m_poem (((7 : Int32) + ((10 : Int32) * p1)) + x3).toNatClampNeg (m_poem (((7 : Int32) + ((10 : Int32) * p2)) + x3).toNatClampNeg)) m_was) H := hP
      have hD : va_D A (WX7_swap K m_a mA_lane mA_many mA_item mA_poem mA_fresh mA_then mA_was mA_tape mA_strengths mA_sounds mA_stand mA_scheme mA_isKept mA_kept mA_trace m_thrown m_status m_acts m_taped m_cursor m_start m_token m_value m_fault m_faultAt m_latest m_stands m_least m_ways m_nearFoot m_nearFeet m_nearCost m_traced (upd m_poem (((7 : Int32) + ((10 : Int32) * p1)) + x3).toNatClampNeg (m_poem (((7 : Int32) + ((10 : Int32) * p2)) + x3).toNatClampNeg)) m_was) := hD
      refine lv_aload_n hx hb dX7_swap_89 rfl (lv_at hl 1 rfl) ?_
      refine va_get (D := G) (ci := 7) (v := .ref mA_poem) (C := RX7) (T := TX7) (N := 33) hx hb hts inX7 hown hK hP 0 rfl rfl 5 (by decide) (hts _ tb769) (fun _ h9 => h9) rfl dX7_swap_90 ?_
      refine lv_bipush (v := 7) hx hb dX7_swap_93 (by decide) ?_
      refine lv_bipush (v := 10) hx hb dX7_swap_95 (by decide) ?_
      refine lv_iload_n hx hb dX7_swap_97 rfl (lv_at hl 3 rfl) ?_
      refine lv_imul hx hb dX7_swap_98 ?_
      refine lv_iadd hx hb dX7_swap_99 ?_
      refine lv_iload_n hx hb dX7_swap_100 rfl (lv_at hl 4 rfl) ?_
      refine lv_iadd hx hb dX7_swap_101 ?_
      refine lv_iload hx hb dX7_swap_102 (lv_at hl 0 rfl) ?_
      obtain ⟨g_6, hM⟩ := ng hM
      refine va_iast hx hb hK hP hD hS 1 0 rfl rfl g_6 dX7_swap_104 (fun H locs hP hD hS => ?_)
      have hP : va_P G vwCl (WX7_swap K m_a mA_lane mA_many mA_item mA_poem mA_fresh mA_then mA_was mA_tape mA_strengths mA_sounds mA_stand mA_scheme mA_isKept mA_kept mA_trace m_thrown m_status m_acts m_taped m_cursor m_start m_token m_value m_fault m_faultAt m_latest m_stands m_least m_ways m_nearFoot m_nearFeet m_nearCost m_traced (upd (upd m_poem (((7 : Int32) + ((10 : Int32) * p1)) + x3).toNatClampNeg (m_poem (((7 : Int32) + ((10 : Int32) * p2)) + x3).toNatClampNeg)) (((7 : Int32) + ((10 : Int32) * p2)) + x3).toNatClampNeg (m_poem (((7 : Int32) + ((10 : Int32) * p1)) + x3).toNatClampNeg)) m_was) H := hP
      have hD : va_D A (WX7_swap K m_a mA_lane mA_many mA_item mA_poem mA_fresh mA_then mA_was mA_tape mA_strengths mA_sounds mA_stand mA_scheme mA_isKept mA_kept mA_trace m_thrown m_status m_acts m_taped m_cursor m_start m_token m_value m_fault m_faultAt m_latest m_stands m_least m_ways m_nearFoot m_nearFeet m_nearCost m_traced (upd (upd m_poem (((7 : Int32) + ((10 : Int32) * p1)) + x3).toNatClampNeg (m_poem (((7 : Int32) + ((10 : Int32) * p2)) + x3).toNatClampNeg)) (((7 : Int32) + ((10 : Int32) * p2)) + x3).toNatClampNeg (m_poem (((7 : Int32) + ((10 : Int32) * p1)) + x3).toNatClampNeg)) m_was) := hD
      refine lv_iinc (v := (x3 + 1)) (lv' := [(3, .int (x3 + 1)), (4, .int (m_poem (((7 : Int32) + ((10 : Int32) * p1)) + x3).toNatClampNeg)), (0, .ref m_a), (1, .int p1), (2, .int p2)]) hx hb dX7_swap_105 hl (k := 4) rfl rfl (by decide) rfl (fun ls hl => ?_)
      refine lv_goto (tgt := 39) hx hb dX7_swap_108 (by decide) ?_
      exact ih m_thrown m_acts (upd (upd m_poem (((7 : Int32) + ((10 : Int32) * p1)) + x3).toNatClampNeg (m_poem (((7 : Int32) + ((10 : Int32) * p2)) + x3).toNatClampNeg)) (((7 : Int32) + ((10 : Int32) * p2)) + x3).toNatClampNeg (m_poem (((7 : Int32) + ((10 : Int32) * p1)) + x3).toNatClampNeg)) m_was (x3 + 1) hM _ _ _ hP hD hS (lv_sub hl [2, 3, 4, 0] rfl)
set_option maxHeartbeats 4000000 in
set_option maxRecDepth 100000 in
theorem wX7_swap_b0 {p : Program} {l : Launch} {e : Env} {s : State} {m : MethodId} {args : Array Value} {below : List Frame} {meth : Method} {c : Code} {Q : State → Prop} {G : va_G} {K : Nat → ClassId} {A : Nat → Prop} (C0 : CX p s m args c cX7_swap 5 RX7 G K E0 A) (m_a mA_lane mA_many mA_item mA_poem mA_fresh mA_then mA_was mA_tape mA_strengths mA_sounds mA_stand mA_scheme mA_isKept mA_kept mA_trace : Nat) (m_status : Int32) (m_taped : Int32) (m_cursor : Int32) (m_start : Int32) (m_token : Int32) (m_value : Int32) (m_fault : Int32) (m_faultAt : Int32) (m_latest : Int32) (m_stands : Int32) (m_least : Int32) (m_ways : Int32) (m_nearFoot : Int32) (m_nearFeet : Int32) (m_nearCost : Int32) (m_traced : Int32) (p1 : Int32) (p2 : Int32) (r : Int32) (o_m_thrown : Int32) (o_m_acts : Int32) (o_m_poem : Nat → Int32) (o_m_was : Nat → Int32) (kr : ∀ (H : Heap) (locs : List Loc) (ls : Array Slot) (pc : Nat), decode cX7_swap pc = .ok (.ireturn, 1) → va_P G vwCl (WX7_swap K m_a mA_lane mA_many mA_item mA_poem mA_fresh mA_then mA_was mA_tape mA_strengths mA_sounds mA_stand mA_scheme mA_isKept mA_kept mA_trace o_m_thrown m_status o_m_acts m_taped m_cursor m_start m_token m_value m_fault m_faultAt m_latest m_stands m_least m_ways m_nearFoot m_nearFeet m_nearCost m_traced o_m_poem o_m_was) H → va_D A (WX7_swap K m_a mA_lane mA_many mA_item mA_poem mA_fresh mA_then mA_was mA_tape mA_strengths mA_sounds mA_stand mA_scheme mA_isKept mA_kept mA_trace o_m_thrown m_status o_m_acts m_taped m_cursor m_start m_token m_value m_fault m_faultAt m_latest m_stands m_least m_ways m_nearFoot m_nearFeet m_nearCost m_traced o_m_poem o_m_was) → va_S A s.heap H locs → W p l e rmX7_swap s m args below meth c H locs 0 0 Q (F0 m pc ls [.int r])) (m_thrown : Int32) (m_acts : Int32) (m_poem : Nat → Int32) (m_was : Nat → Int32) (hM : mX7_swap_b0 p1 p2  m_thrown m_acts m_poem m_was = some (r, o_m_thrown, o_m_acts, o_m_poem, o_m_was)) : ∀ (H : Heap) (locs : List Loc) (ls : Array Slot), va_P G vwCl (WX7_swap K m_a mA_lane mA_many mA_item mA_poem mA_fresh mA_then mA_was mA_tape mA_strengths mA_sounds mA_stand mA_scheme mA_isKept mA_kept mA_trace m_thrown m_status m_acts m_taped m_cursor m_start m_token m_value m_fault m_faultAt m_latest m_stands m_least m_ways m_nearFoot m_nearFeet m_nearCost m_traced m_poem m_was) H → va_D A (WX7_swap K m_a mA_lane mA_many mA_item mA_poem mA_fresh mA_then mA_was mA_tape mA_strengths mA_sounds mA_stand mA_scheme mA_isKept mA_kept mA_trace m_thrown m_status m_acts m_taped m_cursor m_start m_token m_value m_fault m_faultAt m_latest m_stands m_least m_ways m_nearFoot m_nearFeet m_nearCost m_traced m_poem m_was) → va_S A s.heap H locs → lv_has ls 5 [(0, .ref m_a), (1, .int p1), (2, .int p2)] → W p l e rmX7_swap s m args below meth c H locs 0 0 Q (F0 m 0 ls []) := by
  obtain ⟨hx, hb, hml, hown, hts, hK, hA, hEo, hE⟩ := id C0
  intro H locs ls hP hD hS hl
  unfold mX7_swap_b0 at hM
  refine lv_aload_n hx hb dX7_swap_0 rfl (lv_at hl 0 rfl) ?_
  refine lv_iconst (v := 0) hx hb dX7_swap_1 (by decide) ?_
  refine va_put (D := G) (ci := 7) (v := .int (0 : Int32)) (ty := .int) (C := RX7) (T := TX7) (N := 33) hx hb hts inX7 tyX7 tyX7_ok nmX7 hown hK hP hD hS 0 rfl rfl 0 (by decide) (hts _ tb764) (fun _ h9 => h9) rfl (tyX7_ok 0 (by decide)) rfl rfl (Nat.le_of_ble_eq_true rfl) dX7_swap_2 (fun H locs hP hD hS => ?_)
  have hP : va_P G vwCl (WX7_swap K m_a mA_lane mA_many mA_item mA_poem mA_fresh mA_then mA_was mA_tape mA_strengths mA_sounds mA_stand mA_scheme mA_isKept mA_kept mA_trace (0 : Int32) m_status m_acts m_taped m_cursor m_start m_token m_value m_fault m_faultAt m_latest m_stands m_least m_ways m_nearFoot m_nearFeet m_nearCost m_traced m_poem m_was) H := hP
  have hD : va_D A (WX7_swap K m_a mA_lane mA_many mA_item mA_poem mA_fresh mA_then mA_was mA_tape mA_strengths mA_sounds mA_stand mA_scheme mA_isKept mA_kept mA_trace (0 : Int32) m_status m_acts m_taped m_cursor m_start m_token m_value m_fault m_faultAt m_latest m_stands m_least m_ways m_nearFoot m_nearFeet m_nearCost m_traced m_poem m_was) := hD
  refine lv_aload_n hx hb dX7_swap_5 rfl (lv_at hl 0 rfl) ?_
  refine lv_iload_n hx hb dX7_swap_6 rfl (lv_at hl 1 rfl) ?_
  obtain ⟨r_7, hC, hM⟩ := oe1 hM
  refine cV_i (As := [.int p1]) (rest := []) C0 hP hD hS [0, 1] (kX7_isWord l G K m_a mA_lane mA_many mA_item mA_poem mA_fresh mA_then mA_was mA_tape mA_strengths mA_sounds mA_stand mA_scheme mA_isKept mA_kept mA_trace (0 : Int32) m_status m_acts m_taped m_cursor m_start m_token m_value m_fault m_faultAt m_latest m_stands m_least m_ways m_nearFoot m_nearFeet m_nearCost m_traced m_poem p1 H.size r_7 hC) rfl rfl rfl tb970 tb972 tp25 tb9 tb973 hdX7_isWord (va_recv hK hP (ci := 7) (q0 := 0) rfl rfl) ⟨Nat.le_of_ble_eq_true rfl, Nat.le_of_ble_eq_true rfl⟩ rfl hl.1 (Nat.le_of_ble_eq_true rfl) rfl ⟨Nat.le_refl _, Nat.le_refl _⟩ dX7_swap_7 (fun H locs hP hD hS => ?_)
  have hP : va_P G vwCl (WX7_swap K m_a mA_lane mA_many mA_item mA_poem mA_fresh mA_then mA_was mA_tape mA_strengths mA_sounds mA_stand mA_scheme mA_isKept mA_kept mA_trace (0 : Int32) m_status m_acts m_taped m_cursor m_start m_token m_value m_fault m_faultAt m_latest m_stands m_least m_ways m_nearFoot m_nearFeet m_nearCost m_traced m_poem m_was) H := hP
  have hD : va_D A (WX7_swap K m_a mA_lane mA_many mA_item mA_poem mA_fresh mA_then mA_was mA_tape mA_strengths mA_sounds mA_stand mA_scheme mA_isKept mA_kept mA_trace (0 : Int32) m_status m_acts m_taped m_cursor m_start m_token m_value m_fault m_faultAt m_latest m_stands m_least m_ways m_nearFoot m_nearFeet m_nearCost m_traced m_poem m_was) := hD
  refine lv_if_eq (tgt := 21) hx hb dX7_swap_10 (by decide) (fun c_8 => ?_) (fun c_8 => ?_)
  · rw [if_pos c_8] at hM
    refine lv_ldc (v := -1000001) hx hb hown (hts _ tb877) dX7_swap_21 ?_
    have t0 := Option.some.inj hM
    obtain ⟨q1, t1⟩ := Prod.mk.inj t0
    obtain ⟨q2, t2⟩ := Prod.mk.inj t1
    obtain ⟨q3, t3⟩ := Prod.mk.inj t2
    obtain ⟨q4, t4⟩ := Prod.mk.inj t3
    subst q1
    subst q2
    subst q3
    subst q4
    subst t4
    exact kr _ _ _ _ dX7_swap_23 hP hD hS
  · rw [if_neg c_8] at hM
    refine lv_aload_n hx hb dX7_swap_13 rfl (lv_at hl 0 rfl) ?_
    refine lv_iload_n hx hb dX7_swap_14 rfl (lv_at hl 2 rfl) ?_
    obtain ⟨r_9, hC, hM⟩ := oe1 hM
    refine cV_i (As := [.int p2]) (rest := []) C0 hP hD hS [0, 1] (kX7_isWord l G K m_a mA_lane mA_many mA_item mA_poem mA_fresh mA_then mA_was mA_tape mA_strengths mA_sounds mA_stand mA_scheme mA_isKept mA_kept mA_trace (0 : Int32) m_status m_acts m_taped m_cursor m_start m_token m_value m_fault m_faultAt m_latest m_stands m_least m_ways m_nearFoot m_nearFeet m_nearCost m_traced m_poem p2 H.size r_9 hC) rfl rfl rfl tb970 tb972 tp25 tb9 tb973 hdX7_isWord (va_recv hK hP (ci := 7) (q0 := 0) rfl rfl) ⟨Nat.le_of_ble_eq_true rfl, Nat.le_of_ble_eq_true rfl⟩ rfl hl.1 (Nat.le_of_ble_eq_true rfl) rfl ⟨Nat.le_refl _, Nat.le_refl _⟩ dX7_swap_15 (fun H locs hP hD hS => ?_)
    have hP : va_P G vwCl (WX7_swap K m_a mA_lane mA_many mA_item mA_poem mA_fresh mA_then mA_was mA_tape mA_strengths mA_sounds mA_stand mA_scheme mA_isKept mA_kept mA_trace (0 : Int32) m_status m_acts m_taped m_cursor m_start m_token m_value m_fault m_faultAt m_latest m_stands m_least m_ways m_nearFoot m_nearFeet m_nearCost m_traced m_poem m_was) H := hP
    have hD : va_D A (WX7_swap K m_a mA_lane mA_many mA_item mA_poem mA_fresh mA_then mA_was mA_tape mA_strengths mA_sounds mA_stand mA_scheme mA_isKept mA_kept mA_trace (0 : Int32) m_status m_acts m_taped m_cursor m_start m_token m_value m_fault m_faultAt m_latest m_stands m_least m_ways m_nearFoot m_nearFeet m_nearCost m_traced m_poem m_was) := hD
    refine lv_if_ne (tgt := 24) hx hb dX7_swap_18 (by decide) (fun c_10 => ?_) (fun c_10 => ?_)
    · rw [if_neg c_10] at hM
      refine lv_iload_n hx hb dX7_swap_24 rfl (lv_at hl 1 rfl) ?_
      refine lv_iload_n hx hb dX7_swap_25 rfl (lv_at hl 2 rfl) ?_
      refine lv_icmp_ne (tgt := 33) hx hb dX7_swap_26 (by decide) (fun c_11 => ?_) (fun c_11 => ?_)
      · rw [if_neg c_11] at hM
        refine lv_aload_n hx hb dX7_swap_33 rfl (lv_at hl 0 rfl) ?_
        obtain ⟨u0_12, u1_12, hC, hM⟩ := oe2 hM
        refine cV_v (As := []) (rest := []) C0 hP hD hS [0, 1, 2] (kX7_keep l G K m_a mA_lane mA_many mA_item mA_poem mA_fresh mA_then mA_was mA_tape mA_strengths mA_sounds mA_stand mA_scheme mA_isKept mA_kept mA_trace (0 : Int32) m_status m_acts m_taped m_cursor m_start m_token m_value m_fault m_faultAt m_latest m_stands m_least m_ways m_nearFoot m_nearFeet m_nearCost m_traced m_poem m_was H.size u0_12 u1_12 hC) rfl rfl rfl tb978 tb980 tp26 tb9 tb981 hdX7_keep (va_recv hK hP (ci := 7) (q0 := 0) rfl rfl) ⟨Nat.le_of_ble_eq_true rfl, Nat.le_of_ble_eq_true rfl⟩ rfl hl.1 (Nat.le_of_ble_eq_true rfl) rfl ⟨Nat.le_refl _, Nat.le_refl _⟩ dX7_swap_34 (fun H locs hP hD hS => ?_)
        have hP : va_P G vwCl (WX7_swap K m_a mA_lane mA_many mA_item mA_poem mA_fresh mA_then mA_was mA_tape mA_strengths mA_sounds mA_stand mA_scheme mA_isKept mA_kept mA_trace (0 : Int32) m_status u0_12 m_taped m_cursor m_start m_token m_value m_fault m_faultAt m_latest m_stands m_least m_ways m_nearFoot m_nearFeet m_nearCost m_traced m_poem u1_12) H := hP
        have hD : va_D A (WX7_swap K m_a mA_lane mA_many mA_item mA_poem mA_fresh mA_then mA_was mA_tape mA_strengths mA_sounds mA_stand mA_scheme mA_isKept mA_kept mA_trace (0 : Int32) m_status u0_12 m_taped m_cursor m_start m_token m_value m_fault m_faultAt m_latest m_stands m_least m_ways m_nearFoot m_nearFeet m_nearCost m_traced m_poem u1_12) := hD
        refine lv_iconst (v := 0) hx hb dX7_swap_37 (by decide) ?_
        refine lv_istore_n (lv' := [(3, .int (0 : Int32)), (0, .ref m_a), (1, .int p1), (2, .int p2)]) hx hb dX7_swap_38 rfl hl (by decide) rfl (fun ls hl => ?_)
        exact wX7_swap_b39 C0 m_a mA_lane mA_many mA_item mA_poem mA_fresh mA_then mA_was mA_tape mA_strengths mA_sounds mA_stand mA_scheme mA_isKept mA_kept mA_trace m_status m_taped m_cursor m_start m_token m_value m_fault m_faultAt m_latest m_stands m_least m_ways m_nearFoot m_nearFeet m_nearCost m_traced p1 p2 r o_m_thrown o_m_acts o_m_poem o_m_was kr  FU (0 : Int32) u0_12 m_poem u1_12 (0 : Int32) hM _ _ _ hP hD hS (lv_sub hl [1, 2, 3, 0] rfl)
      · rw [if_pos c_11] at hM
        refine lv_ldcw (v := -1000002) hx hb hown (hts _ tb977) dX7_swap_29 ?_
        have t0 := Option.some.inj hM
        obtain ⟨q1, t1⟩ := Prod.mk.inj t0
        obtain ⟨q2, t2⟩ := Prod.mk.inj t1
        obtain ⟨q3, t3⟩ := Prod.mk.inj t2
        obtain ⟨q4, t4⟩ := Prod.mk.inj t3
        subst q1
        subst q2
        subst q3
        subst q4
        subst t4
        exact kr _ _ _ _ dX7_swap_32 hP hD hS
    · rw [if_pos c_10] at hM
      refine lv_ldc (v := -1000001) hx hb hown (hts _ tb877) dX7_swap_21 ?_
      have t0 := Option.some.inj hM
      obtain ⟨q1, t1⟩ := Prod.mk.inj t0
      obtain ⟨q2, t2⟩ := Prod.mk.inj t1
      obtain ⟨q3, t3⟩ := Prod.mk.inj t2
      obtain ⟨q4, t4⟩ := Prod.mk.inj t3
      subst q1
      subst q2
      subst q3
      subst q4
      subst t4
      exact kr _ _ _ _ dX7_swap_23 hP hD hS
set_option maxHeartbeats 4000000 in
set_option maxRecDepth 100000 in
theorem kX7_swap (l : Launch) (G : va_G) (K : Nat → ClassId) (m_a mA_lane mA_many mA_item mA_poem mA_fresh mA_then mA_was mA_tape mA_strengths mA_sounds mA_stand mA_scheme mA_isKept mA_kept mA_trace : Nat) (m_thrown : Int32) (m_status : Int32) (m_acts : Int32) (m_taped : Int32) (m_cursor : Int32) (m_start : Int32) (m_token : Int32) (m_value : Int32) (m_fault : Int32) (m_faultAt : Int32) (m_latest : Int32) (m_stands : Int32) (m_least : Int32) (m_ways : Int32) (m_nearFoot : Int32) (m_nearFeet : Int32) (m_nearCost : Int32) (m_traced : Int32) (m_poem : Nat → Int32) (m_was : Nat → Int32) (p1 : Int32) (p2 : Int32) (sz : Nat) (r : Int32) (o_m_thrown : Int32) (o_m_acts : Int32) (o_m_poem : Nat → Int32) (o_m_was : Nat → Int32) (hM : mX7_swap m_thrown m_acts m_poem m_was p1 p2 = some (r, o_m_thrown, o_m_acts, o_m_poem, o_m_was)) : Met l yX7_swap (mC yX7_swap cX7_swap 5 (some .int)) rmX7_swap (va_Pc [.ref m_a, .int p1, .int p2] (PCe G K E0 (WX7_swap K m_a mA_lane mA_many mA_item mA_poem mA_fresh mA_then mA_was mA_tape mA_strengths mA_sounds mA_stand mA_scheme mA_isKept mA_kept mA_trace m_thrown m_status m_acts m_taped m_cursor m_start m_token m_value m_fault m_faultAt m_latest m_stands m_least m_ways m_nearFoot m_nearFeet m_nearCost m_traced m_poem m_was) sz)) (va_Qi (fun (x : Int32) (_ : Unit) => x = r) (fun _ t => va_P G vwCl (WX7_swap K m_a mA_lane mA_many mA_item mA_poem mA_fresh mA_then mA_was mA_tape mA_strengths mA_sounds mA_stand mA_scheme mA_isKept mA_kept mA_trace o_m_thrown m_status o_m_acts m_taped m_cursor m_start m_token m_value m_fault m_faultAt m_latest m_stands m_least m_ways m_nearFoot m_nearFeet m_nearCost m_traced o_m_poem o_m_was) t.heap) (va_A (WX7_swap K m_a mA_lane mA_many mA_item mA_poem mA_fresh mA_then mA_was mA_tape mA_strengths mA_sounds mA_stand mA_scheme mA_isKept mA_kept mA_trace m_thrown m_status m_acts m_taped m_cursor m_start m_token m_value m_fault m_faultAt m_latest m_stands m_least m_ways m_nearFoot m_nearFeet m_nearCost m_traced m_poem m_was) sz)) rmX7_swap.cells rmX7_swap.slots (va_A (WX7_swap K m_a mA_lane mA_many mA_item mA_poem mA_fresh mA_then mA_was mA_tape mA_strengths mA_sounds mA_stand mA_scheme mA_isKept mA_kept mA_trace m_thrown m_status m_acts m_taped m_cursor m_start m_token m_value m_fault m_faultAt m_latest m_stands m_least m_ways m_nearFoot m_nearFeet m_nearCost m_traced m_poem m_was) sz) := by
  refine Met.ofW (cc := cX7_swap) (maxL := 5) (ret := (some .int)) (by decide) rfl ?_
  intro p e s m args below meth c s₁ B hml hv
  obtain ⟨rfl, hsz, hP, hK, hD0, hE⟩ := hv
  have hx := B.exec
  have hb := B.bytes
  have hr := B.returns
  have hts0 := atoms_spec (ws := mC yX7_swap cX7_swap 5 (some .int)) B.pre
  have hts : ∀ w ∈ tbG, w.before _ s = true := fun w h => hts0 w (List.mem_cons_of_mem _ h)
  have hown : s.vm.findClass RX7 = some m.cls := findClass_of_methodNamed B.named
  subst hsz
  have hD := hD0.self (sz := s.heap.size)
  generalize hAe : va_A (WX7_swap K m_a mA_lane mA_many mA_item mA_poem mA_fresh mA_then mA_was mA_tape mA_strengths mA_sounds mA_stand mA_scheme mA_isKept mA_kept mA_trace m_thrown m_status m_acts m_taped m_cursor m_start m_token m_value m_fault m_faultAt m_latest m_stands m_least m_ways m_nearFoot m_nearFeet m_nearCost m_traced m_poem m_was) s.heap.size = A at hD hE ⊢
  have hA : ∀ q : Nat, s.heap.size ≤ q → A q := fun q h => by rw [← hAe]; exact Or.inr h
  have hS : va_S A s.heap s.heap [] := va_S.rf
  have hl := lv_entry ([.ref m_a, .int p1, .int p2]) (n := 5) (Nat.le_of_ble_eq_true rfl)
  rw [lg_entry_eq]
  generalize (lg_sl ([.ref m_a, .int p1, .int p2]) ++ List.replicate (5 - (lg_sl ([.ref m_a, .int p1, .int p2])).length) Slot.unset).toArray = ls at hl ⊢
  have hl : lv_has ls 5 [(0, .ref m_a), (1, .int p1), (2, .int p2)] := hl
  exact wX7_swap_b0 ⟨hx, hb, hml, hown, hts, hK, hA, E0_ok, hE⟩ m_a mA_lane mA_many mA_item mA_poem mA_fresh mA_then mA_was mA_tape mA_strengths mA_sounds mA_stand mA_scheme mA_isKept mA_kept mA_trace m_status m_taped m_cursor m_start m_token m_value m_fault m_faultAt m_latest m_stands m_least m_ways m_nearFoot m_nearFeet m_nearCost m_traced p1 p2 r o_m_thrown o_m_acts o_m_poem o_m_was (fun H locs ls pc hdg hP hD hS => W.iret (v := r) hx hb hr (fun t ht hW => ⟨⟨r, (), rfl, rfl, (show va_P G vwCl _ t.heap by rw [ht]; exact hP)⟩, hS.F ht⟩) hS.2.2 hdg) m_thrown m_acts m_poem m_was  hM _ _ _ hP hD hS hl
abbrev WX7_metre (K : Nat → ClassId) (m_a mA_lane mA_many mA_item mA_poem mA_fresh mA_then mA_was mA_tape mA_strengths mA_sounds mA_stand mA_scheme mA_isKept mA_kept mA_trace : Nat) (m_thrown : Int32) (m_status : Int32) (m_acts : Int32) (m_taped : Int32) (m_cursor : Int32) (m_start : Int32) (m_token : Int32) (m_value : Int32) (m_fault : Int32) (m_faultAt : Int32) (m_latest : Int32) (m_stands : Int32) (m_least : Int32) (m_ways : Int32) (m_nearFoot : Int32) (m_nearFeet : Int32) (m_nearCost : Int32) (m_traced : Int32) (m_poem : Nat → Int32) (m_was : Nat → Int32) : va_W := [(m_a, .inr (7, [.int m_thrown, .int m_status, .ref mA_lane, .ref mA_many, .ref mA_item, .ref mA_poem, .ref mA_fresh, .ref mA_then, .ref mA_was, .int m_acts, .ref mA_tape, .int m_taped, .int m_cursor, .int m_start, .int m_token, .int m_value, .int m_fault, .int m_faultAt, .int m_latest, .ref mA_strengths, .ref mA_sounds, .ref mA_stand, .int m_stands, .int m_least, .int m_ways, .ref mA_scheme, .int m_nearFoot, .int m_nearFeet, .int m_nearCost, .ref mA_isKept, .ref mA_kept, .ref mA_trace, .int m_traced])), aI K mA_poem 207 m_poem, aI K mA_was 4968 m_was]
def rmX7_metre : Room := { frames := 2, cells := 0, slots := 0, locals := 46 }
theorem hdX7_metre : yX7_metre.cls = RX7 ∧ yX7_metre.cls ≠ "java/lang/invoke/MethodHandle" ∧ yX7_metre.cls ≠ "java/lang/invoke/VarHandle" ∧ (parseMethodDescriptor yX7_metre.desc).map (fun d => d.parameters.length) = some 2 := by decide +kernel
set_option maxHeartbeats 4000000 in
set_option maxRecDepth 100000 in
theorem wX7_metre_b0 {p : Program} {l : Launch} {e : Env} {s : State} {m : MethodId} {args : Array Value} {below : List Frame} {meth : Method} {c : Code} {Q : State → Prop} {G : va_G} {K : Nat → ClassId} {A : Nat → Prop} (C0 : CX p s m args c cX7_metre 4 RX7 G K E0 A) (m_a mA_lane mA_many mA_item mA_poem mA_fresh mA_then mA_was mA_tape mA_strengths mA_sounds mA_stand mA_scheme mA_isKept mA_kept mA_trace : Nat) (m_status : Int32) (m_taped : Int32) (m_cursor : Int32) (m_start : Int32) (m_token : Int32) (m_value : Int32) (m_fault : Int32) (m_faultAt : Int32) (m_latest : Int32) (m_stands : Int32) (m_least : Int32) (m_ways : Int32) (m_nearFoot : Int32) (m_nearFeet : Int32) (m_nearCost : Int32) (m_traced : Int32) (p1 : Int32) (p2 : Int32) (r : Int32) (o_m_thrown : Int32) (o_m_acts : Int32) (o_m_poem : Nat → Int32) (o_m_was : Nat → Int32) (kr : ∀ (H : Heap) (locs : List Loc) (ls : Array Slot) (pc : Nat), decode cX7_metre pc = .ok (.ireturn, 1) → va_P G vwCl (WX7_metre K m_a mA_lane mA_many mA_item mA_poem mA_fresh mA_then mA_was mA_tape mA_strengths mA_sounds mA_stand mA_scheme mA_isKept mA_kept mA_trace o_m_thrown m_status o_m_acts m_taped m_cursor m_start m_token m_value m_fault m_faultAt m_latest m_stands m_least m_ways m_nearFoot m_nearFeet m_nearCost m_traced o_m_poem o_m_was) H → va_D A (WX7_metre K m_a mA_lane mA_many mA_item mA_poem mA_fresh mA_then mA_was mA_tape mA_strengths mA_sounds mA_stand mA_scheme mA_isKept mA_kept mA_trace o_m_thrown m_status o_m_acts m_taped m_cursor m_start m_token m_value m_fault m_faultAt m_latest m_stands m_least m_ways m_nearFoot m_nearFeet m_nearCost m_traced o_m_poem o_m_was) → va_S A s.heap H locs → W p l e rmX7_metre s m args below meth c H locs 0 0 Q (F0 m pc ls [.int r])) (m_thrown : Int32) (m_acts : Int32) (m_poem : Nat → Int32) (m_was : Nat → Int32) (hM : mX7_metre_b0 p1 p2  m_thrown m_acts m_poem m_was = some (r, o_m_thrown, o_m_acts, o_m_poem, o_m_was)) : ∀ (H : Heap) (locs : List Loc) (ls : Array Slot), va_P G vwCl (WX7_metre K m_a mA_lane mA_many mA_item mA_poem mA_fresh mA_then mA_was mA_tape mA_strengths mA_sounds mA_stand mA_scheme mA_isKept mA_kept mA_trace m_thrown m_status m_acts m_taped m_cursor m_start m_token m_value m_fault m_faultAt m_latest m_stands m_least m_ways m_nearFoot m_nearFeet m_nearCost m_traced m_poem m_was) H → va_D A (WX7_metre K m_a mA_lane mA_many mA_item mA_poem mA_fresh mA_then mA_was mA_tape mA_strengths mA_sounds mA_stand mA_scheme mA_isKept mA_kept mA_trace m_thrown m_status m_acts m_taped m_cursor m_start m_token m_value m_fault m_faultAt m_latest m_stands m_least m_ways m_nearFoot m_nearFeet m_nearCost m_traced m_poem m_was) → va_S A s.heap H locs → lv_has ls 4 [(0, .ref m_a), (1, .int p1), (2, .int p2)] → W p l e rmX7_metre s m args below meth c H locs 0 0 Q (F0 m 0 ls []) := by
  obtain ⟨hx, hb, hml, hown, hts, hK, hA, hEo, hE⟩ := id C0
  intro H locs ls hP hD hS hl
  unfold mX7_metre_b0 at hM
  refine lv_aload_n hx hb dX7_metre_0 rfl (lv_at hl 0 rfl) ?_
  refine lv_iconst (v := 0) hx hb dX7_metre_1 (by decide) ?_
  refine va_put (D := G) (ci := 7) (v := .int (0 : Int32)) (ty := .int) (C := RX7) (T := TX7) (N := 33) hx hb hts inX7 tyX7 tyX7_ok nmX7 hown hK hP hD hS 0 rfl rfl 0 (by decide) (hts _ tb764) (fun _ h9 => h9) rfl (tyX7_ok 0 (by decide)) rfl rfl (Nat.le_of_ble_eq_true rfl) dX7_metre_2 (fun H locs hP hD hS => ?_)
  have hP : va_P G vwCl (WX7_metre K m_a mA_lane mA_many mA_item mA_poem mA_fresh mA_then mA_was mA_tape mA_strengths mA_sounds mA_stand mA_scheme mA_isKept mA_kept mA_trace (0 : Int32) m_status m_acts m_taped m_cursor m_start m_token m_value m_fault m_faultAt m_latest m_stands m_least m_ways m_nearFoot m_nearFeet m_nearCost m_traced m_poem m_was) H := hP
  have hD : va_D A (WX7_metre K m_a mA_lane mA_many mA_item mA_poem mA_fresh mA_then mA_was mA_tape mA_strengths mA_sounds mA_stand mA_scheme mA_isKept mA_kept mA_trace (0 : Int32) m_status m_acts m_taped m_cursor m_start m_token m_value m_fault m_faultAt m_latest m_stands m_least m_ways m_nearFoot m_nearFeet m_nearCost m_traced m_poem m_was) := hD
  refine lv_aload_n hx hb dX7_metre_5 rfl (lv_at hl 0 rfl) ?_
  obtain ⟨r_1, hC, hM⟩ := oe1 hM
  refine cV_i (As := []) (rest := []) C0 hP hD hS [0, 1] (kX7_isThere l G K m_a mA_lane mA_many mA_item mA_poem mA_fresh mA_then mA_was mA_tape mA_strengths mA_sounds mA_stand mA_scheme mA_isKept mA_kept mA_trace (0 : Int32) m_status m_acts m_taped m_cursor m_start m_token m_value m_fault m_faultAt m_latest m_stands m_least m_ways m_nearFoot m_nearFeet m_nearCost m_traced m_poem H.size r_1 hC) rfl rfl rfl tb1014 tb1016 tp29 tb9 tb1017 hdX7_isThere (va_recv hK hP (ci := 7) (q0 := 0) rfl rfl) ⟨Nat.le_of_ble_eq_true rfl, Nat.le_of_ble_eq_true rfl⟩ rfl hl.1 (Nat.le_of_ble_eq_true rfl) rfl ⟨Nat.le_refl _, Nat.le_refl _⟩ dX7_metre_6 (fun H locs hP hD hS => ?_)
  have hP : va_P G vwCl (WX7_metre K m_a mA_lane mA_many mA_item mA_poem mA_fresh mA_then mA_was mA_tape mA_strengths mA_sounds mA_stand mA_scheme mA_isKept mA_kept mA_trace (0 : Int32) m_status m_acts m_taped m_cursor m_start m_token m_value m_fault m_faultAt m_latest m_stands m_least m_ways m_nearFoot m_nearFeet m_nearCost m_traced m_poem m_was) H := hP
  have hD : va_D A (WX7_metre K m_a mA_lane mA_many mA_item mA_poem mA_fresh mA_then mA_was mA_tape mA_strengths mA_sounds mA_stand mA_scheme mA_isKept mA_kept mA_trace (0 : Int32) m_status m_acts m_taped m_cursor m_start m_token m_value m_fault m_faultAt m_latest m_stands m_least m_ways m_nearFoot m_nearFeet m_nearCost m_traced m_poem m_was) := hD
  refine lv_if_ne (tgt := 16) hx hb dX7_metre_9 (by decide) (fun c_2 => ?_) (fun c_2 => ?_)
  · rw [if_neg c_2] at hM
    refine lv_iload_n hx hb dX7_metre_16 rfl (lv_at hl 1 rfl) ?_
    refine lv_iload_n hx hb dX7_metre_17 rfl (lv_at hl 2 rfl) ?_
    obtain ⟨r_3, hC, hM⟩ := oe1 hM
    refine cS_i (As := [.int p1, .int p2]) (rest := []) C0 hP hD hS [] (kX7_isMetre l G K p1 p2 H.size r_3 hC) rfl rfl rfl tb1018 tb1019 tb9 tb1020 hdX7_isMetre ⟨Nat.le_of_ble_eq_true rfl, Nat.le_of_ble_eq_true rfl⟩ rfl hl.1 (Nat.le_of_ble_eq_true rfl) rfl ⟨Nat.le_refl _, Nat.le_refl _⟩ dX7_metre_18 (fun H locs hP hD hS => ?_)
    have hP : va_P G vwCl (WX7_metre K m_a mA_lane mA_many mA_item mA_poem mA_fresh mA_then mA_was mA_tape mA_strengths mA_sounds mA_stand mA_scheme mA_isKept mA_kept mA_trace (0 : Int32) m_status m_acts m_taped m_cursor m_start m_token m_value m_fault m_faultAt m_latest m_stands m_least m_ways m_nearFoot m_nearFeet m_nearCost m_traced m_poem m_was) H := hP
    have hD : va_D A (WX7_metre K m_a mA_lane mA_many mA_item mA_poem mA_fresh mA_then mA_was mA_tape mA_strengths mA_sounds mA_stand mA_scheme mA_isKept mA_kept mA_trace (0 : Int32) m_status m_acts m_taped m_cursor m_start m_token m_value m_fault m_faultAt m_latest m_stands m_least m_ways m_nearFoot m_nearFeet m_nearCost m_traced m_poem m_was) := hD
    refine lv_if_ne (tgt := 27) hx hb dX7_metre_21 (by decide) (fun c_4 => ?_) (fun c_4 => ?_)
    · rw [if_neg c_4] at hM
      refine lv_aload_n hx hb dX7_metre_27 rfl (lv_at hl 0 rfl) ?_
      obtain ⟨u0_5, u1_5, hC, hM⟩ := oe2 hM
      refine cV_v (As := []) (rest := []) C0 hP hD hS [0, 1, 2] (kX7_keep l G K m_a mA_lane mA_many mA_item mA_poem mA_fresh mA_then mA_was mA_tape mA_strengths mA_sounds mA_stand mA_scheme mA_isKept mA_kept mA_trace (0 : Int32) m_status m_acts m_taped m_cursor m_start m_token m_value m_fault m_faultAt m_latest m_stands m_least m_ways m_nearFoot m_nearFeet m_nearCost m_traced m_poem m_was H.size u0_5 u1_5 hC) rfl rfl rfl tb978 tb980 tp26 tb9 tb981 hdX7_keep (va_recv hK hP (ci := 7) (q0 := 0) rfl rfl) ⟨Nat.le_of_ble_eq_true rfl, Nat.le_of_ble_eq_true rfl⟩ rfl hl.1 (Nat.le_of_ble_eq_true rfl) rfl ⟨Nat.le_refl _, Nat.le_refl _⟩ dX7_metre_28 (fun H locs hP hD hS => ?_)
      have hP : va_P G vwCl (WX7_metre K m_a mA_lane mA_many mA_item mA_poem mA_fresh mA_then mA_was mA_tape mA_strengths mA_sounds mA_stand mA_scheme mA_isKept mA_kept mA_trace (0 : Int32) m_status u0_5 m_taped m_cursor m_start m_token m_value m_fault m_faultAt m_latest m_stands m_least m_ways m_nearFoot m_nearFeet m_nearCost m_traced m_poem u1_5) H := hP
      have hD : va_D A (WX7_metre K m_a mA_lane mA_many mA_item mA_poem mA_fresh mA_then mA_was mA_tape mA_strengths mA_sounds mA_stand mA_scheme mA_isKept mA_kept mA_trace (0 : Int32) m_status u0_5 m_taped m_cursor m_start m_token m_value m_fault m_faultAt m_latest m_stands m_least m_ways m_nearFoot m_nearFeet m_nearCost m_traced m_poem u1_5) := hD
      refine lv_bipush (v := 10) hx hb dX7_metre_31 (by decide) ?_
      refine lv_aload_n hx hb dX7_metre_33 rfl (lv_at hl 0 rfl) ?_
      refine va_get (D := G) (ci := 7) (v := .ref mA_poem) (C := RX7) (T := TX7) (N := 33) hx hb hts inX7 hown hK hP 0 rfl rfl 5 (by decide) (hts _ tb769) (fun _ h9 => h9) rfl dX7_metre_34 ?_
      refine lv_iconst (v := 1) hx hb dX7_metre_37 (by decide) ?_
      refine va_iald hx hb hK hP 1 0 rfl rfl (show ¬ ((1 : Int32) < 0 ∨ 207 ≤ ((1 : Int32)).toNatClampNeg) by decide) dX7_metre_38 ?_
      refine lv_imul hx hb dX7_metre_39 ?_
      refine lv_aload_n hx hb dX7_metre_40 rfl (lv_at hl 0 rfl) ?_
      refine va_get (D := G) (ci := 7) (v := .ref mA_poem) (C := RX7) (T := TX7) (N := 33) hx hb hts inX7 hown hK hP 0 rfl rfl 5 (by decide) (hts _ tb769) (fun _ h9 => h9) rfl dX7_metre_41 ?_
      refine lv_iconst (v := 2) hx hb dX7_metre_44 (by decide) ?_
      refine va_iald hx hb hK hP 1 0 rfl rfl (show ¬ ((2 : Int32) < 0 ∨ 207 ≤ ((2 : Int32)).toNatClampNeg) by decide) dX7_metre_45 ?_
      refine lv_iadd hx hb dX7_metre_46 ?_
      refine lv_istore_n (lv' := [(3, .int (((10 : Int32) * (m_poem (1 : Int32).toNatClampNeg)) + (m_poem (2 : Int32).toNatClampNeg))), (0, .ref m_a), (1, .int p1), (2, .int p2)]) hx hb dX7_metre_47 rfl hl (by decide) rfl (fun ls hl => ?_)
      refine lv_aload_n hx hb dX7_metre_48 rfl (lv_at hl 1 rfl) ?_
      refine va_get (D := G) (ci := 7) (v := .ref mA_poem) (C := RX7) (T := TX7) (N := 33) hx hb hts inX7 hown hK hP 0 rfl rfl 5 (by decide) (hts _ tb769) (fun _ h9 => h9) rfl dX7_metre_49 ?_
      refine lv_iconst (v := 1) hx hb dX7_metre_52 (by decide) ?_
      refine lv_iload_n hx hb dX7_metre_53 rfl (lv_at hl 2 rfl) ?_
      refine va_iast hx hb hK hP hD hS 1 0 rfl rfl (show ¬ ((1 : Int32) < 0 ∨ 207 ≤ ((1 : Int32)).toNatClampNeg) by decide) dX7_metre_54 (fun H locs hP hD hS => ?_)
      have hP : va_P G vwCl (WX7_metre K m_a mA_lane mA_many mA_item mA_poem mA_fresh mA_then mA_was mA_tape mA_strengths mA_sounds mA_stand mA_scheme mA_isKept mA_kept mA_trace (0 : Int32) m_status u0_5 m_taped m_cursor m_start m_token m_value m_fault m_faultAt m_latest m_stands m_least m_ways m_nearFoot m_nearFeet m_nearCost m_traced (upd m_poem (1 : Int32).toNatClampNeg p1) u1_5) H := hP
      have hD : va_D A (WX7_metre K m_a mA_lane mA_many mA_item mA_poem mA_fresh mA_then mA_was mA_tape mA_strengths mA_sounds mA_stand mA_scheme mA_isKept mA_kept mA_trace (0 : Int32) m_status u0_5 m_taped m_cursor m_start m_token m_value m_fault m_faultAt m_latest m_stands m_least m_ways m_nearFoot m_nearFeet m_nearCost m_traced (upd m_poem (1 : Int32).toNatClampNeg p1) u1_5) := hD
      refine lv_aload_n hx hb dX7_metre_55 rfl (lv_at hl 1 rfl) ?_
      refine va_get (D := G) (ci := 7) (v := .ref mA_poem) (C := RX7) (T := TX7) (N := 33) hx hb hts inX7 hown hK hP 0 rfl rfl 5 (by decide) (hts _ tb769) (fun _ h9 => h9) rfl dX7_metre_56 ?_
      refine lv_iconst (v := 2) hx hb dX7_metre_59 (by decide) ?_
      refine lv_iload_n hx hb dX7_metre_60 rfl (lv_at hl 3 rfl) ?_
      refine va_iast hx hb hK hP hD hS 1 0 rfl rfl (show ¬ ((2 : Int32) < 0 ∨ 207 ≤ ((2 : Int32)).toNatClampNeg) by decide) dX7_metre_61 (fun H locs hP hD hS => ?_)
      have hP : va_P G vwCl (WX7_metre K m_a mA_lane mA_many mA_item mA_poem mA_fresh mA_then mA_was mA_tape mA_strengths mA_sounds mA_stand mA_scheme mA_isKept mA_kept mA_trace (0 : Int32) m_status u0_5 m_taped m_cursor m_start m_token m_value m_fault m_faultAt m_latest m_stands m_least m_ways m_nearFoot m_nearFeet m_nearCost m_traced (upd (upd m_poem (1 : Int32).toNatClampNeg p1) (2 : Int32).toNatClampNeg p2) u1_5) H := hP
      have hD : va_D A (WX7_metre K m_a mA_lane mA_many mA_item mA_poem mA_fresh mA_then mA_was mA_tape mA_strengths mA_sounds mA_stand mA_scheme mA_isKept mA_kept mA_trace (0 : Int32) m_status u0_5 m_taped m_cursor m_start m_token m_value m_fault m_faultAt m_latest m_stands m_least m_ways m_nearFoot m_nearFeet m_nearCost m_traced (upd (upd m_poem (1 : Int32).toNatClampNeg p1) (2 : Int32).toNatClampNeg p2) u1_5) := hD
      refine lv_iload_n hx hb dX7_metre_62 rfl (lv_at hl 0 rfl) ?_
      have t0 := Option.some.inj hM
      obtain ⟨q1, t1⟩ := Prod.mk.inj t0
      obtain ⟨q2, t2⟩ := Prod.mk.inj t1
      obtain ⟨q3, t3⟩ := Prod.mk.inj t2
      obtain ⟨q4, t4⟩ := Prod.mk.inj t3
      subst q1
      subst q2
      subst q3
      subst q4
      subst t4
      exact kr _ _ _ _ dX7_metre_63 hP hD hS
    · rw [if_pos c_4] at hM
      refine lv_ldc (v := -1000001) hx hb hown (hts _ tb877) dX7_metre_24 ?_
      have t0 := Option.some.inj hM
      obtain ⟨q1, t1⟩ := Prod.mk.inj t0
      obtain ⟨q2, t2⟩ := Prod.mk.inj t1
      obtain ⟨q3, t3⟩ := Prod.mk.inj t2
      obtain ⟨q4, t4⟩ := Prod.mk.inj t3
      subst q1
      subst q2
      subst q3
      subst q4
      subst t4
      exact kr _ _ _ _ dX7_metre_26 hP hD hS
  · rw [if_pos c_2] at hM
    refine lv_ldcw (v := -1000002) hx hb hown (hts _ tb977) dX7_metre_12 ?_
    have t0 := Option.some.inj hM
    obtain ⟨q1, t1⟩ := Prod.mk.inj t0
    obtain ⟨q2, t2⟩ := Prod.mk.inj t1
    obtain ⟨q3, t3⟩ := Prod.mk.inj t2
    obtain ⟨q4, t4⟩ := Prod.mk.inj t3
    subst q1
    subst q2
    subst q3
    subst q4
    subst t4
    exact kr _ _ _ _ dX7_metre_15 hP hD hS
set_option maxHeartbeats 4000000 in
set_option maxRecDepth 100000 in
theorem kX7_metre (l : Launch) (G : va_G) (K : Nat → ClassId) (m_a mA_lane mA_many mA_item mA_poem mA_fresh mA_then mA_was mA_tape mA_strengths mA_sounds mA_stand mA_scheme mA_isKept mA_kept mA_trace : Nat) (m_thrown : Int32) (m_status : Int32) (m_acts : Int32) (m_taped : Int32) (m_cursor : Int32) (m_start : Int32) (m_token : Int32) (m_value : Int32) (m_fault : Int32) (m_faultAt : Int32) (m_latest : Int32) (m_stands : Int32) (m_least : Int32) (m_ways : Int32) (m_nearFoot : Int32) (m_nearFeet : Int32) (m_nearCost : Int32) (m_traced : Int32) (m_poem : Nat → Int32) (m_was : Nat → Int32) (p1 : Int32) (p2 : Int32) (sz : Nat) (r : Int32) (o_m_thrown : Int32) (o_m_acts : Int32) (o_m_poem : Nat → Int32) (o_m_was : Nat → Int32) (hM : mX7_metre m_thrown m_acts m_poem m_was p1 p2 = some (r, o_m_thrown, o_m_acts, o_m_poem, o_m_was)) : Met l yX7_metre (mC yX7_metre cX7_metre 4 (some .int)) rmX7_metre (va_Pc [.ref m_a, .int p1, .int p2] (PCe G K E0 (WX7_metre K m_a mA_lane mA_many mA_item mA_poem mA_fresh mA_then mA_was mA_tape mA_strengths mA_sounds mA_stand mA_scheme mA_isKept mA_kept mA_trace m_thrown m_status m_acts m_taped m_cursor m_start m_token m_value m_fault m_faultAt m_latest m_stands m_least m_ways m_nearFoot m_nearFeet m_nearCost m_traced m_poem m_was) sz)) (va_Qi (fun (x : Int32) (_ : Unit) => x = r) (fun _ t => va_P G vwCl (WX7_metre K m_a mA_lane mA_many mA_item mA_poem mA_fresh mA_then mA_was mA_tape mA_strengths mA_sounds mA_stand mA_scheme mA_isKept mA_kept mA_trace o_m_thrown m_status o_m_acts m_taped m_cursor m_start m_token m_value m_fault m_faultAt m_latest m_stands m_least m_ways m_nearFoot m_nearFeet m_nearCost m_traced o_m_poem o_m_was) t.heap) (va_A (WX7_metre K m_a mA_lane mA_many mA_item mA_poem mA_fresh mA_then mA_was mA_tape mA_strengths mA_sounds mA_stand mA_scheme mA_isKept mA_kept mA_trace m_thrown m_status m_acts m_taped m_cursor m_start m_token m_value m_fault m_faultAt m_latest m_stands m_least m_ways m_nearFoot m_nearFeet m_nearCost m_traced m_poem m_was) sz)) rmX7_metre.cells rmX7_metre.slots (va_A (WX7_metre K m_a mA_lane mA_many mA_item mA_poem mA_fresh mA_then mA_was mA_tape mA_strengths mA_sounds mA_stand mA_scheme mA_isKept mA_kept mA_trace m_thrown m_status m_acts m_taped m_cursor m_start m_token m_value m_fault m_faultAt m_latest m_stands m_least m_ways m_nearFoot m_nearFeet m_nearCost m_traced m_poem m_was) sz) := by
  refine Met.ofW (cc := cX7_metre) (maxL := 4) (ret := (some .int)) (by decide) rfl ?_
  intro p e s m args below meth c s₁ B hml hv
  obtain ⟨rfl, hsz, hP, hK, hD0, hE⟩ := hv
  have hx := B.exec
  have hb := B.bytes
  have hr := B.returns
  have hts0 := atoms_spec (ws := mC yX7_metre cX7_metre 4 (some .int)) B.pre
  have hts : ∀ w ∈ tbG, w.before _ s = true := fun w h => hts0 w (List.mem_cons_of_mem _ h)
  have hown : s.vm.findClass RX7 = some m.cls := findClass_of_methodNamed B.named
  subst hsz
  have hD := hD0.self (sz := s.heap.size)
  generalize hAe : va_A (WX7_metre K m_a mA_lane mA_many mA_item mA_poem mA_fresh mA_then mA_was mA_tape mA_strengths mA_sounds mA_stand mA_scheme mA_isKept mA_kept mA_trace m_thrown m_status m_acts m_taped m_cursor m_start m_token m_value m_fault m_faultAt m_latest m_stands m_least m_ways m_nearFoot m_nearFeet m_nearCost m_traced m_poem m_was) s.heap.size = A at hD hE ⊢
  have hA : ∀ q : Nat, s.heap.size ≤ q → A q := fun q h => by rw [← hAe]; exact Or.inr h
  have hS : va_S A s.heap s.heap [] := va_S.rf
  have hl := lv_entry ([.ref m_a, .int p1, .int p2]) (n := 4) (Nat.le_of_ble_eq_true rfl)
  rw [lg_entry_eq]
  generalize (lg_sl ([.ref m_a, .int p1, .int p2]) ++ List.replicate (4 - (lg_sl ([.ref m_a, .int p1, .int p2])).length) Slot.unset).toArray = ls at hl ⊢
  have hl : lv_has ls 4 [(0, .ref m_a), (1, .int p1), (2, .int p2)] := hl
  exact wX7_metre_b0 ⟨hx, hb, hml, hown, hts, hK, hA, E0_ok, hE⟩ m_a mA_lane mA_many mA_item mA_poem mA_fresh mA_then mA_was mA_tape mA_strengths mA_sounds mA_stand mA_scheme mA_isKept mA_kept mA_trace m_status m_taped m_cursor m_start m_token m_value m_fault m_faultAt m_latest m_stands m_least m_ways m_nearFoot m_nearFeet m_nearCost m_traced p1 p2 r o_m_thrown o_m_acts o_m_poem o_m_was (fun H locs ls pc hdg hP hD hS => W.iret (v := r) hx hb hr (fun t ht hW => ⟨⟨r, (), rfl, rfl, (show va_P G vwCl _ t.heap by rw [ht]; exact hP)⟩, hS.F ht⟩) hS.2.2 hdg) m_thrown m_acts m_poem m_was  hM _ _ _ hP hD hS hl
abbrev WX7_undo (K : Nat → ClassId) (m_a mA_lane mA_many mA_item mA_poem mA_fresh mA_then mA_was mA_tape mA_strengths mA_sounds mA_stand mA_scheme mA_isKept mA_kept mA_trace : Nat) (m_thrown : Int32) (m_status : Int32) (m_acts : Int32) (m_taped : Int32) (m_cursor : Int32) (m_start : Int32) (m_token : Int32) (m_value : Int32) (m_fault : Int32) (m_faultAt : Int32) (m_latest : Int32) (m_stands : Int32) (m_least : Int32) (m_ways : Int32) (m_nearFoot : Int32) (m_nearFeet : Int32) (m_nearCost : Int32) (m_traced : Int32) (m_poem : Nat → Int32) (m_was : Nat → Int32) : va_W := [(m_a, .inr (7, [.int m_thrown, .int m_status, .ref mA_lane, .ref mA_many, .ref mA_item, .ref mA_poem, .ref mA_fresh, .ref mA_then, .ref mA_was, .int m_acts, .ref mA_tape, .int m_taped, .int m_cursor, .int m_start, .int m_token, .int m_value, .int m_fault, .int m_faultAt, .int m_latest, .ref mA_strengths, .ref mA_sounds, .ref mA_stand, .int m_stands, .int m_least, .int m_ways, .ref mA_scheme, .int m_nearFoot, .int m_nearFeet, .int m_nearCost, .ref mA_isKept, .ref mA_kept, .ref mA_trace, .int m_traced])), aI K mA_poem 207 m_poem, aI K mA_was 4968 m_was]
def rmX7_undo : Room := { frames := 0, cells := 0, slots := 0, locals := 0 }
theorem hdX7_undo : yX7_undo.cls = RX7 ∧ yX7_undo.cls ≠ "java/lang/invoke/MethodHandle" ∧ yX7_undo.cls ≠ "java/lang/invoke/VarHandle" ∧ (parseMethodDescriptor yX7_undo.desc).map (fun d => d.parameters.length) = some 0 := by decide +kernel
set_option maxHeartbeats 4000000 in
set_option maxRecDepth 100000 in
theorem wX7_undo_b28 {p : Program} {l : Launch} {e : Env} {s : State} {m : MethodId} {args : Array Value} {below : List Frame} {meth : Method} {c : Code} {Q : State → Prop} {G : va_G} {K : Nat → ClassId} {A : Nat → Prop} (C0 : CX p s m args c cX7_undo 2 RX7 G K E0 A) (m_a mA_lane mA_many mA_item mA_poem mA_fresh mA_then mA_was mA_tape mA_strengths mA_sounds mA_stand mA_scheme mA_isKept mA_kept mA_trace : Nat) (m_status : Int32) (m_taped : Int32) (m_cursor : Int32) (m_start : Int32) (m_token : Int32) (m_value : Int32) (m_fault : Int32) (m_faultAt : Int32) (m_latest : Int32) (m_stands : Int32) (m_least : Int32) (m_ways : Int32) (m_nearFoot : Int32) (m_nearFeet : Int32) (m_nearCost : Int32) (m_traced : Int32) (m_was : Nat → Int32)  (r : Int32) (o_m_thrown : Int32) (o_m_acts : Int32) (o_m_poem : Nat → Int32) (kr : ∀ (H : Heap) (locs : List Loc) (ls : Array Slot) (pc : Nat), decode cX7_undo pc = .ok (.ireturn, 1) → va_P G vwCl (WX7_undo K m_a mA_lane mA_many mA_item mA_poem mA_fresh mA_then mA_was mA_tape mA_strengths mA_sounds mA_stand mA_scheme mA_isKept mA_kept mA_trace o_m_thrown m_status o_m_acts m_taped m_cursor m_start m_token m_value m_fault m_faultAt m_latest m_stands m_least m_ways m_nearFoot m_nearFeet m_nearCost m_traced o_m_poem m_was) H → va_D A (WX7_undo K m_a mA_lane mA_many mA_item mA_poem mA_fresh mA_then mA_was mA_tape mA_strengths mA_sounds mA_stand mA_scheme mA_isKept mA_kept mA_trace o_m_thrown m_status o_m_acts m_taped m_cursor m_start m_token m_value m_fault m_faultAt m_latest m_stands m_least m_ways m_nearFoot m_nearFeet m_nearCost m_traced o_m_poem m_was) → va_S A s.heap H locs → W p l e rmX7_undo s m args below meth c H locs 0 0 Q (F0 m pc ls [.int r])) (n : Nat) : ∀ (m_thrown : Int32) (m_acts : Int32) (m_poem : Nat → Int32) (x1 : Int32), mX7_undo_b28 m_was  n m_thrown m_acts m_poem x1 = some (r, o_m_thrown, o_m_acts, o_m_poem) → ∀ (H : Heap) (locs : List Loc) (ls : Array Slot), va_P G vwCl (WX7_undo K m_a mA_lane mA_many mA_item mA_poem mA_fresh mA_then mA_was mA_tape mA_strengths mA_sounds mA_stand mA_scheme mA_isKept mA_kept mA_trace m_thrown m_status m_acts m_taped m_cursor m_start m_token m_value m_fault m_faultAt m_latest m_stands m_least m_ways m_nearFoot m_nearFeet m_nearCost m_traced m_poem m_was) H → va_D A (WX7_undo K m_a mA_lane mA_many mA_item mA_poem mA_fresh mA_then mA_was mA_tape mA_strengths mA_sounds mA_stand mA_scheme mA_isKept mA_kept mA_trace m_thrown m_status m_acts m_taped m_cursor m_start m_token m_value m_fault m_faultAt m_latest m_stands m_least m_ways m_nearFoot m_nearFeet m_nearCost m_traced m_poem m_was) → va_S A s.heap H locs → lv_has ls 2 [(0, .ref m_a), (1, .int x1)] → W p l e rmX7_undo s m args below meth c H locs 0 0 Q (F0 m 28 ls []) := by
  obtain ⟨hx, hb, hml, hown, hts, hK, hA, hEo, hE⟩ := id C0
  induction n with
  | zero =>
    intro m_thrown m_acts m_poem x1 hM
    cases hM
  | succ n ih =>
    intro m_thrown m_acts m_poem x1 hM H locs ls hP hD hS hl
    rw [mX7_undo_b28] at hM
    refine lv_iload_n hx hb dX7_undo_28 rfl (lv_at hl 1 rfl) ?_
    refine lv_sipush (v := 207) hx hb dX7_undo_29 (by decide) ?_
    refine lv_icmp_ge (tgt := 62) hx hb dX7_undo_32 (by decide) (fun c_1 => ?_) (fun c_1 => ?_)
    · rw [if_pos c_1] at hM
      refine lv_aload_n hx hb dX7_undo_62 rfl (lv_at hl 0 rfl) ?_
      refine va_get (D := G) (ci := 7) (v := .int m_acts) (C := RX7) (T := TX7) (N := 33) hx hb hts inX7 hown hK hP 0 rfl rfl 9 (by decide) (hts _ tb773) (fun _ h9 => h9) rfl dX7_undo_63 ?_
      have t0 := Option.some.inj hM
      obtain ⟨q1, t1⟩ := Prod.mk.inj t0
      obtain ⟨q2, t2⟩ := Prod.mk.inj t1
      obtain ⟨q3, t3⟩ := Prod.mk.inj t2
      subst q1
      subst q2
      subst q3
      subst t3
      exact kr _ _ _ _ dX7_undo_66 hP hD hS
    · rw [if_neg c_1] at hM
      refine lv_aload_n hx hb dX7_undo_35 rfl (lv_at hl 0 rfl) ?_
      refine va_get (D := G) (ci := 7) (v := .ref mA_poem) (C := RX7) (T := TX7) (N := 33) hx hb hts inX7 hown hK hP 0 rfl rfl 5 (by decide) (hts _ tb769) (fun _ h9 => h9) rfl dX7_undo_36 ?_
      refine lv_iload_n hx hb dX7_undo_39 rfl (lv_at hl 1 rfl) ?_
      refine lv_aload_n hx hb dX7_undo_40 rfl (lv_at hl 0 rfl) ?_
      refine va_get (D := G) (ci := 7) (v := .ref mA_was) (C := RX7) (T := TX7) (N := 33) hx hb hts inX7 hown hK hP 0 rfl rfl 8 (by decide) (hts _ tb772) (fun _ h9 => h9) rfl dX7_undo_41 ?_
      refine lv_sipush (v := 207) hx hb dX7_undo_44 (by decide) ?_
      refine lv_aload_n hx hb dX7_undo_47 rfl (lv_at hl 0 rfl) ?_
      refine va_get (D := G) (ci := 7) (v := .int m_acts) (C := RX7) (T := TX7) (N := 33) hx hb hts inX7 hown hK hP 0 rfl rfl 9 (by decide) (hts _ tb773) (fun _ h9 => h9) rfl dX7_undo_48 ?_
      refine lv_imul hx hb dX7_undo_51 ?_
      refine lv_iload_n hx hb dX7_undo_52 rfl (lv_at hl 1 rfl) ?_
      refine lv_iadd hx hb dX7_undo_53 ?_
      obtain ⟨g_2, hM⟩ := ng hM
      refine va_iald hx hb hK hP 2 0 rfl rfl g_2 dX7_undo_54 ?_
      obtain ⟨g_3, hM⟩ := ng hM
      refine va_iast hx hb hK hP hD hS 1 0 rfl rfl g_3 dX7_undo_55 (fun H locs hP hD hS => ?_)
      have hP : va_P G vwCl (WX7_undo K m_a mA_lane mA_many mA_item mA_poem mA_fresh mA_then mA_was mA_tape mA_strengths mA_sounds mA_stand mA_scheme mA_isKept mA_kept mA_trace m_thrown m_status m_acts m_taped m_cursor m_start m_token m_value m_fault m_faultAt m_latest m_stands m_least m_ways m_nearFoot m_nearFeet m_nearCost m_traced (upd m_poem x1.toNatClampNeg (m_was (((207 : Int32) * m_acts) + x1).toNatClampNeg)) m_was) H := hP
      have hD : va_D A (WX7_undo K m_a mA_lane mA_many mA_item mA_poem mA_fresh mA_then mA_was mA_tape mA_strengths mA_sounds mA_stand mA_scheme mA_isKept mA_kept mA_trace m_thrown m_status m_acts m_taped m_cursor m_start m_token m_value m_fault m_faultAt m_latest m_stands m_least m_ways m_nearFoot m_nearFeet m_nearCost m_traced (upd m_poem x1.toNatClampNeg (m_was (((207 : Int32) * m_acts) + x1).toNatClampNeg)) m_was) := hD
      refine lv_iinc (v := (x1 + 1)) (lv' := [(1, .int (x1 + 1)), (0, .ref m_a)]) hx hb dX7_undo_56 hl (k := 1) rfl rfl (by decide) rfl (fun ls hl => ?_)
      refine lv_goto (tgt := 28) hx hb dX7_undo_59 (by decide) ?_
      exact ih m_thrown m_acts (upd m_poem x1.toNatClampNeg (m_was (((207 : Int32) * m_acts) + x1).toNatClampNeg)) (x1 + 1) hM _ _ _ hP hD hS (lv_sub hl [1, 0] rfl)
set_option maxHeartbeats 4000000 in
set_option maxRecDepth 100000 in
theorem wX7_undo_b0 {p : Program} {l : Launch} {e : Env} {s : State} {m : MethodId} {args : Array Value} {below : List Frame} {meth : Method} {c : Code} {Q : State → Prop} {G : va_G} {K : Nat → ClassId} {A : Nat → Prop} (C0 : CX p s m args c cX7_undo 2 RX7 G K E0 A) (m_a mA_lane mA_many mA_item mA_poem mA_fresh mA_then mA_was mA_tape mA_strengths mA_sounds mA_stand mA_scheme mA_isKept mA_kept mA_trace : Nat) (m_status : Int32) (m_taped : Int32) (m_cursor : Int32) (m_start : Int32) (m_token : Int32) (m_value : Int32) (m_fault : Int32) (m_faultAt : Int32) (m_latest : Int32) (m_stands : Int32) (m_least : Int32) (m_ways : Int32) (m_nearFoot : Int32) (m_nearFeet : Int32) (m_nearCost : Int32) (m_traced : Int32) (m_was : Nat → Int32)  (r : Int32) (o_m_thrown : Int32) (o_m_acts : Int32) (o_m_poem : Nat → Int32) (kr : ∀ (H : Heap) (locs : List Loc) (ls : Array Slot) (pc : Nat), decode cX7_undo pc = .ok (.ireturn, 1) → va_P G vwCl (WX7_undo K m_a mA_lane mA_many mA_item mA_poem mA_fresh mA_then mA_was mA_tape mA_strengths mA_sounds mA_stand mA_scheme mA_isKept mA_kept mA_trace o_m_thrown m_status o_m_acts m_taped m_cursor m_start m_token m_value m_fault m_faultAt m_latest m_stands m_least m_ways m_nearFoot m_nearFeet m_nearCost m_traced o_m_poem m_was) H → va_D A (WX7_undo K m_a mA_lane mA_many mA_item mA_poem mA_fresh mA_then mA_was mA_tape mA_strengths mA_sounds mA_stand mA_scheme mA_isKept mA_kept mA_trace o_m_thrown m_status o_m_acts m_taped m_cursor m_start m_token m_value m_fault m_faultAt m_latest m_stands m_least m_ways m_nearFoot m_nearFeet m_nearCost m_traced o_m_poem m_was) → va_S A s.heap H locs → W p l e rmX7_undo s m args below meth c H locs 0 0 Q (F0 m pc ls [.int r])) (m_thrown : Int32) (m_acts : Int32) (m_poem : Nat → Int32) (hM : mX7_undo_b0 m_was  m_thrown m_acts m_poem = some (r, o_m_thrown, o_m_acts, o_m_poem)) : ∀ (H : Heap) (locs : List Loc) (ls : Array Slot), va_P G vwCl (WX7_undo K m_a mA_lane mA_many mA_item mA_poem mA_fresh mA_then mA_was mA_tape mA_strengths mA_sounds mA_stand mA_scheme mA_isKept mA_kept mA_trace m_thrown m_status m_acts m_taped m_cursor m_start m_token m_value m_fault m_faultAt m_latest m_stands m_least m_ways m_nearFoot m_nearFeet m_nearCost m_traced m_poem m_was) H → va_D A (WX7_undo K m_a mA_lane mA_many mA_item mA_poem mA_fresh mA_then mA_was mA_tape mA_strengths mA_sounds mA_stand mA_scheme mA_isKept mA_kept mA_trace m_thrown m_status m_acts m_taped m_cursor m_start m_token m_value m_fault m_faultAt m_latest m_stands m_least m_ways m_nearFoot m_nearFeet m_nearCost m_traced m_poem m_was) → va_S A s.heap H locs → lv_has ls 2 [(0, .ref m_a)] → W p l e rmX7_undo s m args below meth c H locs 0 0 Q (F0 m 0 ls []) := by
  obtain ⟨hx, hb, hml, hown, hts, hK, hA, hEo, hE⟩ := id C0
  intro H locs ls hP hD hS hl
  unfold mX7_undo_b0 at hM
  refine lv_aload_n hx hb dX7_undo_0 rfl (lv_at hl 0 rfl) ?_
  refine lv_iconst (v := 0) hx hb dX7_undo_1 (by decide) ?_
  refine va_put (D := G) (ci := 7) (v := .int (0 : Int32)) (ty := .int) (C := RX7) (T := TX7) (N := 33) hx hb hts inX7 tyX7 tyX7_ok nmX7 hown hK hP hD hS 0 rfl rfl 0 (by decide) (hts _ tb764) (fun _ h9 => h9) rfl (tyX7_ok 0 (by decide)) rfl rfl (Nat.le_of_ble_eq_true rfl) dX7_undo_2 (fun H locs hP hD hS => ?_)
  have hP : va_P G vwCl (WX7_undo K m_a mA_lane mA_many mA_item mA_poem mA_fresh mA_then mA_was mA_tape mA_strengths mA_sounds mA_stand mA_scheme mA_isKept mA_kept mA_trace (0 : Int32) m_status m_acts m_taped m_cursor m_start m_token m_value m_fault m_faultAt m_latest m_stands m_least m_ways m_nearFoot m_nearFeet m_nearCost m_traced m_poem m_was) H := hP
  have hD : va_D A (WX7_undo K m_a mA_lane mA_many mA_item mA_poem mA_fresh mA_then mA_was mA_tape mA_strengths mA_sounds mA_stand mA_scheme mA_isKept mA_kept mA_trace (0 : Int32) m_status m_acts m_taped m_cursor m_start m_token m_value m_fault m_faultAt m_latest m_stands m_least m_ways m_nearFoot m_nearFeet m_nearCost m_traced m_poem m_was) := hD
  refine lv_aload_n hx hb dX7_undo_5 rfl (lv_at hl 0 rfl) ?_
  refine va_get (D := G) (ci := 7) (v := .int m_acts) (C := RX7) (T := TX7) (N := 33) hx hb hts inX7 hown hK hP 0 rfl rfl 9 (by decide) (hts _ tb773) (fun _ h9 => h9) rfl dX7_undo_6 ?_
  refine lv_if_ne (tgt := 16) hx hb dX7_undo_9 (by decide) (fun c_4 => ?_) (fun c_4 => ?_)
  · rw [if_neg c_4] at hM
    refine lv_aload_n hx hb dX7_undo_16 rfl (lv_at hl 0 rfl) ?_
    refine lv_dup hx hb dX7_undo_17 rfl ?_
    refine va_get (D := G) (ci := 7) (v := .int m_acts) (C := RX7) (T := TX7) (N := 33) hx hb hts inX7 hown hK hP 0 rfl rfl 9 (by decide) (hts _ tb773) (fun _ h9 => h9) rfl dX7_undo_18 ?_
    refine lv_iconst (v := 1) hx hb dX7_undo_21 (by decide) ?_
    refine lv_isub hx hb dX7_undo_22 ?_
    refine va_put (D := G) (ci := 7) (v := .int (m_acts - (1 : Int32))) (ty := .int) (C := RX7) (T := TX7) (N := 33) hx hb hts inX7 tyX7 tyX7_ok nmX7 hown hK hP hD hS 0 rfl rfl 9 (by decide) (hts _ tb773) (fun _ h9 => h9) rfl (tyX7_ok 9 (by decide)) rfl rfl (Nat.le_of_ble_eq_true rfl) dX7_undo_23 (fun H locs hP hD hS => ?_)
    have hP : va_P G vwCl (WX7_undo K m_a mA_lane mA_many mA_item mA_poem mA_fresh mA_then mA_was mA_tape mA_strengths mA_sounds mA_stand mA_scheme mA_isKept mA_kept mA_trace (0 : Int32) m_status (m_acts - (1 : Int32)) m_taped m_cursor m_start m_token m_value m_fault m_faultAt m_latest m_stands m_least m_ways m_nearFoot m_nearFeet m_nearCost m_traced m_poem m_was) H := hP
    have hD : va_D A (WX7_undo K m_a mA_lane mA_many mA_item mA_poem mA_fresh mA_then mA_was mA_tape mA_strengths mA_sounds mA_stand mA_scheme mA_isKept mA_kept mA_trace (0 : Int32) m_status (m_acts - (1 : Int32)) m_taped m_cursor m_start m_token m_value m_fault m_faultAt m_latest m_stands m_least m_ways m_nearFoot m_nearFeet m_nearCost m_traced m_poem m_was) := hD
    refine lv_iconst (v := 0) hx hb dX7_undo_26 (by decide) ?_
    refine lv_istore_n (lv' := [(1, .int (0 : Int32)), (0, .ref m_a)]) hx hb dX7_undo_27 rfl hl (by decide) rfl (fun ls hl => ?_)
    exact wX7_undo_b28 C0 m_a mA_lane mA_many mA_item mA_poem mA_fresh mA_then mA_was mA_tape mA_strengths mA_sounds mA_stand mA_scheme mA_isKept mA_kept mA_trace m_status m_taped m_cursor m_start m_token m_value m_fault m_faultAt m_latest m_stands m_least m_ways m_nearFoot m_nearFeet m_nearCost m_traced m_was r o_m_thrown o_m_acts o_m_poem kr  FU (0 : Int32) (m_acts - (1 : Int32)) m_poem (0 : Int32) hM _ _ _ hP hD hS (lv_sub hl [1, 0] rfl)
  · rw [if_pos c_4] at hM
    refine lv_ldcw (v := -1000002) hx hb hown (hts _ tb977) dX7_undo_12 ?_
    have t0 := Option.some.inj hM
    obtain ⟨q1, t1⟩ := Prod.mk.inj t0
    obtain ⟨q2, t2⟩ := Prod.mk.inj t1
    obtain ⟨q3, t3⟩ := Prod.mk.inj t2
    subst q1
    subst q2
    subst q3
    subst t3
    exact kr _ _ _ _ dX7_undo_15 hP hD hS
set_option maxHeartbeats 4000000 in
set_option maxRecDepth 100000 in
theorem kX7_undo (l : Launch) (G : va_G) (K : Nat → ClassId) (m_a mA_lane mA_many mA_item mA_poem mA_fresh mA_then mA_was mA_tape mA_strengths mA_sounds mA_stand mA_scheme mA_isKept mA_kept mA_trace : Nat) (m_thrown : Int32) (m_status : Int32) (m_acts : Int32) (m_taped : Int32) (m_cursor : Int32) (m_start : Int32) (m_token : Int32) (m_value : Int32) (m_fault : Int32) (m_faultAt : Int32) (m_latest : Int32) (m_stands : Int32) (m_least : Int32) (m_ways : Int32) (m_nearFoot : Int32) (m_nearFeet : Int32) (m_nearCost : Int32) (m_traced : Int32) (m_poem : Nat → Int32) (m_was : Nat → Int32)  (sz : Nat) (r : Int32) (o_m_thrown : Int32) (o_m_acts : Int32) (o_m_poem : Nat → Int32) (hM : mX7_undo m_was m_thrown m_acts m_poem = some (r, o_m_thrown, o_m_acts, o_m_poem)) : Met l yX7_undo (mC yX7_undo cX7_undo 2 (some .int)) rmX7_undo (va_Pc [.ref m_a] (PCe G K E0 (WX7_undo K m_a mA_lane mA_many mA_item mA_poem mA_fresh mA_then mA_was mA_tape mA_strengths mA_sounds mA_stand mA_scheme mA_isKept mA_kept mA_trace m_thrown m_status m_acts m_taped m_cursor m_start m_token m_value m_fault m_faultAt m_latest m_stands m_least m_ways m_nearFoot m_nearFeet m_nearCost m_traced m_poem m_was) sz)) (va_Qi (fun (x : Int32) (_ : Unit) => x = r) (fun _ t => va_P G vwCl (WX7_undo K m_a mA_lane mA_many mA_item mA_poem mA_fresh mA_then mA_was mA_tape mA_strengths mA_sounds mA_stand mA_scheme mA_isKept mA_kept mA_trace o_m_thrown m_status o_m_acts m_taped m_cursor m_start m_token m_value m_fault m_faultAt m_latest m_stands m_least m_ways m_nearFoot m_nearFeet m_nearCost m_traced o_m_poem m_was) t.heap) (va_A (WX7_undo K m_a mA_lane mA_many mA_item mA_poem mA_fresh mA_then mA_was mA_tape mA_strengths mA_sounds mA_stand mA_scheme mA_isKept mA_kept mA_trace m_thrown m_status m_acts m_taped m_cursor m_start m_token m_value m_fault m_faultAt m_latest m_stands m_least m_ways m_nearFoot m_nearFeet m_nearCost m_traced m_poem m_was) sz)) rmX7_undo.cells rmX7_undo.slots (va_A (WX7_undo K m_a mA_lane mA_many mA_item mA_poem mA_fresh mA_then mA_was mA_tape mA_strengths mA_sounds mA_stand mA_scheme mA_isKept mA_kept mA_trace m_thrown m_status m_acts m_taped m_cursor m_start m_token m_value m_fault m_faultAt m_latest m_stands m_least m_ways m_nearFoot m_nearFeet m_nearCost m_traced m_poem m_was) sz) := by
  refine Met.ofW (cc := cX7_undo) (maxL := 2) (ret := (some .int)) (by decide) rfl ?_
  intro p e s m args below meth c s₁ B hml hv
  obtain ⟨rfl, hsz, hP, hK, hD0, hE⟩ := hv
  have hx := B.exec
  have hb := B.bytes
  have hr := B.returns
  have hts0 := atoms_spec (ws := mC yX7_undo cX7_undo 2 (some .int)) B.pre
  have hts : ∀ w ∈ tbG, w.before _ s = true := fun w h => hts0 w (List.mem_cons_of_mem _ h)
  have hown : s.vm.findClass RX7 = some m.cls := findClass_of_methodNamed B.named
  subst hsz
  have hD := hD0.self (sz := s.heap.size)
  generalize hAe : va_A (WX7_undo K m_a mA_lane mA_many mA_item mA_poem mA_fresh mA_then mA_was mA_tape mA_strengths mA_sounds mA_stand mA_scheme mA_isKept mA_kept mA_trace m_thrown m_status m_acts m_taped m_cursor m_start m_token m_value m_fault m_faultAt m_latest m_stands m_least m_ways m_nearFoot m_nearFeet m_nearCost m_traced m_poem m_was) s.heap.size = A at hD hE ⊢
  have hA : ∀ q : Nat, s.heap.size ≤ q → A q := fun q h => by rw [← hAe]; exact Or.inr h
  have hS : va_S A s.heap s.heap [] := va_S.rf
  have hl := lv_entry ([.ref m_a]) (n := 2) (Nat.le_of_ble_eq_true rfl)
  rw [lg_entry_eq]
  generalize (lg_sl ([.ref m_a]) ++ List.replicate (2 - (lg_sl ([.ref m_a])).length) Slot.unset).toArray = ls at hl ⊢
  have hl : lv_has ls 2 [(0, .ref m_a)] := hl
  exact wX7_undo_b0 ⟨hx, hb, hml, hown, hts, hK, hA, E0_ok, hE⟩ m_a mA_lane mA_many mA_item mA_poem mA_fresh mA_then mA_was mA_tape mA_strengths mA_sounds mA_stand mA_scheme mA_isKept mA_kept mA_trace m_status m_taped m_cursor m_start m_token m_value m_fault m_faultAt m_latest m_stands m_least m_ways m_nearFoot m_nearFeet m_nearCost m_traced m_was r o_m_thrown o_m_acts o_m_poem (fun H locs ls pc hdg hP hD hS => W.iret (v := r) hx hb hr (fun t ht hW => ⟨⟨r, (), rfl, rfl, (show va_P G vwCl _ t.heap by rw [ht]; exact hP)⟩, hS.F ht⟩) hS.2.2 hdg) m_thrown m_acts m_poem  hM _ _ _ hP hD hS hl
