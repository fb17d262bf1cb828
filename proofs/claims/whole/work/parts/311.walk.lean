abbrev WX7_put (K : Nat → ClassId) (m_a mA_lane mA_many mA_item mA_poem mA_fresh mA_then mA_was mA_tape mA_strengths mA_sounds mA_stand mA_scheme mA_isKept mA_kept mA_trace : Nat) (m_thrown : Int32) (m_status : Int32) (m_acts : Int32) (m_taped : Int32) (m_cursor : Int32) (m_start : Int32) (m_token : Int32) (m_value : Int32) (m_fault : Int32) (m_faultAt : Int32) (m_latest : Int32) (m_stands : Int32) (m_least : Int32) (m_ways : Int32) (m_nearFoot : Int32) (m_nearFeet : Int32) (m_nearCost : Int32) (m_traced : Int32) (m_lane : Nat → Int32) (m_many : Nat → Int32) (m_item : Nat → Int32) (m_poem : Nat → Int32) (m_was : Nat → Int32) : va_W := [(m_a, .inr (7, [.int m_thrown, .int m_status, .ref mA_lane, .ref mA_many, .ref mA_item, .ref mA_poem, .ref mA_fresh, .ref mA_then, .ref mA_was, .int m_acts, .ref mA_tape, .int m_taped, .int m_cursor, .int m_start, .int m_token, .int m_value, .int m_fault, .int m_faultAt, .int m_latest, .ref mA_strengths, .ref mA_sounds, .ref mA_stand, .int m_stands, .int m_least, .int m_ways, .ref mA_scheme, .int m_nearFoot, .int m_nearFeet, .int m_nearCost, .ref mA_isKept, .ref mA_kept, .ref mA_trace, .int m_traced])), aI K mA_lane 8 m_lane, aI K mA_many 8 m_many, aI K mA_item 320 m_item, aI K mA_poem 207 m_poem, aI K mA_was 4968 m_was]
def rmX7_put : Room := { frames := 2, cells := 0, slots := 0, locals := 46 }
theorem hdX7_put : yX7_put.cls = RX7 ∧ yX7_put.cls ≠ "java/lang/invoke/MethodHandle" ∧ yX7_put.cls ≠ "java/lang/invoke/VarHandle" ∧ (parseMethodDescriptor yX7_put.desc).map (fun d => d.parameters.length) = some 5 := by decide +kernel
set_option maxHeartbeats 4000000 in
set_option maxRecDepth 100000 in
theorem wX7_put_b331 {p : Program} {l : Launch} {e : Env} {s : State} {m : MethodId} {args : Array Value} {below : List Frame} {meth : Method} {c : Code} {Q : State → Prop} {G : va_G} {K : Nat → ClassId} {A : Nat → Prop} (C0 : CX p s m args c cX7_put 10 RX7 G K E0 A) (m_a mA_lane mA_many mA_item mA_poem mA_fresh mA_then mA_was mA_tape mA_strengths mA_sounds mA_stand mA_scheme mA_isKept mA_kept mA_trace : Nat) (m_taped : Int32) (m_cursor : Int32) (m_start : Int32) (m_token : Int32) (m_value : Int32) (m_fault : Int32) (m_faultAt : Int32) (m_latest : Int32) (m_stands : Int32) (m_least : Int32) (m_ways : Int32) (m_nearFoot : Int32) (m_nearFeet : Int32) (m_nearCost : Int32) (m_traced : Int32) (m_lane : Nat → Int32) (m_many : Nat → Int32) (m_item : Nat → Int32) (p1 : Int32) (p2 : Int32) (p3 : Int32) (p4 : Int32) (p5 : Int32) (r : Int32) (o_m_thrown : Int32) (o_m_status : Int32) (o_m_acts : Int32) (o_m_poem : Nat → Int32) (o_m_was : Nat → Int32) (kr : ∀ (H : Heap) (locs : List Loc) (ls : Array Slot) (pc : Nat), decode cX7_put pc = .ok (.ireturn, 1) → va_P G vwCl (WX7_put K m_a mA_lane mA_many mA_item mA_poem mA_fresh mA_then mA_was mA_tape mA_strengths mA_sounds mA_stand mA_scheme mA_isKept mA_kept mA_trace o_m_thrown o_m_status o_m_acts m_taped m_cursor m_start m_token m_value m_fault m_faultAt m_latest m_stands m_least m_ways m_nearFoot m_nearFeet m_nearCost m_traced m_lane m_many m_item o_m_poem o_m_was) H → va_D A (WX7_put K m_a mA_lane mA_many mA_item mA_poem mA_fresh mA_then mA_was mA_tape mA_strengths mA_sounds mA_stand mA_scheme mA_isKept mA_kept mA_trace o_m_thrown o_m_status o_m_acts m_taped m_cursor m_start m_token m_value m_fault m_faultAt m_latest m_stands m_least m_ways m_nearFoot m_nearFeet m_nearCost m_traced m_lane m_many m_item o_m_poem o_m_was) → va_S A s.heap H locs → W p l e rmX7_put s m args below meth c H locs 0 0 Q (F0 m pc ls [.int r])) (n : Nat) : ∀ (m_thrown : Int32) (m_status : Int32) (m_acts : Int32) (m_poem : Nat → Int32) (m_was : Nat → Int32) (x8 : Int32) (x9 : Int32), mX7_put_b331 m_lane m_many m_item p1 p2 p3 p4 p5  n m_thrown m_status m_acts m_poem m_was x8 x9 = some (r, o_m_thrown, o_m_status, o_m_acts, o_m_poem, o_m_was) → ∀ (H : Heap) (locs : List Loc) (ls : Array Slot), va_P G vwCl (WX7_put K m_a mA_lane mA_many mA_item mA_poem mA_fresh mA_then mA_was mA_tape mA_strengths mA_sounds mA_stand mA_scheme mA_isKept mA_kept mA_trace m_thrown m_status m_acts m_taped m_cursor m_start m_token m_value m_fault m_faultAt m_latest m_stands m_least m_ways m_nearFoot m_nearFeet m_nearCost m_traced m_lane m_many m_item m_poem m_was) H → va_D A (WX7_put K m_a mA_lane mA_many mA_item mA_poem mA_fresh mA_then mA_was mA_tape mA_strengths mA_sounds mA_stand mA_scheme mA_isKept mA_kept mA_trace m_thrown m_status m_acts m_taped m_cursor m_start m_token m_value m_fault m_faultAt m_latest m_stands m_least m_ways m_nearFoot m_nearFeet m_nearCost m_traced m_lane m_many m_item m_poem m_was) → va_S A s.heap H locs → lv_has ls 10 [(0, .ref m_a), (1, .int p1), (4, .int p4), (5, .int p5), (8, .int x8), (9, .int x9)] → W p l e rmX7_put s m args below meth c H locs 0 0 Q (F0 m 331 ls []) := by
  obtain ⟨hx, hb, hml, hown, hts, hK, hA, hEo, hE⟩ := id C0
  induction n with
  | zero =>
    intro m_thrown m_status m_acts m_poem m_was x8 x9 hM
    cases hM
  | succ n ih =>
    intro m_thrown m_status m_acts m_poem m_was x8 x9 hM H locs ls hP hD hS hl
    rw [mX7_put_b331] at hM
    refine lv_iload hx hb dX7_put_331 (lv_at hl 5 rfl) ?_
    refine lv_iload hx hb dX7_put_333 (lv_at hl 3 rfl) ?_
    refine lv_icmp_ge (tgt := 375) hx hb dX7_put_335 (by decide) (fun c_1 => ?_) (fun c_1 => ?_)
    · rw [if_pos c_1] at hM
      refine lv_aload_n hx hb dX7_put_375 rfl (lv_at hl 0 rfl) ?_
      refine va_get (D := G) (ci := 7) (v := .ref mA_poem) (C := RX7) (T := TX7) (N := 33) hx hb hts inX7 hown hK hP 0 rfl rfl 5 (by decide) (hts _ tb769) (fun _ h9 => h9) rfl dX7_put_376 ?_
      refine lv_iconst (v := 3) hx hb dX7_put_379 (by decide) ?_
      refine lv_iload_n hx hb dX7_put_380 rfl (lv_at hl 1 rfl) ?_
      refine lv_iadd hx hb dX7_put_381 ?_
      refine lv_dup2_11 hx hb dX7_put_382 rfl rfl ?_
      obtain ⟨g_2, hM⟩ := ng hM
      refine va_iald hx hb hK hP 4 0 rfl rfl g_2 dX7_put_383 ?_
      refine lv_iconst (v := 1) hx hb dX7_put_384 (by decide) ?_
      refine lv_iadd hx hb dX7_put_385 ?_
      obtain ⟨g_3, hM⟩ := ng hM
      refine va_iast hx hb hK hP hD hS 4 0 rfl rfl g_3 dX7_put_386 (fun H locs hP hD hS => ?_)
      have hP : va_P G vwCl (WX7_put K m_a mA_lane mA_many mA_item mA_poem mA_fresh mA_then mA_was mA_tape mA_strengths mA_sounds mA_stand mA_scheme mA_isKept mA_kept mA_trace m_thrown m_status m_acts m_taped m_cursor m_start m_token m_value m_fault m_faultAt m_latest m_stands m_least m_ways m_nearFoot m_nearFeet m_nearCost m_traced m_lane m_many m_item (upd m_poem ((3 : Int32) + p1).toNatClampNeg ((m_poem ((3 : Int32) + p1).toNatClampNeg) + (1 : Int32))) m_was) H := hP
      have hD : va_D A (WX7_put K m_a mA_lane mA_many mA_item mA_poem mA_fresh mA_then mA_was mA_tape mA_strengths mA_sounds mA_stand mA_scheme mA_isKept mA_kept mA_trace m_thrown m_status m_acts m_taped m_cursor m_start m_token m_value m_fault m_faultAt m_latest m_stands m_least m_ways m_nearFoot m_nearFeet m_nearCost m_traced m_lane m_many m_item (upd m_poem ((3 : Int32) + p1).toNatClampNeg ((m_poem ((3 : Int32) + p1).toNatClampNeg) + (1 : Int32))) m_was) := hD
      refine lv_iload hx hb dX7_put_387 (lv_at hl 4 rfl) ?_
      have t0 := Option.some.inj hM
      obtain ⟨q1, t1⟩ := Prod.mk.inj t0
      obtain ⟨q2, t2⟩ := Prod.mk.inj t1
      obtain ⟨q3, t3⟩ := Prod.mk.inj t2
      obtain ⟨q4, t4⟩ := Prod.mk.inj t3
      obtain ⟨q5, t5⟩ := Prod.mk.inj t4
      subst q1
      subst q2
      subst q3
      subst q4
      subst q5
      subst t5
      exact kr _ _ _ _ dX7_put_389 hP hD hS
    · rw [if_neg c_1] at hM
      refine lv_aload_n hx hb dX7_put_338 rfl (lv_at hl 0 rfl) ?_
      refine va_get (D := G) (ci := 7) (v := .ref mA_poem) (C := RX7) (T := TX7) (N := 33) hx hb hts inX7 hown hK hP 0 rfl rfl 5 (by decide) (hts _ tb769) (fun _ h9 => h9) rfl dX7_put_339 ?_
      refine lv_bipush (v := 7) hx hb dX7_put_342 (by decide) ?_
      refine lv_bipush (v := 10) hx hb dX7_put_344 (by decide) ?_
      refine lv_iload hx hb dX7_put_346 (lv_at hl 4 rfl) ?_
      refine lv_imul hx hb dX7_put_348 ?_
      refine lv_iadd hx hb dX7_put_349 ?_
      refine lv_iconst (v := 2) hx hb dX7_put_350 (by decide) ?_
      refine lv_iadd hx hb dX7_put_351 ?_
      refine lv_iload hx hb dX7_put_352 (lv_at hl 5 rfl) ?_
      refine lv_iadd hx hb dX7_put_354 ?_
      refine lv_aload_n hx hb dX7_put_355 rfl (lv_at hl 0 rfl) ?_
      refine va_get (D := G) (ci := 7) (v := .ref mA_item) (C := RX7) (T := TX7) (N := 33) hx hb hts inX7 hown hK hP 0 rfl rfl 4 (by decide) (hts _ tb768) (fun _ h9 => h9) rfl dX7_put_356 ?_
      refine lv_bipush (v := 40) hx hb dX7_put_359 (by decide) ?_
      refine lv_iload hx hb dX7_put_361 (lv_at hl 2 rfl) ?_
      refine lv_imul hx hb dX7_put_363 ?_
      refine lv_iload hx hb dX7_put_364 (lv_at hl 5 rfl) ?_
      refine lv_iadd hx hb dX7_put_366 ?_
      obtain ⟨g_4, hM⟩ := ng hM
      refine va_iald hx hb hK hP 3 0 rfl rfl g_4 dX7_put_367 ?_
      obtain ⟨g_5, hM⟩ := ng hM
      refine va_iast hx hb hK hP hD hS 4 0 rfl rfl g_5 dX7_put_368 (fun H locs hP hD hS => ?_)
      have hP : va_P G vwCl (WX7_put K m_a mA_lane mA_many mA_item mA_poem mA_fresh mA_then mA_was mA_tape mA_strengths mA_sounds mA_stand mA_scheme mA_isKept mA_kept mA_trace m_thrown m_status m_acts m_taped m_cursor m_start m_token m_value m_fault m_faultAt m_latest m_stands m_least m_ways m_nearFoot m_nearFeet m_nearCost m_traced m_lane m_many m_item (upd m_poem ((((7 : Int32) + ((10 : Int32) * x8)) + (2 : Int32)) + x9).toNatClampNeg (m_item (((40 : Int32) * p4) + x9).toNatClampNeg)) m_was) H := hP
      have hD : va_D A (WX7_put K m_a mA_lane mA_many mA_item mA_poem mA_fresh mA_then mA_was mA_tape mA_strengths mA_sounds mA_stand mA_scheme mA_isKept mA_kept mA_trace m_thrown m_status m_acts m_taped m_cursor m_start m_token m_value m_fault m_faultAt m_latest m_stands m_least m_ways m_nearFoot m_nearFeet m_nearCost m_traced m_lane m_many m_item (upd m_poem ((((7 : Int32) + ((10 : Int32) * x8)) + (2 : Int32)) + x9).toNatClampNeg (m_item (((40 : Int32) * p4) + x9).toNatClampNeg)) m_was) := hD
      refine lv_iinc (v := (x9 + 1)) (lv' := [(9, .int (x9 + 1)), (0, .ref m_a), (1, .int p1), (4, .int p4), (5, .int p5), (8, .int x8)]) hx hb dX7_put_369 hl (k := 5) rfl rfl (by decide) rfl (fun ls hl => ?_)
      refine lv_goto (tgt := 331) hx hb dX7_put_372 (by decide) ?_
      exact ih m_thrown m_status m_acts (upd m_poem ((((7 : Int32) + ((10 : Int32) * x8)) + (2 : Int32)) + x9).toNatClampNeg (m_item (((40 : Int32) * p4) + x9).toNatClampNeg)) m_was x8 (x9 + 1) hM _ _ _ hP hD hS (lv_sub hl [1, 2, 3, 4, 5, 0] rfl)
set_option maxHeartbeats 4000000 in
set_option maxRecDepth 100000 in
theorem wX7_put_b267 {p : Program} {l : Launch} {e : Env} {s : State} {m : MethodId} {args : Array Value} {below : List Frame} {meth : Method} {c : Code} {Q : State → Prop} {G : va_G} {K : Nat → ClassId} {A : Nat → Prop} (C0 : CX p s m args c cX7_put 10 RX7 G K E0 A) (m_a mA_lane mA_many mA_item mA_poem mA_fresh mA_then mA_was mA_tape mA_strengths mA_sounds mA_stand mA_scheme mA_isKept mA_kept mA_trace : Nat) (m_taped : Int32) (m_cursor : Int32) (m_start : Int32) (m_token : Int32) (m_value : Int32) (m_fault : Int32) (m_faultAt : Int32) (m_latest : Int32) (m_stands : Int32) (m_least : Int32) (m_ways : Int32) (m_nearFoot : Int32) (m_nearFeet : Int32) (m_nearCost : Int32) (m_traced : Int32) (m_lane : Nat → Int32) (m_many : Nat → Int32) (m_item : Nat → Int32) (p1 : Int32) (p2 : Int32) (p3 : Int32) (p4 : Int32) (p5 : Int32) (r : Int32) (o_m_thrown : Int32) (o_m_status : Int32) (o_m_acts : Int32) (o_m_poem : Nat → Int32) (o_m_was : Nat → Int32) (kr : ∀ (H : Heap) (locs : List Loc) (ls : Array Slot) (pc : Nat), decode cX7_put pc = .ok (.ireturn, 1) → va_P G vwCl (WX7_put K m_a mA_lane mA_many mA_item mA_poem mA_fresh mA_then mA_was mA_tape mA_strengths mA_sounds mA_stand mA_scheme mA_isKept mA_kept mA_trace o_m_thrown o_m_status o_m_acts m_taped m_cursor m_start m_token m_value m_fault m_faultAt m_latest m_stands m_least m_ways m_nearFoot m_nearFeet m_nearCost m_traced m_lane m_many m_item o_m_poem o_m_was) H → va_D A (WX7_put K m_a mA_lane mA_many mA_item mA_poem mA_fresh mA_then mA_was mA_tape mA_strengths mA_sounds mA_stand mA_scheme mA_isKept mA_kept mA_trace o_m_thrown o_m_status o_m_acts m_taped m_cursor m_start m_token m_value m_fault m_faultAt m_latest m_stands m_least m_ways m_nearFoot m_nearFeet m_nearCost m_traced m_lane m_many m_item o_m_poem o_m_was) → va_S A s.heap H locs → W p l e rmX7_put s m args below meth c H locs 0 0 Q (F0 m pc ls [.int r])) (n : Nat) : ∀ (m_thrown : Int32) (m_status : Int32) (m_acts : Int32) (m_poem : Nat → Int32) (m_was : Nat → Int32) (x8 : Int32) (x9 : Int32), mX7_put_b267 m_lane m_many m_item p1 p2 p3 p4 p5  n m_thrown m_status m_acts m_poem m_was x8 x9 = some (r, o_m_thrown, o_m_status, o_m_acts, o_m_poem, o_m_was) → ∀ (H : Heap) (locs : List Loc) (ls : Array Slot), va_P G vwCl (WX7_put K m_a mA_lane mA_many mA_item mA_poem mA_fresh mA_then mA_was mA_tape mA_strengths mA_sounds mA_stand mA_scheme mA_isKept mA_kept mA_trace m_thrown m_status m_acts m_taped m_cursor m_start m_token m_value m_fault m_faultAt m_latest m_stands m_least m_ways m_nearFoot m_nearFeet m_nearCost m_traced m_lane m_many m_item m_poem m_was) H → va_D A (WX7_put K m_a mA_lane mA_many mA_item mA_poem mA_fresh mA_then mA_was mA_tape mA_strengths mA_sounds mA_stand mA_scheme mA_isKept mA_kept mA_trace m_thrown m_status m_acts m_taped m_cursor m_start m_token m_value m_fault m_faultAt m_latest m_stands m_least m_ways m_nearFoot m_nearFeet m_nearCost m_traced m_lane m_many m_item m_poem m_was) → va_S A s.heap H locs → lv_has ls 10 [(0, .ref m_a), (1, .int p1), (3, .int p3), (4, .int p4), (5, .int p5), (8, .int x8), (9, .int x9)] → W p l e rmX7_put s m args below meth c H locs 0 0 Q (F0 m 267 ls []) := by
  obtain ⟨hx, hb, hml, hown, hts, hK, hA, hEo, hE⟩ := id C0
  induction n with
  | zero =>
    intro m_thrown m_status m_acts m_poem m_was x8 x9 hM
    cases hM
  | succ n ih =>
    intro m_thrown m_status m_acts m_poem m_was x8 x9 hM H locs ls hP hD hS hl
    rw [mX7_put_b267] at hM
    refine lv_iload hx hb dX7_put_267 (lv_at hl 6 rfl) ?_
    refine lv_bipush (v := 10) hx hb dX7_put_269 (by decide) ?_
    refine lv_icmp_ge (tgt := 297) hx hb dX7_put_271 (by decide) (fun c_6 => ?_) (fun c_6 => ?_)
    · rw [if_pos c_6] at hM
      refine lv_aload_n hx hb dX7_put_297 rfl (lv_at hl 0 rfl) ?_
      refine va_get (D := G) (ci := 7) (v := .ref mA_poem) (C := RX7) (T := TX7) (N := 33) hx hb hts inX7 hown hK hP 0 rfl rfl 5 (by decide) (hts _ tb769) (fun _ h9 => h9) rfl dX7_put_298 ?_
      refine lv_bipush (v := 7) hx hb dX7_put_301 (by decide) ?_
      refine lv_bipush (v := 10) hx hb dX7_put_303 (by decide) ?_
      refine lv_iload hx hb dX7_put_305 (lv_at hl 5 rfl) ?_
      refine lv_imul hx hb dX7_put_307 ?_
      refine lv_iadd hx hb dX7_put_308 ?_
      refine lv_iload_n hx hb dX7_put_309 rfl (lv_at hl 2 rfl) ?_
      obtain ⟨g_7, hM⟩ := ng hM
      refine va_iast hx hb hK hP hD hS 4 0 rfl rfl g_7 dX7_put_310 (fun H locs hP hD hS => ?_)
      have hP : va_P G vwCl (WX7_put K m_a mA_lane mA_many mA_item mA_poem mA_fresh mA_then mA_was mA_tape mA_strengths mA_sounds mA_stand mA_scheme mA_isKept mA_kept mA_trace m_thrown m_status m_acts m_taped m_cursor m_start m_token m_value m_fault m_faultAt m_latest m_stands m_least m_ways m_nearFoot m_nearFeet m_nearCost m_traced m_lane m_many m_item (upd m_poem ((7 : Int32) + ((10 : Int32) * x8)).toNatClampNeg p3) m_was) H := hP
      have hD : va_D A (WX7_put K m_a mA_lane mA_many mA_item mA_poem mA_fresh mA_then mA_was mA_tape mA_strengths mA_sounds mA_stand mA_scheme mA_isKept mA_kept mA_trace m_thrown m_status m_acts m_taped m_cursor m_start m_token m_value m_fault m_faultAt m_latest m_stands m_least m_ways m_nearFoot m_nearFeet m_nearCost m_traced m_lane m_many m_item (upd m_poem ((7 : Int32) + ((10 : Int32) * x8)).toNatClampNeg p3) m_was) := hD
      refine lv_aload_n hx hb dX7_put_311 rfl (lv_at hl 0 rfl) ?_
      refine va_get (D := G) (ci := 7) (v := .ref mA_poem) (C := RX7) (T := TX7) (N := 33) hx hb hts inX7 hown hK hP 0 rfl rfl 5 (by decide) (hts _ tb769) (fun _ h9 => h9) rfl dX7_put_312 ?_
      refine lv_bipush (v := 7) hx hb dX7_put_315 (by decide) ?_
      refine lv_bipush (v := 10) hx hb dX7_put_317 (by decide) ?_
      refine lv_iload hx hb dX7_put_319 (lv_at hl 5 rfl) ?_
      refine lv_imul hx hb dX7_put_321 ?_
      refine lv_iadd hx hb dX7_put_322 ?_
      refine lv_iconst (v := 1) hx hb dX7_put_323 (by decide) ?_
      refine lv_iadd hx hb dX7_put_324 ?_
      refine lv_iload hx hb dX7_put_325 (lv_at hl 4 rfl) ?_
      obtain ⟨g_8, hM⟩ := ng hM
      refine va_iast hx hb hK hP hD hS 4 0 rfl rfl g_8 dX7_put_327 (fun H locs hP hD hS => ?_)
      have hP : va_P G vwCl (WX7_put K m_a mA_lane mA_many mA_item mA_poem mA_fresh mA_then mA_was mA_tape mA_strengths mA_sounds mA_stand mA_scheme mA_isKept mA_kept mA_trace m_thrown m_status m_acts m_taped m_cursor m_start m_token m_value m_fault m_faultAt m_latest m_stands m_least m_ways m_nearFoot m_nearFeet m_nearCost m_traced m_lane m_many m_item (upd (upd m_poem ((7 : Int32) + ((10 : Int32) * x8)).toNatClampNeg p3) (((7 : Int32) + ((10 : Int32) * x8)) + (1 : Int32)).toNatClampNeg p5) m_was) H := hP
      have hD : va_D A (WX7_put K m_a mA_lane mA_many mA_item mA_poem mA_fresh mA_then mA_was mA_tape mA_strengths mA_sounds mA_stand mA_scheme mA_isKept mA_kept mA_trace m_thrown m_status m_acts m_taped m_cursor m_start m_token m_value m_fault m_faultAt m_latest m_stands m_least m_ways m_nearFoot m_nearFeet m_nearCost m_traced m_lane m_many m_item (upd (upd m_poem ((7 : Int32) + ((10 : Int32) * x8)).toNatClampNeg p3) (((7 : Int32) + ((10 : Int32) * x8)) + (1 : Int32)).toNatClampNeg p5) m_was) := hD
      refine lv_iconst (v := 0) hx hb dX7_put_328 (by decide) ?_
      refine lv_istore (lv' := [(9, .int (0 : Int32)), (0, .ref m_a), (1, .int p1), (3, .int p3), (4, .int p4), (5, .int p5), (8, .int x8)]) hx hb dX7_put_329 hl (by decide) rfl (fun ls hl => ?_)
      exact wX7_put_b331 C0 m_a mA_lane mA_many mA_item mA_poem mA_fresh mA_then mA_was mA_tape mA_strengths mA_sounds mA_stand mA_scheme mA_isKept mA_kept mA_trace m_taped m_cursor m_start m_token m_value m_fault m_faultAt m_latest m_stands m_least m_ways m_nearFoot m_nearFeet m_nearCost m_traced m_lane m_many m_item p1 p2 p3 p4 p5 r o_m_thrown o_m_status o_m_acts o_m_poem o_m_was kr  FU m_thrown m_status m_acts (upd (upd m_poem ((7 : Int32) + ((10 : Int32) * x8)).toNatClampNeg p3) (((7 : Int32) + ((10 : Int32) * x8)) + (1 : Int32)).toNatClampNeg p5) m_was x8 (0 : Int32) hM _ _ _ hP hD hS (lv_sub hl [1, 2, 4, 5, 6, 0] rfl)
    · rw [if_neg c_6] at hM
      refine lv_aload_n hx hb dX7_put_274 rfl (lv_at hl 0 rfl) ?_
      refine va_get (D := G) (ci := 7) (v := .ref mA_poem) (C := RX7) (T := TX7) (N := 33) hx hb hts inX7 hown hK hP 0 rfl rfl 5 (by decide) (hts _ tb769) (fun _ h9 => h9) rfl dX7_put_275 ?_
      refine lv_bipush (v := 7) hx hb dX7_put_278 (by decide) ?_
      refine lv_bipush (v := 10) hx hb dX7_put_280 (by decide) ?_
      refine lv_iload hx hb dX7_put_282 (lv_at hl 5 rfl) ?_
      refine lv_imul hx hb dX7_put_284 ?_
      refine lv_iadd hx hb dX7_put_285 ?_
      refine lv_iload hx hb dX7_put_286 (lv_at hl 6 rfl) ?_
      refine lv_iadd hx hb dX7_put_288 ?_
      refine lv_iconst (v := 0) hx hb dX7_put_289 (by decide) ?_
      obtain ⟨g_9, hM⟩ := ng hM
      refine va_iast hx hb hK hP hD hS 4 0 rfl rfl g_9 dX7_put_290 (fun H locs hP hD hS => ?_)
      have hP : va_P G vwCl (WX7_put K m_a mA_lane mA_many mA_item mA_poem mA_fresh mA_then mA_was mA_tape mA_strengths mA_sounds mA_stand mA_scheme mA_isKept mA_kept mA_trace m_thrown m_status m_acts m_taped m_cursor m_start m_token m_value m_fault m_faultAt m_latest m_stands m_least m_ways m_nearFoot m_nearFeet m_nearCost m_traced m_lane m_many m_item (upd m_poem (((7 : Int32) + ((10 : Int32) * x8)) + x9).toNatClampNeg (0 : Int32)) m_was) H := hP
      have hD : va_D A (WX7_put K m_a mA_lane mA_many mA_item mA_poem mA_fresh mA_then mA_was mA_tape mA_strengths mA_sounds mA_stand mA_scheme mA_isKept mA_kept mA_trace m_thrown m_status m_acts m_taped m_cursor m_start m_token m_value m_fault m_faultAt m_latest m_stands m_least m_ways m_nearFoot m_nearFeet m_nearCost m_traced m_lane m_many m_item (upd m_poem (((7 : Int32) + ((10 : Int32) * x8)) + x9).toNatClampNeg (0 : Int32)) m_was) := hD
      refine lv_iinc (v := (x9 + 1)) (lv' := [(9, .int (x9 + 1)), (0, .ref m_a), (1, .int p1), (3, .int p3), (4, .int p4), (5, .int p5), (8, .int x8)]) hx hb dX7_put_291 hl (k := 6) rfl rfl (by decide) rfl (fun ls hl => ?_)
      refine lv_goto (tgt := 267) hx hb dX7_put_294 (by decide) ?_
      exact ih m_thrown m_status m_acts (upd m_poem (((7 : Int32) + ((10 : Int32) * x8)) + x9).toNatClampNeg (0 : Int32)) m_was x8 (x9 + 1) hM _ _ _ hP hD hS (lv_sub hl [1, 2, 3, 4, 5, 6, 0] rfl)
set_option maxHeartbeats 4000000 in
set_option maxRecDepth 100000 in
theorem wX7_put_b228 {p : Program} {l : Launch} {e : Env} {s : State} {m : MethodId} {args : Array Value} {below : List Frame} {meth : Method} {c : Code} {Q : State → Prop} {G : va_G} {K : Nat → ClassId} {A : Nat → Prop} (C0 : CX p s m args c cX7_put 10 RX7 G K E0 A) (m_a mA_lane mA_many mA_item mA_poem mA_fresh mA_then mA_was mA_tape mA_strengths mA_sounds mA_stand mA_scheme mA_isKept mA_kept mA_trace : Nat) (m_taped : Int32) (m_cursor : Int32) (m_start : Int32) (m_token : Int32) (m_value : Int32) (m_fault : Int32) (m_faultAt : Int32) (m_latest : Int32) (m_stands : Int32) (m_least : Int32) (m_ways : Int32) (m_nearFoot : Int32) (m_nearFeet : Int32) (m_nearCost : Int32) (m_traced : Int32) (m_lane : Nat → Int32) (m_many : Nat → Int32) (m_item : Nat → Int32) (p1 : Int32) (p2 : Int32) (p3 : Int32) (p4 : Int32) (p5 : Int32) (r : Int32) (o_m_thrown : Int32) (o_m_status : Int32) (o_m_acts : Int32) (o_m_poem : Nat → Int32) (o_m_was : Nat → Int32) (kr : ∀ (H : Heap) (locs : List Loc) (ls : Array Slot) (pc : Nat), decode cX7_put pc = .ok (.ireturn, 1) → va_P G vwCl (WX7_put K m_a mA_lane mA_many mA_item mA_poem mA_fresh mA_then mA_was mA_tape mA_strengths mA_sounds mA_stand mA_scheme mA_isKept mA_kept mA_trace o_m_thrown o_m_status o_m_acts m_taped m_cursor m_start m_token m_value m_fault m_faultAt m_latest m_stands m_least m_ways m_nearFoot m_nearFeet m_nearCost m_traced m_lane m_many m_item o_m_poem o_m_was) H → va_D A (WX7_put K m_a mA_lane mA_many mA_item mA_poem mA_fresh mA_then mA_was mA_tape mA_strengths mA_sounds mA_stand mA_scheme mA_isKept mA_kept mA_trace o_m_thrown o_m_status o_m_acts m_taped m_cursor m_start m_token m_value m_fault m_faultAt m_latest m_stands m_least m_ways m_nearFoot m_nearFeet m_nearCost m_traced m_lane m_many m_item o_m_poem o_m_was) → va_S A s.heap H locs → W p l e rmX7_put s m args below meth c H locs 0 0 Q (F0 m pc ls [.int r])) (n : Nat) : ∀ (m_thrown : Int32) (m_status : Int32) (m_acts : Int32) (m_poem : Nat → Int32) (m_was : Nat → Int32) (x8 : Int32) (x9 : Int32), mX7_put_b228 m_lane m_many m_item p1 p2 p3 p4 p5  n m_thrown m_status m_acts m_poem m_was x8 x9 = some (r, o_m_thrown, o_m_status, o_m_acts, o_m_poem, o_m_was) → ∀ (H : Heap) (locs : List Loc) (ls : Array Slot), va_P G vwCl (WX7_put K m_a mA_lane mA_many mA_item mA_poem mA_fresh mA_then mA_was mA_tape mA_strengths mA_sounds mA_stand mA_scheme mA_isKept mA_kept mA_trace m_thrown m_status m_acts m_taped m_cursor m_start m_token m_value m_fault m_faultAt m_latest m_stands m_least m_ways m_nearFoot m_nearFeet m_nearCost m_traced m_lane m_many m_item m_poem m_was) H → va_D A (WX7_put K m_a mA_lane mA_many mA_item mA_poem mA_fresh mA_then mA_was mA_tape mA_strengths mA_sounds mA_stand mA_scheme mA_isKept mA_kept mA_trace m_thrown m_status m_acts m_taped m_cursor m_start m_token m_value m_fault m_faultAt m_latest m_stands m_least m_ways m_nearFoot m_nearFeet m_nearCost m_traced m_lane m_many m_item m_poem m_was) → va_S A s.heap H locs → lv_has ls 10 [(0, .ref m_a), (1, .int p1), (3, .int p3), (4, .int p4), (5, .int p5), (8, .int x8), (9, .int x9)] → W p l e rmX7_put s m args below meth c H locs 0 0 Q (F0 m 228 ls []) := by
  obtain ⟨hx, hb, hml, hown, hts, hK, hA, hEo, hE⟩ := id C0
  induction n with
  | zero =>
    intro m_thrown m_status m_acts m_poem m_was x8 x9 hM
    cases hM
  | succ n ih =>
    intro m_thrown m_status m_acts m_poem m_was x8 x9 hM H locs ls hP hD hS hl
    rw [mX7_put_b228] at hM
    refine lv_iload hx hb dX7_put_228 (lv_at hl 6 rfl) ?_
    refine lv_bipush (v := 7) hx hb dX7_put_230 (by decide) ?_
    refine lv_bipush (v := 10) hx hb dX7_put_232 (by decide) ?_
    refine lv_iload hx hb dX7_put_234 (lv_at hl 5 rfl) ?_
    refine lv_imul hx hb dX7_put_236 ?_
    refine lv_iadd hx hb dX7_put_237 ?_
    refine lv_icmp_lt (tgt := 264) hx hb dX7_put_238 (by decide) (fun c_10 => ?_) (fun c_10 => ?_)
    · rw [if_pos c_10] at hM
      refine lv_iconst (v := 0) hx hb dX7_put_264 (by decide) ?_
      refine lv_istore (lv' := [(9, .int (0 : Int32)), (0, .ref m_a), (1, .int p1), (3, .int p3), (4, .int p4), (5, .int p5), (8, .int x8)]) hx hb dX7_put_265 hl (by decide) rfl (fun ls hl => ?_)
      exact wX7_put_b267 C0 m_a mA_lane mA_many mA_item mA_poem mA_fresh mA_then mA_was mA_tape mA_strengths mA_sounds mA_stand mA_scheme mA_isKept mA_kept mA_trace m_taped m_cursor m_start m_token m_value m_fault m_faultAt m_latest m_stands m_least m_ways m_nearFoot m_nearFeet m_nearCost m_traced m_lane m_many m_item p1 p2 p3 p4 p5 r o_m_thrown o_m_status o_m_acts o_m_poem o_m_was kr  FU m_thrown m_status m_acts m_poem m_was x8 (0 : Int32) hM _ _ _ hP hD hS (lv_sub hl [1, 2, 3, 4, 5, 6, 0] rfl)
    · rw [if_neg c_10] at hM
      refine lv_aload_n hx hb dX7_put_241 rfl (lv_at hl 0 rfl) ?_
      refine va_get (D := G) (ci := 7) (v := .ref mA_poem) (C := RX7) (T := TX7) (N := 33) hx hb hts inX7 hown hK hP 0 rfl rfl 5 (by decide) (hts _ tb769) (fun _ h9 => h9) rfl dX7_put_242 ?_
      refine lv_iload hx hb dX7_put_245 (lv_at hl 6 rfl) ?_
      refine lv_bipush (v := 10) hx hb dX7_put_247 (by decide) ?_
      refine lv_iadd hx hb dX7_put_249 ?_
      refine lv_aload_n hx hb dX7_put_250 rfl (lv_at hl 0 rfl) ?_
      refine va_get (D := G) (ci := 7) (v := .ref mA_poem) (C := RX7) (T := TX7) (N := 33) hx hb hts inX7 hown hK hP 0 rfl rfl 5 (by decide) (hts _ tb769) (fun _ h9 => h9) rfl dX7_put_251 ?_
      refine lv_iload hx hb dX7_put_254 (lv_at hl 6 rfl) ?_
      obtain ⟨g_11, hM⟩ := ng hM
      refine va_iald hx hb hK hP 4 0 rfl rfl g_11 dX7_put_256 ?_
      obtain ⟨g_12, hM⟩ := ng hM
      refine va_iast hx hb hK hP hD hS 4 0 rfl rfl g_12 dX7_put_257 (fun H locs hP hD hS => ?_)
      have hP : va_P G vwCl (WX7_put K m_a mA_lane mA_many mA_item mA_poem mA_fresh mA_then mA_was mA_tape mA_strengths mA_sounds mA_stand mA_scheme mA_isKept mA_kept mA_trace m_thrown m_status m_acts m_taped m_cursor m_start m_token m_value m_fault m_faultAt m_latest m_stands m_least m_ways m_nearFoot m_nearFeet m_nearCost m_traced m_lane m_many m_item (upd m_poem (x9 + (10 : Int32)).toNatClampNeg (m_poem x9.toNatClampNeg)) m_was) H := hP
      have hD : va_D A (WX7_put K m_a mA_lane mA_many mA_item mA_poem mA_fresh mA_then mA_was mA_tape mA_strengths mA_sounds mA_stand mA_scheme mA_isKept mA_kept mA_trace m_thrown m_status m_acts m_taped m_cursor m_start m_token m_value m_fault m_faultAt m_latest m_stands m_least m_ways m_nearFoot m_nearFeet m_nearCost m_traced m_lane m_many m_item (upd m_poem (x9 + (10 : Int32)).toNatClampNeg (m_poem x9.toNatClampNeg)) m_was) := hD
      refine lv_iinc (v := (x9 + (-1))) (lv' := [(9, .int (x9 + (-1))), (0, .ref m_a), (1, .int p1), (3, .int p3), (4, .int p4), (5, .int p5), (8, .int x8)]) hx hb dX7_put_258 hl (k := 6) rfl rfl (by decide) rfl (fun ls hl => ?_)
      refine lv_goto (tgt := 228) hx hb dX7_put_261 (by decide) ?_
      exact ih m_thrown m_status m_acts (upd m_poem (x9 + (10 : Int32)).toNatClampNeg (m_poem x9.toNatClampNeg)) m_was x8 (x9 + (-1)) hM _ _ _ hP hD hS (lv_sub hl [1, 2, 3, 4, 5, 6, 0] rfl)
set_option maxHeartbeats 4000000 in
set_option maxRecDepth 100000 in
theorem wX7_put_b107 {p : Program} {l : Launch} {e : Env} {s : State} {m : MethodId} {args : Array Value} {below : List Frame} {meth : Method} {c : Code} {Q : State → Prop} {G : va_G} {K : Nat → ClassId} {A : Nat → Prop} (C0 : CX p s m args c cX7_put 10 RX7 G K E0 A) (m_a mA_lane mA_many mA_item mA_poem mA_fresh mA_then mA_was mA_tape mA_strengths mA_sounds mA_stand mA_scheme mA_isKept mA_kept mA_trace : Nat) (m_taped : Int32) (m_cursor : Int32) (m_start : Int32) (m_token : Int32) (m_value : Int32) (m_fault : Int32) (m_faultAt : Int32) (m_latest : Int32) (m_stands : Int32) (m_least : Int32) (m_ways : Int32) (m_nearFoot : Int32) (m_nearFeet : Int32) (m_nearCost : Int32) (m_traced : Int32) (m_lane : Nat → Int32) (m_many : Nat → Int32) (m_item : Nat → Int32) (p1 : Int32) (p2 : Int32) (p3 : Int32) (p4 : Int32) (p5 : Int32) (r : Int32) (o_m_thrown : Int32) (o_m_status : Int32) (o_m_acts : Int32) (o_m_poem : Nat → Int32) (o_m_was : Nat → Int32) (kr : ∀ (H : Heap) (locs : List Loc) (ls : Array Slot) (pc : Nat), decode cX7_put pc = .ok (.ireturn, 1) → va_P G vwCl (WX7_put K m_a mA_lane mA_many mA_item mA_poem mA_fresh mA_then mA_was mA_tape mA_strengths mA_sounds mA_stand mA_scheme mA_isKept mA_kept mA_trace o_m_thrown o_m_status o_m_acts m_taped m_cursor m_start m_token m_value m_fault m_faultAt m_latest m_stands m_least m_ways m_nearFoot m_nearFeet m_nearCost m_traced m_lane m_many m_item o_m_poem o_m_was) H → va_D A (WX7_put K m_a mA_lane mA_many mA_item mA_poem mA_fresh mA_then mA_was mA_tape mA_strengths mA_sounds mA_stand mA_scheme mA_isKept mA_kept mA_trace o_m_thrown o_m_status o_m_acts m_taped m_cursor m_start m_token m_value m_fault m_faultAt m_latest m_stands m_least m_ways m_nearFoot m_nearFeet m_nearCost m_traced m_lane m_many m_item o_m_poem o_m_was) → va_S A s.heap H locs → W p l e rmX7_put s m args below meth c H locs 0 0 Q (F0 m pc ls [.int r])) (n : Nat) : ∀ (m_thrown : Int32) (m_status : Int32) (m_acts : Int32) (m_poem : Nat → Int32) (m_was : Nat → Int32) (x7 : Int32) (x8 : Int32), mX7_put_b107 m_lane m_many m_item p1 p2 p3 p4 p5  n m_thrown m_status m_acts m_poem m_was x7 x8 = some (r, o_m_thrown, o_m_status, o_m_acts, o_m_poem, o_m_was) → ∀ (H : Heap) (locs : List Loc) (ls : Array Slot), va_P G vwCl (WX7_put K m_a mA_lane mA_many mA_item mA_poem mA_fresh mA_then mA_was mA_tape mA_strengths mA_sounds mA_stand mA_scheme mA_isKept mA_kept mA_trace m_thrown m_status m_acts m_taped m_cursor m_start m_token m_value m_fault m_faultAt m_latest m_stands m_least m_ways m_nearFoot m_nearFeet m_nearCost m_traced m_lane m_many m_item m_poem m_was) H → va_D A (WX7_put K m_a mA_lane mA_many mA_item mA_poem mA_fresh mA_then mA_was mA_tape mA_strengths mA_sounds mA_stand mA_scheme mA_isKept mA_kept mA_trace m_thrown m_status m_acts m_taped m_cursor m_start m_token m_value m_fault m_faultAt m_latest m_stands m_least m_ways m_nearFoot m_nearFeet m_nearCost m_traced m_lane m_many m_item m_poem m_was) → va_S A s.heap H locs → lv_has ls 10 [(0, .ref m_a), (1, .int p1), (2, .int p2), (3, .int p3), (4, .int p4), (5, .int p5), (7, .int x7), (8, .int x8)] → W p l e rmX7_put s m args below meth c H locs 0 0 Q (F0 m 107 ls []) := by
  obtain ⟨hx, hb, hml, hown, hts, hK, hA, hEo, hE⟩ := id C0
  induction n with
  | zero =>
    intro m_thrown m_status m_acts m_poem m_was x7 x8 hM
    cases hM
  | succ n ih =>
    intro m_thrown m_status m_acts m_poem m_was x7 x8 hM H locs ls hP hD hS hl
    rw [mX7_put_b107] at hM
    refine lv_iload hx hb dX7_put_107 (lv_at hl 7 rfl) ?_
    refine lv_iload hx hb dX7_put_109 (lv_at hl 5 rfl) ?_
    refine lv_icmp_ge (tgt := 181) hx hb dX7_put_111 (by decide) (fun c_13 => ?_) (fun c_13 => ?_)
    · rw [if_pos c_13] at hM
      refine lv_iload hx hb dX7_put_181 (lv_at hl 6 rfl) ?_
      refine lv_if_ne (tgt := 190) hx hb dX7_put_183 (by decide) (fun c_14 => ?_) (fun c_14 => ?_)
      · rw [if_neg c_14] at hM
        refine lv_aload_n hx hb dX7_put_190 rfl (lv_at hl 0 rfl) ?_
        refine lv_iconst (v := 0) hx hb dX7_put_191 (by decide) ?_
        refine va_put (D := G) (ci := 7) (v := .int (0 : Int32)) (ty := .int) (C := RX7) (T := TX7) (N := 33) hx hb hts inX7 tyX7 tyX7_ok nmX7 hown hK hP hD hS 0 rfl rfl 1 (by decide) (hts _ tb765) (fun _ h9 => h9) rfl (tyX7_ok 1 (by decide)) rfl rfl (Nat.le_of_ble_eq_true rfl) dX7_put_192 (fun H locs hP hD hS => ?_)
        have hP : va_P G vwCl (WX7_put K m_a mA_lane mA_many mA_item mA_poem mA_fresh mA_then mA_was mA_tape mA_strengths mA_sounds mA_stand mA_scheme mA_isKept mA_kept mA_trace m_thrown (0 : Int32) m_acts m_taped m_cursor m_start m_token m_value m_fault m_faultAt m_latest m_stands m_least m_ways m_nearFoot m_nearFeet m_nearCost m_traced m_lane m_many m_item m_poem m_was) H := hP
        have hD : va_D A (WX7_put K m_a mA_lane mA_many mA_item mA_poem mA_fresh mA_then mA_was mA_tape mA_strengths mA_sounds mA_stand mA_scheme mA_isKept mA_kept mA_trace m_thrown (0 : Int32) m_acts m_taped m_cursor m_start m_token m_value m_fault m_faultAt m_latest m_stands m_least m_ways m_nearFoot m_nearFeet m_nearCost m_traced m_lane m_many m_item m_poem m_was) := hD
        refine lv_aload_n hx hb dX7_put_195 rfl (lv_at hl 0 rfl) ?_
        obtain ⟨u0_15, u1_15, hC, hM⟩ := oe2 hM
        refine cV_v (As := []) (rest := []) C0 hP hD hS [0, 4, 5] (kX7_keep l G K m_a mA_lane mA_many mA_item mA_poem mA_fresh mA_then mA_was mA_tape mA_strengths mA_sounds mA_stand mA_scheme mA_isKept mA_kept mA_trace m_thrown (0 : Int32) m_acts m_taped m_cursor m_start m_token m_value m_fault m_faultAt m_latest m_stands m_least m_ways m_nearFoot m_nearFeet m_nearCost m_traced m_poem m_was H.size u0_15 u1_15 hC) rfl rfl rfl tb978 tb980 tp26 tb9 tb981 hdX7_keep (va_recv hK hP (ci := 7) (q0 := 0) rfl rfl) ⟨Nat.le_of_ble_eq_true rfl, Nat.le_of_ble_eq_true rfl⟩ rfl hl.1 (Nat.le_of_ble_eq_true rfl) rfl ⟨Nat.le_refl _, Nat.le_refl _⟩ dX7_put_196 (fun H locs hP hD hS => ?_)
        have hP : va_P G vwCl (WX7_put K m_a mA_lane mA_many mA_item mA_poem mA_fresh mA_then mA_was mA_tape mA_strengths mA_sounds mA_stand mA_scheme mA_isKept mA_kept mA_trace m_thrown (0 : Int32) u0_15 m_taped m_cursor m_start m_token m_value m_fault m_faultAt m_latest m_stands m_least m_ways m_nearFoot m_nearFeet m_nearCost m_traced m_lane m_many m_item m_poem u1_15) H := hP
        have hD : va_D A (WX7_put K m_a mA_lane mA_many mA_item mA_poem mA_fresh mA_then mA_was mA_tape mA_strengths mA_sounds mA_stand mA_scheme mA_isKept mA_kept mA_trace m_thrown (0 : Int32) u0_15 m_taped m_cursor m_start m_token m_value m_fault m_faultAt m_latest m_stands m_least m_ways m_nearFoot m_nearFeet m_nearCost m_traced m_lane m_many m_item m_poem u1_15) := hD
        refine lv_aload_n hx hb dX7_put_199 rfl (lv_at hl 0 rfl) ?_
        refine va_get (D := G) (ci := 7) (v := .ref mA_poem) (C := RX7) (T := TX7) (N := 33) hx hb hts inX7 hown hK hP 0 rfl rfl 5 (by decide) (hts _ tb769) (fun _ h9 => h9) rfl dX7_put_200 ?_
        refine lv_iload_n hx hb dX7_put_203 rfl (lv_at hl 1 rfl) ?_
        obtain ⟨r_16, hC, hM⟩ := oe1 hM
        refine cS_i (As := [.ref mA_poem, .int p1]) (rest := []) C0 hP hD hS [4] (kX7_firstOf l G K mA_poem m_poem p1 H.size r_16 hC) rfl rfl rfl tb996 tb997 tb9 tb998 hdX7_firstOf ⟨Nat.le_of_ble_eq_true rfl, Nat.le_of_ble_eq_true rfl⟩ rfl hl.1 (Nat.le_of_ble_eq_true rfl) rfl ⟨Nat.le_refl _, Nat.le_refl _⟩ dX7_put_204 (fun H locs hP hD hS => ?_)
        have hP : va_P G vwCl (WX7_put K m_a mA_lane mA_many mA_item mA_poem mA_fresh mA_then mA_was mA_tape mA_strengths mA_sounds mA_stand mA_scheme mA_isKept mA_kept mA_trace m_thrown (0 : Int32) u0_15 m_taped m_cursor m_start m_token m_value m_fault m_faultAt m_latest m_stands m_least m_ways m_nearFoot m_nearFeet m_nearCost m_traced m_lane m_many m_item m_poem u1_15) H := hP
        have hD : va_D A (WX7_put K m_a mA_lane mA_many mA_item mA_poem mA_fresh mA_then mA_was mA_tape mA_strengths mA_sounds mA_stand mA_scheme mA_isKept mA_kept mA_trace m_thrown (0 : Int32) u0_15 m_taped m_cursor m_start m_token m_value m_fault m_faultAt m_latest m_stands m_least m_ways m_nearFoot m_nearFeet m_nearCost m_traced m_lane m_many m_item m_poem u1_15) := hD
        refine lv_iload_n hx hb dX7_put_207 rfl (lv_at hl 2 rfl) ?_
        refine lv_iadd hx hb dX7_put_208 ?_
        refine lv_istore (lv' := [(8, .int (r_16 + p2)), (0, .ref m_a), (1, .int p1), (2, .int p2), (3, .int p3), (4, .int p4), (5, .int p5), (7, .int x7)]) hx hb dX7_put_209 hl (by decide) rfl (fun ls hl => ?_)
        refine lv_bipush (v := 7) hx hb dX7_put_211 (by decide) ?_
        refine lv_bipush (v := 10) hx hb dX7_put_213 (by decide) ?_
        refine lv_aload_n hx hb dX7_put_215 rfl (lv_at hl 1 rfl) ?_
        refine va_get (D := G) (ci := 7) (v := .ref mA_poem) (C := RX7) (T := TX7) (N := 33) hx hb hts inX7 hown hK hP 0 rfl rfl 5 (by decide) (hts _ tb769) (fun _ h9 => h9) rfl dX7_put_216 ?_
        obtain ⟨r_17, hC, hM⟩ := oe1 hM
        refine cS_i (As := [.ref mA_poem]) (rest := [.int (10 : Int32), .int (7 : Int32)]) C0 hP hD hS [4] (kX7_wordsOf l G K mA_poem m_poem H.size r_17 hC) rfl rfl rfl tb951 tb952 tb9 tb953 hdX7_wordsOf ⟨Nat.le_of_ble_eq_true rfl, Nat.le_of_ble_eq_true rfl⟩ rfl hl.1 (Nat.le_of_ble_eq_true rfl) rfl ⟨Nat.le_refl _, Nat.le_refl _⟩ dX7_put_219 (fun H locs hP hD hS => ?_)
        have hP : va_P G vwCl (WX7_put K m_a mA_lane mA_many mA_item mA_poem mA_fresh mA_then mA_was mA_tape mA_strengths mA_sounds mA_stand mA_scheme mA_isKept mA_kept mA_trace m_thrown (0 : Int32) u0_15 m_taped m_cursor m_start m_token m_value m_fault m_faultAt m_latest m_stands m_least m_ways m_nearFoot m_nearFeet m_nearCost m_traced m_lane m_many m_item m_poem u1_15) H := hP
        have hD : va_D A (WX7_put K m_a mA_lane mA_many mA_item mA_poem mA_fresh mA_then mA_was mA_tape mA_strengths mA_sounds mA_stand mA_scheme mA_isKept mA_kept mA_trace m_thrown (0 : Int32) u0_15 m_taped m_cursor m_start m_token m_value m_fault m_faultAt m_latest m_stands m_least m_ways m_nearFoot m_nearFeet m_nearCost m_traced m_lane m_many m_item m_poem u1_15) := hD
        refine lv_imul hx hb dX7_put_222 ?_
        refine lv_iadd hx hb dX7_put_223 ?_
        refine lv_iconst (v := 1) hx hb dX7_put_224 (by decide) ?_
        refine lv_isub hx hb dX7_put_225 ?_
        refine lv_istore (lv' := [(9, .int (((7 : Int32) + ((10 : Int32) * r_17)) - (1 : Int32))), (8, .int (r_16 + p2)), (0, .ref m_a), (1, .int p1), (2, .int p2), (3, .int p3), (4, .int p4), (5, .int p5), (7, .int x7)]) hx hb dX7_put_226 hl (by decide) rfl (fun ls hl => ?_)
        exact wX7_put_b228 C0 m_a mA_lane mA_many mA_item mA_poem mA_fresh mA_then mA_was mA_tape mA_strengths mA_sounds mA_stand mA_scheme mA_isKept mA_kept mA_trace m_taped m_cursor m_start m_token m_value m_fault m_faultAt m_latest m_stands m_least m_ways m_nearFoot m_nearFeet m_nearCost m_traced m_lane m_many m_item p1 p2 p3 p4 p5 r o_m_thrown o_m_status o_m_acts o_m_poem o_m_was kr  FU m_thrown (0 : Int32) u0_15 m_poem u1_15 (r_16 + p2) (((7 : Int32) + ((10 : Int32) * r_17)) - (1 : Int32)) hM _ _ _ hP hD hS (lv_sub hl [2, 3, 5, 6, 7, 1, 0] rfl)
      · rw [if_pos c_14] at hM
        refine lv_ldcw (v := -1000002) hx hb hown (hts _ tb977) dX7_put_186 ?_
        have t0 := Option.some.inj hM
        obtain ⟨q1, t1⟩ := Prod.mk.inj t0
        obtain ⟨q2, t2⟩ := Prod.mk.inj t1
        obtain ⟨q3, t3⟩ := Prod.mk.inj t2
        obtain ⟨q4, t4⟩ := Prod.mk.inj t3
        obtain ⟨q5, t5⟩ := Prod.mk.inj t4
        subst q1
        subst q2
        subst q3
        subst q4
        subst q5
        subst t5
        exact kr _ _ _ _ dX7_put_189 hP hD hS
    · rw [if_neg c_13] at hM
      refine lv_aload_n hx hb dX7_put_114 rfl (lv_at hl 0 rfl) ?_
      refine va_get (D := G) (ci := 7) (v := .ref mA_item) (C := RX7) (T := TX7) (N := 33) hx hb hts inX7 hown hK hP 0 rfl rfl 4 (by decide) (hts _ tb768) (fun _ h9 => h9) rfl dX7_put_115 ?_
      refine lv_bipush (v := 40) hx hb dX7_put_118 (by decide) ?_
      refine lv_iload hx hb dX7_put_120 (lv_at hl 4 rfl) ?_
      refine lv_imul hx hb dX7_put_122 ?_
      refine lv_iload hx hb dX7_put_123 (lv_at hl 7 rfl) ?_
      refine lv_iadd hx hb dX7_put_125 ?_
      obtain ⟨g_18, hM⟩ := ng hM
      refine va_iald hx hb hK hP 3 0 rfl rfl g_18 dX7_put_126 ?_
      refine lv_i2l hx hb dX7_put_127 rfl ?_
      refine lv_lconst (v := 0) hx hb dX7_put_128 (by decide) ?_
      refine lv_ldc2 (v := 25) hx hb hown (hts _ tb995) dX7_put_129 ?_
      obtain ⟨r_19, hC, hM⟩ := oe1 hM
      refine cS_i (As := [.long ((m_item (((40 : Int32) * p4) + x8).toNatClampNeg).toInt64), .long (0 : Int64), .long (25 : Int64)]) (rest := []) C0 hP hD hS [] (kX7_in l G K ((m_item (((40 : Int32) * p4) + x8).toNatClampNeg).toInt64) (0 : Int64) (25 : Int64) H.size r_19 hC) rfl rfl rfl tb873 tb874 tb9 tb875 hdX7_in ⟨Nat.le_of_ble_eq_true rfl, Nat.le_of_ble_eq_true rfl⟩ rfl hl.1 (Nat.le_of_ble_eq_true rfl) rfl ⟨Nat.le_refl _, Nat.le_refl _⟩ dX7_put_132 (fun H locs hP hD hS => ?_)
      have hP : va_P G vwCl (WX7_put K m_a mA_lane mA_many mA_item mA_poem mA_fresh mA_then mA_was mA_tape mA_strengths mA_sounds mA_stand mA_scheme mA_isKept mA_kept mA_trace m_thrown m_status m_acts m_taped m_cursor m_start m_token m_value m_fault m_faultAt m_latest m_stands m_least m_ways m_nearFoot m_nearFeet m_nearCost m_traced m_lane m_many m_item m_poem m_was) H := hP
      have hD : va_D A (WX7_put K m_a mA_lane mA_many mA_item mA_poem mA_fresh mA_then mA_was mA_tape mA_strengths mA_sounds mA_stand mA_scheme mA_isKept mA_kept mA_trace m_thrown m_status m_acts m_taped m_cursor m_start m_token m_value m_fault m_faultAt m_latest m_stands m_least m_ways m_nearFoot m_nearFeet m_nearCost m_traced m_lane m_many m_item m_poem m_was) := hD
      refine lv_if_ne (tgt := 144) hx hb dX7_put_135 (by decide) (fun c_20 => ?_) (fun c_20 => ?_)
      · rw [if_neg c_20] at hM
        refine lv_iload hx hb dX7_put_144 (lv_at hl 6 rfl) ?_
        refine lv_if_ne (tgt := 168) hx hb dX7_put_146 (by decide) (fun c_21 => ?_) (fun c_21 => ?_)
        · rw [if_neg c_21] at hM
          refine lv_iconst (v := 1) hx hb dX7_put_168 (by decide) ?_
          refine lv_goto (tgt := 173) hx hb dX7_put_169 (by decide) ?_
          refine lv_istore (lv' := [(7, .int (1 : Int32)), (0, .ref m_a), (1, .int p1), (2, .int p2), (3, .int p3), (4, .int p4), (5, .int p5), (8, .int x8)]) hx hb dX7_put_173 hl (by decide) rfl (fun ls hl => ?_)
          refine lv_iinc (v := (x8 + 1)) (lv' := [(8, .int (x8 + 1)), (7, .int (1 : Int32)), (0, .ref m_a), (1, .int p1), (2, .int p2), (3, .int p3), (4, .int p4), (5, .int p5)]) hx hb dX7_put_175 hl (k := 7) rfl rfl (by decide) rfl (fun ls hl => ?_)
          refine lv_goto (tgt := 107) hx hb dX7_put_178 (by decide) ?_
          exact ih m_thrown m_status m_acts m_poem m_was (1 : Int32) (x8 + 1) hM _ _ _ hP hD hS (lv_sub hl [2, 3, 4, 5, 6, 7, 1, 0] rfl)
        · rw [if_pos c_21] at hM
          refine lv_aload_n hx hb dX7_put_149 rfl (lv_at hl 0 rfl) ?_
          refine va_get (D := G) (ci := 7) (v := .ref mA_item) (C := RX7) (T := TX7) (N := 33) hx hb hts inX7 hown hK hP 0 rfl rfl 4 (by decide) (hts _ tb768) (fun _ h9 => h9) rfl dX7_put_150 ?_
          refine lv_bipush (v := 40) hx hb dX7_put_153 (by decide) ?_
          refine lv_iload hx hb dX7_put_155 (lv_at hl 4 rfl) ?_
          refine lv_imul hx hb dX7_put_157 ?_
          refine lv_iload hx hb dX7_put_158 (lv_at hl 7 rfl) ?_
          refine lv_iadd hx hb dX7_put_160 ?_
          obtain ⟨g_22, hM⟩ := ng hM
          refine va_iald hx hb hK hP 3 0 rfl rfl g_22 dX7_put_161 ?_
          obtain ⟨r_23, hC, hM⟩ := oe1 hM
          refine cS_i (As := [.int (m_item (((40 : Int32) * p4) + x8).toNatClampNeg)]) (rest := []) C0 hP hD hS [] (kX7_isVowel l G K (m_item (((40 : Int32) * p4) + x8).toNatClampNeg) H.size r_23 hC) rfl rfl rfl tb954 tb955 tb9 tb956 hdX7_isVowel ⟨Nat.le_of_ble_eq_true rfl, Nat.le_of_ble_eq_true rfl⟩ rfl hl.1 (Nat.le_of_ble_eq_true rfl) rfl ⟨Nat.le_refl _, Nat.le_refl _⟩ dX7_put_162 (fun H locs hP hD hS => ?_)
          have hP : va_P G vwCl (WX7_put K m_a mA_lane mA_many mA_item mA_poem mA_fresh mA_then mA_was mA_tape mA_strengths mA_sounds mA_stand mA_scheme mA_isKept mA_kept mA_trace m_thrown m_status m_acts m_taped m_cursor m_start m_token m_value m_fault m_faultAt m_latest m_stands m_least m_ways m_nearFoot m_nearFeet m_nearCost m_traced m_lane m_many m_item m_poem m_was) H := hP
          have hD : va_D A (WX7_put K m_a mA_lane mA_many mA_item mA_poem mA_fresh mA_then mA_was mA_tape mA_strengths mA_sounds mA_stand mA_scheme mA_isKept mA_kept mA_trace m_thrown m_status m_acts m_taped m_cursor m_start m_token m_value m_fault m_faultAt m_latest m_stands m_least m_ways m_nearFoot m_nearFeet m_nearCost m_traced m_lane m_many m_item m_poem m_was) := hD
          refine lv_if_eq (tgt := 172) hx hb dX7_put_165 (by decide) (fun c_24 => ?_) (fun c_24 => ?_)
          · rw [if_pos c_24] at hM
            refine lv_iconst (v := 0) hx hb dX7_put_172 (by decide) ?_
            refine lv_istore (lv' := [(7, .int (0 : Int32)), (0, .ref m_a), (1, .int p1), (2, .int p2), (3, .int p3), (4, .int p4), (5, .int p5), (8, .int x8)]) hx hb dX7_put_173 hl (by decide) rfl (fun ls hl => ?_)
            refine lv_iinc (v := (x8 + 1)) (lv' := [(8, .int (x8 + 1)), (7, .int (0 : Int32)), (0, .ref m_a), (1, .int p1), (2, .int p2), (3, .int p3), (4, .int p4), (5, .int p5)]) hx hb dX7_put_175 hl (k := 7) rfl rfl (by decide) rfl (fun ls hl => ?_)
            refine lv_goto (tgt := 107) hx hb dX7_put_178 (by decide) ?_
            exact ih m_thrown m_status m_acts m_poem m_was (0 : Int32) (x8 + 1) hM _ _ _ hP hD hS (lv_sub hl [2, 3, 4, 5, 6, 7, 1, 0] rfl)
          · rw [if_neg c_24] at hM
            refine lv_iconst (v := 1) hx hb dX7_put_168 (by decide) ?_
            refine lv_goto (tgt := 173) hx hb dX7_put_169 (by decide) ?_
            refine lv_istore (lv' := [(7, .int (1 : Int32)), (0, .ref m_a), (1, .int p1), (2, .int p2), (3, .int p3), (4, .int p4), (5, .int p5), (8, .int x8)]) hx hb dX7_put_173 hl (by decide) rfl (fun ls hl => ?_)
            refine lv_iinc (v := (x8 + 1)) (lv' := [(8, .int (x8 + 1)), (7, .int (1 : Int32)), (0, .ref m_a), (1, .int p1), (2, .int p2), (3, .int p3), (4, .int p4), (5, .int p5)]) hx hb dX7_put_175 hl (k := 7) rfl rfl (by decide) rfl (fun ls hl => ?_)
            refine lv_goto (tgt := 107) hx hb dX7_put_178 (by decide) ?_
            exact ih m_thrown m_status m_acts m_poem m_was (1 : Int32) (x8 + 1) hM _ _ _ hP hD hS (lv_sub hl [2, 3, 4, 5, 6, 7, 1, 0] rfl)
      · rw [if_pos c_20] at hM
        refine lv_aload_n hx hb dX7_put_138 rfl (lv_at hl 0 rfl) ?_
        refine lv_iconst (v := 2) hx hb dX7_put_139 (by decide) ?_
        obtain ⟨r_25, u0_25, hC, hM⟩ := oe2 hM
        refine cV_i (As := [.int (2 : Int32)]) (rest := []) C0 hP hD hS [0] (kX7_finding l G K m_a mA_lane mA_many mA_item mA_poem mA_fresh mA_then mA_was mA_tape mA_strengths mA_sounds mA_stand mA_scheme mA_isKept mA_kept mA_trace m_thrown m_status m_acts m_taped m_cursor m_start m_token m_value m_fault m_faultAt m_latest m_stands m_least m_ways m_nearFoot m_nearFeet m_nearCost m_traced (2 : Int32) H.size r_25 u0_25 hC) rfl rfl rfl tb878 tb880 tp13 tb9 tb881 hdX7_finding (va_recv hK hP (ci := 7) (q0 := 0) rfl rfl) ⟨Nat.le_of_ble_eq_true rfl, Nat.le_of_ble_eq_true rfl⟩ rfl hl.1 (Nat.le_of_ble_eq_true rfl) rfl ⟨Nat.le_refl _, Nat.le_refl _⟩ dX7_put_140 (fun H locs hP hD hS => ?_)
        have hP : va_P G vwCl (WX7_put K m_a mA_lane mA_many mA_item mA_poem mA_fresh mA_then mA_was mA_tape mA_strengths mA_sounds mA_stand mA_scheme mA_isKept mA_kept mA_trace m_thrown u0_25 m_acts m_taped m_cursor m_start m_token m_value m_fault m_faultAt m_latest m_stands m_least m_ways m_nearFoot m_nearFeet m_nearCost m_traced m_lane m_many m_item m_poem m_was) H := hP
        have hD : va_D A (WX7_put K m_a mA_lane mA_many mA_item mA_poem mA_fresh mA_then mA_was mA_tape mA_strengths mA_sounds mA_stand mA_scheme mA_isKept mA_kept mA_trace m_thrown u0_25 m_acts m_taped m_cursor m_start m_token m_value m_fault m_faultAt m_latest m_stands m_least m_ways m_nearFoot m_nearFeet m_nearCost m_traced m_lane m_many m_item m_poem m_was) := hD
        have t0 := Option.some.inj hM
        obtain ⟨q1, t1⟩ := Prod.mk.inj t0
        obtain ⟨q2, t2⟩ := Prod.mk.inj t1
        obtain ⟨q3, t3⟩ := Prod.mk.inj t2
        obtain ⟨q4, t4⟩ := Prod.mk.inj t3
        obtain ⟨q5, t5⟩ := Prod.mk.inj t4
        subst q1
        subst q2
        subst q3
        subst q4
        subst q5
        subst t5
        exact kr _ _ _ _ dX7_put_143 hP hD hS
set_option maxHeartbeats 4000000 in
set_option maxRecDepth 100000 in
theorem wX7_put_b0 {p : Program} {l : Launch} {e : Env} {s : State} {m : MethodId} {args : Array Value} {below : List Frame} {meth : Method} {c : Code} {Q : State → Prop} {G : va_G} {K : Nat → ClassId} {A : Nat → Prop} (C0 : CX p s m args c cX7_put 10 RX7 G K E0 A) (m_a mA_lane mA_many mA_item mA_poem mA_fresh mA_then mA_was mA_tape mA_strengths mA_sounds mA_stand mA_scheme mA_isKept mA_kept mA_trace : Nat) (m_taped : Int32) (m_cursor : Int32) (m_start : Int32) (m_token : Int32) (m_value : Int32) (m_fault : Int32) (m_faultAt : Int32) (m_latest : Int32) (m_stands : Int32) (m_least : Int32) (m_ways : Int32) (m_nearFoot : Int32) (m_nearFeet : Int32) (m_nearCost : Int32) (m_traced : Int32) (m_lane : Nat → Int32) (m_many : Nat → Int32) (m_item : Nat → Int32) (p1 : Int32) (p2 : Int32) (p3 : Int32) (p4 : Int32) (p5 : Int32) (r : Int32) (o_m_thrown : Int32) (o_m_status : Int32) (o_m_acts : Int32) (o_m_poem : Nat → Int32) (o_m_was : Nat → Int32) (kr : ∀ (H : Heap) (locs : List Loc) (ls : Array Slot) (pc : Nat), decode cX7_put pc = .ok (.ireturn, 1) → va_P G vwCl (WX7_put K m_a mA_lane mA_many mA_item mA_poem mA_fresh mA_then mA_was mA_tape mA_strengths mA_sounds mA_stand mA_scheme mA_isKept mA_kept mA_trace o_m_thrown o_m_status o_m_acts m_taped m_cursor m_start m_token m_value m_fault m_faultAt m_latest m_stands m_least m_ways m_nearFoot m_nearFeet m_nearCost m_traced m_lane m_many m_item o_m_poem o_m_was) H → va_D A (WX7_put K m_a mA_lane mA_many mA_item mA_poem mA_fresh mA_then mA_was mA_tape mA_strengths mA_sounds mA_stand mA_scheme mA_isKept mA_kept mA_trace o_m_thrown o_m_status o_m_acts m_taped m_cursor m_start m_token m_value m_fault m_faultAt m_latest m_stands m_least m_ways m_nearFoot m_nearFeet m_nearCost m_traced m_lane m_many m_item o_m_poem o_m_was) → va_S A s.heap H locs → W p l e rmX7_put s m args below meth c H locs 0 0 Q (F0 m pc ls [.int r])) (m_thrown : Int32) (m_status : Int32) (m_acts : Int32) (m_poem : Nat → Int32) (m_was : Nat → Int32) (hM : mX7_put_b0 m_lane m_many m_item p1 p2 p3 p4 p5  m_thrown m_status m_acts m_poem m_was = some (r, o_m_thrown, o_m_status, o_m_acts, o_m_poem, o_m_was)) : ∀ (H : Heap) (locs : List Loc) (ls : Array Slot), va_P G vwCl (WX7_put K m_a mA_lane mA_many mA_item mA_poem mA_fresh mA_then mA_was mA_tape mA_strengths mA_sounds mA_stand mA_scheme mA_isKept mA_kept mA_trace m_thrown m_status m_acts m_taped m_cursor m_start m_token m_value m_fault m_faultAt m_latest m_stands m_least m_ways m_nearFoot m_nearFeet m_nearCost m_traced m_lane m_many m_item m_poem m_was) H → va_D A (WX7_put K m_a mA_lane mA_many mA_item mA_poem mA_fresh mA_then mA_was mA_tape mA_strengths mA_sounds mA_stand mA_scheme mA_isKept mA_kept mA_trace m_thrown m_status m_acts m_taped m_cursor m_start m_token m_value m_fault m_faultAt m_latest m_stands m_least m_ways m_nearFoot m_nearFeet m_nearCost m_traced m_lane m_many m_item m_poem m_was) → va_S A s.heap H locs → lv_has ls 10 [(0, .ref m_a), (1, .int p1), (2, .int p2), (3, .int p3), (4, .int p4), (5, .int p5)] → W p l e rmX7_put s m args below meth c H locs 0 0 Q (F0 m 0 ls []) := by
  obtain ⟨hx, hb, hml, hown, hts, hK, hA, hEo, hE⟩ := id C0
  intro H locs ls hP hD hS hl
  unfold mX7_put_b0 at hM
  refine lv_aload_n hx hb dX7_put_0 rfl (lv_at hl 0 rfl) ?_
  refine lv_iconst (v := 0) hx hb dX7_put_1 (by decide) ?_
  refine va_put (D := G) (ci := 7) (v := .int (0 : Int32)) (ty := .int) (C := RX7) (T := TX7) (N := 33) hx hb hts inX7 tyX7 tyX7_ok nmX7 hown hK hP hD hS 0 rfl rfl 0 (by decide) (hts _ tb764) (fun _ h9 => h9) rfl (tyX7_ok 0 (by decide)) rfl rfl (Nat.le_of_ble_eq_true rfl) dX7_put_2 (fun H locs hP hD hS => ?_)
  have hP : va_P G vwCl (WX7_put K m_a mA_lane mA_many mA_item mA_poem mA_fresh mA_then mA_was mA_tape mA_strengths mA_sounds mA_stand mA_scheme mA_isKept mA_kept mA_trace (0 : Int32) m_status m_acts m_taped m_cursor m_start m_token m_value m_fault m_faultAt m_latest m_stands m_least m_ways m_nearFoot m_nearFeet m_nearCost m_traced m_lane m_many m_item m_poem m_was) H := hP
  have hD : va_D A (WX7_put K m_a mA_lane mA_many mA_item mA_poem mA_fresh mA_then mA_was mA_tape mA_strengths mA_sounds mA_stand mA_scheme mA_isKept mA_kept mA_trace (0 : Int32) m_status m_acts m_taped m_cursor m_start m_token m_value m_fault m_faultAt m_latest m_stands m_least m_ways m_nearFoot m_nearFeet m_nearCost m_traced m_lane m_many m_item m_poem m_was) := hD
  refine lv_aload_n hx hb dX7_put_5 rfl (lv_at hl 0 rfl) ?_
  refine lv_iload_n hx hb dX7_put_6 rfl (lv_at hl 1 rfl) ?_
  obtain ⟨r_26, hC, hM⟩ := oe1 hM
  refine cV_i (As := [.int p1]) (rest := []) C0 hP hD hS [0, 4] (kX7_isLine l G K m_a mA_lane mA_many mA_item mA_poem mA_fresh mA_then mA_was mA_tape mA_strengths mA_sounds mA_stand mA_scheme mA_isKept mA_kept mA_trace (0 : Int32) m_status m_acts m_taped m_cursor m_start m_token m_value m_fault m_faultAt m_latest m_stands m_least m_ways m_nearFoot m_nearFeet m_nearCost m_traced m_poem p1 H.size r_26 hC) rfl rfl rfl tb986 tb988 tp27 tb9 tb989 hdX7_isLine (va_recv hK hP (ci := 7) (q0 := 0) rfl rfl) ⟨Nat.le_of_ble_eq_true rfl, Nat.le_of_ble_eq_true rfl⟩ rfl hl.1 (Nat.le_of_ble_eq_true rfl) rfl ⟨Nat.le_refl _, Nat.le_refl _⟩ dX7_put_7 (fun H locs hP hD hS => ?_)
  have hP : va_P G vwCl (WX7_put K m_a mA_lane mA_many mA_item mA_poem mA_fresh mA_then mA_was mA_tape mA_strengths mA_sounds mA_stand mA_scheme mA_isKept mA_kept mA_trace (0 : Int32) m_status m_acts m_taped m_cursor m_start m_token m_value m_fault m_faultAt m_latest m_stands m_least m_ways m_nearFoot m_nearFeet m_nearCost m_traced m_lane m_many m_item m_poem m_was) H := hP
  have hD : va_D A (WX7_put K m_a mA_lane mA_many mA_item mA_poem mA_fresh mA_then mA_was mA_tape mA_strengths mA_sounds mA_stand mA_scheme mA_isKept mA_kept mA_trace (0 : Int32) m_status m_acts m_taped m_cursor m_start m_token m_value m_fault m_faultAt m_latest m_stands m_least m_ways m_nearFoot m_nearFeet m_nearCost m_traced m_lane m_many m_item m_poem m_was) := hD
  refine lv_if_eq (tgt := 64) hx hb dX7_put_10 (by decide) (fun c_27 => ?_) (fun c_27 => ?_)
  · rw [if_pos c_27] at hM
    refine lv_ldc (v := -1000001) hx hb hown (hts _ tb877) dX7_put_64 ?_
    have t0 := Option.some.inj hM
    obtain ⟨q1, t1⟩ := Prod.mk.inj t0
    obtain ⟨q2, t2⟩ := Prod.mk.inj t1
    obtain ⟨q3, t3⟩ := Prod.mk.inj t2
    obtain ⟨q4, t4⟩ := Prod.mk.inj t3
    obtain ⟨q5, t5⟩ := Prod.mk.inj t4
    subst q1
    subst q2
    subst q3
    subst q4
    subst q5
    subst t5
    exact kr _ _ _ _ dX7_put_66 hP hD hS
  · rw [if_neg c_27] at hM
    refine lv_iload_n hx hb dX7_put_13 rfl (lv_at hl 2 rfl) ?_
    refine lv_i2l hx hb dX7_put_14 rfl ?_
    refine lv_lconst (v := 0) hx hb dX7_put_15 (by decide) ?_
    refine lv_aload_n hx hb dX7_put_16 rfl (lv_at hl 0 rfl) ?_
    refine va_get (D := G) (ci := 7) (v := .ref mA_poem) (C := RX7) (T := TX7) (N := 33) hx hb hts inX7 hown hK hP 0 rfl rfl 5 (by decide) (hts _ tb769) (fun _ h9 => h9) rfl dX7_put_17 ?_
    refine lv_iconst (v := 3) hx hb dX7_put_20 (by decide) ?_
    refine lv_iload_n hx hb dX7_put_21 rfl (lv_at hl 1 rfl) ?_
    refine lv_iadd hx hb dX7_put_22 ?_
    obtain ⟨g_28, hM⟩ := ng hM
    refine va_iald hx hb hK hP 4 0 rfl rfl g_28 dX7_put_23 ?_
    refine lv_i2l hx hb dX7_put_24 rfl ?_
    obtain ⟨r_29, hC, hM⟩ := oe1 hM
    refine cS_i (As := [.long p2.toInt64, .long (0 : Int64), .long ((m_poem ((3 : Int32) + p1).toNatClampNeg).toInt64)]) (rest := []) C0 hP hD hS [] (kX7_in l G K p2.toInt64 (0 : Int64) ((m_poem ((3 : Int32) + p1).toNatClampNeg).toInt64) H.size r_29 hC) rfl rfl rfl tb873 tb874 tb9 tb875 hdX7_in ⟨Nat.le_of_ble_eq_true rfl, Nat.le_of_ble_eq_true rfl⟩ rfl hl.1 (Nat.le_of_ble_eq_true rfl) rfl ⟨Nat.le_refl _, Nat.le_refl _⟩ dX7_put_25 (fun H locs hP hD hS => ?_)
    have hP : va_P G vwCl (WX7_put K m_a mA_lane mA_many mA_item mA_poem mA_fresh mA_then mA_was mA_tape mA_strengths mA_sounds mA_stand mA_scheme mA_isKept mA_kept mA_trace (0 : Int32) m_status m_acts m_taped m_cursor m_start m_token m_value m_fault m_faultAt m_latest m_stands m_least m_ways m_nearFoot m_nearFeet m_nearCost m_traced m_lane m_many m_item m_poem m_was) H := hP
    have hD : va_D A (WX7_put K m_a mA_lane mA_many mA_item mA_poem mA_fresh mA_then mA_was mA_tape mA_strengths mA_sounds mA_stand mA_scheme mA_isKept mA_kept mA_trace (0 : Int32) m_status m_acts m_taped m_cursor m_start m_token m_value m_fault m_faultAt m_latest m_stands m_least m_ways m_nearFoot m_nearFeet m_nearCost m_traced m_lane m_many m_item m_poem m_was) := hD
    refine lv_if_eq (tgt := 64) hx hb dX7_put_28 (by decide) (fun c_30 => ?_) (fun c_30 => ?_)
    · rw [if_pos c_30] at hM
      refine lv_ldc (v := -1000001) hx hb hown (hts _ tb877) dX7_put_64 ?_
      have t0 := Option.some.inj hM
      obtain ⟨q1, t1⟩ := Prod.mk.inj t0
      obtain ⟨q2, t2⟩ := Prod.mk.inj t1
      obtain ⟨q3, t3⟩ := Prod.mk.inj t2
      obtain ⟨q4, t4⟩ := Prod.mk.inj t3
      obtain ⟨q5, t5⟩ := Prod.mk.inj t4
      subst q1
      subst q2
      subst q3
      subst q4
      subst q5
      subst t5
      exact kr _ _ _ _ dX7_put_66 hP hD hS
    · rw [if_neg c_30] at hM
      refine lv_iload_n hx hb dX7_put_31 rfl (lv_at hl 3 rfl) ?_
      refine lv_i2l hx hb dX7_put_32 rfl ?_
      refine lv_lconst (v := 1) hx hb dX7_put_33 (by decide) ?_
      refine lv_ldc2 (v := 5) hx hb hown (hts _ tb946) dX7_put_34 ?_
      obtain ⟨r_31, hC, hM⟩ := oe1 hM
      refine cS_i (As := [.long p3.toInt64, .long (1 : Int64), .long (5 : Int64)]) (rest := []) C0 hP hD hS [] (kX7_in l G K p3.toInt64 (1 : Int64) (5 : Int64) H.size r_31 hC) rfl rfl rfl tb873 tb874 tb9 tb875 hdX7_in ⟨Nat.le_of_ble_eq_true rfl, Nat.le_of_ble_eq_true rfl⟩ rfl hl.1 (Nat.le_of_ble_eq_true rfl) rfl ⟨Nat.le_refl _, Nat.le_refl _⟩ dX7_put_37 (fun H locs hP hD hS => ?_)
      have hP : va_P G vwCl (WX7_put K m_a mA_lane mA_many mA_item mA_poem mA_fresh mA_then mA_was mA_tape mA_strengths mA_sounds mA_stand mA_scheme mA_isKept mA_kept mA_trace (0 : Int32) m_status m_acts m_taped m_cursor m_start m_token m_value m_fault m_faultAt m_latest m_stands m_least m_ways m_nearFoot m_nearFeet m_nearCost m_traced m_lane m_many m_item m_poem m_was) H := hP
      have hD : va_D A (WX7_put K m_a mA_lane mA_many mA_item mA_poem mA_fresh mA_then mA_was mA_tape mA_strengths mA_sounds mA_stand mA_scheme mA_isKept mA_kept mA_trace (0 : Int32) m_status m_acts m_taped m_cursor m_start m_token m_value m_fault m_faultAt m_latest m_stands m_least m_ways m_nearFoot m_nearFeet m_nearCost m_traced m_lane m_many m_item m_poem m_was) := hD
      refine lv_if_eq (tgt := 64) hx hb dX7_put_40 (by decide) (fun c_32 => ?_) (fun c_32 => ?_)
      · rw [if_pos c_32] at hM
        refine lv_ldc (v := -1000001) hx hb hown (hts _ tb877) dX7_put_64 ?_
        have t0 := Option.some.inj hM
        obtain ⟨q1, t1⟩ := Prod.mk.inj t0
        obtain ⟨q2, t2⟩ := Prod.mk.inj t1
        obtain ⟨q3, t3⟩ := Prod.mk.inj t2
        obtain ⟨q4, t4⟩ := Prod.mk.inj t3
        obtain ⟨q5, t5⟩ := Prod.mk.inj t4
        subst q1
        subst q2
        subst q3
        subst q4
        subst q5
        subst t5
        exact kr _ _ _ _ dX7_put_66 hP hD hS
      · rw [if_neg c_32] at hM
        refine lv_iload hx hb dX7_put_43 (lv_at hl 4 rfl) ?_
        obtain ⟨r_33, hC, hM⟩ := oe1 hM
        refine cS_i (As := [.int p4]) (rest := []) C0 hP hD hS [] (kX7_isRow l G K p4 H.size r_33 hC) rfl rfl rfl tb869 tb870 tb9 tb871 hdX7_isRow ⟨Nat.le_of_ble_eq_true rfl, Nat.le_of_ble_eq_true rfl⟩ rfl hl.1 (Nat.le_of_ble_eq_true rfl) rfl ⟨Nat.le_refl _, Nat.le_refl _⟩ dX7_put_45 (fun H locs hP hD hS => ?_)
        have hP : va_P G vwCl (WX7_put K m_a mA_lane mA_many mA_item mA_poem mA_fresh mA_then mA_was mA_tape mA_strengths mA_sounds mA_stand mA_scheme mA_isKept mA_kept mA_trace (0 : Int32) m_status m_acts m_taped m_cursor m_start m_token m_value m_fault m_faultAt m_latest m_stands m_least m_ways m_nearFoot m_nearFeet m_nearCost m_traced m_lane m_many m_item m_poem m_was) H := hP
        have hD : va_D A (WX7_put K m_a mA_lane mA_many mA_item mA_poem mA_fresh mA_then mA_was mA_tape mA_strengths mA_sounds mA_stand mA_scheme mA_isKept mA_kept mA_trace (0 : Int32) m_status m_acts m_taped m_cursor m_start m_token m_value m_fault m_faultAt m_latest m_stands m_least m_ways m_nearFoot m_nearFeet m_nearCost m_traced m_lane m_many m_item m_poem m_was) := hD
        refine lv_if_eq (tgt := 64) hx hb dX7_put_48 (by decide) (fun c_34 => ?_) (fun c_34 => ?_)
        · rw [if_pos c_34] at hM
          refine lv_ldc (v := -1000001) hx hb hown (hts _ tb877) dX7_put_64 ?_
          have t0 := Option.some.inj hM
          obtain ⟨q1, t1⟩ := Prod.mk.inj t0
          obtain ⟨q2, t2⟩ := Prod.mk.inj t1
          obtain ⟨q3, t3⟩ := Prod.mk.inj t2
          obtain ⟨q4, t4⟩ := Prod.mk.inj t3
          obtain ⟨q5, t5⟩ := Prod.mk.inj t4
          subst q1
          subst q2
          subst q3
          subst q4
          subst q5
          subst t5
          exact kr _ _ _ _ dX7_put_66 hP hD hS
        · rw [if_neg c_34] at hM
          refine lv_iload hx hb dX7_put_51 (lv_at hl 5 rfl) ?_
          refine lv_i2l hx hb dX7_put_53 rfl ?_
          refine lv_lconst (v := 1) hx hb dX7_put_54 (by decide) ?_
          refine lv_ldc2 (v := 8) hx hb hown (hts _ tb990) dX7_put_55 ?_
          obtain ⟨r_35, hC, hM⟩ := oe1 hM
          refine cS_i (As := [.long p5.toInt64, .long (1 : Int64), .long (8 : Int64)]) (rest := []) C0 hP hD hS [] (kX7_in l G K p5.toInt64 (1 : Int64) (8 : Int64) H.size r_35 hC) rfl rfl rfl tb873 tb874 tb9 tb875 hdX7_in ⟨Nat.le_of_ble_eq_true rfl, Nat.le_of_ble_eq_true rfl⟩ rfl hl.1 (Nat.le_of_ble_eq_true rfl) rfl ⟨Nat.le_refl _, Nat.le_refl _⟩ dX7_put_58 (fun H locs hP hD hS => ?_)
          have hP : va_P G vwCl (WX7_put K m_a mA_lane mA_many mA_item mA_poem mA_fresh mA_then mA_was mA_tape mA_strengths mA_sounds mA_stand mA_scheme mA_isKept mA_kept mA_trace (0 : Int32) m_status m_acts m_taped m_cursor m_start m_token m_value m_fault m_faultAt m_latest m_stands m_least m_ways m_nearFoot m_nearFeet m_nearCost m_traced m_lane m_many m_item m_poem m_was) H := hP
          have hD : va_D A (WX7_put K m_a mA_lane mA_many mA_item mA_poem mA_fresh mA_then mA_was mA_tape mA_strengths mA_sounds mA_stand mA_scheme mA_isKept mA_kept mA_trace (0 : Int32) m_status m_acts m_taped m_cursor m_start m_token m_value m_fault m_faultAt m_latest m_stands m_least m_ways m_nearFoot m_nearFeet m_nearCost m_traced m_lane m_many m_item m_poem m_was) := hD
          refine lv_if_ne (tgt := 67) hx hb dX7_put_61 (by decide) (fun c_36 => ?_) (fun c_36 => ?_)
          · rw [if_neg c_36] at hM
            refine lv_aload_n hx hb dX7_put_67 rfl (lv_at hl 0 rfl) ?_
            refine va_get (D := G) (ci := 7) (v := .ref mA_poem) (C := RX7) (T := TX7) (N := 33) hx hb hts inX7 hown hK hP 0 rfl rfl 5 (by decide) (hts _ tb769) (fun _ h9 => h9) rfl dX7_put_68 ?_
            refine lv_iconst (v := 3) hx hb dX7_put_71 (by decide) ?_
            refine lv_iload_n hx hb dX7_put_72 rfl (lv_at hl 1 rfl) ?_
            refine lv_iadd hx hb dX7_put_73 ?_
            obtain ⟨g_37, hM⟩ := ng hM
            refine va_iald hx hb hK hP 4 0 rfl rfl g_37 dX7_put_74 ?_
            refine lv_iconst (v := 5) hx hb dX7_put_75 (by decide) ?_
            refine lv_icmp_ne (tgt := 82) hx hb dX7_put_76 (by decide) (fun c_38 => ?_) (fun c_38 => ?_)
            · rw [if_neg c_38] at hM
              refine lv_aload_n hx hb dX7_put_82 rfl (lv_at hl 0 rfl) ?_
              refine lv_iload hx hb dX7_put_83 (lv_at hl 4 rfl) ?_
              refine lv_iconst (v := 0) hx hb dX7_put_85 (by decide) ?_
              refine lv_iload hx hb dX7_put_86 (lv_at hl 5 rfl) ?_
              obtain ⟨r_39, u0_39, hC, hM⟩ := oe2 hM
              refine cV_i (As := [.int p4, .int (0 : Int32), .int p5]) (rest := []) C0 hP hD hS [0, 1, 2] (kX7_rowFound l G K m_a mA_lane mA_many mA_item mA_poem mA_fresh mA_then mA_was mA_tape mA_strengths mA_sounds mA_stand mA_scheme mA_isKept mA_kept mA_trace (0 : Int32) m_status m_acts m_taped m_cursor m_start m_token m_value m_fault m_faultAt m_latest m_stands m_least m_ways m_nearFoot m_nearFeet m_nearCost m_traced m_lane m_many p4 (0 : Int32) p5 H.size r_39 u0_39 hC) rfl rfl rfl tb991 tb993 tp28 tb9 tb994 hdX7_rowFound (va_recv hK hP (ci := 7) (q0 := 0) rfl rfl) ⟨Nat.le_of_ble_eq_true rfl, Nat.le_of_ble_eq_true rfl⟩ rfl hl.1 (Nat.le_of_ble_eq_true rfl) rfl ⟨Nat.le_refl _, Nat.le_refl _⟩ dX7_put_88 (fun H locs hP hD hS => ?_)
              have hP : va_P G vwCl (WX7_put K m_a mA_lane mA_many mA_item mA_poem mA_fresh mA_then mA_was mA_tape mA_strengths mA_sounds mA_stand mA_scheme mA_isKept mA_kept mA_trace (0 : Int32) u0_39 m_acts m_taped m_cursor m_start m_token m_value m_fault m_faultAt m_latest m_stands m_least m_ways m_nearFoot m_nearFeet m_nearCost m_traced m_lane m_many m_item m_poem m_was) H := hP
              have hD : va_D A (WX7_put K m_a mA_lane mA_many mA_item mA_poem mA_fresh mA_then mA_was mA_tape mA_strengths mA_sounds mA_stand mA_scheme mA_isKept mA_kept mA_trace (0 : Int32) u0_39 m_acts m_taped m_cursor m_start m_token m_value m_fault m_faultAt m_latest m_stands m_least m_ways m_nearFoot m_nearFeet m_nearCost m_traced m_lane m_many m_item m_poem m_was) := hD
              refine lv_istore (lv' := [(6, .int r_39), (0, .ref m_a), (1, .int p1), (2, .int p2), (3, .int p3), (4, .int p4), (5, .int p5)]) hx hb dX7_put_91 hl (by decide) rfl (fun ls hl => ?_)
              refine lv_iload hx hb dX7_put_93 (lv_at hl 0 rfl) ?_
              refine lv_if_eq (tgt := 101) hx hb dX7_put_95 (by decide) (fun c_40 => ?_) (fun c_40 => ?_)
              · rw [if_pos c_40] at hM
                refine lv_iconst (v := 0) hx hb dX7_put_101 (by decide) ?_
                refine lv_istore (lv' := [(7, .int (0 : Int32)), (6, .int r_39), (0, .ref m_a), (1, .int p1), (2, .int p2), (3, .int p3), (4, .int p4), (5, .int p5)]) hx hb dX7_put_102 hl (by decide) rfl (fun ls hl => ?_)
                refine lv_iconst (v := 0) hx hb dX7_put_104 (by decide) ?_
                refine lv_istore (lv' := [(8, .int (0 : Int32)), (7, .int (0 : Int32)), (6, .int r_39), (0, .ref m_a), (1, .int p1), (2, .int p2), (3, .int p3), (4, .int p4), (5, .int p5)]) hx hb dX7_put_105 hl (by decide) rfl (fun ls hl => ?_)
                exact wX7_put_b107 C0 m_a mA_lane mA_many mA_item mA_poem mA_fresh mA_then mA_was mA_tape mA_strengths mA_sounds mA_stand mA_scheme mA_isKept mA_kept mA_trace m_taped m_cursor m_start m_token m_value m_fault m_faultAt m_latest m_stands m_least m_ways m_nearFoot m_nearFeet m_nearCost m_traced m_lane m_many m_item p1 p2 p3 p4 p5 r o_m_thrown o_m_status o_m_acts o_m_poem o_m_was kr  FU (0 : Int32) u0_39 m_acts m_poem m_was (0 : Int32) (0 : Int32) hM _ _ _ hP hD hS (lv_sub hl [3, 4, 5, 6, 7, 8, 1, 0] rfl)
              · rw [if_neg c_40] at hM
                refine lv_iload hx hb dX7_put_98 (lv_at hl 0 rfl) ?_
                have t0 := Option.some.inj hM
                obtain ⟨q1, t1⟩ := Prod.mk.inj t0
                obtain ⟨q2, t2⟩ := Prod.mk.inj t1
                obtain ⟨q3, t3⟩ := Prod.mk.inj t2
                obtain ⟨q4, t4⟩ := Prod.mk.inj t3
                obtain ⟨q5, t5⟩ := Prod.mk.inj t4
                subst q1
                subst q2
                subst q3
                subst q4
                subst q5
                subst t5
                exact kr _ _ _ _ dX7_put_100 hP hD hS
            · rw [if_pos c_38] at hM
              refine lv_ldc (v := -1000003) hx hb hown (hts _ tb900) dX7_put_79 ?_
              have t0 := Option.some.inj hM
              obtain ⟨q1, t1⟩ := Prod.mk.inj t0
              obtain ⟨q2, t2⟩ := Prod.mk.inj t1
              obtain ⟨q3, t3⟩ := Prod.mk.inj t2
              obtain ⟨q4, t4⟩ := Prod.mk.inj t3
              obtain ⟨q5, t5⟩ := Prod.mk.inj t4
              subst q1
              subst q2
              subst q3
              subst q4
              subst q5
              subst t5
              exact kr _ _ _ _ dX7_put_81 hP hD hS
          · rw [if_pos c_36] at hM
            refine lv_ldc (v := -1000001) hx hb hown (hts _ tb877) dX7_put_64 ?_
            have t0 := Option.some.inj hM
            obtain ⟨q1, t1⟩ := Prod.mk.inj t0
            obtain ⟨q2, t2⟩ := Prod.mk.inj t1
            obtain ⟨q3, t3⟩ := Prod.mk.inj t2
            obtain ⟨q4, t4⟩ := Prod.mk.inj t3
            obtain ⟨q5, t5⟩ := Prod.mk.inj t4
            subst q1
            subst q2
            subst q3
            subst q4
            subst q5
            subst t5
            exact kr _ _ _ _ dX7_put_66 hP hD hS
set_option maxHeartbeats 4000000 in
set_option maxRecDepth 100000 in
theorem kX7_put (l : Launch) (G : va_G) (K : Nat → ClassId) (m_a mA_lane mA_many mA_item mA_poem mA_fresh mA_then mA_was mA_tape mA_strengths mA_sounds mA_stand mA_scheme mA_isKept mA_kept mA_trace : Nat) (m_thrown : Int32) (m_status : Int32) (m_acts : Int32) (m_taped : Int32) (m_cursor : Int32) (m_start : Int32) (m_token : Int32) (m_value : Int32) (m_fault : Int32) (m_faultAt : Int32) (m_latest : Int32) (m_stands : Int32) (m_least : Int32) (m_ways : Int32) (m_nearFoot : Int32) (m_nearFeet : Int32) (m_nearCost : Int32) (m_traced : Int32) (m_lane : Nat → Int32) (m_many : Nat → Int32) (m_item : Nat → Int32) (m_poem : Nat → Int32) (m_was : Nat → Int32) (p1 : Int32) (p2 : Int32) (p3 : Int32) (p4 : Int32) (p5 : Int32) (sz : Nat) (r : Int32) (o_m_thrown : Int32) (o_m_status : Int32) (o_m_acts : Int32) (o_m_poem : Nat → Int32) (o_m_was : Nat → Int32) (hM : mX7_put m_lane m_many m_item m_thrown m_status m_acts m_poem m_was p1 p2 p3 p4 p5 = some (r, o_m_thrown, o_m_status, o_m_acts, o_m_poem, o_m_was)) : Met l yX7_put (mC yX7_put cX7_put 10 (some .int)) rmX7_put (va_Pc [.ref m_a, .int p1, .int p2, .int p3, .int p4, .int p5] (PCe G K E0 (WX7_put K m_a mA_lane mA_many mA_item mA_poem mA_fresh mA_then mA_was mA_tape mA_strengths mA_sounds mA_stand mA_scheme mA_isKept mA_kept mA_trace m_thrown m_status m_acts m_taped m_cursor m_start m_token m_value m_fault m_faultAt m_latest m_stands m_least m_ways m_nearFoot m_nearFeet m_nearCost m_traced m_lane m_many m_item m_poem m_was) sz)) (va_Qi (fun (x : Int32) (_ : Unit) => x = r) (fun _ t => va_P G vwCl (WX7_put K m_a mA_lane mA_many mA_item mA_poem mA_fresh mA_then mA_was mA_tape mA_strengths mA_sounds mA_stand mA_scheme mA_isKept mA_kept mA_trace o_m_thrown o_m_status o_m_acts m_taped m_cursor m_start m_token m_value m_fault m_faultAt m_latest m_stands m_least m_ways m_nearFoot m_nearFeet m_nearCost m_traced m_lane m_many m_item o_m_poem o_m_was) t.heap) (va_A (WX7_put K m_a mA_lane mA_many mA_item mA_poem mA_fresh mA_then mA_was mA_tape mA_strengths mA_sounds mA_stand mA_scheme mA_isKept mA_kept mA_trace m_thrown m_status m_acts m_taped m_cursor m_start m_token m_value m_fault m_faultAt m_latest m_stands m_least m_ways m_nearFoot m_nearFeet m_nearCost m_traced m_lane m_many m_item m_poem m_was) sz)) rmX7_put.cells rmX7_put.slots (va_A (WX7_put K m_a mA_lane mA_many mA_item mA_poem mA_fresh mA_then mA_was mA_tape mA_strengths mA_sounds mA_stand mA_scheme mA_isKept mA_kept mA_trace m_thrown m_status m_acts m_taped m_cursor m_start m_token m_value m_fault m_faultAt m_latest m_stands m_least m_ways m_nearFoot m_nearFeet m_nearCost m_traced m_lane m_many m_item m_poem m_was) sz) := by
  refine Met.ofW (cc := cX7_put) (maxL := 10) (ret := (some .int)) (by decide) rfl ?_
  intro p e s m args below meth c s₁ B hml hv
  obtain ⟨rfl, hsz, hP, hK, hD0, hE⟩ := hv
  have hx := B.exec
  have hb := B.bytes
  have hr := B.returns
  have hts0 := atoms_spec (ws := mC yX7_put cX7_put 10 (some .int)) B.pre
  have hts : ∀ w ∈ tbG, w.before _ s = true := fun w h => hts0 w (List.mem_cons_of_mem _ h)
  have hown : s.vm.findClass RX7 = some m.cls := findClass_of_methodNamed B.named
  subst hsz
  have hD := hD0.self (sz := s.heap.size)
  generalize hAe : va_A (WX7_put K m_a mA_lane mA_many mA_item mA_poem mA_fresh mA_then mA_was mA_tape mA_strengths mA_sounds mA_stand mA_scheme mA_isKept mA_kept mA_trace m_thrown m_status m_acts m_taped m_cursor m_start m_token m_value m_fault m_faultAt m_latest m_stands m_least m_ways m_nearFoot m_nearFeet m_nearCost m_traced m_lane m_many m_item m_poem m_was) s.heap.size = A at hD hE ⊢
  have hA : ∀ q : Nat, s.heap.size ≤ q → A q := fun q h => by rw [← hAe]; exact Or.inr h
  have hS : va_S A s.heap s.heap [] := va_S.rf
  have hl := lv_entry ([.ref m_a, .int p1, .int p2, .int p3, .int p4, .int p5]) (n := 10) (Nat.le_of_ble_eq_true rfl)
  rw [lg_entry_eq]
  generalize (lg_sl ([.ref m_a, .int p1, .int p2, .int p3, .int p4, .int p5]) ++ List.replicate (10 - (lg_sl ([.ref m_a, .int p1, .int p2, .int p3, .int p4, .int p5])).length) Slot.unset).toArray = ls at hl ⊢
  have hl : lv_has ls 10 [(0, .ref m_a), (1, .int p1), (2, .int p2), (3, .int p3), (4, .int p4), (5, .int p5)] := hl
  exact wX7_put_b0 ⟨hx, hb, hml, hown, hts, hK, hA, E0_ok, hE⟩ m_a mA_lane mA_many mA_item mA_poem mA_fresh mA_then mA_was mA_tape mA_strengths mA_sounds mA_stand mA_scheme mA_isKept mA_kept mA_trace m_taped m_cursor m_start m_token m_value m_fault m_faultAt m_latest m_stands m_least m_ways m_nearFoot m_nearFeet m_nearCost m_traced m_lane m_many m_item p1 p2 p3 p4 p5 r o_m_thrown o_m_status o_m_acts o_m_poem o_m_was (fun H locs ls pc hdg hP hD hS => W.iret (v := r) hx hb hr (fun t ht hW => ⟨⟨r, (), rfl, rfl, (show va_P G vwCl _ t.heap by rw [ht]; exact hP)⟩, hS.F ht⟩) hS.2.2 hdg) m_thrown m_status m_acts m_poem m_was  hM _ _ _ hP hD hS hl
