abbrev WX7_copy (K : Nat → ClassId) (m_a mA_lane mA_many mA_item mA_poem mA_fresh mA_then mA_was mA_tape mA_strengths mA_sounds mA_stand mA_scheme mA_isKept mA_kept mA_trace : Nat) (m_thrown : Int32) (m_status : Int32) (m_acts : Int32) (m_taped : Int32) (m_cursor : Int32) (m_start : Int32) (m_token : Int32) (m_value : Int32) (m_fault : Int32) (m_faultAt : Int32) (m_latest : Int32) (m_stands : Int32) (m_least : Int32) (m_ways : Int32) (m_nearFoot : Int32) (m_nearFeet : Int32) (m_nearCost : Int32) (m_traced : Int32) (m_lane : Nat → Int32) (m_many : Nat → Int32) (m_item : Nat → Int32) : va_W := [(m_a, .inr (7, [.int m_thrown, .int m_status, .ref mA_lane, .ref mA_many, .ref mA_item, .ref mA_poem, .ref mA_fresh, .ref mA_then, .ref mA_was, .int m_acts, .ref mA_tape, .int m_taped, .int m_cursor, .int m_start, .int m_token, .int m_value, .int m_fault, .int m_faultAt, .int m_latest, .ref mA_strengths, .ref mA_sounds, .ref mA_stand, .int m_stands, .int m_least, .int m_ways, .ref mA_scheme, .int m_nearFoot, .int m_nearFeet, .int m_nearCost, .ref mA_isKept, .ref mA_kept, .ref mA_trace, .int m_traced])), aI K mA_lane 8 m_lane, aI K mA_many 8 m_many, aI K mA_item 320 m_item]
def rmX7_copy : Room := { frames := 2, cells := 0, slots := 0, locals := 45 }
theorem hdX7_copy : yX7_copy.cls = RX7 ∧ yX7_copy.cls ≠ "java/lang/invoke/MethodHandle" ∧ yX7_copy.cls ≠ "java/lang/invoke/VarHandle" ∧ (parseMethodDescriptor yX7_copy.desc).map (fun d => d.parameters.length) = some 5 := by decide +kernel
set_option maxHeartbeats 4000000 in
set_option maxRecDepth 100000 in
theorem wX7_copy_b45 {p : Program} {l : Launch} {e : Env} {s : State} {m : MethodId} {args : Array Value} {below : List Frame} {meth : Method} {c : Code} {Q : State → Prop} {G : va_G} {K : Nat → ClassId} {A : Nat → Prop} (C0 : CX p s m args c cX7_copy 9 RX7 G K E0 A) (m_a mA_lane mA_many mA_item mA_poem mA_fresh mA_then mA_was mA_tape mA_strengths mA_sounds mA_stand mA_scheme mA_isKept mA_kept mA_trace : Nat) (m_acts : Int32) (m_taped : Int32) (m_cursor : Int32) (m_start : Int32) (m_token : Int32) (m_value : Int32) (m_fault : Int32) (m_faultAt : Int32) (m_latest : Int32) (m_stands : Int32) (m_least : Int32) (m_ways : Int32) (m_nearFoot : Int32) (m_nearFeet : Int32) (m_nearCost : Int32) (m_traced : Int32) (m_lane : Nat → Int32) (m_many : Nat → Int32) (p1 : Int32) (p2 : Int32) (p3 : Int32) (p4 : Int32) (p5 : Int32) (r : Int32) (o_m_thrown : Int32) (o_m_status : Int32) (o_m_item : Nat → Int32) (kr : ∀ (H : Heap) (locs : List Loc) (ls : Array Slot) (pc : Nat), decode cX7_copy pc = .ok (.ireturn, 1) → va_P G vwCl (WX7_copy K m_a mA_lane mA_many mA_item mA_poem mA_fresh mA_then mA_was mA_tape mA_strengths mA_sounds mA_stand mA_scheme mA_isKept mA_kept mA_trace o_m_thrown o_m_status m_acts m_taped m_cursor m_start m_token m_value m_fault m_faultAt m_latest m_stands m_least m_ways m_nearFoot m_nearFeet m_nearCost m_traced m_lane m_many o_m_item) H → va_D A (WX7_copy K m_a mA_lane mA_many mA_item mA_poem mA_fresh mA_then mA_was mA_tape mA_strengths mA_sounds mA_stand mA_scheme mA_isKept mA_kept mA_trace o_m_thrown o_m_status m_acts m_taped m_cursor m_start m_token m_value m_fault m_faultAt m_latest m_stands m_least m_ways m_nearFoot m_nearFeet m_nearCost m_traced m_lane m_many o_m_item) → va_S A s.heap H locs → W p l e rmX7_copy s m args below meth c H locs 0 0 Q (F0 m pc ls [.int r])) (m_thrown : Int32) (m_status : Int32) (m_item : Nat → Int32) (hM : mX7_copy_b45 m_lane m_many p1 p2 p3 p4 p5  m_thrown m_status m_item = some (r, o_m_thrown, o_m_status, o_m_item)) : ∀ (H : Heap) (locs : List Loc) (ls : Array Slot), va_P G vwCl (WX7_copy K m_a mA_lane mA_many mA_item mA_poem mA_fresh mA_then mA_was mA_tape mA_strengths mA_sounds mA_stand mA_scheme mA_isKept mA_kept mA_trace m_thrown m_status m_acts m_taped m_cursor m_start m_token m_value m_fault m_faultAt m_latest m_stands m_least m_ways m_nearFoot m_nearFeet m_nearCost m_traced m_lane m_many m_item) H → va_D A (WX7_copy K m_a mA_lane mA_many mA_item mA_poem mA_fresh mA_then mA_was mA_tape mA_strengths mA_sounds mA_stand mA_scheme mA_isKept mA_kept mA_trace m_thrown m_status m_acts m_taped m_cursor m_start m_token m_value m_fault m_faultAt m_latest m_stands m_least m_ways m_nearFoot m_nearFeet m_nearCost m_traced m_lane m_many m_item) → va_S A s.heap H locs → lv_has ls 9 [(0, .ref m_a)] → W p l e rmX7_copy s m args below meth c H locs 0 0 Q (F0 m 45 ls []) := by
  obtain ⟨hx, hb, hml, hown, hts, hK, hA, hEo, hE⟩ := id C0
  intro H locs ls hP hD hS hl
  unfold mX7_copy_b45 at hM
  refine lv_aload_n hx hb dX7_copy_45 rfl (lv_at hl 0 rfl) ?_
  refine lv_iconst (v := 1) hx hb dX7_copy_46 (by decide) ?_
  obtain ⟨r_1, u0_1, hC, hM⟩ := oe2 hM
  refine cV_i (As := [.int (1 : Int32)]) (rest := []) C0 hP hD hS [0] (kX7_finding l G K m_a mA_lane mA_many mA_item mA_poem mA_fresh mA_then mA_was mA_tape mA_strengths mA_sounds mA_stand mA_scheme mA_isKept mA_kept mA_trace m_thrown m_status m_acts m_taped m_cursor m_start m_token m_value m_fault m_faultAt m_latest m_stands m_least m_ways m_nearFoot m_nearFeet m_nearCost m_traced (1 : Int32) H.size r_1 u0_1 hC) rfl rfl rfl tb878 tb880 tp13 tb9 tb881 hdX7_finding (va_recv hK hP (ci := 7) (q0 := 0) rfl rfl) ⟨Nat.le_of_ble_eq_true rfl, Nat.le_of_ble_eq_true rfl⟩ rfl hl.1 (Nat.le_of_ble_eq_true rfl) rfl ⟨Nat.le_refl _, Nat.le_refl _⟩ dX7_copy_47 (fun H locs hP hD hS => ?_)
  have hP : va_P G vwCl (WX7_copy K m_a mA_lane mA_many mA_item mA_poem mA_fresh mA_then mA_was mA_tape mA_strengths mA_sounds mA_stand mA_scheme mA_isKept mA_kept mA_trace m_thrown u0_1 m_acts m_taped m_cursor m_start m_token m_value m_fault m_faultAt m_latest m_stands m_least m_ways m_nearFoot m_nearFeet m_nearCost m_traced m_lane m_many m_item) H := hP
  have hD : va_D A (WX7_copy K m_a mA_lane mA_many mA_item mA_poem mA_fresh mA_then mA_was mA_tape mA_strengths mA_sounds mA_stand mA_scheme mA_isKept mA_kept mA_trace m_thrown u0_1 m_acts m_taped m_cursor m_start m_token m_value m_fault m_faultAt m_latest m_stands m_least m_ways m_nearFoot m_nearFeet m_nearCost m_traced m_lane m_many m_item) := hD
  have t0 := Option.some.inj hM
  obtain ⟨q1, t1⟩ := Prod.mk.inj t0
  obtain ⟨q2, t2⟩ := Prod.mk.inj t1
  obtain ⟨q3, t3⟩ := Prod.mk.inj t2
  subst q1
  subst q2
  subst q3
  subst t3
  exact kr _ _ _ _ dX7_copy_50 hP hD hS
set_option maxHeartbeats 4000000 in
set_option maxRecDepth 100000 in
theorem wX7_copy_b121 {p : Program} {l : Launch} {e : Env} {s : State} {m : MethodId} {args : Array Value} {below : List Frame} {meth : Method} {c : Code} {Q : State → Prop} {G : va_G} {K : Nat → ClassId} {A : Nat → Prop} (C0 : CX p s m args c cX7_copy 9 RX7 G K E0 A) (m_a mA_lane mA_many mA_item mA_poem mA_fresh mA_then mA_was mA_tape mA_strengths mA_sounds mA_stand mA_scheme mA_isKept mA_kept mA_trace : Nat) (m_acts : Int32) (m_taped : Int32) (m_cursor : Int32) (m_start : Int32) (m_token : Int32) (m_value : Int32) (m_fault : Int32) (m_faultAt : Int32) (m_latest : Int32) (m_stands : Int32) (m_least : Int32) (m_ways : Int32) (m_nearFoot : Int32) (m_nearFeet : Int32) (m_nearCost : Int32) (m_traced : Int32) (m_lane : Nat → Int32) (m_many : Nat → Int32) (p1 : Int32) (p2 : Int32) (p3 : Int32) (p4 : Int32) (p5 : Int32) (r : Int32) (o_m_thrown : Int32) (o_m_status : Int32) (o_m_item : Nat → Int32) (kr : ∀ (H : Heap) (locs : List Loc) (ls : Array Slot) (pc : Nat), decode cX7_copy pc = .ok (.ireturn, 1) → va_P G vwCl (WX7_copy K m_a mA_lane mA_many mA_item mA_poem mA_fresh mA_then mA_was mA_tape mA_strengths mA_sounds mA_stand mA_scheme mA_isKept mA_kept mA_trace o_m_thrown o_m_status m_acts m_taped m_cursor m_start m_token m_value m_fault m_faultAt m_latest m_stands m_least m_ways m_nearFoot m_nearFeet m_nearCost m_traced m_lane m_many o_m_item) H → va_D A (WX7_copy K m_a mA_lane mA_many mA_item mA_poem mA_fresh mA_then mA_was mA_tape mA_strengths mA_sounds mA_stand mA_scheme mA_isKept mA_kept mA_trace o_m_thrown o_m_status m_acts m_taped m_cursor m_start m_token m_value m_fault m_faultAt m_latest m_stands m_least m_ways m_nearFoot m_nearFeet m_nearCost m_traced m_lane m_many o_m_item) → va_S A s.heap H locs → W p l e rmX7_copy s m args below meth c H locs 0 0 Q (F0 m pc ls [.int r])) (m_thrown : Int32) (m_status : Int32) (m_item : Nat → Int32) (hM : mX7_copy_b121 m_lane m_many p1 p2 p3 p4 p5  m_thrown m_status m_item = some (r, o_m_thrown, o_m_status, o_m_item)) : ∀ (H : Heap) (locs : List Loc) (ls : Array Slot), va_P G vwCl (WX7_copy K m_a mA_lane mA_many mA_item mA_poem mA_fresh mA_then mA_was mA_tape mA_strengths mA_sounds mA_stand mA_scheme mA_isKept mA_kept mA_trace m_thrown m_status m_acts m_taped m_cursor m_start m_token m_value m_fault m_faultAt m_latest m_stands m_least m_ways m_nearFoot m_nearFeet m_nearCost m_traced m_lane m_many m_item) H → va_D A (WX7_copy K m_a mA_lane mA_many mA_item mA_poem mA_fresh mA_then mA_was mA_tape mA_strengths mA_sounds mA_stand mA_scheme mA_isKept mA_kept mA_trace m_thrown m_status m_acts m_taped m_cursor m_start m_token m_value m_fault m_faultAt m_latest m_stands m_least m_ways m_nearFoot m_nearFeet m_nearCost m_traced m_lane m_many m_item) → va_S A s.heap H locs → lv_has ls 9 [(0, .ref m_a)] → W p l e rmX7_copy s m args below meth c H locs 0 0 Q (F0 m 121 ls []) := by
  obtain ⟨hx, hb, hml, hown, hts, hK, hA, hEo, hE⟩ := id C0
  intro H locs ls hP hD hS hl
  unfold mX7_copy_b121 at hM
  refine lv_aload_n hx hb dX7_copy_121 rfl (lv_at hl 0 rfl) ?_
  refine lv_iconst (v := 2) hx hb dX7_copy_122 (by decide) ?_
  obtain ⟨r_2, u0_2, hC, hM⟩ := oe2 hM
  refine cV_i (As := [.int (2 : Int32)]) (rest := []) C0 hP hD hS [0] (kX7_finding l G K m_a mA_lane mA_many mA_item mA_poem mA_fresh mA_then mA_was mA_tape mA_strengths mA_sounds mA_stand mA_scheme mA_isKept mA_kept mA_trace m_thrown m_status m_acts m_taped m_cursor m_start m_token m_value m_fault m_faultAt m_latest m_stands m_least m_ways m_nearFoot m_nearFeet m_nearCost m_traced (2 : Int32) H.size r_2 u0_2 hC) rfl rfl rfl tb878 tb880 tp13 tb9 tb881 hdX7_finding (va_recv hK hP (ci := 7) (q0 := 0) rfl rfl) ⟨Nat.le_of_ble_eq_true rfl, Nat.le_of_ble_eq_true rfl⟩ rfl hl.1 (Nat.le_of_ble_eq_true rfl) rfl ⟨Nat.le_refl _, Nat.le_refl _⟩ dX7_copy_123 (fun H locs hP hD hS => ?_)
  have hP : va_P G vwCl (WX7_copy K m_a mA_lane mA_many mA_item mA_poem mA_fresh mA_then mA_was mA_tape mA_strengths mA_sounds mA_stand mA_scheme mA_isKept mA_kept mA_trace m_thrown u0_2 m_acts m_taped m_cursor m_start m_token m_value m_fault m_faultAt m_latest m_stands m_least m_ways m_nearFoot m_nearFeet m_nearCost m_traced m_lane m_many m_item) H := hP
  have hD : va_D A (WX7_copy K m_a mA_lane mA_many mA_item mA_poem mA_fresh mA_then mA_was mA_tape mA_strengths mA_sounds mA_stand mA_scheme mA_isKept mA_kept mA_trace m_thrown u0_2 m_acts m_taped m_cursor m_start m_token m_value m_fault m_faultAt m_latest m_stands m_least m_ways m_nearFoot m_nearFeet m_nearCost m_traced m_lane m_many m_item) := hD
  have t0 := Option.some.inj hM
  obtain ⟨q1, t1⟩ := Prod.mk.inj t0
  obtain ⟨q2, t2⟩ := Prod.mk.inj t1
  obtain ⟨q3, t3⟩ := Prod.mk.inj t2
  subst q1
  subst q2
  subst q3
  subst t3
  exact kr _ _ _ _ dX7_copy_126 hP hD hS
set_option maxHeartbeats 4000000 in
set_option maxRecDepth 100000 in
theorem wX7_copy_b167 {p : Program} {l : Launch} {e : Env} {s : State} {m : MethodId} {args : Array Value} {below : List Frame} {meth : Method} {c : Code} {Q : State → Prop} {G : va_G} {K : Nat → ClassId} {A : Nat → Prop} (C0 : CX p s m args c cX7_copy 9 RX7 G K E0 A) (m_a mA_lane mA_many mA_item mA_poem mA_fresh mA_then mA_was mA_tape mA_strengths mA_sounds mA_stand mA_scheme mA_isKept mA_kept mA_trace : Nat) (m_acts : Int32) (m_taped : Int32) (m_cursor : Int32) (m_start : Int32) (m_token : Int32) (m_value : Int32) (m_fault : Int32) (m_faultAt : Int32) (m_latest : Int32) (m_stands : Int32) (m_least : Int32) (m_ways : Int32) (m_nearFoot : Int32) (m_nearFeet : Int32) (m_nearCost : Int32) (m_traced : Int32) (m_lane : Nat → Int32) (m_many : Nat → Int32) (p1 : Int32) (p2 : Int32) (p3 : Int32) (p4 : Int32) (p5 : Int32) (r : Int32) (o_m_thrown : Int32) (o_m_status : Int32) (o_m_item : Nat → Int32) (kr : ∀ (H : Heap) (locs : List Loc) (ls : Array Slot) (pc : Nat), decode cX7_copy pc = .ok (.ireturn, 1) → va_P G vwCl (WX7_copy K m_a mA_lane mA_many mA_item mA_poem mA_fresh mA_then mA_was mA_tape mA_strengths mA_sounds mA_stand mA_scheme mA_isKept mA_kept mA_trace o_m_thrown o_m_status m_acts m_taped m_cursor m_start m_token m_value m_fault m_faultAt m_latest m_stands m_least m_ways m_nearFoot m_nearFeet m_nearCost m_traced m_lane m_many o_m_item) H → va_D A (WX7_copy K m_a mA_lane mA_many mA_item mA_poem mA_fresh mA_then mA_was mA_tape mA_strengths mA_sounds mA_stand mA_scheme mA_isKept mA_kept mA_trace o_m_thrown o_m_status m_acts m_taped m_cursor m_start m_token m_value m_fault m_faultAt m_latest m_stands m_least m_ways m_nearFoot m_nearFeet m_nearCost m_traced m_lane m_many o_m_item) → va_S A s.heap H locs → W p l e rmX7_copy s m args below meth c H locs 0 0 Q (F0 m pc ls [.int r])) (k143 : Int32 → Int32 → (Nat → Int32) → Int32 → Int32 → Option (Int32 × (Int32) × (Int32) × (Nat → Int32))) (hk143 : ∀ (m_thrown : Int32) (m_status : Int32) (m_item : Nat → Int32) (x6 : Int32) (x7 : Int32), k143 m_thrown m_status m_item x6 x7 = some (r, o_m_thrown, o_m_status, o_m_item) → ∀ (H : Heap) (locs : List Loc) (ls : Array Slot), va_P G vwCl (WX7_copy K m_a mA_lane mA_many mA_item mA_poem mA_fresh mA_then mA_was mA_tape mA_strengths mA_sounds mA_stand mA_scheme mA_isKept mA_kept mA_trace m_thrown m_status m_acts m_taped m_cursor m_start m_token m_value m_fault m_faultAt m_latest m_stands m_least m_ways m_nearFoot m_nearFeet m_nearCost m_traced m_lane m_many m_item) H → va_D A (WX7_copy K m_a mA_lane mA_many mA_item mA_poem mA_fresh mA_then mA_was mA_tape mA_strengths mA_sounds mA_stand mA_scheme mA_isKept mA_kept mA_trace m_thrown m_status m_acts m_taped m_cursor m_start m_token m_value m_fault m_faultAt m_latest m_stands m_least m_ways m_nearFoot m_nearFeet m_nearCost m_traced m_lane m_many m_item) → va_S A s.heap H locs → lv_has ls 9 [(0, .ref m_a), (1, .int p1), (2, .int p2), (3, .int p3), (4, .int p4), (5, .int p5), (6, .int x6), (7, .int x7)] → W p l e rmX7_copy s m args below meth c H locs 0 0 Q (F0 m 143 ls [])) (m_thrown : Int32) (m_status : Int32) (m_item : Nat → Int32) (x6 : Int32) (x7 : Int32) (s0 : Int32) (hM : mX7_copy_b167 m_lane m_many p1 p2 p3 p4 p5 k143 m_thrown m_status m_item x6 x7 s0 = some (r, o_m_thrown, o_m_status, o_m_item)) : ∀ (H : Heap) (locs : List Loc) (ls : Array Slot), va_P G vwCl (WX7_copy K m_a mA_lane mA_many mA_item mA_poem mA_fresh mA_then mA_was mA_tape mA_strengths mA_sounds mA_stand mA_scheme mA_isKept mA_kept mA_trace m_thrown m_status m_acts m_taped m_cursor m_start m_token m_value m_fault m_faultAt m_latest m_stands m_least m_ways m_nearFoot m_nearFeet m_nearCost m_traced m_lane m_many m_item) H → va_D A (WX7_copy K m_a mA_lane mA_many mA_item mA_poem mA_fresh mA_then mA_was mA_tape mA_strengths mA_sounds mA_stand mA_scheme mA_isKept mA_kept mA_trace m_thrown m_status m_acts m_taped m_cursor m_start m_token m_value m_fault m_faultAt m_latest m_stands m_least m_ways m_nearFoot m_nearFeet m_nearCost m_traced m_lane m_many m_item) → va_S A s.heap H locs → lv_has ls 9 [(0, .ref m_a), (1, .int p1), (2, .int p2), (3, .int p3), (4, .int p4), (5, .int p5), (6, .int x6), (7, .int x7)] → W p l e rmX7_copy s m args below meth c H locs 0 0 Q (F0 m 167 ls [.int s0]) := by
  obtain ⟨hx, hb, hml, hown, hts, hK, hA, hEo, hE⟩ := id C0
  intro H locs ls hP hD hS hl
  unfold mX7_copy_b167 at hM
  refine lv_istore (lv' := [(8, .int s0), (0, .ref m_a), (1, .int p1), (2, .int p2), (3, .int p3), (4, .int p4), (5, .int p5), (6, .int x6), (7, .int x7)]) hx hb dX7_copy_167 hl (by decide) rfl (fun ls hl => ?_)
  refine lv_aload_n hx hb dX7_copy_169 rfl (lv_at hl 1 rfl) ?_
  refine va_get (D := G) (ci := 7) (v := .ref mA_item) (C := RX7) (T := TX7) (N := 33) hx hb hts inX7 hown hK hP 0 rfl rfl 4 (by decide) (hts _ tb768) (fun _ h9 => h9) rfl dX7_copy_170 ?_
  refine lv_bipush (v := 40) hx hb dX7_copy_173 (by decide) ?_
  refine lv_iload_n hx hb dX7_copy_175 rfl (lv_at hl 4 rfl) ?_
  refine lv_imul hx hb dX7_copy_176 ?_
  refine lv_iload hx hb dX7_copy_177 (lv_at hl 5 rfl) ?_
  refine lv_iadd hx hb dX7_copy_179 ?_
  refine lv_iload hx hb dX7_copy_180 (lv_at hl 0 rfl) ?_
  refine lv_iadd hx hb dX7_copy_182 ?_
  refine lv_aload_n hx hb dX7_copy_183 rfl (lv_at hl 1 rfl) ?_
  refine va_get (D := G) (ci := 7) (v := .ref mA_item) (C := RX7) (T := TX7) (N := 33) hx hb hts inX7 hown hK hP 0 rfl rfl 4 (by decide) (hts _ tb768) (fun _ h9 => h9) rfl dX7_copy_184 ?_
  refine lv_bipush (v := 40) hx hb dX7_copy_187 (by decide) ?_
  refine lv_iload_n hx hb dX7_copy_189 rfl (lv_at hl 2 rfl) ?_
  refine lv_imul hx hb dX7_copy_190 ?_
  refine lv_iload_n hx hb dX7_copy_191 rfl (lv_at hl 3 rfl) ?_
  refine lv_iadd hx hb dX7_copy_192 ?_
  refine lv_iload hx hb dX7_copy_193 (lv_at hl 0 rfl) ?_
  refine lv_iadd hx hb dX7_copy_195 ?_
  obtain ⟨g_3, hM⟩ := ng hM
  refine va_iald hx hb hK hP 3 0 rfl rfl g_3 dX7_copy_196 ?_
  obtain ⟨g_4, hM⟩ := ng hM
  refine va_iast hx hb hK hP hD hS 3 0 rfl rfl g_4 dX7_copy_197 (fun H locs hP hD hS => ?_)
  have hP : va_P G vwCl (WX7_copy K m_a mA_lane mA_many mA_item mA_poem mA_fresh mA_then mA_was mA_tape mA_strengths mA_sounds mA_stand mA_scheme mA_isKept mA_kept mA_trace m_thrown m_status m_acts m_taped m_cursor m_start m_token m_value m_fault m_faultAt m_latest m_stands m_least m_ways m_nearFoot m_nearFeet m_nearCost m_traced m_lane m_many (upd m_item ((((40 : Int32) * p3) + p4) + s0).toNatClampNeg (m_item ((((40 : Int32) * p1) + p2) + s0).toNatClampNeg))) H := hP
  have hD : va_D A (WX7_copy K m_a mA_lane mA_many mA_item mA_poem mA_fresh mA_then mA_was mA_tape mA_strengths mA_sounds mA_stand mA_scheme mA_isKept mA_kept mA_trace m_thrown m_status m_acts m_taped m_cursor m_start m_token m_value m_fault m_faultAt m_latest m_stands m_least m_ways m_nearFoot m_nearFeet m_nearCost m_traced m_lane m_many (upd m_item ((((40 : Int32) * p3) + p4) + s0).toNatClampNeg (m_item ((((40 : Int32) * p1) + p2) + s0).toNatClampNeg))) := hD
  refine lv_iinc (v := (x7 + 1)) (lv' := [(7, .int (x7 + 1)), (8, .int s0), (0, .ref m_a), (1, .int p1), (2, .int p2), (3, .int p3), (4, .int p4), (5, .int p5), (6, .int x6)]) hx hb dX7_copy_198 hl (k := 8) rfl rfl (by decide) rfl (fun ls hl => ?_)
  refine lv_goto (tgt := 143) hx hb dX7_copy_201 (by decide) ?_
  exact hk143 m_thrown m_status (upd m_item ((((40 : Int32) * p3) + p4) + s0).toNatClampNeg (m_item ((((40 : Int32) * p1) + p2) + s0).toNatClampNeg)) x6 (x7 + 1) hM _ _ _ hP hD hS (lv_sub hl [2, 3, 4, 5, 6, 7, 8, 0] rfl)
set_option maxHeartbeats 4000000 in
set_option maxRecDepth 100000 in
theorem wX7_copy_b143 {p : Program} {l : Launch} {e : Env} {s : State} {m : MethodId} {args : Array Value} {below : List Frame} {meth : Method} {c : Code} {Q : State → Prop} {G : va_G} {K : Nat → ClassId} {A : Nat → Prop} (C0 : CX p s m args c cX7_copy 9 RX7 G K E0 A) (m_a mA_lane mA_many mA_item mA_poem mA_fresh mA_then mA_was mA_tape mA_strengths mA_sounds mA_stand mA_scheme mA_isKept mA_kept mA_trace : Nat) (m_acts : Int32) (m_taped : Int32) (m_cursor : Int32) (m_start : Int32) (m_token : Int32) (m_value : Int32) (m_fault : Int32) (m_faultAt : Int32) (m_latest : Int32) (m_stands : Int32) (m_least : Int32) (m_ways : Int32) (m_nearFoot : Int32) (m_nearFeet : Int32) (m_nearCost : Int32) (m_traced : Int32) (m_lane : Nat → Int32) (m_many : Nat → Int32) (p1 : Int32) (p2 : Int32) (p3 : Int32) (p4 : Int32) (p5 : Int32) (r : Int32) (o_m_thrown : Int32) (o_m_status : Int32) (o_m_item : Nat → Int32) (kr : ∀ (H : Heap) (locs : List Loc) (ls : Array Slot) (pc : Nat), decode cX7_copy pc = .ok (.ireturn, 1) → va_P G vwCl (WX7_copy K m_a mA_lane mA_many mA_item mA_poem mA_fresh mA_then mA_was mA_tape mA_strengths mA_sounds mA_stand mA_scheme mA_isKept mA_kept mA_trace o_m_thrown o_m_status m_acts m_taped m_cursor m_start m_token m_value m_fault m_faultAt m_latest m_stands m_least m_ways m_nearFoot m_nearFeet m_nearCost m_traced m_lane m_many o_m_item) H → va_D A (WX7_copy K m_a mA_lane mA_many mA_item mA_poem mA_fresh mA_then mA_was mA_tape mA_strengths mA_sounds mA_stand mA_scheme mA_isKept mA_kept mA_trace o_m_thrown o_m_status m_acts m_taped m_cursor m_start m_token m_value m_fault m_faultAt m_latest m_stands m_least m_ways m_nearFoot m_nearFeet m_nearCost m_traced m_lane m_many o_m_item) → va_S A s.heap H locs → W p l e rmX7_copy s m args below meth c H locs 0 0 Q (F0 m pc ls [.int r])) (n : Nat) : ∀ (m_thrown : Int32) (m_status : Int32) (m_item : Nat → Int32) (x6 : Int32) (x7 : Int32), mX7_copy_b143 m_lane m_many p1 p2 p3 p4 p5  n m_thrown m_status m_item x6 x7 = some (r, o_m_thrown, o_m_status, o_m_item) → ∀ (H : Heap) (locs : List Loc) (ls : Array Slot), va_P G vwCl (WX7_copy K m_a mA_lane mA_many mA_item mA_poem mA_fresh mA_then mA_was mA_tape mA_strengths mA_sounds mA_stand mA_scheme mA_isKept mA_kept mA_trace m_thrown m_status m_acts m_taped m_cursor m_start m_token m_value m_fault m_faultAt m_latest m_stands m_least m_ways m_nearFoot m_nearFeet m_nearCost m_traced m_lane m_many m_item) H → va_D A (WX7_copy K m_a mA_lane mA_many mA_item mA_poem mA_fresh mA_then mA_was mA_tape mA_strengths mA_sounds mA_stand mA_scheme mA_isKept mA_kept mA_trace m_thrown m_status m_acts m_taped m_cursor m_start m_token m_value m_fault m_faultAt m_latest m_stands m_least m_ways m_nearFoot m_nearFeet m_nearCost m_traced m_lane m_many m_item) → va_S A s.heap H locs → lv_has ls 9 [(0, .ref m_a), (1, .int p1), (2, .int p2), (3, .int p3), (4, .int p4), (5, .int p5), (6, .int x6), (7, .int x7)] → W p l e rmX7_copy s m args below meth c H locs 0 0 Q (F0 m 143 ls []) := by
  obtain ⟨hx, hb, hml, hown, hts, hK, hA, hEo, hE⟩ := id C0
  induction n with
  | zero =>
    intro m_thrown m_status m_item x6 x7 hM
    cases hM
  | succ n ih =>
    intro m_thrown m_status m_item x6 x7 hM H locs ls hP hD hS hl
    rw [mX7_copy_b143] at hM
    refine lv_iload hx hb dX7_copy_143 (lv_at hl 7 rfl) ?_
    refine lv_iload hx hb dX7_copy_145 (lv_at hl 5 rfl) ?_
    refine lv_icmp_ge (tgt := 204) hx hb dX7_copy_147 (by decide) (fun c_5 => ?_) (fun c_5 => ?_)
    · rw [if_pos c_5] at hM
      refine lv_iload hx hb dX7_copy_204 (lv_at hl 5 rfl) ?_
      have t0 := Option.some.inj hM
      obtain ⟨q1, t1⟩ := Prod.mk.inj t0
      obtain ⟨q2, t2⟩ := Prod.mk.inj t1
      obtain ⟨q3, t3⟩ := Prod.mk.inj t2
      subst q1
      subst q2
      subst q3
      subst t3
      exact kr _ _ _ _ dX7_copy_206 hP hD hS
    · rw [if_neg c_5] at hM
      refine lv_iload hx hb dX7_copy_150 (lv_at hl 6 rfl) ?_
      refine lv_if_eq (tgt := 160) hx hb dX7_copy_152 (by decide) (fun c_6 => ?_) (fun c_6 => ?_)
      · rw [if_pos c_6] at hM
        refine lv_iload hx hb dX7_copy_160 (lv_at hl 5 rfl) ?_
        refine lv_iconst (v := 1) hx hb dX7_copy_162 (by decide) ?_
        refine lv_isub hx hb dX7_copy_163 ?_
        refine lv_iload hx hb dX7_copy_164 (lv_at hl 7 rfl) ?_
        refine lv_isub hx hb dX7_copy_166 ?_
        exact wX7_copy_b167 C0 m_a mA_lane mA_many mA_item mA_poem mA_fresh mA_then mA_was mA_tape mA_strengths mA_sounds mA_stand mA_scheme mA_isKept mA_kept mA_trace m_acts m_taped m_cursor m_start m_token m_value m_fault m_faultAt m_latest m_stands m_least m_ways m_nearFoot m_nearFeet m_nearCost m_traced m_lane m_many p1 p2 p3 p4 p5 r o_m_thrown o_m_status o_m_item kr (mX7_copy_b143 m_lane m_many p1 p2 p3 p4 p5  n) ih m_thrown m_status m_item x6 x7 ((p5 - (1 : Int32)) - x7) hM _ _ _ hP hD hS (lv_sub hl [0, 1, 2, 3, 4, 5, 6, 7] rfl)
      · rw [if_neg c_6] at hM
        refine lv_iload hx hb dX7_copy_155 (lv_at hl 7 rfl) ?_
        refine lv_goto (tgt := 167) hx hb dX7_copy_157 (by decide) ?_
        exact wX7_copy_b167 C0 m_a mA_lane mA_many mA_item mA_poem mA_fresh mA_then mA_was mA_tape mA_strengths mA_sounds mA_stand mA_scheme mA_isKept mA_kept mA_trace m_acts m_taped m_cursor m_start m_token m_value m_fault m_faultAt m_latest m_stands m_least m_ways m_nearFoot m_nearFeet m_nearCost m_traced m_lane m_many p1 p2 p3 p4 p5 r o_m_thrown o_m_status o_m_item kr (mX7_copy_b143 m_lane m_many p1 p2 p3 p4 p5  n) ih m_thrown m_status m_item x6 x7 x7 hM _ _ _ hP hD hS (lv_sub hl [0, 1, 2, 3, 4, 5, 6, 7] rfl)
set_option maxHeartbeats 4000000 in
set_option maxRecDepth 100000 in
theorem wX7_copy_b0 {p : Program} {l : Launch} {e : Env} {s : State} {m : MethodId} {args : Array Value} {below : List Frame} {meth : Method} {c : Code} {Q : State → Prop} {G : va_G} {K : Nat → ClassId} {A : Nat → Prop} (C0 : CX p s m args c cX7_copy 9 RX7 G K E0 A) (m_a mA_lane mA_many mA_item mA_poem mA_fresh mA_then mA_was mA_tape mA_strengths mA_sounds mA_stand mA_scheme mA_isKept mA_kept mA_trace : Nat) (m_acts : Int32) (m_taped : Int32) (m_cursor : Int32) (m_start : Int32) (m_token : Int32) (m_value : Int32) (m_fault : Int32) (m_faultAt : Int32) (m_latest : Int32) (m_stands : Int32) (m_least : Int32) (m_ways : Int32) (m_nearFoot : Int32) (m_nearFeet : Int32) (m_nearCost : Int32) (m_traced : Int32) (m_lane : Nat → Int32) (m_many : Nat → Int32) (p1 : Int32) (p2 : Int32) (p3 : Int32) (p4 : Int32) (p5 : Int32) (r : Int32) (o_m_thrown : Int32) (o_m_status : Int32) (o_m_item : Nat → Int32) (kr : ∀ (H : Heap) (locs : List Loc) (ls : Array Slot) (pc : Nat), decode cX7_copy pc = .ok (.ireturn, 1) → va_P G vwCl (WX7_copy K m_a mA_lane mA_many mA_item mA_poem mA_fresh mA_then mA_was mA_tape mA_strengths mA_sounds mA_stand mA_scheme mA_isKept mA_kept mA_trace o_m_thrown o_m_status m_acts m_taped m_cursor m_start m_token m_value m_fault m_faultAt m_latest m_stands m_least m_ways m_nearFoot m_nearFeet m_nearCost m_traced m_lane m_many o_m_item) H → va_D A (WX7_copy K m_a mA_lane mA_many mA_item mA_poem mA_fresh mA_then mA_was mA_tape mA_strengths mA_sounds mA_stand mA_scheme mA_isKept mA_kept mA_trace o_m_thrown o_m_status m_acts m_taped m_cursor m_start m_token m_value m_fault m_faultAt m_latest m_stands m_least m_ways m_nearFoot m_nearFeet m_nearCost m_traced m_lane m_many o_m_item) → va_S A s.heap H locs → W p l e rmX7_copy s m args below meth c H locs 0 0 Q (F0 m pc ls [.int r])) (m_thrown : Int32) (m_status : Int32) (m_item : Nat → Int32) (hM : mX7_copy_b0 m_lane m_many p1 p2 p3 p4 p5  m_thrown m_status m_item = some (r, o_m_thrown, o_m_status, o_m_item)) : ∀ (H : Heap) (locs : List Loc) (ls : Array Slot), va_P G vwCl (WX7_copy K m_a mA_lane mA_many mA_item mA_poem mA_fresh mA_then mA_was mA_tape mA_strengths mA_sounds mA_stand mA_scheme mA_isKept mA_kept mA_trace m_thrown m_status m_acts m_taped m_cursor m_start m_token m_value m_fault m_faultAt m_latest m_stands m_least m_ways m_nearFoot m_nearFeet m_nearCost m_traced m_lane m_many m_item) H → va_D A (WX7_copy K m_a mA_lane mA_many mA_item mA_poem mA_fresh mA_then mA_was mA_tape mA_strengths mA_sounds mA_stand mA_scheme mA_isKept mA_kept mA_trace m_thrown m_status m_acts m_taped m_cursor m_start m_token m_value m_fault m_faultAt m_latest m_stands m_least m_ways m_nearFoot m_nearFeet m_nearCost m_traced m_lane m_many m_item) → va_S A s.heap H locs → lv_has ls 9 [(0, .ref m_a), (1, .int p1), (2, .int p2), (3, .int p3), (4, .int p4), (5, .int p5)] → W p l e rmX7_copy s m args below meth c H locs 0 0 Q (F0 m 0 ls []) := by
  obtain ⟨hx, hb, hml, hown, hts, hK, hA, hEo, hE⟩ := id C0
  intro H locs ls hP hD hS hl
  unfold mX7_copy_b0 at hM
  refine lv_aload_n hx hb dX7_copy_0 rfl (lv_at hl 0 rfl) ?_
  refine lv_iconst (v := 0) hx hb dX7_copy_1 (by decide) ?_
  refine va_put (D := G) (ci := 7) (v := .int (0 : Int32)) (ty := .int) (C := RX7) (T := TX7) (N := 33) hx hb hts inX7 tyX7 tyX7_ok nmX7 hown hK hP hD hS 0 rfl rfl 0 (by decide) (hts _ tb764) (fun _ h9 => h9) rfl (tyX7_ok 0 (by decide)) rfl rfl (Nat.le_of_ble_eq_true rfl) dX7_copy_2 (fun H locs hP hD hS => ?_)
  have hP : va_P G vwCl (WX7_copy K m_a mA_lane mA_many mA_item mA_poem mA_fresh mA_then mA_was mA_tape mA_strengths mA_sounds mA_stand mA_scheme mA_isKept mA_kept mA_trace (0 : Int32) m_status m_acts m_taped m_cursor m_start m_token m_value m_fault m_faultAt m_latest m_stands m_least m_ways m_nearFoot m_nearFeet m_nearCost m_traced m_lane m_many m_item) H := hP
  have hD : va_D A (WX7_copy K m_a mA_lane mA_many mA_item mA_poem mA_fresh mA_then mA_was mA_tape mA_strengths mA_sounds mA_stand mA_scheme mA_isKept mA_kept mA_trace (0 : Int32) m_status m_acts m_taped m_cursor m_start m_token m_value m_fault m_faultAt m_latest m_stands m_least m_ways m_nearFoot m_nearFeet m_nearCost m_traced m_lane m_many m_item) := hD
  refine lv_iload_n hx hb dX7_copy_5 rfl (lv_at hl 1 rfl) ?_
  obtain ⟨r_7, hC, hM⟩ := oe1 hM
  refine cS_i (As := [.int p1]) (rest := []) C0 hP hD hS [] (kX7_isRow l G K p1 H.size r_7 hC) rfl rfl rfl tb869 tb870 tb9 tb871 hdX7_isRow ⟨Nat.le_of_ble_eq_true rfl, Nat.le_of_ble_eq_true rfl⟩ rfl hl.1 (Nat.le_of_ble_eq_true rfl) rfl ⟨Nat.le_refl _, Nat.le_refl _⟩ dX7_copy_6 (fun H locs hP hD hS => ?_)
  have hP : va_P G vwCl (WX7_copy K m_a mA_lane mA_many mA_item mA_poem mA_fresh mA_then mA_was mA_tape mA_strengths mA_sounds mA_stand mA_scheme mA_isKept mA_kept mA_trace (0 : Int32) m_status m_acts m_taped m_cursor m_start m_token m_value m_fault m_faultAt m_latest m_stands m_least m_ways m_nearFoot m_nearFeet m_nearCost m_traced m_lane m_many m_item) H := hP
  have hD : va_D A (WX7_copy K m_a mA_lane mA_many mA_item mA_poem mA_fresh mA_then mA_was mA_tape mA_strengths mA_sounds mA_stand mA_scheme mA_isKept mA_kept mA_trace (0 : Int32) m_status m_acts m_taped m_cursor m_start m_token m_value m_fault m_faultAt m_latest m_stands m_least m_ways m_nearFoot m_nearFeet m_nearCost m_traced m_lane m_many m_item) := hD
  refine lv_if_eq (tgt := 19) hx hb dX7_copy_9 (by decide) (fun c_8 => ?_) (fun c_8 => ?_)
  · rw [if_pos c_8] at hM
    refine lv_ldc (v := -1000001) hx hb hown (hts _ tb877) dX7_copy_19 ?_
    have t0 := Option.some.inj hM
    obtain ⟨q1, t1⟩ := Prod.mk.inj t0
    obtain ⟨q2, t2⟩ := Prod.mk.inj t1
    obtain ⟨q3, t3⟩ := Prod.mk.inj t2
    subst q1
    subst q2
    subst q3
    subst t3
    exact kr _ _ _ _ dX7_copy_21 hP hD hS
  · rw [if_neg c_8] at hM
    refine lv_iload_n hx hb dX7_copy_12 rfl (lv_at hl 3 rfl) ?_
    obtain ⟨r_9, hC, hM⟩ := oe1 hM
    refine cS_i (As := [.int p3]) (rest := []) C0 hP hD hS [] (kX7_isRow l G K p3 H.size r_9 hC) rfl rfl rfl tb869 tb870 tb9 tb871 hdX7_isRow ⟨Nat.le_of_ble_eq_true rfl, Nat.le_of_ble_eq_true rfl⟩ rfl hl.1 (Nat.le_of_ble_eq_true rfl) rfl ⟨Nat.le_refl _, Nat.le_refl _⟩ dX7_copy_13 (fun H locs hP hD hS => ?_)
    have hP : va_P G vwCl (WX7_copy K m_a mA_lane mA_many mA_item mA_poem mA_fresh mA_then mA_was mA_tape mA_strengths mA_sounds mA_stand mA_scheme mA_isKept mA_kept mA_trace (0 : Int32) m_status m_acts m_taped m_cursor m_start m_token m_value m_fault m_faultAt m_latest m_stands m_least m_ways m_nearFoot m_nearFeet m_nearCost m_traced m_lane m_many m_item) H := hP
    have hD : va_D A (WX7_copy K m_a mA_lane mA_many mA_item mA_poem mA_fresh mA_then mA_was mA_tape mA_strengths mA_sounds mA_stand mA_scheme mA_isKept mA_kept mA_trace (0 : Int32) m_status m_acts m_taped m_cursor m_start m_token m_value m_fault m_faultAt m_latest m_stands m_least m_ways m_nearFoot m_nearFeet m_nearCost m_traced m_lane m_many m_item) := hD
    refine lv_if_ne (tgt := 22) hx hb dX7_copy_16 (by decide) (fun c_10 => ?_) (fun c_10 => ?_)
    · rw [if_neg c_10] at hM
      refine lv_aload_n hx hb dX7_copy_22 rfl (lv_at hl 0 rfl) ?_
      refine lv_iconst (v := 0) hx hb dX7_copy_23 (by decide) ?_
      refine va_put (D := G) (ci := 7) (v := .int (0 : Int32)) (ty := .int) (C := RX7) (T := TX7) (N := 33) hx hb hts inX7 tyX7 tyX7_ok nmX7 hown hK hP hD hS 0 rfl rfl 1 (by decide) (hts _ tb765) (fun _ h9 => h9) rfl (tyX7_ok 1 (by decide)) rfl rfl (Nat.le_of_ble_eq_true rfl) dX7_copy_24 (fun H locs hP hD hS => ?_)
      have hP : va_P G vwCl (WX7_copy K m_a mA_lane mA_many mA_item mA_poem mA_fresh mA_then mA_was mA_tape mA_strengths mA_sounds mA_stand mA_scheme mA_isKept mA_kept mA_trace (0 : Int32) (0 : Int32) m_acts m_taped m_cursor m_start m_token m_value m_fault m_faultAt m_latest m_stands m_least m_ways m_nearFoot m_nearFeet m_nearCost m_traced m_lane m_many m_item) H := hP
      have hD : va_D A (WX7_copy K m_a mA_lane mA_many mA_item mA_poem mA_fresh mA_then mA_was mA_tape mA_strengths mA_sounds mA_stand mA_scheme mA_isKept mA_kept mA_trace (0 : Int32) (0 : Int32) m_acts m_taped m_cursor m_start m_token m_value m_fault m_faultAt m_latest m_stands m_least m_ways m_nearFoot m_nearFeet m_nearCost m_traced m_lane m_many m_item) := hD
      refine lv_aload_n hx hb dX7_copy_27 rfl (lv_at hl 0 rfl) ?_
      refine va_get (D := G) (ci := 7) (v := .ref mA_lane) (C := RX7) (T := TX7) (N := 33) hx hb hts inX7 hown hK hP 0 rfl rfl 2 (by decide) (hts _ tb766) (fun _ h9 => h9) rfl dX7_copy_28 ?_
      refine lv_iload_n hx hb dX7_copy_31 rfl (lv_at hl 1 rfl) ?_
      obtain ⟨g_11, hM⟩ := ng hM
      refine va_iald hx hb hK hP 1 0 rfl rfl g_11 dX7_copy_32 ?_
      refine lv_if_lt (tgt := 45) hx hb dX7_copy_33 (by decide) (fun c_12 => ?_) (fun c_12 => ?_)
      · rw [if_pos c_12] at hM
        exact wX7_copy_b45 C0 m_a mA_lane mA_many mA_item mA_poem mA_fresh mA_then mA_was mA_tape mA_strengths mA_sounds mA_stand mA_scheme mA_isKept mA_kept mA_trace m_acts m_taped m_cursor m_start m_token m_value m_fault m_faultAt m_latest m_stands m_least m_ways m_nearFoot m_nearFeet m_nearCost m_traced m_lane m_many p1 p2 p3 p4 p5 r o_m_thrown o_m_status o_m_item kr  (0 : Int32) (0 : Int32) m_item hM _ _ _ hP hD hS (lv_sub hl [0] rfl)
      · rw [if_neg c_12] at hM
        refine lv_aload_n hx hb dX7_copy_36 rfl (lv_at hl 0 rfl) ?_
        refine va_get (D := G) (ci := 7) (v := .ref mA_lane) (C := RX7) (T := TX7) (N := 33) hx hb hts inX7 hown hK hP 0 rfl rfl 2 (by decide) (hts _ tb766) (fun _ h9 => h9) rfl dX7_copy_37 ?_
        refine lv_iload_n hx hb dX7_copy_40 rfl (lv_at hl 3 rfl) ?_
        obtain ⟨g_13, hM⟩ := ng hM
        refine va_iald hx hb hK hP 1 0 rfl rfl g_13 dX7_copy_41 ?_
        refine lv_if_ge (tgt := 51) hx hb dX7_copy_42 (by decide) (fun c_14 => ?_) (fun c_14 => ?_)
        · rw [if_pos c_14] at hM
          refine lv_aload_n hx hb dX7_copy_51 rfl (lv_at hl 0 rfl) ?_
          refine va_get (D := G) (ci := 7) (v := .ref mA_lane) (C := RX7) (T := TX7) (N := 33) hx hb hts inX7 hown hK hP 0 rfl rfl 2 (by decide) (hts _ tb766) (fun _ h9 => h9) rfl dX7_copy_52 ?_
          refine lv_iload_n hx hb dX7_copy_55 rfl (lv_at hl 1 rfl) ?_
          obtain ⟨g_15, hM⟩ := ng hM
          refine va_iald hx hb hK hP 1 0 rfl rfl g_15 dX7_copy_56 ?_
          refine lv_aload_n hx hb dX7_copy_57 rfl (lv_at hl 0 rfl) ?_
          refine va_get (D := G) (ci := 7) (v := .ref mA_lane) (C := RX7) (T := TX7) (N := 33) hx hb hts inX7 hown hK hP 0 rfl rfl 2 (by decide) (hts _ tb766) (fun _ h9 => h9) rfl dX7_copy_58 ?_
          refine lv_iload_n hx hb dX7_copy_61 rfl (lv_at hl 3 rfl) ?_
          obtain ⟨g_16, hM⟩ := ng hM
          refine va_iald hx hb hK hP 1 0 rfl rfl g_16 dX7_copy_62 ?_
          refine lv_icmp_eq (tgt := 72) hx hb dX7_copy_63 (by decide) (fun c_17 => ?_) (fun c_17 => ?_)
          · rw [if_pos c_17] at hM
            refine lv_iload_n hx hb dX7_copy_72 rfl (lv_at hl 2 rfl) ?_
            refine lv_if_lt (tgt := 121) hx hb dX7_copy_73 (by decide) (fun c_18 => ?_) (fun c_18 => ?_)
            · rw [if_pos c_18] at hM
              exact wX7_copy_b121 C0 m_a mA_lane mA_many mA_item mA_poem mA_fresh mA_then mA_was mA_tape mA_strengths mA_sounds mA_stand mA_scheme mA_isKept mA_kept mA_trace m_acts m_taped m_cursor m_start m_token m_value m_fault m_faultAt m_latest m_stands m_least m_ways m_nearFoot m_nearFeet m_nearCost m_traced m_lane m_many p1 p2 p3 p4 p5 r o_m_thrown o_m_status o_m_item kr  (0 : Int32) (0 : Int32) m_item hM _ _ _ hP hD hS (lv_sub hl [0] rfl)
            · rw [if_neg c_18] at hM
              refine lv_iload hx hb dX7_copy_76 (lv_at hl 4 rfl) ?_
              refine lv_if_lt (tgt := 121) hx hb dX7_copy_78 (by decide) (fun c_19 => ?_) (fun c_19 => ?_)
              · rw [if_pos c_19] at hM
                exact wX7_copy_b121 C0 m_a mA_lane mA_many mA_item mA_poem mA_fresh mA_then mA_was mA_tape mA_strengths mA_sounds mA_stand mA_scheme mA_isKept mA_kept mA_trace m_acts m_taped m_cursor m_start m_token m_value m_fault m_faultAt m_latest m_stands m_least m_ways m_nearFoot m_nearFeet m_nearCost m_traced m_lane m_many p1 p2 p3 p4 p5 r o_m_thrown o_m_status o_m_item kr  (0 : Int32) (0 : Int32) m_item hM _ _ _ hP hD hS (lv_sub hl [0] rfl)
              · rw [if_neg c_19] at hM
                refine lv_iload hx hb dX7_copy_81 (lv_at hl 5 rfl) ?_
                refine lv_if_lt (tgt := 121) hx hb dX7_copy_83 (by decide) (fun c_20 => ?_) (fun c_20 => ?_)
                · rw [if_pos c_20] at hM
                  exact wX7_copy_b121 C0 m_a mA_lane mA_many mA_item mA_poem mA_fresh mA_then mA_was mA_tape mA_strengths mA_sounds mA_stand mA_scheme mA_isKept mA_kept mA_trace m_acts m_taped m_cursor m_start m_token m_value m_fault m_faultAt m_latest m_stands m_least m_ways m_nearFoot m_nearFeet m_nearCost m_traced m_lane m_many p1 p2 p3 p4 p5 r o_m_thrown o_m_status o_m_item kr  (0 : Int32) (0 : Int32) m_item hM _ _ _ hP hD hS (lv_sub hl [0] rfl)
                · rw [if_neg c_20] at hM
                  refine lv_iload_n hx hb dX7_copy_86 rfl (lv_at hl 2 rfl) ?_
                  refine lv_i2l hx hb dX7_copy_87 rfl ?_
                  refine lv_iload hx hb dX7_copy_88 (lv_at hl 5 rfl) ?_
                  refine lv_i2l hx hb dX7_copy_90 rfl ?_
                  refine lv_ladd hx hb dX7_copy_91 ?_
                  refine lv_aload_n hx hb dX7_copy_92 rfl (lv_at hl 0 rfl) ?_
                  refine va_get (D := G) (ci := 7) (v := .ref mA_many) (C := RX7) (T := TX7) (N := 33) hx hb hts inX7 hown hK hP 0 rfl rfl 3 (by decide) (hts _ tb767) (fun _ h9 => h9) rfl dX7_copy_93 ?_
                  refine lv_iload_n hx hb dX7_copy_96 rfl (lv_at hl 1 rfl) ?_
                  obtain ⟨g_21, hM⟩ := ng hM
                  refine va_iald hx hb hK hP 2 0 rfl rfl g_21 dX7_copy_97 ?_
                  refine lv_i2l hx hb dX7_copy_98 rfl ?_
                  refine W.lcmp hx hb dX7_copy_99 ?_
                  refine lv_if_gt (tgt := 121) hx hb dX7_copy_100 (by decide) (fun c_22 => ?_) (fun c_22 => ?_)
                  · rw [if_pos c_22] at hM
                    exact wX7_copy_b121 C0 m_a mA_lane mA_many mA_item mA_poem mA_fresh mA_then mA_was mA_tape mA_strengths mA_sounds mA_stand mA_scheme mA_isKept mA_kept mA_trace m_acts m_taped m_cursor m_start m_token m_value m_fault m_faultAt m_latest m_stands m_least m_ways m_nearFoot m_nearFeet m_nearCost m_traced m_lane m_many p1 p2 p3 p4 p5 r o_m_thrown o_m_status o_m_item kr  (0 : Int32) (0 : Int32) m_item hM _ _ _ hP hD hS (lv_sub hl [0] rfl)
                  · rw [if_neg c_22] at hM
                    refine lv_iload hx hb dX7_copy_103 (lv_at hl 4 rfl) ?_
                    refine lv_i2l hx hb dX7_copy_105 rfl ?_
                    refine lv_iload hx hb dX7_copy_106 (lv_at hl 5 rfl) ?_
                    refine lv_i2l hx hb dX7_copy_108 rfl ?_
                    refine lv_ladd hx hb dX7_copy_109 ?_
                    refine lv_aload_n hx hb dX7_copy_110 rfl (lv_at hl 0 rfl) ?_
                    refine va_get (D := G) (ci := 7) (v := .ref mA_many) (C := RX7) (T := TX7) (N := 33) hx hb hts inX7 hown hK hP 0 rfl rfl 3 (by decide) (hts _ tb767) (fun _ h9 => h9) rfl dX7_copy_111 ?_
                    refine lv_iload_n hx hb dX7_copy_114 rfl (lv_at hl 3 rfl) ?_
                    obtain ⟨g_23, hM⟩ := ng hM
                    refine va_iald hx hb hK hP 2 0 rfl rfl g_23 dX7_copy_115 ?_
                    refine lv_i2l hx hb dX7_copy_116 rfl ?_
                    refine W.lcmp hx hb dX7_copy_117 ?_
                    refine lv_if_le (tgt := 127) hx hb dX7_copy_118 (by decide) (fun c_24 => ?_) (fun c_24 => ?_)
                    · rw [if_pos c_24] at hM
                      refine lv_iload_n hx hb dX7_copy_127 rfl (lv_at hl 2 rfl) ?_
                      refine lv_iload hx hb dX7_copy_128 (lv_at hl 4 rfl) ?_
                      refine lv_icmp_lt (tgt := 137) hx hb dX7_copy_130 (by decide) (fun c_25 => ?_) (fun c_25 => ?_)
                      · rw [if_pos c_25] at hM
                        refine lv_iconst (v := 0) hx hb dX7_copy_137 (by decide) ?_
                        refine lv_istore (lv' := [(6, .int (0 : Int32)), (0, .ref m_a), (1, .int p1), (2, .int p2), (3, .int p3), (4, .int p4), (5, .int p5)]) hx hb dX7_copy_138 hl (by decide) rfl (fun ls hl => ?_)
                        refine lv_iconst (v := 0) hx hb dX7_copy_140 (by decide) ?_
                        refine lv_istore (lv' := [(7, .int (0 : Int32)), (6, .int (0 : Int32)), (0, .ref m_a), (1, .int p1), (2, .int p2), (3, .int p3), (4, .int p4), (5, .int p5)]) hx hb dX7_copy_141 hl (by decide) rfl (fun ls hl => ?_)
                        exact wX7_copy_b143 C0 m_a mA_lane mA_many mA_item mA_poem mA_fresh mA_then mA_was mA_tape mA_strengths mA_sounds mA_stand mA_scheme mA_isKept mA_kept mA_trace m_acts m_taped m_cursor m_start m_token m_value m_fault m_faultAt m_latest m_stands m_least m_ways m_nearFoot m_nearFeet m_nearCost m_traced m_lane m_many p1 p2 p3 p4 p5 r o_m_thrown o_m_status o_m_item kr  FU (0 : Int32) (0 : Int32) m_item (0 : Int32) (0 : Int32) hM _ _ _ hP hD hS (lv_sub hl [2, 3, 4, 5, 6, 7, 1, 0] rfl)
                      · rw [if_neg c_25] at hM
                        refine lv_iconst (v := 1) hx hb dX7_copy_133 (by decide) ?_
                        refine lv_goto (tgt := 138) hx hb dX7_copy_134 (by decide) ?_
                        refine lv_istore (lv' := [(6, .int (1 : Int32)), (0, .ref m_a), (1, .int p1), (2, .int p2), (3, .int p3), (4, .int p4), (5, .int p5)]) hx hb dX7_copy_138 hl (by decide) rfl (fun ls hl => ?_)
                        refine lv_iconst (v := 0) hx hb dX7_copy_140 (by decide) ?_
                        refine lv_istore (lv' := [(7, .int (0 : Int32)), (6, .int (1 : Int32)), (0, .ref m_a), (1, .int p1), (2, .int p2), (3, .int p3), (4, .int p4), (5, .int p5)]) hx hb dX7_copy_141 hl (by decide) rfl (fun ls hl => ?_)
                        exact wX7_copy_b143 C0 m_a mA_lane mA_many mA_item mA_poem mA_fresh mA_then mA_was mA_tape mA_strengths mA_sounds mA_stand mA_scheme mA_isKept mA_kept mA_trace m_acts m_taped m_cursor m_start m_token m_value m_fault m_faultAt m_latest m_stands m_least m_ways m_nearFoot m_nearFeet m_nearCost m_traced m_lane m_many p1 p2 p3 p4 p5 r o_m_thrown o_m_status o_m_item kr  FU (0 : Int32) (0 : Int32) m_item (1 : Int32) (0 : Int32) hM _ _ _ hP hD hS (lv_sub hl [2, 3, 4, 5, 6, 7, 1, 0] rfl)
                    · rw [if_neg c_24] at hM
                      exact wX7_copy_b121 C0 m_a mA_lane mA_many mA_item mA_poem mA_fresh mA_then mA_was mA_tape mA_strengths mA_sounds mA_stand mA_scheme mA_isKept mA_kept mA_trace m_acts m_taped m_cursor m_start m_token m_value m_fault m_faultAt m_latest m_stands m_least m_ways m_nearFoot m_nearFeet m_nearCost m_traced m_lane m_many p1 p2 p3 p4 p5 r o_m_thrown o_m_status o_m_item kr  (0 : Int32) (0 : Int32) m_item hM _ _ _ hP hD hS (lv_sub hl [0] rfl)
          · rw [if_neg c_17] at hM
            refine lv_aload_n hx hb dX7_copy_66 rfl (lv_at hl 0 rfl) ?_
            refine lv_iconst (v := 5) hx hb dX7_copy_67 (by decide) ?_
            obtain ⟨r_26, u0_26, hC, hM⟩ := oe2 hM
            refine cV_i (As := [.int (5 : Int32)]) (rest := []) C0 hP hD hS [0] (kX7_finding l G K m_a mA_lane mA_many mA_item mA_poem mA_fresh mA_then mA_was mA_tape mA_strengths mA_sounds mA_stand mA_scheme mA_isKept mA_kept mA_trace (0 : Int32) (0 : Int32) m_acts m_taped m_cursor m_start m_token m_value m_fault m_faultAt m_latest m_stands m_least m_ways m_nearFoot m_nearFeet m_nearCost m_traced (5 : Int32) H.size r_26 u0_26 hC) rfl rfl rfl tb878 tb880 tp13 tb9 tb881 hdX7_finding (va_recv hK hP (ci := 7) (q0 := 0) rfl rfl) ⟨Nat.le_of_ble_eq_true rfl, Nat.le_of_ble_eq_true rfl⟩ rfl hl.1 (Nat.le_of_ble_eq_true rfl) rfl ⟨Nat.le_refl _, Nat.le_refl _⟩ dX7_copy_68 (fun H locs hP hD hS => ?_)
            have hP : va_P G vwCl (WX7_copy K m_a mA_lane mA_many mA_item mA_poem mA_fresh mA_then mA_was mA_tape mA_strengths mA_sounds mA_stand mA_scheme mA_isKept mA_kept mA_trace (0 : Int32) u0_26 m_acts m_taped m_cursor m_start m_token m_value m_fault m_faultAt m_latest m_stands m_least m_ways m_nearFoot m_nearFeet m_nearCost m_traced m_lane m_many m_item) H := hP
            have hD : va_D A (WX7_copy K m_a mA_lane mA_many mA_item mA_poem mA_fresh mA_then mA_was mA_tape mA_strengths mA_sounds mA_stand mA_scheme mA_isKept mA_kept mA_trace (0 : Int32) u0_26 m_acts m_taped m_cursor m_start m_token m_value m_fault m_faultAt m_latest m_stands m_least m_ways m_nearFoot m_nearFeet m_nearCost m_traced m_lane m_many m_item) := hD
            have t0 := Option.some.inj hM
            obtain ⟨q1, t1⟩ := Prod.mk.inj t0
            obtain ⟨q2, t2⟩ := Prod.mk.inj t1
            obtain ⟨q3, t3⟩ := Prod.mk.inj t2
            subst q1
            subst q2
            subst q3
            subst t3
            exact kr _ _ _ _ dX7_copy_71 hP hD hS
        · rw [if_neg c_14] at hM
          exact wX7_copy_b45 C0 m_a mA_lane mA_many mA_item mA_poem mA_fresh mA_then mA_was mA_tape mA_strengths mA_sounds mA_stand mA_scheme mA_isKept mA_kept mA_trace m_acts m_taped m_cursor m_start m_token m_value m_fault m_faultAt m_latest m_stands m_least m_ways m_nearFoot m_nearFeet m_nearCost m_traced m_lane m_many p1 p2 p3 p4 p5 r o_m_thrown o_m_status o_m_item kr  (0 : Int32) (0 : Int32) m_item hM _ _ _ hP hD hS (lv_sub hl [0] rfl)
    · rw [if_pos c_10] at hM
      refine lv_ldc (v := -1000001) hx hb hown (hts _ tb877) dX7_copy_19 ?_
      have t0 := Option.some.inj hM
      obtain ⟨q1, t1⟩ := Prod.mk.inj t0
      obtain ⟨q2, t2⟩ := Prod.mk.inj t1
      obtain ⟨q3, t3⟩ := Prod.mk.inj t2
      subst q1
      subst q2
      subst q3
      subst t3
      exact kr _ _ _ _ dX7_copy_21 hP hD hS
set_option maxHeartbeats 4000000 in
set_option maxRecDepth 100000 in
theorem kX7_copy (l : Launch) (G : va_G) (K : Nat → ClassId) (m_a mA_lane mA_many mA_item mA_poem mA_fresh mA_then mA_was mA_tape mA_strengths mA_sounds mA_stand mA_scheme mA_isKept mA_kept mA_trace : Nat) (m_thrown : Int32) (m_status : Int32) (m_acts : Int32) (m_taped : Int32) (m_cursor : Int32) (m_start : Int32) (m_token : Int32) (m_value : Int32) (m_fault : Int32) (m_faultAt : Int32) (m_latest : Int32) (m_stands : Int32) (m_least : Int32) (m_ways : Int32) (m_nearFoot : Int32) (m_nearFeet : Int32) (m_nearCost : Int32) (m_traced : Int32) (m_lane : Nat → Int32) (m_many : Nat → Int32) (m_item : Nat → Int32) (p1 : Int32) (p2 : Int32) (p3 : Int32) (p4 : Int32) (p5 : Int32) (sz : Nat) (r : Int32) (o_m_thrown : Int32) (o_m_status : Int32) (o_m_item : Nat → Int32) (hM : mX7_copy m_lane m_many m_thrown m_status m_item p1 p2 p3 p4 p5 = some (r, o_m_thrown, o_m_status, o_m_item)) : Met l yX7_copy (mC yX7_copy cX7_copy 9 (some .int)) rmX7_copy (va_Pc [.ref m_a, .int p1, .int p2, .int p3, .int p4, .int p5] (PCe G K E0 (WX7_copy K m_a mA_lane mA_many mA_item mA_poem mA_fresh mA_then mA_was mA_tape mA_strengths mA_sounds mA_stand mA_scheme mA_isKept mA_kept mA_trace m_thrown m_status m_acts m_taped m_cursor m_start m_token m_value m_fault m_faultAt m_latest m_stands m_least m_ways m_nearFoot m_nearFeet m_nearCost m_traced m_lane m_many m_item) sz)) (va_Qi (fun (x : Int32) (_ : Unit) => x = r) (fun _ t => va_P G vwCl (WX7_copy K m_a mA_lane mA_many mA_item mA_poem mA_fresh mA_then mA_was mA_tape mA_strengths mA_sounds mA_stand mA_scheme mA_isKept mA_kept mA_trace o_m_thrown o_m_status m_acts m_taped m_cursor m_start m_token m_value m_fault m_faultAt m_latest m_stands m_least m_ways m_nearFoot m_nearFeet m_nearCost m_traced m_lane m_many o_m_item) t.heap) (va_A (WX7_copy K m_a mA_lane mA_many mA_item mA_poem mA_fresh mA_then mA_was mA_tape mA_strengths mA_sounds mA_stand mA_scheme mA_isKept mA_kept mA_trace m_thrown m_status m_acts m_taped m_cursor m_start m_token m_value m_fault m_faultAt m_latest m_stands m_least m_ways m_nearFoot m_nearFeet m_nearCost m_traced m_lane m_many m_item) sz)) rmX7_copy.cells rmX7_copy.slots (va_A (WX7_copy K m_a mA_lane mA_many mA_item mA_poem mA_fresh mA_then mA_was mA_tape mA_strengths mA_sounds mA_stand mA_scheme mA_isKept mA_kept mA_trace m_thrown m_status m_acts m_taped m_cursor m_start m_token m_value m_fault m_faultAt m_latest m_stands m_least m_ways m_nearFoot m_nearFeet m_nearCost m_traced m_lane m_many m_item) sz) := by
  refine Met.ofW (cc := cX7_copy) (maxL := 9) (ret := (some .int)) (by decide) rfl ?_
  intro p e s m args below meth c s₁ B hml hv
  obtain ⟨rfl, hsz, hP, hK, hD0, hE⟩ := hv
  have hx := B.exec
  have hb := B.bytes
  have hr := B.returns
  have hts0 := atoms_spec (ws := mC yX7_copy cX7_copy 9 (some .int)) B.pre
  have hts : ∀ w ∈ tbG, w.before _ s = true := fun w h => hts0 w (List.mem_cons_of_mem _ h)
  have hown : s.vm.findClass RX7 = some m.cls := findClass_of_methodNamed B.named
  subst hsz
  have hD := hD0.self (sz := s.heap.size)
  generalize hAe : va_A (WX7_copy K m_a mA_lane mA_many mA_item mA_poem mA_fresh mA_then mA_was mA_tape mA_strengths mA_sounds mA_stand mA_scheme mA_isKept mA_kept mA_trace m_thrown m_status m_acts m_taped m_cursor m_start m_token m_value m_fault m_faultAt m_latest m_stands m_least m_ways m_nearFoot m_nearFeet m_nearCost m_traced m_lane m_many m_item) s.heap.size = A at hD hE ⊢
  have hA : ∀ q : Nat, s.heap.size ≤ q → A q := fun q h => by rw [← hAe]; exact Or.inr h
  have hS : va_S A s.heap s.heap [] := va_S.rf
  have hl := lv_entry ([.ref m_a, .int p1, .int p2, .int p3, .int p4, .int p5]) (n := 9) (Nat.le_of_ble_eq_true rfl)
  rw [lg_entry_eq]
  generalize (lg_sl ([.ref m_a, .int p1, .int p2, .int p3, .int p4, .int p5]) ++ List.replicate (9 - (lg_sl ([.ref m_a, .int p1, .int p2, .int p3, .int p4, .int p5])).length) Slot.unset).toArray = ls at hl ⊢
  have hl : lv_has ls 9 [(0, .ref m_a), (1, .int p1), (2, .int p2), (3, .int p3), (4, .int p4), (5, .int p5)] := hl
  exact wX7_copy_b0 ⟨hx, hb, hml, hown, hts, hK, hA, E0_ok, hE⟩ m_a mA_lane mA_many mA_item mA_poem mA_fresh mA_then mA_was mA_tape mA_strengths mA_sounds mA_stand mA_scheme mA_isKept mA_kept mA_trace m_acts m_taped m_cursor m_start m_token m_value m_fault m_faultAt m_latest m_stands m_least m_ways m_nearFoot m_nearFeet m_nearCost m_traced m_lane m_many p1 p2 p3 p4 p5 r o_m_thrown o_m_status o_m_item (fun H locs ls pc hdg hP hD hS => W.iret (v := r) hx hb hr (fun t ht hW => ⟨⟨r, (), rfl, rfl, (show va_P G vwCl _ t.heap by rw [ht]; exact hP)⟩, hS.F ht⟩) hS.2.2 hdg) m_thrown m_status m_item  hM _ _ _ hP hD hS hl
abbrev WX7_drop (K : Nat → ClassId) (m_a mA_lane mA_many mA_item mA_poem mA_fresh mA_then mA_was mA_tape mA_strengths mA_sounds mA_stand mA_scheme mA_isKept mA_kept mA_trace : Nat) (m_thrown : Int32) (m_status : Int32) (m_acts : Int32) (m_taped : Int32) (m_cursor : Int32) (m_start : Int32) (m_token : Int32) (m_value : Int32) (m_fault : Int32) (m_faultAt : Int32) (m_latest : Int32) (m_stands : Int32) (m_least : Int32) (m_ways : Int32) (m_nearFoot : Int32) (m_nearFeet : Int32) (m_nearCost : Int32) (m_traced : Int32) (m_lane : Nat → Int32) (m_many : Nat → Int32) : va_W := [(m_a, .inr (7, [.int m_thrown, .int m_status, .ref mA_lane, .ref mA_many, .ref mA_item, .ref mA_poem, .ref mA_fresh, .ref mA_then, .ref mA_was, .int m_acts, .ref mA_tape, .int m_taped, .int m_cursor, .int m_start, .int m_token, .int m_value, .int m_fault, .int m_faultAt, .int m_latest, .ref mA_strengths, .ref mA_sounds, .ref mA_stand, .int m_stands, .int m_least, .int m_ways, .ref mA_scheme, .int m_nearFoot, .int m_nearFeet, .int m_nearCost, .ref mA_isKept, .ref mA_kept, .ref mA_trace, .int m_traced])), aI K mA_lane 8 m_lane, aI K mA_many 8 m_many]
def rmX7_drop : Room := { frames := 2, cells := 0, slots := 0, locals := 45 }
theorem hdX7_drop : yX7_drop.cls = RX7 ∧ yX7_drop.cls ≠ "java/lang/invoke/MethodHandle" ∧ yX7_drop.cls ≠ "java/lang/invoke/VarHandle" ∧ (parseMethodDescriptor yX7_drop.desc).map (fun d => d.parameters.length) = some 1 := by decide +kernel
set_option maxHeartbeats 4000000 in
set_option maxRecDepth 100000 in
theorem wX7_drop_b0 {p : Program} {l : Launch} {e : Env} {s : State} {m : MethodId} {args : Array Value} {below : List Frame} {meth : Method} {c : Code} {Q : State → Prop} {G : va_G} {K : Nat → ClassId} {A : Nat → Prop} (C0 : CX p s m args c cX7_drop 2 RX7 G K E0 A) (m_a mA_lane mA_many mA_item mA_poem mA_fresh mA_then mA_was mA_tape mA_strengths mA_sounds mA_stand mA_scheme mA_isKept mA_kept mA_trace : Nat) (m_acts : Int32) (m_taped : Int32) (m_cursor : Int32) (m_start : Int32) (m_token : Int32) (m_value : Int32) (m_fault : Int32) (m_faultAt : Int32) (m_latest : Int32) (m_stands : Int32) (m_least : Int32) (m_ways : Int32) (m_nearFoot : Int32) (m_nearFeet : Int32) (m_nearCost : Int32) (m_traced : Int32) (m_many : Nat → Int32) (p1 : Int32) (r : Int32) (o_m_thrown : Int32) (o_m_status : Int32) (o_m_lane : Nat → Int32) (kr : ∀ (H : Heap) (locs : List Loc) (ls : Array Slot) (pc : Nat), decode cX7_drop pc = .ok (.ireturn, 1) → va_P G vwCl (WX7_drop K m_a mA_lane mA_many mA_item mA_poem mA_fresh mA_then mA_was mA_tape mA_strengths mA_sounds mA_stand mA_scheme mA_isKept mA_kept mA_trace o_m_thrown o_m_status m_acts m_taped m_cursor m_start m_token m_value m_fault m_faultAt m_latest m_stands m_least m_ways m_nearFoot m_nearFeet m_nearCost m_traced o_m_lane m_many) H → va_D A (WX7_drop K m_a mA_lane mA_many mA_item mA_poem mA_fresh mA_then mA_was mA_tape mA_strengths mA_sounds mA_stand mA_scheme mA_isKept mA_kept mA_trace o_m_thrown o_m_status m_acts m_taped m_cursor m_start m_token m_value m_fault m_faultAt m_latest m_stands m_least m_ways m_nearFoot m_nearFeet m_nearCost m_traced o_m_lane m_many) → va_S A s.heap H locs → W p l e rmX7_drop s m args below meth c H locs 0 0 Q (F0 m pc ls [.int r])) (m_thrown : Int32) (m_status : Int32) (m_lane : Nat → Int32) (hM : mX7_drop_b0 m_many p1  m_thrown m_status m_lane = some (r, o_m_thrown, o_m_status, o_m_lane)) : ∀ (H : Heap) (locs : List Loc) (ls : Array Slot), va_P G vwCl (WX7_drop K m_a mA_lane mA_many mA_item mA_poem mA_fresh mA_then mA_was mA_tape mA_strengths mA_sounds mA_stand mA_scheme mA_isKept mA_kept mA_trace m_thrown m_status m_acts m_taped m_cursor m_start m_token m_value m_fault m_faultAt m_latest m_stands m_least m_ways m_nearFoot m_nearFeet m_nearCost m_traced m_lane m_many) H → va_D A (WX7_drop K m_a mA_lane mA_many mA_item mA_poem mA_fresh mA_then mA_was mA_tape mA_strengths mA_sounds mA_stand mA_scheme mA_isKept mA_kept mA_trace m_thrown m_status m_acts m_taped m_cursor m_start m_token m_value m_fault m_faultAt m_latest m_stands m_least m_ways m_nearFoot m_nearFeet m_nearCost m_traced m_lane m_many) → va_S A s.heap H locs → lv_has ls 2 [(0, .ref m_a), (1, .int p1)] → W p l e rmX7_drop s m args below meth c H locs 0 0 Q (F0 m 0 ls []) := by
  obtain ⟨hx, hb, hml, hown, hts, hK, hA, hEo, hE⟩ := id C0
  intro H locs ls hP hD hS hl
  unfold mX7_drop_b0 at hM
  refine lv_aload_n hx hb dX7_drop_0 rfl (lv_at hl 0 rfl) ?_
  refine lv_iconst (v := 0) hx hb dX7_drop_1 (by decide) ?_
  refine va_put (D := G) (ci := 7) (v := .int (0 : Int32)) (ty := .int) (C := RX7) (T := TX7) (N := 33) hx hb hts inX7 tyX7 tyX7_ok nmX7 hown hK hP hD hS 0 rfl rfl 0 (by decide) (hts _ tb764) (fun _ h9 => h9) rfl (tyX7_ok 0 (by decide)) rfl rfl (Nat.le_of_ble_eq_true rfl) dX7_drop_2 (fun H locs hP hD hS => ?_)
  have hP : va_P G vwCl (WX7_drop K m_a mA_lane mA_many mA_item mA_poem mA_fresh mA_then mA_was mA_tape mA_strengths mA_sounds mA_stand mA_scheme mA_isKept mA_kept mA_trace (0 : Int32) m_status m_acts m_taped m_cursor m_start m_token m_value m_fault m_faultAt m_latest m_stands m_least m_ways m_nearFoot m_nearFeet m_nearCost m_traced m_lane m_many) H := hP
  have hD : va_D A (WX7_drop K m_a mA_lane mA_many mA_item mA_poem mA_fresh mA_then mA_was mA_tape mA_strengths mA_sounds mA_stand mA_scheme mA_isKept mA_kept mA_trace (0 : Int32) m_status m_acts m_taped m_cursor m_start m_token m_value m_fault m_faultAt m_latest m_stands m_least m_ways m_nearFoot m_nearFeet m_nearCost m_traced m_lane m_many) := hD
  refine lv_iload_n hx hb dX7_drop_5 rfl (lv_at hl 1 rfl) ?_
  obtain ⟨r_1, hC, hM⟩ := oe1 hM
  refine cS_i (As := [.int p1]) (rest := []) C0 hP hD hS [] (kX7_isRow l G K p1 H.size r_1 hC) rfl rfl rfl tb869 tb870 tb9 tb871 hdX7_isRow ⟨Nat.le_of_ble_eq_true rfl, Nat.le_of_ble_eq_true rfl⟩ rfl hl.1 (Nat.le_of_ble_eq_true rfl) rfl ⟨Nat.le_refl _, Nat.le_refl _⟩ dX7_drop_6 (fun H locs hP hD hS => ?_)
  have hP : va_P G vwCl (WX7_drop K m_a mA_lane mA_many mA_item mA_poem mA_fresh mA_then mA_was mA_tape mA_strengths mA_sounds mA_stand mA_scheme mA_isKept mA_kept mA_trace (0 : Int32) m_status m_acts m_taped m_cursor m_start m_token m_value m_fault m_faultAt m_latest m_stands m_least m_ways m_nearFoot m_nearFeet m_nearCost m_traced m_lane m_many) H := hP
  have hD : va_D A (WX7_drop K m_a mA_lane mA_many mA_item mA_poem mA_fresh mA_then mA_was mA_tape mA_strengths mA_sounds mA_stand mA_scheme mA_isKept mA_kept mA_trace (0 : Int32) m_status m_acts m_taped m_cursor m_start m_token m_value m_fault m_faultAt m_latest m_stands m_least m_ways m_nearFoot m_nearFeet m_nearCost m_traced m_lane m_many) := hD
  refine lv_if_ne (tgt := 15) hx hb dX7_drop_9 (by decide) (fun c_2 => ?_) (fun c_2 => ?_)
  · rw [if_neg c_2] at hM
    refine lv_aload_n hx hb dX7_drop_15 rfl (lv_at hl 0 rfl) ?_
    refine lv_iconst (v := 0) hx hb dX7_drop_16 (by decide) ?_
    refine va_put (D := G) (ci := 7) (v := .int (0 : Int32)) (ty := .int) (C := RX7) (T := TX7) (N := 33) hx hb hts inX7 tyX7 tyX7_ok nmX7 hown hK hP hD hS 0 rfl rfl 1 (by decide) (hts _ tb765) (fun _ h9 => h9) rfl (tyX7_ok 1 (by decide)) rfl rfl (Nat.le_of_ble_eq_true rfl) dX7_drop_17 (fun H locs hP hD hS => ?_)
    have hP : va_P G vwCl (WX7_drop K m_a mA_lane mA_many mA_item mA_poem mA_fresh mA_then mA_was mA_tape mA_strengths mA_sounds mA_stand mA_scheme mA_isKept mA_kept mA_trace (0 : Int32) (0 : Int32) m_acts m_taped m_cursor m_start m_token m_value m_fault m_faultAt m_latest m_stands m_least m_ways m_nearFoot m_nearFeet m_nearCost m_traced m_lane m_many) H := hP
    have hD : va_D A (WX7_drop K m_a mA_lane mA_many mA_item mA_poem mA_fresh mA_then mA_was mA_tape mA_strengths mA_sounds mA_stand mA_scheme mA_isKept mA_kept mA_trace (0 : Int32) (0 : Int32) m_acts m_taped m_cursor m_start m_token m_value m_fault m_faultAt m_latest m_stands m_least m_ways m_nearFoot m_nearFeet m_nearCost m_traced m_lane m_many) := hD
    refine lv_aload_n hx hb dX7_drop_20 rfl (lv_at hl 0 rfl) ?_
    refine va_get (D := G) (ci := 7) (v := .ref mA_lane) (C := RX7) (T := TX7) (N := 33) hx hb hts inX7 hown hK hP 0 rfl rfl 2 (by decide) (hts _ tb766) (fun _ h9 => h9) rfl dX7_drop_21 ?_
    refine lv_iload_n hx hb dX7_drop_24 rfl (lv_at hl 1 rfl) ?_
    obtain ⟨g_3, hM⟩ := ng hM
    refine va_iald hx hb hK hP 1 0 rfl rfl g_3 dX7_drop_25 ?_
    refine lv_if_ge (tgt := 35) hx hb dX7_drop_26 (by decide) (fun c_4 => ?_) (fun c_4 => ?_)
    · rw [if_pos c_4] at hM
      refine lv_aload_n hx hb dX7_drop_35 rfl (lv_at hl 0 rfl) ?_
      refine va_get (D := G) (ci := 7) (v := .ref mA_lane) (C := RX7) (T := TX7) (N := 33) hx hb hts inX7 hown hK hP 0 rfl rfl 2 (by decide) (hts _ tb766) (fun _ h9 => h9) rfl dX7_drop_36 ?_
      refine lv_iload_n hx hb dX7_drop_39 rfl (lv_at hl 1 rfl) ?_
      refine lv_iconst (v := (-1)) hx hb dX7_drop_40 (by decide) ?_
      obtain ⟨g_5, hM⟩ := ng hM
      refine va_iast hx hb hK hP hD hS 1 0 rfl rfl g_5 dX7_drop_41 (fun H locs hP hD hS => ?_)
      have hP : va_P G vwCl (WX7_drop K m_a mA_lane mA_many mA_item mA_poem mA_fresh mA_then mA_was mA_tape mA_strengths mA_sounds mA_stand mA_scheme mA_isKept mA_kept mA_trace (0 : Int32) (0 : Int32) m_acts m_taped m_cursor m_start m_token m_value m_fault m_faultAt m_latest m_stands m_least m_ways m_nearFoot m_nearFeet m_nearCost m_traced (upd m_lane p1.toNatClampNeg ((-1) : Int32)) m_many) H := hP
      have hD : va_D A (WX7_drop K m_a mA_lane mA_many mA_item mA_poem mA_fresh mA_then mA_was mA_tape mA_strengths mA_sounds mA_stand mA_scheme mA_isKept mA_kept mA_trace (0 : Int32) (0 : Int32) m_acts m_taped m_cursor m_start m_token m_value m_fault m_faultAt m_latest m_stands m_least m_ways m_nearFoot m_nearFeet m_nearCost m_traced (upd m_lane p1.toNatClampNeg ((-1) : Int32)) m_many) := hD
      refine lv_aload_n hx hb dX7_drop_42 rfl (lv_at hl 0 rfl) ?_
      refine va_get (D := G) (ci := 7) (v := .ref mA_many) (C := RX7) (T := TX7) (N := 33) hx hb hts inX7 hown hK hP 0 rfl rfl 3 (by decide) (hts _ tb767) (fun _ h9 => h9) rfl dX7_drop_43 ?_
      refine lv_iload_n hx hb dX7_drop_46 rfl (lv_at hl 1 rfl) ?_
      obtain ⟨g_6, hM⟩ := ng hM
      refine va_iald hx hb hK hP 2 0 rfl rfl g_6 dX7_drop_47 ?_
      have t0 := Option.some.inj hM
      obtain ⟨q1, t1⟩ := Prod.mk.inj t0
      obtain ⟨q2, t2⟩ := Prod.mk.inj t1
      obtain ⟨q3, t3⟩ := Prod.mk.inj t2
      subst q1
      subst q2
      subst q3
      subst t3
      exact kr _ _ _ _ dX7_drop_48 hP hD hS
    · rw [if_neg c_4] at hM
      refine lv_aload_n hx hb dX7_drop_29 rfl (lv_at hl 0 rfl) ?_
      refine lv_iconst (v := 1) hx hb dX7_drop_30 (by decide) ?_
      obtain ⟨r_7, u0_7, hC, hM⟩ := oe2 hM
      refine cV_i (As := [.int (1 : Int32)]) (rest := []) C0 hP hD hS [0] (kX7_finding l G K m_a mA_lane mA_many mA_item mA_poem mA_fresh mA_then mA_was mA_tape mA_strengths mA_sounds mA_stand mA_scheme mA_isKept mA_kept mA_trace (0 : Int32) (0 : Int32) m_acts m_taped m_cursor m_start m_token m_value m_fault m_faultAt m_latest m_stands m_least m_ways m_nearFoot m_nearFeet m_nearCost m_traced (1 : Int32) H.size r_7 u0_7 hC) rfl rfl rfl tb878 tb880 tp13 tb9 tb881 hdX7_finding (va_recv hK hP (ci := 7) (q0 := 0) rfl rfl) ⟨Nat.le_of_ble_eq_true rfl, Nat.le_of_ble_eq_true rfl⟩ rfl hl.1 (Nat.le_of_ble_eq_true rfl) rfl ⟨Nat.le_refl _, Nat.le_refl _⟩ dX7_drop_31 (fun H locs hP hD hS => ?_)
      have hP : va_P G vwCl (WX7_drop K m_a mA_lane mA_many mA_item mA_poem mA_fresh mA_then mA_was mA_tape mA_strengths mA_sounds mA_stand mA_scheme mA_isKept mA_kept mA_trace (0 : Int32) u0_7 m_acts m_taped m_cursor m_start m_token m_value m_fault m_faultAt m_latest m_stands m_least m_ways m_nearFoot m_nearFeet m_nearCost m_traced m_lane m_many) H := hP
      have hD : va_D A (WX7_drop K m_a mA_lane mA_many mA_item mA_poem mA_fresh mA_then mA_was mA_tape mA_strengths mA_sounds mA_stand mA_scheme mA_isKept mA_kept mA_trace (0 : Int32) u0_7 m_acts m_taped m_cursor m_start m_token m_value m_fault m_faultAt m_latest m_stands m_least m_ways m_nearFoot m_nearFeet m_nearCost m_traced m_lane m_many) := hD
      have t0 := Option.some.inj hM
      obtain ⟨q1, t1⟩ := Prod.mk.inj t0
      obtain ⟨q2, t2⟩ := Prod.mk.inj t1
      obtain ⟨q3, t3⟩ := Prod.mk.inj t2
      subst q1
      subst q2
      subst q3
      subst t3
      exact kr _ _ _ _ dX7_drop_34 hP hD hS
  · rw [if_pos c_2] at hM
    refine lv_ldc (v := -1000001) hx hb hown (hts _ tb877) dX7_drop_12 ?_
    have t0 := Option.some.inj hM
    obtain ⟨q1, t1⟩ := Prod.mk.inj t0
    obtain ⟨q2, t2⟩ := Prod.mk.inj t1
    obtain ⟨q3, t3⟩ := Prod.mk.inj t2
    subst q1
    subst q2
    subst q3
    subst t3
    exact kr _ _ _ _ dX7_drop_14 hP hD hS
set_option maxHeartbeats 4000000 in
set_option maxRecDepth 100000 in
theorem kX7_drop (l : Launch) (G : va_G) (K : Nat → ClassId) (m_a mA_lane mA_many mA_item mA_poem mA_fresh mA_then mA_was mA_tape mA_strengths mA_sounds mA_stand mA_scheme mA_isKept mA_kept mA_trace : Nat) (m_thrown : Int32) (m_status : Int32) (m_acts : Int32) (m_taped : Int32) (m_cursor : Int32) (m_start : Int32) (m_token : Int32) (m_value : Int32) (m_fault : Int32) (m_faultAt : Int32) (m_latest : Int32) (m_stands : Int32) (m_least : Int32) (m_ways : Int32) (m_nearFoot : Int32) (m_nearFeet : Int32) (m_nearCost : Int32) (m_traced : Int32) (m_lane : Nat → Int32) (m_many : Nat → Int32) (p1 : Int32) (sz : Nat) (r : Int32) (o_m_thrown : Int32) (o_m_status : Int32) (o_m_lane : Nat → Int32) (hM : mX7_drop m_many m_thrown m_status m_lane p1 = some (r, o_m_thrown, o_m_status, o_m_lane)) : Met l yX7_drop (mC yX7_drop cX7_drop 2 (some .int)) rmX7_drop (va_Pc [.ref m_a, .int p1] (PCe G K E0 (WX7_drop K m_a mA_lane mA_many mA_item mA_poem mA_fresh mA_then mA_was mA_tape mA_strengths mA_sounds mA_stand mA_scheme mA_isKept mA_kept mA_trace m_thrown m_status m_acts m_taped m_cursor m_start m_token m_value m_fault m_faultAt m_latest m_stands m_least m_ways m_nearFoot m_nearFeet m_nearCost m_traced m_lane m_many) sz)) (va_Qi (fun (x : Int32) (_ : Unit) => x = r) (fun _ t => va_P G vwCl (WX7_drop K m_a mA_lane mA_many mA_item mA_poem mA_fresh mA_then mA_was mA_tape mA_strengths mA_sounds mA_stand mA_scheme mA_isKept mA_kept mA_trace o_m_thrown o_m_status m_acts m_taped m_cursor m_start m_token m_value m_fault m_faultAt m_latest m_stands m_least m_ways m_nearFoot m_nearFeet m_nearCost m_traced o_m_lane m_many) t.heap) (va_A (WX7_drop K m_a mA_lane mA_many mA_item mA_poem mA_fresh mA_then mA_was mA_tape mA_strengths mA_sounds mA_stand mA_scheme mA_isKept mA_kept mA_trace m_thrown m_status m_acts m_taped m_cursor m_start m_token m_value m_fault m_faultAt m_latest m_stands m_least m_ways m_nearFoot m_nearFeet m_nearCost m_traced m_lane m_many) sz)) rmX7_drop.cells rmX7_drop.slots (va_A (WX7_drop K m_a mA_lane mA_many mA_item mA_poem mA_fresh mA_then mA_was mA_tape mA_strengths mA_sounds mA_stand mA_scheme mA_isKept mA_kept mA_trace m_thrown m_status m_acts m_taped m_cursor m_start m_token m_value m_fault m_faultAt m_latest m_stands m_least m_ways m_nearFoot m_nearFeet m_nearCost m_traced m_lane m_many) sz) := by
  refine Met.ofW (cc := cX7_drop) (maxL := 2) (ret := (some .int)) (by decide) rfl ?_
  intro p e s m args below meth c s₁ B hml hv
  obtain ⟨rfl, hsz, hP, hK, hD0, hE⟩ := hv
  have hx := B.exec
  have hb := B.bytes
  have hr := B.returns
  have hts0 := atoms_spec (ws := mC yX7_drop cX7_drop 2 (some .int)) B.pre
  have hts : ∀ w ∈ tbG, w.before _ s = true := fun w h => hts0 w (List.mem_cons_of_mem _ h)
  have hown : s.vm.findClass RX7 = some m.cls := findClass_of_methodNamed B.named
  subst hsz
  have hD := hD0.self (sz := s.heap.size)
  generalize hAe : va_A (WX7_drop K m_a mA_lane mA_many mA_item mA_poem mA_fresh mA_then mA_was mA_tape mA_strengths mA_sounds mA_stand mA_scheme mA_isKept mA_kept mA_trace m_thrown m_status m_acts m_taped m_cursor m_start m_token m_value m_fault m_faultAt m_latest m_stands m_least m_ways m_nearFoot m_nearFeet m_nearCost m_traced m_lane m_many) s.heap.size = A at hD hE ⊢
  have hA : ∀ q : Nat, s.heap.size ≤ q → A q := fun q h => by rw [← hAe]; exact Or.inr h
  have hS : va_S A s.heap s.heap [] := va_S.rf
  have hl := lv_entry ([.ref m_a, .int p1]) (n := 2) (Nat.le_of_ble_eq_true rfl)
  rw [lg_entry_eq]
  generalize (lg_sl ([.ref m_a, .int p1]) ++ List.replicate (2 - (lg_sl ([.ref m_a, .int p1])).length) Slot.unset).toArray = ls at hl ⊢
  have hl : lv_has ls 2 [(0, .ref m_a), (1, .int p1)] := hl
  exact wX7_drop_b0 ⟨hx, hb, hml, hown, hts, hK, hA, E0_ok, hE⟩ m_a mA_lane mA_many mA_item mA_poem mA_fresh mA_then mA_was mA_tape mA_strengths mA_sounds mA_stand mA_scheme mA_isKept mA_kept mA_trace m_acts m_taped m_cursor m_start m_token m_value m_fault m_faultAt m_latest m_stands m_least m_ways m_nearFoot m_nearFeet m_nearCost m_traced m_many p1 r o_m_thrown o_m_status o_m_lane (fun H locs ls pc hdg hP hD hS => W.iret (v := r) hx hb hr (fun t ht hW => ⟨⟨r, (), rfl, rfl, (show va_P G vwCl _ t.heap by rw [ht]; exact hP)⟩, hS.F ht⟩) hS.2.2 hdg) m_thrown m_status m_lane  hM _ _ _ hP hD hS hl
abbrev WX7_feed (K : Nat → ClassId) (m_a mA_lane mA_many mA_item mA_poem mA_fresh mA_then mA_was mA_tape mA_strengths mA_sounds mA_stand mA_scheme mA_isKept mA_kept mA_trace : Nat) (m_thrown : Int32) (m_status : Int32) (m_acts : Int32) (m_taped : Int32) (m_cursor : Int32) (m_start : Int32) (m_token : Int32) (m_value : Int32) (m_fault : Int32) (m_faultAt : Int32) (m_latest : Int32) (m_stands : Int32) (m_least : Int32) (m_ways : Int32) (m_nearFoot : Int32) (m_nearFeet : Int32) (m_nearCost : Int32) (m_traced : Int32) (m_tape : Nat → Int32) : va_W := [(m_a, .inr (7, [.int m_thrown, .int m_status, .ref mA_lane, .ref mA_many, .ref mA_item, .ref mA_poem, .ref mA_fresh, .ref mA_then, .ref mA_was, .int m_acts, .ref mA_tape, .int m_taped, .int m_cursor, .int m_start, .int m_token, .int m_value, .int m_fault, .int m_faultAt, .int m_latest, .ref mA_strengths, .ref mA_sounds, .ref mA_stand, .int m_stands, .int m_least, .int m_ways, .ref mA_scheme, .int m_nearFoot, .int m_nearFeet, .int m_nearCost, .ref mA_isKept, .ref mA_kept, .ref mA_trace, .int m_traced])), aI K mA_tape 130 m_tape]
def rmX7_feed : Room := { frames := 1, cells := 0, slots := 0, locals := 25 }
theorem hdX7_feed : yX7_feed.cls = RX7 ∧ yX7_feed.cls ≠ "java/lang/invoke/MethodHandle" ∧ yX7_feed.cls ≠ "java/lang/invoke/VarHandle" ∧ (parseMethodDescriptor yX7_feed.desc).map (fun d => d.parameters.length) = some 1 := by decide +kernel
set_option maxHeartbeats 4000000 in
set_option maxRecDepth 100000 in
theorem wX7_feed_b0 {p : Program} {l : Launch} {e : Env} {s : State} {m : MethodId} {args : Array Value} {below : List Frame} {meth : Method} {c : Code} {Q : State → Prop} {G : va_G} {K : Nat → ClassId} {A : Nat → Prop} (C0 : CX p s m args c cX7_feed 2 RX7 G K E0 A) (m_a mA_lane mA_many mA_item mA_poem mA_fresh mA_then mA_was mA_tape mA_strengths mA_sounds mA_stand mA_scheme mA_isKept mA_kept mA_trace : Nat) (m_status : Int32) (m_acts : Int32) (m_cursor : Int32) (m_start : Int32) (m_token : Int32) (m_value : Int32) (m_fault : Int32) (m_faultAt : Int32) (m_latest : Int32) (m_stands : Int32) (m_least : Int32) (m_ways : Int32) (m_nearFoot : Int32) (m_nearFeet : Int32) (m_nearCost : Int32) (m_traced : Int32) (p1 : Int32) (r : Int32) (o_m_thrown : Int32) (o_m_taped : Int32) (o_m_tape : Nat → Int32) (kr : ∀ (H : Heap) (locs : List Loc) (ls : Array Slot) (pc : Nat), decode cX7_feed pc = .ok (.ireturn, 1) → va_P G vwCl (WX7_feed K m_a mA_lane mA_many mA_item mA_poem mA_fresh mA_then mA_was mA_tape mA_strengths mA_sounds mA_stand mA_scheme mA_isKept mA_kept mA_trace o_m_thrown m_status m_acts o_m_taped m_cursor m_start m_token m_value m_fault m_faultAt m_latest m_stands m_least m_ways m_nearFoot m_nearFeet m_nearCost m_traced o_m_tape) H → va_D A (WX7_feed K m_a mA_lane mA_many mA_item mA_poem mA_fresh mA_then mA_was mA_tape mA_strengths mA_sounds mA_stand mA_scheme mA_isKept mA_kept mA_trace o_m_thrown m_status m_acts o_m_taped m_cursor m_start m_token m_value m_fault m_faultAt m_latest m_stands m_least m_ways m_nearFoot m_nearFeet m_nearCost m_traced o_m_tape) → va_S A s.heap H locs → W p l e rmX7_feed s m args below meth c H locs 0 0 Q (F0 m pc ls [.int r])) (m_thrown : Int32) (m_taped : Int32) (m_tape : Nat → Int32) (hM : mX7_feed_b0 p1  m_thrown m_taped m_tape = some (r, o_m_thrown, o_m_taped, o_m_tape)) : ∀ (H : Heap) (locs : List Loc) (ls : Array Slot), va_P G vwCl (WX7_feed K m_a mA_lane mA_many mA_item mA_poem mA_fresh mA_then mA_was mA_tape mA_strengths mA_sounds mA_stand mA_scheme mA_isKept mA_kept mA_trace m_thrown m_status m_acts m_taped m_cursor m_start m_token m_value m_fault m_faultAt m_latest m_stands m_least m_ways m_nearFoot m_nearFeet m_nearCost m_traced m_tape) H → va_D A (WX7_feed K m_a mA_lane mA_many mA_item mA_poem mA_fresh mA_then mA_was mA_tape mA_strengths mA_sounds mA_stand mA_scheme mA_isKept mA_kept mA_trace m_thrown m_status m_acts m_taped m_cursor m_start m_token m_value m_fault m_faultAt m_latest m_stands m_least m_ways m_nearFoot m_nearFeet m_nearCost m_traced m_tape) → va_S A s.heap H locs → lv_has ls 2 [(0, .ref m_a), (1, .int p1)] → W p l e rmX7_feed s m args below meth c H locs 0 0 Q (F0 m 0 ls []) := by
  obtain ⟨hx, hb, hml, hown, hts, hK, hA, hEo, hE⟩ := id C0
  intro H locs ls hP hD hS hl
  unfold mX7_feed_b0 at hM
  refine lv_aload_n hx hb dX7_feed_0 rfl (lv_at hl 0 rfl) ?_
  refine lv_iconst (v := 0) hx hb dX7_feed_1 (by decide) ?_
  refine va_put (D := G) (ci := 7) (v := .int (0 : Int32)) (ty := .int) (C := RX7) (T := TX7) (N := 33) hx hb hts inX7 tyX7 tyX7_ok nmX7 hown hK hP hD hS 0 rfl rfl 0 (by decide) (hts _ tb764) (fun _ h9 => h9) rfl (tyX7_ok 0 (by decide)) rfl rfl (Nat.le_of_ble_eq_true rfl) dX7_feed_2 (fun H locs hP hD hS => ?_)
  have hP : va_P G vwCl (WX7_feed K m_a mA_lane mA_many mA_item mA_poem mA_fresh mA_then mA_was mA_tape mA_strengths mA_sounds mA_stand mA_scheme mA_isKept mA_kept mA_trace (0 : Int32) m_status m_acts m_taped m_cursor m_start m_token m_value m_fault m_faultAt m_latest m_stands m_least m_ways m_nearFoot m_nearFeet m_nearCost m_traced m_tape) H := hP
  have hD : va_D A (WX7_feed K m_a mA_lane mA_many mA_item mA_poem mA_fresh mA_then mA_was mA_tape mA_strengths mA_sounds mA_stand mA_scheme mA_isKept mA_kept mA_trace (0 : Int32) m_status m_acts m_taped m_cursor m_start m_token m_value m_fault m_faultAt m_latest m_stands m_least m_ways m_nearFoot m_nearFeet m_nearCost m_traced m_tape) := hD
  refine lv_iload_n hx hb dX7_feed_5 rfl (lv_at hl 1 rfl) ?_
  refine lv_i2l hx hb dX7_feed_6 rfl ?_
  refine lv_lconst (v := 0) hx hb dX7_feed_7 (by decide) ?_
  refine lv_ldc2 (v := 255) hx hb hown (hts _ tb899) dX7_feed_8 ?_
  obtain ⟨r_1, hC, hM⟩ := oe1 hM
  refine cS_i (As := [.long p1.toInt64, .long (0 : Int64), .long (255 : Int64)]) (rest := []) C0 hP hD hS [] (kX7_in l G K p1.toInt64 (0 : Int64) (255 : Int64) H.size r_1 hC) rfl rfl rfl tb873 tb874 tb9 tb875 hdX7_in ⟨Nat.le_of_ble_eq_true rfl, Nat.le_of_ble_eq_true rfl⟩ rfl hl.1 (Nat.le_of_ble_eq_true rfl) rfl ⟨Nat.le_refl _, Nat.le_refl _⟩ dX7_feed_11 (fun H locs hP hD hS => ?_)
  have hP : va_P G vwCl (WX7_feed K m_a mA_lane mA_many mA_item mA_poem mA_fresh mA_then mA_was mA_tape mA_strengths mA_sounds mA_stand mA_scheme mA_isKept mA_kept mA_trace (0 : Int32) m_status m_acts m_taped m_cursor m_start m_token m_value m_fault m_faultAt m_latest m_stands m_least m_ways m_nearFoot m_nearFeet m_nearCost m_traced m_tape) H := hP
  have hD : va_D A (WX7_feed K m_a mA_lane mA_many mA_item mA_poem mA_fresh mA_then mA_was mA_tape mA_strengths mA_sounds mA_stand mA_scheme mA_isKept mA_kept mA_trace (0 : Int32) m_status m_acts m_taped m_cursor m_start m_token m_value m_fault m_faultAt m_latest m_stands m_least m_ways m_nearFoot m_nearFeet m_nearCost m_traced m_tape) := hD
  refine lv_if_ne (tgt := 20) hx hb dX7_feed_14 (by decide) (fun c_2 => ?_) (fun c_2 => ?_)
  · rw [if_neg c_2] at hM
    refine lv_aload_n hx hb dX7_feed_20 rfl (lv_at hl 0 rfl) ?_
    refine va_get (D := G) (ci := 7) (v := .int m_taped) (C := RX7) (T := TX7) (N := 33) hx hb hts inX7 hown hK hP 0 rfl rfl 11 (by decide) (hts _ tb775) (fun _ h9 => h9) rfl dX7_feed_21 ?_
    refine lv_sipush (v := 130) hx hb dX7_feed_24 (by decide) ?_
    refine lv_icmp_ne (tgt := 33) hx hb dX7_feed_27 (by decide) (fun c_3 => ?_) (fun c_3 => ?_)
    · rw [if_neg c_3] at hM
      refine lv_aload_n hx hb dX7_feed_33 rfl (lv_at hl 0 rfl) ?_
      refine va_get (D := G) (ci := 7) (v := .ref mA_tape) (C := RX7) (T := TX7) (N := 33) hx hb hts inX7 hown hK hP 0 rfl rfl 10 (by decide) (hts _ tb774) (fun _ h9 => h9) rfl dX7_feed_34 ?_
      refine lv_aload_n hx hb dX7_feed_37 rfl (lv_at hl 0 rfl) ?_
      refine va_get (D := G) (ci := 7) (v := .int m_taped) (C := RX7) (T := TX7) (N := 33) hx hb hts inX7 hown hK hP 0 rfl rfl 11 (by decide) (hts _ tb775) (fun _ h9 => h9) rfl dX7_feed_38 ?_
      refine lv_iload_n hx hb dX7_feed_41 rfl (lv_at hl 1 rfl) ?_
      obtain ⟨g_4, hM⟩ := ng hM
      refine va_iast hx hb hK hP hD hS 1 0 rfl rfl g_4 dX7_feed_42 (fun H locs hP hD hS => ?_)
      have hP : va_P G vwCl (WX7_feed K m_a mA_lane mA_many mA_item mA_poem mA_fresh mA_then mA_was mA_tape mA_strengths mA_sounds mA_stand mA_scheme mA_isKept mA_kept mA_trace (0 : Int32) m_status m_acts m_taped m_cursor m_start m_token m_value m_fault m_faultAt m_latest m_stands m_least m_ways m_nearFoot m_nearFeet m_nearCost m_traced (upd m_tape m_taped.toNatClampNeg p1)) H := hP
      have hD : va_D A (WX7_feed K m_a mA_lane mA_many mA_item mA_poem mA_fresh mA_then mA_was mA_tape mA_strengths mA_sounds mA_stand mA_scheme mA_isKept mA_kept mA_trace (0 : Int32) m_status m_acts m_taped m_cursor m_start m_token m_value m_fault m_faultAt m_latest m_stands m_least m_ways m_nearFoot m_nearFeet m_nearCost m_traced (upd m_tape m_taped.toNatClampNeg p1)) := hD
      refine lv_aload_n hx hb dX7_feed_43 rfl (lv_at hl 0 rfl) ?_
      refine lv_dup hx hb dX7_feed_44 rfl ?_
      refine va_get (D := G) (ci := 7) (v := .int m_taped) (C := RX7) (T := TX7) (N := 33) hx hb hts inX7 hown hK hP 0 rfl rfl 11 (by decide) (hts _ tb775) (fun _ h9 => h9) rfl dX7_feed_45 ?_
      refine lv_iconst (v := 1) hx hb dX7_feed_48 (by decide) ?_
      refine lv_iadd hx hb dX7_feed_49 ?_
      refine va_put (D := G) (ci := 7) (v := .int (m_taped + (1 : Int32))) (ty := .int) (C := RX7) (T := TX7) (N := 33) hx hb hts inX7 tyX7 tyX7_ok nmX7 hown hK hP hD hS 0 rfl rfl 11 (by decide) (hts _ tb775) (fun _ h9 => h9) rfl (tyX7_ok 11 (by decide)) rfl rfl (Nat.le_of_ble_eq_true rfl) dX7_feed_50 (fun H locs hP hD hS => ?_)
      have hP : va_P G vwCl (WX7_feed K m_a mA_lane mA_many mA_item mA_poem mA_fresh mA_then mA_was mA_tape mA_strengths mA_sounds mA_stand mA_scheme mA_isKept mA_kept mA_trace (0 : Int32) m_status m_acts (m_taped + (1 : Int32)) m_cursor m_start m_token m_value m_fault m_faultAt m_latest m_stands m_least m_ways m_nearFoot m_nearFeet m_nearCost m_traced (upd m_tape m_taped.toNatClampNeg p1)) H := hP
      have hD : va_D A (WX7_feed K m_a mA_lane mA_many mA_item mA_poem mA_fresh mA_then mA_was mA_tape mA_strengths mA_sounds mA_stand mA_scheme mA_isKept mA_kept mA_trace (0 : Int32) m_status m_acts (m_taped + (1 : Int32)) m_cursor m_start m_token m_value m_fault m_faultAt m_latest m_stands m_least m_ways m_nearFoot m_nearFeet m_nearCost m_traced (upd m_tape m_taped.toNatClampNeg p1)) := hD
      refine lv_aload_n hx hb dX7_feed_53 rfl (lv_at hl 0 rfl) ?_
      refine va_get (D := G) (ci := 7) (v := .int (m_taped + (1 : Int32))) (C := RX7) (T := TX7) (N := 33) hx hb hts inX7 hown hK hP 0 rfl rfl 11 (by decide) (hts _ tb775) (fun _ h9 => h9) rfl dX7_feed_54 ?_
      have t0 := Option.some.inj hM
      obtain ⟨q1, t1⟩ := Prod.mk.inj t0
      obtain ⟨q2, t2⟩ := Prod.mk.inj t1
      obtain ⟨q3, t3⟩ := Prod.mk.inj t2
      subst q1
      subst q2
      subst q3
      subst t3
      exact kr _ _ _ _ dX7_feed_57 hP hD hS
    · rw [if_pos c_3] at hM
      refine lv_ldc (v := -1000003) hx hb hown (hts _ tb900) dX7_feed_30 ?_
      have t0 := Option.some.inj hM
      obtain ⟨q1, t1⟩ := Prod.mk.inj t0
      obtain ⟨q2, t2⟩ := Prod.mk.inj t1
      obtain ⟨q3, t3⟩ := Prod.mk.inj t2
      subst q1
      subst q2
      subst q3
      subst t3
      exact kr _ _ _ _ dX7_feed_32 hP hD hS
  · rw [if_pos c_2] at hM
    refine lv_ldc (v := -1000001) hx hb hown (hts _ tb877) dX7_feed_17 ?_
    have t0 := Option.some.inj hM
    obtain ⟨q1, t1⟩ := Prod.mk.inj t0
    obtain ⟨q2, t2⟩ := Prod.mk.inj t1
    obtain ⟨q3, t3⟩ := Prod.mk.inj t2
    subst q1
    subst q2
    subst q3
    subst t3
    exact kr _ _ _ _ dX7_feed_19 hP hD hS
set_option maxHeartbeats 4000000 in
set_option maxRecDepth 100000 in
theorem kX7_feed (l : Launch) (G : va_G) (K : Nat → ClassId) (m_a mA_lane mA_many mA_item mA_poem mA_fresh mA_then mA_was mA_tape mA_strengths mA_sounds mA_stand mA_scheme mA_isKept mA_kept mA_trace : Nat) (m_thrown : Int32) (m_status : Int32) (m_acts : Int32) (m_taped : Int32) (m_cursor : Int32) (m_start : Int32) (m_token : Int32) (m_value : Int32) (m_fault : Int32) (m_faultAt : Int32) (m_latest : Int32) (m_stands : Int32) (m_least : Int32) (m_ways : Int32) (m_nearFoot : Int32) (m_nearFeet : Int32) (m_nearCost : Int32) (m_traced : Int32) (m_tape : Nat → Int32) (p1 : Int32) (sz : Nat) (r : Int32) (o_m_thrown : Int32) (o_m_taped : Int32) (o_m_tape : Nat → Int32) (hM : mX7_feed m_thrown m_taped m_tape p1 = some (r, o_m_thrown, o_m_taped, o_m_tape)) : Met l yX7_feed (mC yX7_feed cX7_feed 2 (some .int)) rmX7_feed (va_Pc [.ref m_a, .int p1] (PCe G K E0 (WX7_feed K m_a mA_lane mA_many mA_item mA_poem mA_fresh mA_then mA_was mA_tape mA_strengths mA_sounds mA_stand mA_scheme mA_isKept mA_kept mA_trace m_thrown m_status m_acts m_taped m_cursor m_start m_token m_value m_fault m_faultAt m_latest m_stands m_least m_ways m_nearFoot m_nearFeet m_nearCost m_traced m_tape) sz)) (va_Qi (fun (x : Int32) (_ : Unit) => x = r) (fun _ t => va_P G vwCl (WX7_feed K m_a mA_lane mA_many mA_item mA_poem mA_fresh mA_then mA_was mA_tape mA_strengths mA_sounds mA_stand mA_scheme mA_isKept mA_kept mA_trace o_m_thrown m_status m_acts o_m_taped m_cursor m_start m_token m_value m_fault m_faultAt m_latest m_stands m_least m_ways m_nearFoot m_nearFeet m_nearCost m_traced o_m_tape) t.heap) (va_A (WX7_feed K m_a mA_lane mA_many mA_item mA_poem mA_fresh mA_then mA_was mA_tape mA_strengths mA_sounds mA_stand mA_scheme mA_isKept mA_kept mA_trace m_thrown m_status m_acts m_taped m_cursor m_start m_token m_value m_fault m_faultAt m_latest m_stands m_least m_ways m_nearFoot m_nearFeet m_nearCost m_traced m_tape) sz)) rmX7_feed.cells rmX7_feed.slots (va_A (WX7_feed K m_a mA_lane mA_many mA_item mA_poem mA_fresh mA_then mA_was mA_tape mA_strengths mA_sounds mA_stand mA_scheme mA_isKept mA_kept mA_trace m_thrown m_status m_acts m_taped m_cursor m_start m_token m_value m_fault m_faultAt m_latest m_stands m_least m_ways m_nearFoot m_nearFeet m_nearCost m_traced m_tape) sz) := by
  refine Met.ofW (cc := cX7_feed) (maxL := 2) (ret := (some .int)) (by decide) rfl ?_
  intro p e s m args below meth c s₁ B hml hv
  obtain ⟨rfl, hsz, hP, hK, hD0, hE⟩ := hv
  have hx := B.exec
  have hb := B.bytes
  have hr := B.returns
  have hts0 := atoms_spec (ws := mC yX7_feed cX7_feed 2 (some .int)) B.pre
  have hts : ∀ w ∈ tbG, w.before _ s = true := fun w h => hts0 w (List.mem_cons_of_mem _ h)
  have hown : s.vm.findClass RX7 = some m.cls := findClass_of_methodNamed B.named
  subst hsz
  have hD := hD0.self (sz := s.heap.size)
  generalize hAe : va_A (WX7_feed K m_a mA_lane mA_many mA_item mA_poem mA_fresh mA_then mA_was mA_tape mA_strengths mA_sounds mA_stand mA_scheme mA_isKept mA_kept mA_trace m_thrown m_status m_acts m_taped m_cursor m_start m_token m_value m_fault m_faultAt m_latest m_stands m_least m_ways m_nearFoot m_nearFeet m_nearCost m_traced m_tape) s.heap.size = A at hD hE ⊢
  have hA : ∀ q : Nat, s.heap.size ≤ q → A q := fun q h => by rw [← hAe]; exact Or.inr h
  have hS : va_S A s.heap s.heap [] := va_S.rf
  have hl := lv_entry ([.ref m_a, .int p1]) (n := 2) (Nat.le_of_ble_eq_true rfl)
  rw [lg_entry_eq]
  generalize (lg_sl ([.ref m_a, .int p1]) ++ List.replicate (2 - (lg_sl ([.ref m_a, .int p1])).length) Slot.unset).toArray = ls at hl ⊢
  have hl : lv_has ls 2 [(0, .ref m_a), (1, .int p1)] := hl
  exact wX7_feed_b0 ⟨hx, hb, hml, hown, hts, hK, hA, E0_ok, hE⟩ m_a mA_lane mA_many mA_item mA_poem mA_fresh mA_then mA_was mA_tape mA_strengths mA_sounds mA_stand mA_scheme mA_isKept mA_kept mA_trace m_status m_acts m_cursor m_start m_token m_value m_fault m_faultAt m_latest m_stands m_least m_ways m_nearFoot m_nearFeet m_nearCost m_traced p1 r o_m_thrown o_m_taped o_m_tape (fun H locs ls pc hdg hP hD hS => W.iret (v := r) hx hb hr (fun t ht hW => ⟨⟨r, (), rfl, rfl, (show va_P G vwCl _ t.heap by rw [ht]; exact hP)⟩, hS.F ht⟩) hS.2.2 hdg) m_thrown m_taped m_tape  hM _ _ _ hP hD hS hl
abbrev WX7_bad (K : Nat → ClassId) (m_a mA_lane mA_many mA_item mA_poem mA_fresh mA_then mA_was mA_tape mA_strengths mA_sounds mA_stand mA_scheme mA_isKept mA_kept mA_trace : Nat) (m_thrown : Int32) (m_status : Int32) (m_acts : Int32) (m_taped : Int32) (m_cursor : Int32) (m_start : Int32) (m_token : Int32) (m_value : Int32) (m_fault : Int32) (m_faultAt : Int32) (m_latest : Int32) (m_stands : Int32) (m_least : Int32) (m_ways : Int32) (m_nearFoot : Int32) (m_nearFeet : Int32) (m_nearCost : Int32) (m_traced : Int32) : va_W := [(m_a, .inr (7, [.int m_thrown, .int m_status, .ref mA_lane, .ref mA_many, .ref mA_item, .ref mA_poem, .ref mA_fresh, .ref mA_then, .ref mA_was, .int m_acts, .ref mA_tape, .int m_taped, .int m_cursor, .int m_start, .int m_token, .int m_value, .int m_fault, .int m_faultAt, .int m_latest, .ref mA_strengths, .ref mA_sounds, .ref mA_stand, .int m_stands, .int m_least, .int m_ways, .ref mA_scheme, .int m_nearFoot, .int m_nearFeet, .int m_nearCost, .ref mA_isKept, .ref mA_kept, .ref mA_trace, .int m_traced]))]
def rmX7_bad : Room := { frames := 0, cells := 0, slots := 0, locals := 0 }
theorem hdX7_bad : yX7_bad.cls = RX7 ∧ yX7_bad.cls ≠ "java/lang/invoke/MethodHandle" ∧ yX7_bad.cls ≠ "java/lang/invoke/VarHandle" ∧ (parseMethodDescriptor yX7_bad.desc).map (fun d => d.parameters.length) = some 1 := by decide +kernel
set_option maxHeartbeats 4000000 in
set_option maxRecDepth 100000 in
theorem wX7_bad_b0 {p : Program} {l : Launch} {e : Env} {s : State} {m : MethodId} {args : Array Value} {below : List Frame} {meth : Method} {c : Code} {Q : State → Prop} {G : va_G} {K : Nat → ClassId} {A : Nat → Prop} (C0 : CX p s m args c cX7_bad 2 RX7 G K E0 A) (m_a mA_lane mA_many mA_item mA_poem mA_fresh mA_then mA_was mA_tape mA_strengths mA_sounds mA_stand mA_scheme mA_isKept mA_kept mA_trace : Nat) (m_thrown : Int32) (m_status : Int32) (m_acts : Int32) (m_taped : Int32) (m_cursor : Int32) (m_start : Int32) (m_token : Int32) (m_value : Int32) (m_latest : Int32) (m_stands : Int32) (m_least : Int32) (m_ways : Int32) (m_nearFoot : Int32) (m_nearFeet : Int32) (m_nearCost : Int32) (m_traced : Int32) (p1 : Int32) (o_m_fault : Int32) (o_m_faultAt : Int32) (kr : ∀ (H : Heap) (locs : List Loc) (ls : Array Slot) (pc : Nat), decode cX7_bad pc = .ok (.return_, 1) → va_P G vwCl (WX7_bad K m_a mA_lane mA_many mA_item mA_poem mA_fresh mA_then mA_was mA_tape mA_strengths mA_sounds mA_stand mA_scheme mA_isKept mA_kept mA_trace m_thrown m_status m_acts m_taped m_cursor m_start m_token m_value o_m_fault o_m_faultAt m_latest m_stands m_least m_ways m_nearFoot m_nearFeet m_nearCost m_traced) H → va_D A (WX7_bad K m_a mA_lane mA_many mA_item mA_poem mA_fresh mA_then mA_was mA_tape mA_strengths mA_sounds mA_stand mA_scheme mA_isKept mA_kept mA_trace m_thrown m_status m_acts m_taped m_cursor m_start m_token m_value o_m_fault o_m_faultAt m_latest m_stands m_least m_ways m_nearFoot m_nearFeet m_nearCost m_traced) → va_S A s.heap H locs → W p l e rmX7_bad s m args below meth c H locs 0 0 Q (F0 m pc ls [])) (m_fault : Int32) (m_faultAt : Int32) (hM : mX7_bad_b0 m_start p1  m_fault m_faultAt = some (o_m_fault, o_m_faultAt)) : ∀ (H : Heap) (locs : List Loc) (ls : Array Slot), va_P G vwCl (WX7_bad K m_a mA_lane mA_many mA_item mA_poem mA_fresh mA_then mA_was mA_tape mA_strengths mA_sounds mA_stand mA_scheme mA_isKept mA_kept mA_trace m_thrown m_status m_acts m_taped m_cursor m_start m_token m_value m_fault m_faultAt m_latest m_stands m_least m_ways m_nearFoot m_nearFeet m_nearCost m_traced) H → va_D A (WX7_bad K m_a mA_lane mA_many mA_item mA_poem mA_fresh mA_then mA_was mA_tape mA_strengths mA_sounds mA_stand mA_scheme mA_isKept mA_kept mA_trace m_thrown m_status m_acts m_taped m_cursor m_start m_token m_value m_fault m_faultAt m_latest m_stands m_least m_ways m_nearFoot m_nearFeet m_nearCost m_traced) → va_S A s.heap H locs → lv_has ls 2 [(0, .ref m_a), (1, .int p1)] → W p l e rmX7_bad s m args below meth c H locs 0 0 Q (F0 m 0 ls []) := by
  obtain ⟨hx, hb, hml, hown, hts, hK, hA, hEo, hE⟩ := id C0
  intro H locs ls hP hD hS hl
  unfold mX7_bad_b0 at hM
  refine lv_aload_n hx hb dX7_bad_0 rfl (lv_at hl 0 rfl) ?_
  refine va_get (D := G) (ci := 7) (v := .int m_fault) (C := RX7) (T := TX7) (N := 33) hx hb hts inX7 hown hK hP 0 rfl rfl 16 (by decide) (hts _ tb780) (fun _ h9 => h9) rfl dX7_bad_1 ?_
  refine lv_if_ne (tgt := 20) hx hb dX7_bad_4 (by decide) (fun c_1 => ?_) (fun c_1 => ?_)
  · rw [if_neg c_1] at hM
    have t0 := Option.some.inj hM
    obtain ⟨q1, t1⟩ := Prod.mk.inj t0
    subst q1
    subst t1
    exact kr _ _ _ _ dX7_bad_20 hP hD hS
  · rw [if_pos c_1] at hM
    refine lv_aload_n hx hb dX7_bad_7 rfl (lv_at hl 0 rfl) ?_
    refine lv_iload_n hx hb dX7_bad_8 rfl (lv_at hl 1 rfl) ?_
    refine va_put (D := G) (ci := 7) (v := .int p1) (ty := .int) (C := RX7) (T := TX7) (N := 33) hx hb hts inX7 tyX7 tyX7_ok nmX7 hown hK hP hD hS 0 rfl rfl 16 (by decide) (hts _ tb780) (fun _ h9 => h9) rfl (tyX7_ok 16 (by decide)) rfl rfl (Nat.le_of_ble_eq_true rfl) dX7_bad_9 (fun H locs hP hD hS => ?_)
    have hP : va_P G vwCl (WX7_bad K m_a mA_lane mA_many mA_item mA_poem mA_fresh mA_then mA_was mA_tape mA_strengths mA_sounds mA_stand mA_scheme mA_isKept mA_kept mA_trace m_thrown m_status m_acts m_taped m_cursor m_start m_token m_value p1 m_faultAt m_latest m_stands m_least m_ways m_nearFoot m_nearFeet m_nearCost m_traced) H := hP
    have hD : va_D A (WX7_bad K m_a mA_lane mA_many mA_item mA_poem mA_fresh mA_then mA_was mA_tape mA_strengths mA_sounds mA_stand mA_scheme mA_isKept mA_kept mA_trace m_thrown m_status m_acts m_taped m_cursor m_start m_token m_value p1 m_faultAt m_latest m_stands m_least m_ways m_nearFoot m_nearFeet m_nearCost m_traced) := hD
    refine lv_aload_n hx hb dX7_bad_12 rfl (lv_at hl 0 rfl) ?_
    refine lv_aload_n hx hb dX7_bad_13 rfl (lv_at hl 0 rfl) ?_
    refine va_get (D := G) (ci := 7) (v := .int m_start) (C := RX7) (T := TX7) (N := 33) hx hb hts inX7 hown hK hP 0 rfl rfl 13 (by decide) (hts _ tb777) (fun _ h9 => h9) rfl dX7_bad_14 ?_
    refine va_put (D := G) (ci := 7) (v := .int m_start) (ty := .int) (C := RX7) (T := TX7) (N := 33) hx hb hts inX7 tyX7 tyX7_ok nmX7 hown hK hP hD hS 0 rfl rfl 17 (by decide) (hts _ tb781) (fun _ h9 => h9) rfl (tyX7_ok 17 (by decide)) rfl rfl (Nat.le_of_ble_eq_true rfl) dX7_bad_17 (fun H locs hP hD hS => ?_)
    have hP : va_P G vwCl (WX7_bad K m_a mA_lane mA_many mA_item mA_poem mA_fresh mA_then mA_was mA_tape mA_strengths mA_sounds mA_stand mA_scheme mA_isKept mA_kept mA_trace m_thrown m_status m_acts m_taped m_cursor m_start m_token m_value p1 m_start m_latest m_stands m_least m_ways m_nearFoot m_nearFeet m_nearCost m_traced) H := hP
    have hD : va_D A (WX7_bad K m_a mA_lane mA_many mA_item mA_poem mA_fresh mA_then mA_was mA_tape mA_strengths mA_sounds mA_stand mA_scheme mA_isKept mA_kept mA_trace m_thrown m_status m_acts m_taped m_cursor m_start m_token m_value p1 m_start m_latest m_stands m_least m_ways m_nearFoot m_nearFeet m_nearCost m_traced) := hD
    have t0 := Option.some.inj hM
    obtain ⟨q1, t1⟩ := Prod.mk.inj t0
    subst q1
    subst t1
    exact kr _ _ _ _ dX7_bad_20 hP hD hS
set_option maxHeartbeats 4000000 in
set_option maxRecDepth 100000 in
theorem kX7_bad (l : Launch) (G : va_G) (K : Nat → ClassId) (m_a mA_lane mA_many mA_item mA_poem mA_fresh mA_then mA_was mA_tape mA_strengths mA_sounds mA_stand mA_scheme mA_isKept mA_kept mA_trace : Nat) (m_thrown : Int32) (m_status : Int32) (m_acts : Int32) (m_taped : Int32) (m_cursor : Int32) (m_start : Int32) (m_token : Int32) (m_value : Int32) (m_fault : Int32) (m_faultAt : Int32) (m_latest : Int32) (m_stands : Int32) (m_least : Int32) (m_ways : Int32) (m_nearFoot : Int32) (m_nearFeet : Int32) (m_nearCost : Int32) (m_traced : Int32) (p1 : Int32) (sz : Nat) (o_m_fault : Int32) (o_m_faultAt : Int32) (hM : mX7_bad m_start m_fault m_faultAt p1 = some (o_m_fault, o_m_faultAt)) : Met l yX7_bad (mC yX7_bad cX7_bad 2 none) rmX7_bad (va_Pc [.ref m_a, .int p1] (PCe G K E0 (WX7_bad K m_a mA_lane mA_many mA_item mA_poem mA_fresh mA_then mA_was mA_tape mA_strengths mA_sounds mA_stand mA_scheme mA_isKept mA_kept mA_trace m_thrown m_status m_acts m_taped m_cursor m_start m_token m_value m_fault m_faultAt m_latest m_stands m_least m_ways m_nearFoot m_nearFeet m_nearCost m_traced) sz)) (va_Qv (fun (_ : Unit) => True) (fun _ t => va_P G vwCl (WX7_bad K m_a mA_lane mA_many mA_item mA_poem mA_fresh mA_then mA_was mA_tape mA_strengths mA_sounds mA_stand mA_scheme mA_isKept mA_kept mA_trace m_thrown m_status m_acts m_taped m_cursor m_start m_token m_value o_m_fault o_m_faultAt m_latest m_stands m_least m_ways m_nearFoot m_nearFeet m_nearCost m_traced) t.heap) (va_A (WX7_bad K m_a mA_lane mA_many mA_item mA_poem mA_fresh mA_then mA_was mA_tape mA_strengths mA_sounds mA_stand mA_scheme mA_isKept mA_kept mA_trace m_thrown m_status m_acts m_taped m_cursor m_start m_token m_value m_fault m_faultAt m_latest m_stands m_least m_ways m_nearFoot m_nearFeet m_nearCost m_traced) sz)) rmX7_bad.cells rmX7_bad.slots (va_A (WX7_bad K m_a mA_lane mA_many mA_item mA_poem mA_fresh mA_then mA_was mA_tape mA_strengths mA_sounds mA_stand mA_scheme mA_isKept mA_kept mA_trace m_thrown m_status m_acts m_taped m_cursor m_start m_token m_value m_fault m_faultAt m_latest m_stands m_least m_ways m_nearFoot m_nearFeet m_nearCost m_traced) sz) := by
  refine Met.ofW (cc := cX7_bad) (maxL := 2) (ret := none) (by decide) rfl ?_
  intro p e s m args below meth c s₁ B hml hv
  obtain ⟨rfl, hsz, hP, hK, hD0, hE⟩ := hv
  have hx := B.exec
  have hb := B.bytes
  have hr := B.returns
  have hts0 := atoms_spec (ws := mC yX7_bad cX7_bad 2 none) B.pre
  have hts : ∀ w ∈ tbG, w.before _ s = true := fun w h => hts0 w (List.mem_cons_of_mem _ h)
  have hown : s.vm.findClass RX7 = some m.cls := findClass_of_methodNamed B.named
  subst hsz
  have hD := hD0.self (sz := s.heap.size)
  generalize hAe : va_A (WX7_bad K m_a mA_lane mA_many mA_item mA_poem mA_fresh mA_then mA_was mA_tape mA_strengths mA_sounds mA_stand mA_scheme mA_isKept mA_kept mA_trace m_thrown m_status m_acts m_taped m_cursor m_start m_token m_value m_fault m_faultAt m_latest m_stands m_least m_ways m_nearFoot m_nearFeet m_nearCost m_traced) s.heap.size = A at hD hE ⊢
  have hA : ∀ q : Nat, s.heap.size ≤ q → A q := fun q h => by rw [← hAe]; exact Or.inr h
  have hS : va_S A s.heap s.heap [] := va_S.rf
  have hl := lv_entry ([.ref m_a, .int p1]) (n := 2) (Nat.le_of_ble_eq_true rfl)
  rw [lg_entry_eq]
  generalize (lg_sl ([.ref m_a, .int p1]) ++ List.replicate (2 - (lg_sl ([.ref m_a, .int p1])).length) Slot.unset).toArray = ls at hl ⊢
  have hl : lv_has ls 2 [(0, .ref m_a), (1, .int p1)] := hl
  exact wX7_bad_b0 ⟨hx, hb, hml, hown, hts, hK, hA, E0_ok, hE⟩ m_a mA_lane mA_many mA_item mA_poem mA_fresh mA_then mA_was mA_tape mA_strengths mA_sounds mA_stand mA_scheme mA_isKept mA_kept mA_trace m_thrown m_status m_acts m_taped m_cursor m_start m_token m_value m_latest m_stands m_least m_ways m_nearFoot m_nearFeet m_nearCost m_traced p1 o_m_fault o_m_faultAt (fun H locs ls pc hdg hP hD hS => W.vret hx hb hr (fun t ht hW => ⟨⟨(), rfl, trivial, (show va_P G vwCl _ t.heap by rw [ht]; exact hP)⟩, hS.F ht⟩) hS.2.2 hdg) m_fault m_faultAt  hM _ _ _ hP hD hS hl
