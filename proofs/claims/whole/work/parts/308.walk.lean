abbrev WX7_scanOf (K : Nat → ClassId) (m_a mA_lane mA_many mA_item mA_poem mA_fresh mA_then mA_was mA_tape mA_strengths mA_sounds mA_stand mA_scheme mA_isKept mA_kept mA_trace arA1 : Nat) (m_thrown : Int32) (m_status : Int32) (m_acts : Int32) (m_taped : Int32) (m_cursor : Int32) (m_start : Int32) (m_token : Int32) (m_value : Int32) (m_fault : Int32) (m_faultAt : Int32) (m_latest : Int32) (m_stands : Int32) (m_least : Int32) (m_ways : Int32) (m_nearFoot : Int32) (m_nearFeet : Int32) (m_nearCost : Int32) (m_traced : Int32) (m_strengths : Nat → Int32) (m_sounds : Nat → Int32) (m_stand : Nat → Int32) (ar1 : Nat → Int32) : va_W := [(m_a, .inr (7, [.int m_thrown, .int m_status, .ref mA_lane, .ref mA_many, .ref mA_item, .ref mA_poem, .ref mA_fresh, .ref mA_then, .ref mA_was, .int m_acts, .ref mA_tape, .int m_taped, .int m_cursor, .int m_start, .int m_token, .int m_value, .int m_fault, .int m_faultAt, .int m_latest, .ref mA_strengths, .ref mA_sounds, .ref mA_stand, .int m_stands, .int m_least, .int m_ways, .ref mA_scheme, .int m_nearFoot, .int m_nearFeet, .int m_nearCost, .ref mA_isKept, .ref mA_kept, .ref mA_trace, .int m_traced])), aI K mA_strengths 20 m_strengths, aI K mA_sounds 5 m_sounds, aI K mA_stand 20 m_stand, aI K arA1 207 ar1]
def rmX7_scanOf : Room := { frames := 7, cells := 0, slots := 0, locals := 160 }
theorem hdX7_scanOf : yX7_scanOf.cls = RX7 ∧ yX7_scanOf.cls ≠ "java/lang/invoke/MethodHandle" ∧ yX7_scanOf.cls ≠ "java/lang/invoke/VarHandle" ∧ (parseMethodDescriptor yX7_scanOf.desc).map (fun d => d.parameters.length) = some 5 := by decide +kernel
set_option maxHeartbeats 4000000 in
set_option maxRecDepth 100000 in
theorem wX7_scanOf_b165 {p : Program} {l : Launch} {e : Env} {s : State} {m : MethodId} {args : Array Value} {below : List Frame} {meth : Method} {c : Code} {Q : State → Prop} {G : va_G} {K : Nat → ClassId} {A : Nat → Prop} (C0 : CX p s m args c cX7_scanOf 11 RX7 G K E0 A) (m_a mA_lane mA_many mA_item mA_poem mA_fresh mA_then mA_was mA_tape mA_strengths mA_sounds mA_stand mA_scheme mA_isKept mA_kept mA_trace arA1 : Nat) (m_thrown : Int32) (m_status : Int32) (m_acts : Int32) (m_taped : Int32) (m_cursor : Int32) (m_start : Int32) (m_token : Int32) (m_value : Int32) (m_fault : Int32) (m_faultAt : Int32) (m_latest : Int32) (m_nearFoot : Int32) (m_nearFeet : Int32) (m_nearCost : Int32) (m_traced : Int32) (ar1 : Nat → Int32) (p2 : Int32) (p3 : Int32) (p4 : Int32) (p5 : Int32) (r : Int32) (o_m_stands : Int32) (o_m_least : Int32) (o_m_ways : Int32) (o_m_strengths : Nat → Int32) (o_m_sounds : Nat → Int32) (o_m_stand : Nat → Int32) (kr : ∀ (H : Heap) (locs : List Loc) (ls : Array Slot) (pc : Nat), decode cX7_scanOf pc = .ok (.ireturn, 1) → va_P G vwCl (WX7_scanOf K m_a mA_lane mA_many mA_item mA_poem mA_fresh mA_then mA_was mA_tape mA_strengths mA_sounds mA_stand mA_scheme mA_isKept mA_kept mA_trace arA1 m_thrown m_status m_acts m_taped m_cursor m_start m_token m_value m_fault m_faultAt m_latest o_m_stands o_m_least o_m_ways m_nearFoot m_nearFeet m_nearCost m_traced o_m_strengths o_m_sounds o_m_stand ar1) H → va_D A (WX7_scanOf K m_a mA_lane mA_many mA_item mA_poem mA_fresh mA_then mA_was mA_tape mA_strengths mA_sounds mA_stand mA_scheme mA_isKept mA_kept mA_trace arA1 m_thrown m_status m_acts m_taped m_cursor m_start m_token m_value m_fault m_faultAt m_latest o_m_stands o_m_least o_m_ways m_nearFoot m_nearFeet m_nearCost m_traced o_m_strengths o_m_sounds o_m_stand ar1) → va_S A s.heap H locs → W p l e rmX7_scanOf s m args below meth c H locs 0 0 Q (F0 m pc ls [.int r])) (k24 : Int32 → Int32 → Int32 → (Nat → Int32) → (Nat → Int32) → (Nat → Int32) → Int32 → Int32 → Option (Int32 × (Int32) × (Int32) × (Int32) × (Nat → Int32) × (Nat → Int32) × (Nat → Int32))) (hk24 : ∀ (m_stands : Int32) (m_least : Int32) (m_ways : Int32) (m_strengths : Nat → Int32) (m_sounds : Nat → Int32) (m_stand : Nat → Int32) (x6 : Int32) (x7 : Int32), k24 m_stands m_least m_ways m_strengths m_sounds m_stand x6 x7 = some (r, o_m_stands, o_m_least, o_m_ways, o_m_strengths, o_m_sounds, o_m_stand) → ∀ (H : Heap) (locs : List Loc) (ls : Array Slot), va_P G vwCl (WX7_scanOf K m_a mA_lane mA_many mA_item mA_poem mA_fresh mA_then mA_was mA_tape mA_strengths mA_sounds mA_stand mA_scheme mA_isKept mA_kept mA_trace arA1 m_thrown m_status m_acts m_taped m_cursor m_start m_token m_value m_fault m_faultAt m_latest m_stands m_least m_ways m_nearFoot m_nearFeet m_nearCost m_traced m_strengths m_sounds m_stand ar1) H → va_D A (WX7_scanOf K m_a mA_lane mA_many mA_item mA_poem mA_fresh mA_then mA_was mA_tape mA_strengths mA_sounds mA_stand mA_scheme mA_isKept mA_kept mA_trace arA1 m_thrown m_status m_acts m_taped m_cursor m_start m_token m_value m_fault m_faultAt m_latest m_stands m_least m_ways m_nearFoot m_nearFeet m_nearCost m_traced m_strengths m_sounds m_stand ar1) → va_S A s.heap H locs → lv_has ls 11 [(0, .ref m_a), (1, .ref arA1), (2, .int p2), (3, .int p3), (4, .int p4), (6, .int x6), (7, .int x7)] → W p l e rmX7_scanOf s m args below meth c H locs 0 0 Q (F0 m 24 ls [])) (m_stands : Int32) (m_least : Int32) (m_ways : Int32) (m_strengths : Nat → Int32) (m_sounds : Nat → Int32) (m_stand : Nat → Int32) (x6 : Int32) (x7 : Int32) (s1 : Int32) (hM : mX7_scanOf_b165 ar1 p2 p3 p4 p5 k24 m_stands m_least m_ways m_strengths m_sounds m_stand x6 x7 s1 = some (r, o_m_stands, o_m_least, o_m_ways, o_m_strengths, o_m_sounds, o_m_stand)) : ∀ (H : Heap) (locs : List Loc) (ls : Array Slot), va_P G vwCl (WX7_scanOf K m_a mA_lane mA_many mA_item mA_poem mA_fresh mA_then mA_was mA_tape mA_strengths mA_sounds mA_stand mA_scheme mA_isKept mA_kept mA_trace arA1 m_thrown m_status m_acts m_taped m_cursor m_start m_token m_value m_fault m_faultAt m_latest m_stands m_least m_ways m_nearFoot m_nearFeet m_nearCost m_traced m_strengths m_sounds m_stand ar1) H → va_D A (WX7_scanOf K m_a mA_lane mA_many mA_item mA_poem mA_fresh mA_then mA_was mA_tape mA_strengths mA_sounds mA_stand mA_scheme mA_isKept mA_kept mA_trace arA1 m_thrown m_status m_acts m_taped m_cursor m_start m_token m_value m_fault m_faultAt m_latest m_stands m_least m_ways m_nearFoot m_nearFeet m_nearCost m_traced m_strengths m_sounds m_stand ar1) → va_S A s.heap H locs → lv_has ls 11 [(0, .ref m_a), (1, .ref arA1), (2, .int p2), (3, .int p3), (4, .int p4), (6, .int x6), (7, .int x7)] → W p l e rmX7_scanOf s m args below meth c H locs 0 0 Q (F0 m 165 ls [.int s1, .ref m_a]) := by
  obtain ⟨hx, hb, hml, hown, hts, hK, hA, hEo, hE⟩ := id C0
  intro H locs ls hP hD hS hl
  unfold mX7_scanOf_b165 at hM
  obtain ⟨u0_1, u1_1, hC, hM⟩ := oe2 hM
  refine cV_v (As := [.int s1]) (rest := []) C0 hP hD hS [0] (kX7_counts l G K m_a mA_lane mA_many mA_item mA_poem mA_fresh mA_then mA_was mA_tape mA_strengths mA_sounds mA_stand mA_scheme mA_isKept mA_kept mA_trace m_thrown m_status m_acts m_taped m_cursor m_start m_token m_value m_fault m_faultAt m_latest m_stands m_least m_ways m_nearFoot m_nearFeet m_nearCost m_traced s1 H.size u0_1 u1_1 hC) rfl rfl rfl tb1119 tb1121 tp39 tb9 tb1122 hdX7_counts (va_recv hK hP (ci := 7) (q0 := 0) rfl rfl) ⟨Nat.le_of_ble_eq_true rfl, Nat.le_of_ble_eq_true rfl⟩ rfl hl.1 (Nat.le_of_ble_eq_true rfl) rfl ⟨Nat.le_refl _, Nat.le_refl _⟩ dX7_scanOf_165 (fun H locs hP hD hS => ?_)
  have hP : va_P G vwCl (WX7_scanOf K m_a mA_lane mA_many mA_item mA_poem mA_fresh mA_then mA_was mA_tape mA_strengths mA_sounds mA_stand mA_scheme mA_isKept mA_kept mA_trace arA1 m_thrown m_status m_acts m_taped m_cursor m_start m_token m_value m_fault m_faultAt m_latest m_stands u0_1 u1_1 m_nearFoot m_nearFeet m_nearCost m_traced m_strengths m_sounds m_stand ar1) H := hP
  have hD : va_D A (WX7_scanOf K m_a mA_lane mA_many mA_item mA_poem mA_fresh mA_then mA_was mA_tape mA_strengths mA_sounds mA_stand mA_scheme mA_isKept mA_kept mA_trace arA1 m_thrown m_status m_acts m_taped m_cursor m_start m_token m_value m_fault m_faultAt m_latest m_stands u0_1 u1_1 m_nearFoot m_nearFeet m_nearCost m_traced m_strengths m_sounds m_stand ar1) := hD
  refine lv_iinc (v := (x7 + 1)) (lv' := [(7, .int (x7 + 1)), (0, .ref m_a), (1, .ref arA1), (2, .int p2), (3, .int p3), (4, .int p4), (6, .int x6)]) hx hb dX7_scanOf_168 hl (k := 6) rfl rfl (by decide) rfl (fun ls hl => ?_)
  refine lv_goto (tgt := 24) hx hb dX7_scanOf_171 (by decide) ?_
  exact hk24 m_stands u0_1 u1_1 m_strengths m_sounds m_stand x6 (x7 + 1) hM _ _ _ hP hD hS (lv_sub hl [1, 2, 3, 4, 5, 6, 0] rfl)
set_option maxHeartbeats 4000000 in
set_option maxRecDepth 100000 in
theorem wX7_scanOf_b144 {p : Program} {l : Launch} {e : Env} {s : State} {m : MethodId} {args : Array Value} {below : List Frame} {meth : Method} {c : Code} {Q : State → Prop} {G : va_G} {K : Nat → ClassId} {A : Nat → Prop} (C0 : CX p s m args c cX7_scanOf 11 RX7 G K E0 A) (m_a mA_lane mA_many mA_item mA_poem mA_fresh mA_then mA_was mA_tape mA_strengths mA_sounds mA_stand mA_scheme mA_isKept mA_kept mA_trace arA1 : Nat) (m_thrown : Int32) (m_status : Int32) (m_acts : Int32) (m_taped : Int32) (m_cursor : Int32) (m_start : Int32) (m_token : Int32) (m_value : Int32) (m_fault : Int32) (m_faultAt : Int32) (m_latest : Int32) (m_nearFoot : Int32) (m_nearFeet : Int32) (m_nearCost : Int32) (m_traced : Int32) (ar1 : Nat → Int32) (p2 : Int32) (p3 : Int32) (p4 : Int32) (p5 : Int32) (r : Int32) (o_m_stands : Int32) (o_m_least : Int32) (o_m_ways : Int32) (o_m_strengths : Nat → Int32) (o_m_sounds : Nat → Int32) (o_m_stand : Nat → Int32) (kr : ∀ (H : Heap) (locs : List Loc) (ls : Array Slot) (pc : Nat), decode cX7_scanOf pc = .ok (.ireturn, 1) → va_P G vwCl (WX7_scanOf K m_a mA_lane mA_many mA_item mA_poem mA_fresh mA_then mA_was mA_tape mA_strengths mA_sounds mA_stand mA_scheme mA_isKept mA_kept mA_trace arA1 m_thrown m_status m_acts m_taped m_cursor m_start m_token m_value m_fault m_faultAt m_latest o_m_stands o_m_least o_m_ways m_nearFoot m_nearFeet m_nearCost m_traced o_m_strengths o_m_sounds o_m_stand ar1) H → va_D A (WX7_scanOf K m_a mA_lane mA_many mA_item mA_poem mA_fresh mA_then mA_was mA_tape mA_strengths mA_sounds mA_stand mA_scheme mA_isKept mA_kept mA_trace arA1 m_thrown m_status m_acts m_taped m_cursor m_start m_token m_value m_fault m_faultAt m_latest o_m_stands o_m_least o_m_ways m_nearFoot m_nearFeet m_nearCost m_traced o_m_strengths o_m_sounds o_m_stand ar1) → va_S A s.heap H locs → W p l e rmX7_scanOf s m args below meth c H locs 0 0 Q (F0 m pc ls [.int r])) (k24 : Int32 → Int32 → Int32 → (Nat → Int32) → (Nat → Int32) → (Nat → Int32) → Int32 → Int32 → Option (Int32 × (Int32) × (Int32) × (Int32) × (Nat → Int32) × (Nat → Int32) × (Nat → Int32))) (hk24 : ∀ (m_stands : Int32) (m_least : Int32) (m_ways : Int32) (m_strengths : Nat → Int32) (m_sounds : Nat → Int32) (m_stand : Nat → Int32) (x6 : Int32) (x7 : Int32), k24 m_stands m_least m_ways m_strengths m_sounds m_stand x6 x7 = some (r, o_m_stands, o_m_least, o_m_ways, o_m_strengths, o_m_sounds, o_m_stand) → ∀ (H : Heap) (locs : List Loc) (ls : Array Slot), va_P G vwCl (WX7_scanOf K m_a mA_lane mA_many mA_item mA_poem mA_fresh mA_then mA_was mA_tape mA_strengths mA_sounds mA_stand mA_scheme mA_isKept mA_kept mA_trace arA1 m_thrown m_status m_acts m_taped m_cursor m_start m_token m_value m_fault m_faultAt m_latest m_stands m_least m_ways m_nearFoot m_nearFeet m_nearCost m_traced m_strengths m_sounds m_stand ar1) H → va_D A (WX7_scanOf K m_a mA_lane mA_many mA_item mA_poem mA_fresh mA_then mA_was mA_tape mA_strengths mA_sounds mA_stand mA_scheme mA_isKept mA_kept mA_trace arA1 m_thrown m_status m_acts m_taped m_cursor m_start m_token m_value m_fault m_faultAt m_latest m_stands m_least m_ways m_nearFoot m_nearFeet m_nearCost m_traced m_strengths m_sounds m_stand ar1) → va_S A s.heap H locs → lv_has ls 11 [(0, .ref m_a), (1, .ref arA1), (2, .int p2), (3, .int p3), (4, .int p4), (6, .int x6), (7, .int x7)] → W p l e rmX7_scanOf s m args below meth c H locs 0 0 Q (F0 m 24 ls [])) (m_stands : Int32) (m_least : Int32) (m_ways : Int32) (m_strengths : Nat → Int32) (m_sounds : Nat → Int32) (m_stand : Nat → Int32) (x6 : Int32) (x7 : Int32) (x8 : Int32) (x10 : Int32) (s1 : Int32) (hM : mX7_scanOf_b144 ar1 p2 p3 p4 p5 k24 m_stands m_least m_ways m_strengths m_sounds m_stand x6 x7 x8 x10 s1 = some (r, o_m_stands, o_m_least, o_m_ways, o_m_strengths, o_m_sounds, o_m_stand)) : ∀ (H : Heap) (locs : List Loc) (ls : Array Slot), va_P G vwCl (WX7_scanOf K m_a mA_lane mA_many mA_item mA_poem mA_fresh mA_then mA_was mA_tape mA_strengths mA_sounds mA_stand mA_scheme mA_isKept mA_kept mA_trace arA1 m_thrown m_status m_acts m_taped m_cursor m_start m_token m_value m_fault m_faultAt m_latest m_stands m_least m_ways m_nearFoot m_nearFeet m_nearCost m_traced m_strengths m_sounds m_stand ar1) H → va_D A (WX7_scanOf K m_a mA_lane mA_many mA_item mA_poem mA_fresh mA_then mA_was mA_tape mA_strengths mA_sounds mA_stand mA_scheme mA_isKept mA_kept mA_trace arA1 m_thrown m_status m_acts m_taped m_cursor m_start m_token m_value m_fault m_faultAt m_latest m_stands m_least m_ways m_nearFoot m_nearFeet m_nearCost m_traced m_strengths m_sounds m_stand ar1) → va_S A s.heap H locs → lv_has ls 11 [(0, .ref m_a), (1, .ref arA1), (2, .int p2), (3, .int p3), (4, .int p4), (6, .int x6), (7, .int x7), (8, .int x8), (10, .int x10)] → W p l e rmX7_scanOf s m args below meth c H locs 0 0 Q (F0 m 144 ls [.int s1, .ref m_a]) := by
  obtain ⟨hx, hb, hml, hown, hts, hK, hA, hEo, hE⟩ := id C0
  intro H locs ls hP hD hS hl
  unfold mX7_scanOf_b144 at hM
  obtain ⟨u0_2, u1_2, hC, hM⟩ := oe2 hM
  refine cV_v (As := [.int s1]) (rest := []) C0 hP hD hS [0] (kX7_counts l G K m_a mA_lane mA_many mA_item mA_poem mA_fresh mA_then mA_was mA_tape mA_strengths mA_sounds mA_stand mA_scheme mA_isKept mA_kept mA_trace m_thrown m_status m_acts m_taped m_cursor m_start m_token m_value m_fault m_faultAt m_latest m_stands m_least m_ways m_nearFoot m_nearFeet m_nearCost m_traced s1 H.size u0_2 u1_2 hC) rfl rfl rfl tb1119 tb1121 tp39 tb9 tb1122 hdX7_counts (va_recv hK hP (ci := 7) (q0 := 0) rfl rfl) ⟨Nat.le_of_ble_eq_true rfl, Nat.le_of_ble_eq_true rfl⟩ rfl hl.1 (Nat.le_of_ble_eq_true rfl) rfl ⟨Nat.le_refl _, Nat.le_refl _⟩ dX7_scanOf_144 (fun H locs hP hD hS => ?_)
  have hP : va_P G vwCl (WX7_scanOf K m_a mA_lane mA_many mA_item mA_poem mA_fresh mA_then mA_was mA_tape mA_strengths mA_sounds mA_stand mA_scheme mA_isKept mA_kept mA_trace arA1 m_thrown m_status m_acts m_taped m_cursor m_start m_token m_value m_fault m_faultAt m_latest m_stands u0_2 u1_2 m_nearFoot m_nearFeet m_nearCost m_traced m_strengths m_sounds m_stand ar1) H := hP
  have hD : va_D A (WX7_scanOf K m_a mA_lane mA_many mA_item mA_poem mA_fresh mA_then mA_was mA_tape mA_strengths mA_sounds mA_stand mA_scheme mA_isKept mA_kept mA_trace arA1 m_thrown m_status m_acts m_taped m_cursor m_start m_token m_value m_fault m_faultAt m_latest m_stands u0_2 u1_2 m_nearFoot m_nearFeet m_nearCost m_traced m_strengths m_sounds m_stand ar1) := hD
  refine lv_aload_n hx hb dX7_scanOf_147 rfl (lv_at hl 0 rfl) ?_
  refine lv_iload hx hb dX7_scanOf_148 (lv_at hl 8 rfl) ?_
  refine lv_ldc (v := -1000000) hx hb hown (hts _ tb917) dX7_scanOf_150 ?_
  refine lv_icmp_ne (tgt := 160) hx hb dX7_scanOf_152 (by decide) (fun c_3 => ?_) (fun c_3 => ?_)
  · rw [if_neg c_3] at hM
    refine lv_iload hx hb dX7_scanOf_160 (lv_at hl 8 rfl) ?_
    refine lv_iload hx hb dX7_scanOf_162 (lv_at hl 7 rfl) ?_
    refine lv_iadd hx hb dX7_scanOf_164 ?_
    exact wX7_scanOf_b165 C0 m_a mA_lane mA_many mA_item mA_poem mA_fresh mA_then mA_was mA_tape mA_strengths mA_sounds mA_stand mA_scheme mA_isKept mA_kept mA_trace arA1 m_thrown m_status m_acts m_taped m_cursor m_start m_token m_value m_fault m_faultAt m_latest m_nearFoot m_nearFeet m_nearCost m_traced ar1 p2 p3 p4 p5 r o_m_stands o_m_least o_m_ways o_m_strengths o_m_sounds o_m_stand kr k24 hk24 m_stands u0_2 u1_2 m_strengths m_sounds m_stand x6 x7 (x10 + x8) hM _ _ _ hP hD hS (lv_sub hl [0, 1, 2, 3, 4, 5, 6] rfl)
  · rw [if_pos c_3] at hM
    refine lv_ldc (v := -1000000) hx hb hown (hts _ tb917) dX7_scanOf_155 ?_
    refine lv_goto (tgt := 165) hx hb dX7_scanOf_157 (by decide) ?_
    exact wX7_scanOf_b165 C0 m_a mA_lane mA_many mA_item mA_poem mA_fresh mA_then mA_was mA_tape mA_strengths mA_sounds mA_stand mA_scheme mA_isKept mA_kept mA_trace arA1 m_thrown m_status m_acts m_taped m_cursor m_start m_token m_value m_fault m_faultAt m_latest m_nearFoot m_nearFeet m_nearCost m_traced ar1 p2 p3 p4 p5 r o_m_stands o_m_least o_m_ways o_m_strengths o_m_sounds o_m_stand kr k24 hk24 m_stands u0_2 u1_2 m_strengths m_sounds m_stand x6 x7 (-1000000 : Int32) hM _ _ _ hP hD hS (lv_sub hl [0, 1, 2, 3, 4, 5, 6] rfl)
set_option maxHeartbeats 4000000 in
set_option maxRecDepth 100000 in
theorem wX7_scanOf_b124 {p : Program} {l : Launch} {e : Env} {s : State} {m : MethodId} {args : Array Value} {below : List Frame} {meth : Method} {c : Code} {Q : State → Prop} {G : va_G} {K : Nat → ClassId} {A : Nat → Prop} (C0 : CX p s m args c cX7_scanOf 11 RX7 G K E0 A) (m_a mA_lane mA_many mA_item mA_poem mA_fresh mA_then mA_was mA_tape mA_strengths mA_sounds mA_stand mA_scheme mA_isKept mA_kept mA_trace arA1 : Nat) (m_thrown : Int32) (m_status : Int32) (m_acts : Int32) (m_taped : Int32) (m_cursor : Int32) (m_start : Int32) (m_token : Int32) (m_value : Int32) (m_fault : Int32) (m_faultAt : Int32) (m_latest : Int32) (m_nearFoot : Int32) (m_nearFeet : Int32) (m_nearCost : Int32) (m_traced : Int32) (ar1 : Nat → Int32) (p2 : Int32) (p3 : Int32) (p4 : Int32) (p5 : Int32) (r : Int32) (o_m_stands : Int32) (o_m_least : Int32) (o_m_ways : Int32) (o_m_strengths : Nat → Int32) (o_m_sounds : Nat → Int32) (o_m_stand : Nat → Int32) (kr : ∀ (H : Heap) (locs : List Loc) (ls : Array Slot) (pc : Nat), decode cX7_scanOf pc = .ok (.ireturn, 1) → va_P G vwCl (WX7_scanOf K m_a mA_lane mA_many mA_item mA_poem mA_fresh mA_then mA_was mA_tape mA_strengths mA_sounds mA_stand mA_scheme mA_isKept mA_kept mA_trace arA1 m_thrown m_status m_acts m_taped m_cursor m_start m_token m_value m_fault m_faultAt m_latest o_m_stands o_m_least o_m_ways m_nearFoot m_nearFeet m_nearCost m_traced o_m_strengths o_m_sounds o_m_stand ar1) H → va_D A (WX7_scanOf K m_a mA_lane mA_many mA_item mA_poem mA_fresh mA_then mA_was mA_tape mA_strengths mA_sounds mA_stand mA_scheme mA_isKept mA_kept mA_trace arA1 m_thrown m_status m_acts m_taped m_cursor m_start m_token m_value m_fault m_faultAt m_latest o_m_stands o_m_least o_m_ways m_nearFoot m_nearFeet m_nearCost m_traced o_m_strengths o_m_sounds o_m_stand ar1) → va_S A s.heap H locs → W p l e rmX7_scanOf s m args below meth c H locs 0 0 Q (F0 m pc ls [.int r])) (k24 : Int32 → Int32 → Int32 → (Nat → Int32) → (Nat → Int32) → (Nat → Int32) → Int32 → Int32 → Option (Int32 × (Int32) × (Int32) × (Int32) × (Nat → Int32) × (Nat → Int32) × (Nat → Int32))) (hk24 : ∀ (m_stands : Int32) (m_least : Int32) (m_ways : Int32) (m_strengths : Nat → Int32) (m_sounds : Nat → Int32) (m_stand : Nat → Int32) (x6 : Int32) (x7 : Int32), k24 m_stands m_least m_ways m_strengths m_sounds m_stand x6 x7 = some (r, o_m_stands, o_m_least, o_m_ways, o_m_strengths, o_m_sounds, o_m_stand) → ∀ (H : Heap) (locs : List Loc) (ls : Array Slot), va_P G vwCl (WX7_scanOf K m_a mA_lane mA_many mA_item mA_poem mA_fresh mA_then mA_was mA_tape mA_strengths mA_sounds mA_stand mA_scheme mA_isKept mA_kept mA_trace arA1 m_thrown m_status m_acts m_taped m_cursor m_start m_token m_value m_fault m_faultAt m_latest m_stands m_least m_ways m_nearFoot m_nearFeet m_nearCost m_traced m_strengths m_sounds m_stand ar1) H → va_D A (WX7_scanOf K m_a mA_lane mA_many mA_item mA_poem mA_fresh mA_then mA_was mA_tape mA_strengths mA_sounds mA_stand mA_scheme mA_isKept mA_kept mA_trace arA1 m_thrown m_status m_acts m_taped m_cursor m_start m_token m_value m_fault m_faultAt m_latest m_stands m_least m_ways m_nearFoot m_nearFeet m_nearCost m_traced m_strengths m_sounds m_stand ar1) → va_S A s.heap H locs → lv_has ls 11 [(0, .ref m_a), (1, .ref arA1), (2, .int p2), (3, .int p3), (4, .int p4), (6, .int x6), (7, .int x7)] → W p l e rmX7_scanOf s m args below meth c H locs 0 0 Q (F0 m 24 ls [])) (m_stands : Int32) (m_least : Int32) (m_ways : Int32) (m_strengths : Nat → Int32) (m_sounds : Nat → Int32) (m_stand : Nat → Int32) (x6 : Int32) (x7 : Int32) (x8 : Int32) (x9 : Int32) (s0 : Int32) (hM : mX7_scanOf_b124 ar1 p2 p3 p4 p5 k24 m_stands m_least m_ways m_strengths m_sounds m_stand x6 x7 x8 x9 s0 = some (r, o_m_stands, o_m_least, o_m_ways, o_m_strengths, o_m_sounds, o_m_stand)) : ∀ (H : Heap) (locs : List Loc) (ls : Array Slot), va_P G vwCl (WX7_scanOf K m_a mA_lane mA_many mA_item mA_poem mA_fresh mA_then mA_was mA_tape mA_strengths mA_sounds mA_stand mA_scheme mA_isKept mA_kept mA_trace arA1 m_thrown m_status m_acts m_taped m_cursor m_start m_token m_value m_fault m_faultAt m_latest m_stands m_least m_ways m_nearFoot m_nearFeet m_nearCost m_traced m_strengths m_sounds m_stand ar1) H → va_D A (WX7_scanOf K m_a mA_lane mA_many mA_item mA_poem mA_fresh mA_then mA_was mA_tape mA_strengths mA_sounds mA_stand mA_scheme mA_isKept mA_kept mA_trace arA1 m_thrown m_status m_acts m_taped m_cursor m_start m_token m_value m_fault m_faultAt m_latest m_stands m_least m_ways m_nearFoot m_nearFeet m_nearCost m_traced m_strengths m_sounds m_stand ar1) → va_S A s.heap H locs → lv_has ls 11 [(0, .ref m_a), (1, .ref arA1), (2, .int p2), (3, .int p3), (4, .int p4), (6, .int x6), (7, .int x7), (8, .int x8), (9, .int x9)] → W p l e rmX7_scanOf s m args below meth c H locs 0 0 Q (F0 m 124 ls [.int s0]) := by
  obtain ⟨hx, hb, hml, hown, hts, hK, hA, hEo, hE⟩ := id C0
  intro H locs ls hP hD hS hl
  unfold mX7_scanOf_b124 at hM
  refine lv_istore (lv' := [(10, .int s0), (0, .ref m_a), (1, .ref arA1), (2, .int p2), (3, .int p3), (4, .int p4), (6, .int x6), (7, .int x7), (8, .int x8), (9, .int x9)]) hx hb dX7_scanOf_124 hl (by decide) rfl (fun ls hl => ?_)
  refine lv_aload_n hx hb dX7_scanOf_126 rfl (lv_at hl 1 rfl) ?_
  refine lv_iload hx hb dX7_scanOf_127 (lv_at hl 9 rfl) ?_
  refine lv_ldc (v := -1000000) hx hb hown (hts _ tb917) dX7_scanOf_129 ?_
  refine lv_icmp_ne (tgt := 139) hx hb dX7_scanOf_131 (by decide) (fun c_4 => ?_) (fun c_4 => ?_)
  · rw [if_neg c_4] at hM
    refine lv_iload hx hb dX7_scanOf_139 (lv_at hl 9 rfl) ?_
    refine lv_iload hx hb dX7_scanOf_141 (lv_at hl 8 rfl) ?_
    refine lv_iadd hx hb dX7_scanOf_143 ?_
    exact wX7_scanOf_b144 C0 m_a mA_lane mA_many mA_item mA_poem mA_fresh mA_then mA_was mA_tape mA_strengths mA_sounds mA_stand mA_scheme mA_isKept mA_kept mA_trace arA1 m_thrown m_status m_acts m_taped m_cursor m_start m_token m_value m_fault m_faultAt m_latest m_nearFoot m_nearFeet m_nearCost m_traced ar1 p2 p3 p4 p5 r o_m_stands o_m_least o_m_ways o_m_strengths o_m_sounds o_m_stand kr k24 hk24 m_stands m_least m_ways m_strengths m_sounds m_stand x6 x7 x8 s0 (x9 + x8) hM _ _ _ hP hD hS (lv_sub hl [1, 2, 3, 4, 5, 6, 7, 8, 0] rfl)
  · rw [if_pos c_4] at hM
    refine lv_ldc (v := -1000000) hx hb hown (hts _ tb917) dX7_scanOf_134 ?_
    refine lv_goto (tgt := 144) hx hb dX7_scanOf_136 (by decide) ?_
    exact wX7_scanOf_b144 C0 m_a mA_lane mA_many mA_item mA_poem mA_fresh mA_then mA_was mA_tape mA_strengths mA_sounds mA_stand mA_scheme mA_isKept mA_kept mA_trace arA1 m_thrown m_status m_acts m_taped m_cursor m_start m_token m_value m_fault m_faultAt m_latest m_nearFoot m_nearFeet m_nearCost m_traced ar1 p2 p3 p4 p5 r o_m_stands o_m_least o_m_ways o_m_strengths o_m_sounds o_m_stand kr k24 hk24 m_stands m_least m_ways m_strengths m_sounds m_stand x6 x7 x8 s0 (-1000000 : Int32) hM _ _ _ hP hD hS (lv_sub hl [1, 2, 3, 4, 5, 6, 7, 8, 0] rfl)
set_option maxHeartbeats 4000000 in
set_option maxRecDepth 100000 in
theorem wX7_scanOf_b71 {p : Program} {l : Launch} {e : Env} {s : State} {m : MethodId} {args : Array Value} {below : List Frame} {meth : Method} {c : Code} {Q : State → Prop} {G : va_G} {K : Nat → ClassId} {A : Nat → Prop} (C0 : CX p s m args c cX7_scanOf 11 RX7 G K E0 A) (m_a mA_lane mA_many mA_item mA_poem mA_fresh mA_then mA_was mA_tape mA_strengths mA_sounds mA_stand mA_scheme mA_isKept mA_kept mA_trace arA1 : Nat) (m_thrown : Int32) (m_status : Int32) (m_acts : Int32) (m_taped : Int32) (m_cursor : Int32) (m_start : Int32) (m_token : Int32) (m_value : Int32) (m_fault : Int32) (m_faultAt : Int32) (m_latest : Int32) (m_nearFoot : Int32) (m_nearFeet : Int32) (m_nearCost : Int32) (m_traced : Int32) (ar1 : Nat → Int32) (p2 : Int32) (p3 : Int32) (p4 : Int32) (p5 : Int32) (r : Int32) (o_m_stands : Int32) (o_m_least : Int32) (o_m_ways : Int32) (o_m_strengths : Nat → Int32) (o_m_sounds : Nat → Int32) (o_m_stand : Nat → Int32) (kr : ∀ (H : Heap) (locs : List Loc) (ls : Array Slot) (pc : Nat), decode cX7_scanOf pc = .ok (.ireturn, 1) → va_P G vwCl (WX7_scanOf K m_a mA_lane mA_many mA_item mA_poem mA_fresh mA_then mA_was mA_tape mA_strengths mA_sounds mA_stand mA_scheme mA_isKept mA_kept mA_trace arA1 m_thrown m_status m_acts m_taped m_cursor m_start m_token m_value m_fault m_faultAt m_latest o_m_stands o_m_least o_m_ways m_nearFoot m_nearFeet m_nearCost m_traced o_m_strengths o_m_sounds o_m_stand ar1) H → va_D A (WX7_scanOf K m_a mA_lane mA_many mA_item mA_poem mA_fresh mA_then mA_was mA_tape mA_strengths mA_sounds mA_stand mA_scheme mA_isKept mA_kept mA_trace arA1 m_thrown m_status m_acts m_taped m_cursor m_start m_token m_value m_fault m_faultAt m_latest o_m_stands o_m_least o_m_ways m_nearFoot m_nearFeet m_nearCost m_traced o_m_strengths o_m_sounds o_m_stand ar1) → va_S A s.heap H locs → W p l e rmX7_scanOf s m args below meth c H locs 0 0 Q (F0 m pc ls [.int r])) (k24 : Int32 → Int32 → Int32 → (Nat → Int32) → (Nat → Int32) → (Nat → Int32) → Int32 → Int32 → Option (Int32 × (Int32) × (Int32) × (Int32) × (Nat → Int32) × (Nat → Int32) × (Nat → Int32))) (hk24 : ∀ (m_stands : Int32) (m_least : Int32) (m_ways : Int32) (m_strengths : Nat → Int32) (m_sounds : Nat → Int32) (m_stand : Nat → Int32) (x6 : Int32) (x7 : Int32), k24 m_stands m_least m_ways m_strengths m_sounds m_stand x6 x7 = some (r, o_m_stands, o_m_least, o_m_ways, o_m_strengths, o_m_sounds, o_m_stand) → ∀ (H : Heap) (locs : List Loc) (ls : Array Slot), va_P G vwCl (WX7_scanOf K m_a mA_lane mA_many mA_item mA_poem mA_fresh mA_then mA_was mA_tape mA_strengths mA_sounds mA_stand mA_scheme mA_isKept mA_kept mA_trace arA1 m_thrown m_status m_acts m_taped m_cursor m_start m_token m_value m_fault m_faultAt m_latest m_stands m_least m_ways m_nearFoot m_nearFeet m_nearCost m_traced m_strengths m_sounds m_stand ar1) H → va_D A (WX7_scanOf K m_a mA_lane mA_many mA_item mA_poem mA_fresh mA_then mA_was mA_tape mA_strengths mA_sounds mA_stand mA_scheme mA_isKept mA_kept mA_trace arA1 m_thrown m_status m_acts m_taped m_cursor m_start m_token m_value m_fault m_faultAt m_latest m_stands m_least m_ways m_nearFoot m_nearFeet m_nearCost m_traced m_strengths m_sounds m_stand ar1) → va_S A s.heap H locs → lv_has ls 11 [(0, .ref m_a), (1, .ref arA1), (2, .int p2), (3, .int p3), (4, .int p4), (6, .int x6), (7, .int x7)] → W p l e rmX7_scanOf s m args below meth c H locs 0 0 Q (F0 m 24 ls [])) (n : Nat) : ∀ (m_stands : Int32) (m_least : Int32) (m_ways : Int32) (m_strengths : Nat → Int32) (m_sounds : Nat → Int32) (m_stand : Nat → Int32) (x6 : Int32) (x7 : Int32) (x8 : Int32) (x9 : Int32), mX7_scanOf_b71 ar1 p2 p3 p4 p5 k24 n m_stands m_least m_ways m_strengths m_sounds m_stand x6 x7 x8 x9 = some (r, o_m_stands, o_m_least, o_m_ways, o_m_strengths, o_m_sounds, o_m_stand) → ∀ (H : Heap) (locs : List Loc) (ls : Array Slot), va_P G vwCl (WX7_scanOf K m_a mA_lane mA_many mA_item mA_poem mA_fresh mA_then mA_was mA_tape mA_strengths mA_sounds mA_stand mA_scheme mA_isKept mA_kept mA_trace arA1 m_thrown m_status m_acts m_taped m_cursor m_start m_token m_value m_fault m_faultAt m_latest m_stands m_least m_ways m_nearFoot m_nearFeet m_nearCost m_traced m_strengths m_sounds m_stand ar1) H → va_D A (WX7_scanOf K m_a mA_lane mA_many mA_item mA_poem mA_fresh mA_then mA_was mA_tape mA_strengths mA_sounds mA_stand mA_scheme mA_isKept mA_kept mA_trace arA1 m_thrown m_status m_acts m_taped m_cursor m_start m_token m_value m_fault m_faultAt m_latest m_stands m_least m_ways m_nearFoot m_nearFeet m_nearCost m_traced m_strengths m_sounds m_stand ar1) → va_S A s.heap H locs → lv_has ls 11 [(0, .ref m_a), (1, .ref arA1), (2, .int p2), (3, .int p3), (4, .int p4), (6, .int x6), (7, .int x7), (8, .int x8), (9, .int x9)] → W p l e rmX7_scanOf s m args below meth c H locs 0 0 Q (F0 m 71 ls []) := by
  obtain ⟨hx, hb, hml, hown, hts, hK, hA, hEo, hE⟩ := id C0
  induction n with
  | zero =>
    intro m_stands m_least m_ways m_strengths m_sounds m_stand x6 x7 x8 x9 hM
    cases hM
  | succ n ih =>
    intro m_stands m_least m_ways m_strengths m_sounds m_stand x6 x7 x8 x9 hM H locs ls hP hD hS hl
    rw [mX7_scanOf_b71] at hM
    refine lv_iload hx hb dX7_scanOf_71 (lv_at hl 8 rfl) ?_
    refine lv_iconst (v := 5) hx hb dX7_scanOf_73 (by decide) ?_
    refine lv_icmp_ge (tgt := 95) hx hb dX7_scanOf_74 (by decide) (fun c_5 => ?_) (fun c_5 => ?_)
    · rw [if_pos c_5] at hM
      refine lv_aload_n hx hb dX7_scanOf_95 rfl (lv_at hl 0 rfl) ?_
      refine lv_iload_n hx hb dX7_scanOf_96 rfl (lv_at hl 3 rfl) ?_
      refine lv_iload hx hb dX7_scanOf_97 (lv_at hl 4 rfl) ?_
      refine lv_iconst (v := 0) hx hb dX7_scanOf_99 (by decide) ?_
      obtain ⟨r_6, hC, hM⟩ := oe1 hM
      refine cV_i (As := [.int p3, .int p4, .int (0 : Int32)]) (rest := []) C0 hP hD hS [0, 3] (kX7_costOf l G K m_a mA_lane mA_many mA_item mA_poem mA_fresh mA_then mA_was mA_tape mA_strengths mA_sounds mA_stand mA_scheme mA_isKept mA_kept mA_trace m_thrown m_status m_acts m_taped m_cursor m_start m_token m_value m_fault m_faultAt m_latest m_stands m_least m_ways m_nearFoot m_nearFeet m_nearCost m_traced m_stand p3 p4 (0 : Int32) H.size r_6 hC) rfl rfl rfl tb1109 tb1111 tp38 tb9 tb1112 hdX7_costOf (va_recv hK hP (ci := 7) (q0 := 0) rfl rfl) ⟨Nat.le_of_ble_eq_true rfl, Nat.le_of_ble_eq_true rfl⟩ rfl hl.1 (Nat.le_of_ble_eq_true rfl) rfl ⟨Nat.le_refl _, Nat.le_refl _⟩ dX7_scanOf_100 (fun H locs hP hD hS => ?_)
      have hP : va_P G vwCl (WX7_scanOf K m_a mA_lane mA_many mA_item mA_poem mA_fresh mA_then mA_was mA_tape mA_strengths mA_sounds mA_stand mA_scheme mA_isKept mA_kept mA_trace arA1 m_thrown m_status m_acts m_taped m_cursor m_start m_token m_value m_fault m_faultAt m_latest m_stands m_least m_ways m_nearFoot m_nearFeet m_nearCost m_traced m_strengths m_sounds m_stand ar1) H := hP
      have hD : va_D A (WX7_scanOf K m_a mA_lane mA_many mA_item mA_poem mA_fresh mA_then mA_was mA_tape mA_strengths mA_sounds mA_stand mA_scheme mA_isKept mA_kept mA_trace arA1 m_thrown m_status m_acts m_taped m_cursor m_start m_token m_value m_fault m_faultAt m_latest m_stands m_least m_ways m_nearFoot m_nearFeet m_nearCost m_traced m_strengths m_sounds m_stand ar1) := hD
      refine lv_istore (lv' := [(9, .int r_6), (0, .ref m_a), (1, .ref arA1), (2, .int p2), (3, .int p3), (4, .int p4), (6, .int x6), (7, .int x7), (8, .int x8)]) hx hb dX7_scanOf_103 hl (by decide) rfl (fun ls hl => ?_)
      refine lv_iload hx hb dX7_scanOf_105 (lv_at hl 5 rfl) ?_
      refine lv_iconst (v := 1) hx hb dX7_scanOf_107 (by decide) ?_
      refine lv_icmp_le (tgt := 122) hx hb dX7_scanOf_108 (by decide) (fun c_7 => ?_) (fun c_7 => ?_)
      · rw [if_pos c_7] at hM
        refine lv_ldc (v := -1000000) hx hb hown (hts _ tb917) dX7_scanOf_122 ?_
        exact wX7_scanOf_b124 C0 m_a mA_lane mA_many mA_item mA_poem mA_fresh mA_then mA_was mA_tape mA_strengths mA_sounds mA_stand mA_scheme mA_isKept mA_kept mA_trace arA1 m_thrown m_status m_acts m_taped m_cursor m_start m_token m_value m_fault m_faultAt m_latest m_nearFoot m_nearFeet m_nearCost m_traced ar1 p2 p3 p4 p5 r o_m_stands o_m_least o_m_ways o_m_strengths o_m_sounds o_m_stand kr k24 hk24 m_stands m_least m_ways m_strengths m_sounds m_stand x6 x7 x8 r_6 (-1000000 : Int32) hM _ _ _ hP hD hS (lv_sub hl [1, 2, 3, 4, 5, 6, 7, 8, 0] rfl)
      · rw [if_neg c_7] at hM
        refine lv_aload_n hx hb dX7_scanOf_111 rfl (lv_at hl 1 rfl) ?_
        refine lv_iload_n hx hb dX7_scanOf_112 rfl (lv_at hl 4 rfl) ?_
        refine lv_iload hx hb dX7_scanOf_113 (lv_at hl 5 rfl) ?_
        refine lv_iconst (v := 1) hx hb dX7_scanOf_115 (by decide) ?_
        obtain ⟨r_8, hC, hM⟩ := oe1 hM
        refine cV_i (As := [.int p3, .int p4, .int (1 : Int32)]) (rest := []) C0 hP hD hS [0, 3] (kX7_costOf l G K m_a mA_lane mA_many mA_item mA_poem mA_fresh mA_then mA_was mA_tape mA_strengths mA_sounds mA_stand mA_scheme mA_isKept mA_kept mA_trace m_thrown m_status m_acts m_taped m_cursor m_start m_token m_value m_fault m_faultAt m_latest m_stands m_least m_ways m_nearFoot m_nearFeet m_nearCost m_traced m_stand p3 p4 (1 : Int32) H.size r_8 hC) rfl rfl rfl tb1109 tb1111 tp38 tb9 tb1112 hdX7_costOf (va_recv hK hP (ci := 7) (q0 := 0) rfl rfl) ⟨Nat.le_of_ble_eq_true rfl, Nat.le_of_ble_eq_true rfl⟩ rfl hl.1 (Nat.le_of_ble_eq_true rfl) rfl ⟨Nat.le_refl _, Nat.le_refl _⟩ dX7_scanOf_116 (fun H locs hP hD hS => ?_)
        have hP : va_P G vwCl (WX7_scanOf K m_a mA_lane mA_many mA_item mA_poem mA_fresh mA_then mA_was mA_tape mA_strengths mA_sounds mA_stand mA_scheme mA_isKept mA_kept mA_trace arA1 m_thrown m_status m_acts m_taped m_cursor m_start m_token m_value m_fault m_faultAt m_latest m_stands m_least m_ways m_nearFoot m_nearFeet m_nearCost m_traced m_strengths m_sounds m_stand ar1) H := hP
        have hD : va_D A (WX7_scanOf K m_a mA_lane mA_many mA_item mA_poem mA_fresh mA_then mA_was mA_tape mA_strengths mA_sounds mA_stand mA_scheme mA_isKept mA_kept mA_trace arA1 m_thrown m_status m_acts m_taped m_cursor m_start m_token m_value m_fault m_faultAt m_latest m_stands m_least m_ways m_nearFoot m_nearFeet m_nearCost m_traced m_strengths m_sounds m_stand ar1) := hD
        refine lv_goto (tgt := 124) hx hb dX7_scanOf_119 (by decide) ?_
        exact wX7_scanOf_b124 C0 m_a mA_lane mA_many mA_item mA_poem mA_fresh mA_then mA_was mA_tape mA_strengths mA_sounds mA_stand mA_scheme mA_isKept mA_kept mA_trace arA1 m_thrown m_status m_acts m_taped m_cursor m_start m_token m_value m_fault m_faultAt m_latest m_nearFoot m_nearFeet m_nearCost m_traced ar1 p2 p3 p4 p5 r o_m_stands o_m_least o_m_ways o_m_strengths o_m_sounds o_m_stand kr k24 hk24 m_stands m_least m_ways m_strengths m_sounds m_stand x6 x7 x8 r_6 r_8 hM _ _ _ hP hD hS (lv_sub hl [1, 2, 3, 4, 5, 6, 7, 8, 0] rfl)
    · rw [if_neg c_5] at hM
      refine lv_iload hx hb dX7_scanOf_77 (lv_at hl 7 rfl) ?_
      refine lv_iload hx hb dX7_scanOf_79 (lv_at hl 6 rfl) ?_
      refine lv_iload hx hb dX7_scanOf_81 (lv_at hl 8 rfl) ?_
      refine lv_ishr hx hb dX7_scanOf_83 ?_
      refine lv_iconst (v := 1) hx hb dX7_scanOf_84 (by decide) ?_
      refine lv_iand hx hb dX7_scanOf_85 ?_
      refine lv_iadd hx hb dX7_scanOf_86 ?_
      refine lv_istore (lv' := [(8, .int (x8 + ((x7 >>> (x9 &&& 31)) &&& (1 : Int32)))), (0, .ref m_a), (1, .ref arA1), (2, .int p2), (3, .int p3), (4, .int p4), (6, .int x6), (7, .int x7), (9, .int x9)]) hx hb dX7_scanOf_87 hl (by decide) rfl (fun ls hl => ?_)
      refine lv_iinc (v := (x9 + 1)) (lv' := [(9, .int (x9 + 1)), (8, .int (x8 + ((x7 >>> (x9 &&& 31)) &&& (1 : Int32)))), (0, .ref m_a), (1, .ref arA1), (2, .int p2), (3, .int p3), (4, .int p4), (6, .int x6), (7, .int x7)]) hx hb dX7_scanOf_89 hl (k := 8) rfl rfl (by decide) rfl (fun ls hl => ?_)
      refine lv_goto (tgt := 71) hx hb dX7_scanOf_92 (by decide) ?_
      exact ih m_stands m_least m_ways m_strengths m_sounds m_stand x6 x7 (x8 + ((x7 >>> (x9 &&& 31)) &&& (1 : Int32))) (x9 + 1) hM _ _ _ hP hD hS (lv_sub hl [2, 3, 4, 5, 6, 7, 8, 1, 0] rfl)
set_option maxHeartbeats 4000000 in
set_option maxRecDepth 100000 in
theorem wX7_scanOf_b24 {p : Program} {l : Launch} {e : Env} {s : State} {m : MethodId} {args : Array Value} {below : List Frame} {meth : Method} {c : Code} {Q : State → Prop} {G : va_G} {K : Nat → ClassId} {A : Nat → Prop} (C0 : CX p s m args c cX7_scanOf 11 RX7 G K E0 A) (m_a mA_lane mA_many mA_item mA_poem mA_fresh mA_then mA_was mA_tape mA_strengths mA_sounds mA_stand mA_scheme mA_isKept mA_kept mA_trace arA1 : Nat) (m_thrown : Int32) (m_status : Int32) (m_acts : Int32) (m_taped : Int32) (m_cursor : Int32) (m_start : Int32) (m_token : Int32) (m_value : Int32) (m_fault : Int32) (m_faultAt : Int32) (m_latest : Int32) (m_nearFoot : Int32) (m_nearFeet : Int32) (m_nearCost : Int32) (m_traced : Int32) (ar1 : Nat → Int32) (p2 : Int32) (p3 : Int32) (p4 : Int32) (p5 : Int32) (r : Int32) (o_m_stands : Int32) (o_m_least : Int32) (o_m_ways : Int32) (o_m_strengths : Nat → Int32) (o_m_sounds : Nat → Int32) (o_m_stand : Nat → Int32) (kr : ∀ (H : Heap) (locs : List Loc) (ls : Array Slot) (pc : Nat), decode cX7_scanOf pc = .ok (.ireturn, 1) → va_P G vwCl (WX7_scanOf K m_a mA_lane mA_many mA_item mA_poem mA_fresh mA_then mA_was mA_tape mA_strengths mA_sounds mA_stand mA_scheme mA_isKept mA_kept mA_trace arA1 m_thrown m_status m_acts m_taped m_cursor m_start m_token m_value m_fault m_faultAt m_latest o_m_stands o_m_least o_m_ways m_nearFoot m_nearFeet m_nearCost m_traced o_m_strengths o_m_sounds o_m_stand ar1) H → va_D A (WX7_scanOf K m_a mA_lane mA_many mA_item mA_poem mA_fresh mA_then mA_was mA_tape mA_strengths mA_sounds mA_stand mA_scheme mA_isKept mA_kept mA_trace arA1 m_thrown m_status m_acts m_taped m_cursor m_start m_token m_value m_fault m_faultAt m_latest o_m_stands o_m_least o_m_ways m_nearFoot m_nearFeet m_nearCost m_traced o_m_strengths o_m_sounds o_m_stand ar1) → va_S A s.heap H locs → W p l e rmX7_scanOf s m args below meth c H locs 0 0 Q (F0 m pc ls [.int r])) (n : Nat) : ∀ (m_stands : Int32) (m_least : Int32) (m_ways : Int32) (m_strengths : Nat → Int32) (m_sounds : Nat → Int32) (m_stand : Nat → Int32) (x6 : Int32) (x7 : Int32), mX7_scanOf_b24 ar1 p2 p3 p4 p5  n m_stands m_least m_ways m_strengths m_sounds m_stand x6 x7 = some (r, o_m_stands, o_m_least, o_m_ways, o_m_strengths, o_m_sounds, o_m_stand) → ∀ (H : Heap) (locs : List Loc) (ls : Array Slot), va_P G vwCl (WX7_scanOf K m_a mA_lane mA_many mA_item mA_poem mA_fresh mA_then mA_was mA_tape mA_strengths mA_sounds mA_stand mA_scheme mA_isKept mA_kept mA_trace arA1 m_thrown m_status m_acts m_taped m_cursor m_start m_token m_value m_fault m_faultAt m_latest m_stands m_least m_ways m_nearFoot m_nearFeet m_nearCost m_traced m_strengths m_sounds m_stand ar1) H → va_D A (WX7_scanOf K m_a mA_lane mA_many mA_item mA_poem mA_fresh mA_then mA_was mA_tape mA_strengths mA_sounds mA_stand mA_scheme mA_isKept mA_kept mA_trace arA1 m_thrown m_status m_acts m_taped m_cursor m_start m_token m_value m_fault m_faultAt m_latest m_stands m_least m_ways m_nearFoot m_nearFeet m_nearCost m_traced m_strengths m_sounds m_stand ar1) → va_S A s.heap H locs → lv_has ls 11 [(0, .ref m_a), (1, .ref arA1), (2, .int p2), (3, .int p3), (4, .int p4), (6, .int x6), (7, .int x7)] → W p l e rmX7_scanOf s m args below meth c H locs 0 0 Q (F0 m 24 ls []) := by
  obtain ⟨hx, hb, hml, hown, hts, hK, hA, hEo, hE⟩ := id C0
  induction n with
  | zero =>
    intro m_stands m_least m_ways m_strengths m_sounds m_stand x6 x7 hM
    cases hM
  | succ n ih =>
    intro m_stands m_least m_ways m_strengths m_sounds m_stand x6 x7 hM H locs ls hP hD hS hl
    rw [mX7_scanOf_b24] at hM
    refine lv_iload hx hb dX7_scanOf_24 (lv_at hl 6 rfl) ?_
    refine lv_iconst (v := 1) hx hb dX7_scanOf_26 (by decide) ?_
    refine lv_aload_n hx hb dX7_scanOf_27 rfl (lv_at hl 1 rfl) ?_
    refine lv_iconst (v := 3) hx hb dX7_scanOf_28 (by decide) ?_
    refine lv_iload_n hx hb dX7_scanOf_29 rfl (lv_at hl 2 rfl) ?_
    refine lv_iadd hx hb dX7_scanOf_30 ?_
    obtain ⟨g_9, hM⟩ := ng hM
    refine va_iald hx hb hK hP 4 0 rfl rfl g_9 dX7_scanOf_31 ?_
    refine lv_iconst (v := 1) hx hb dX7_scanOf_32 (by decide) ?_
    refine lv_isub hx hb dX7_scanOf_33 ?_
    refine lv_ishl hx hb dX7_scanOf_34 ?_
    refine lv_icmp_ge (tgt := 174) hx hb dX7_scanOf_35 (by decide) (fun c_10 => ?_) (fun c_10 => ?_)
    · rw [if_pos c_10] at hM
      refine lv_aload_n hx hb dX7_scanOf_174 rfl (lv_at hl 0 rfl) ?_
      refine va_get (D := G) (ci := 7) (v := .int m_least) (C := RX7) (T := TX7) (N := 33) hx hb hts inX7 hown hK hP 0 rfl rfl 23 (by decide) (hts _ tb787) (fun _ h9 => h9) rfl dX7_scanOf_175 ?_
      have t0 := Option.some.inj hM
      obtain ⟨q1, t1⟩ := Prod.mk.inj t0
      obtain ⟨q2, t2⟩ := Prod.mk.inj t1
      obtain ⟨q3, t3⟩ := Prod.mk.inj t2
      obtain ⟨q4, t4⟩ := Prod.mk.inj t3
      obtain ⟨q5, t5⟩ := Prod.mk.inj t4
      obtain ⟨q6, t6⟩ := Prod.mk.inj t5
      subst q1
      subst q2
      subst q3
      subst q4
      subst q5
      subst q6
      subst t6
      exact kr _ _ _ _ dX7_scanOf_178 hP hD hS
    · rw [if_neg c_10] at hM
      refine lv_iload hx hb dX7_scanOf_38 (lv_at hl 5 rfl) ?_
      refine lv_if_lt (tgt := 174) hx hb dX7_scanOf_40 (by decide) (fun c_11 => ?_) (fun c_11 => ?_)
      · rw [if_pos c_11] at hM
        refine lv_aload_n hx hb dX7_scanOf_174 rfl (lv_at hl 0 rfl) ?_
        refine va_get (D := G) (ci := 7) (v := .int m_least) (C := RX7) (T := TX7) (N := 33) hx hb hts inX7 hown hK hP 0 rfl rfl 23 (by decide) (hts _ tb787) (fun _ h9 => h9) rfl dX7_scanOf_175 ?_
        have t0 := Option.some.inj hM
        obtain ⟨q1, t1⟩ := Prod.mk.inj t0
        obtain ⟨q2, t2⟩ := Prod.mk.inj t1
        obtain ⟨q3, t3⟩ := Prod.mk.inj t2
        obtain ⟨q4, t4⟩ := Prod.mk.inj t3
        obtain ⟨q5, t5⟩ := Prod.mk.inj t4
        obtain ⟨q6, t6⟩ := Prod.mk.inj t5
        subst q1
        subst q2
        subst q3
        subst q4
        subst q5
        subst q6
        subst t6
        exact kr _ _ _ _ dX7_scanOf_178 hP hD hS
      · rw [if_neg c_11] at hM
        refine lv_aload_n hx hb dX7_scanOf_43 rfl (lv_at hl 0 rfl) ?_
        refine lv_aload_n hx hb dX7_scanOf_44 rfl (lv_at hl 1 rfl) ?_
        refine lv_iload_n hx hb dX7_scanOf_45 rfl (lv_at hl 2 rfl) ?_
        refine lv_iload hx hb dX7_scanOf_46 (lv_at hl 6 rfl) ?_
        obtain ⟨r_12, hC, hM⟩ := oe1 hM
        refine cV_i (As := [.ref arA1, .int p2, .int x7]) (rest := []) C0 hP hD hS [0, 2, 4] (kX7_mayAll l G K m_a mA_lane mA_many mA_item mA_poem mA_fresh mA_then mA_was mA_tape mA_strengths mA_sounds mA_stand mA_scheme mA_isKept mA_kept mA_trace arA1 m_thrown m_status m_acts m_taped m_cursor m_start m_token m_value m_fault m_faultAt m_latest m_stands m_least m_ways m_nearFoot m_nearFeet m_nearCost m_traced m_sounds ar1 p2 x7 H.size r_12 hC) rfl rfl rfl tb1098 tb1100 tp36 tb9 tb1101 hdX7_mayAll (va_recv hK hP (ci := 7) (q0 := 0) rfl rfl) ⟨Nat.le_of_ble_eq_true rfl, Nat.le_of_ble_eq_true rfl⟩ rfl hl.1 (Nat.le_of_ble_eq_true rfl) rfl ⟨Nat.le_refl _, Nat.le_refl _⟩ dX7_scanOf_48 (fun H locs hP hD hS => ?_)
        have hP : va_P G vwCl (WX7_scanOf K m_a mA_lane mA_many mA_item mA_poem mA_fresh mA_then mA_was mA_tape mA_strengths mA_sounds mA_stand mA_scheme mA_isKept mA_kept mA_trace arA1 m_thrown m_status m_acts m_taped m_cursor m_start m_token m_value m_fault m_faultAt m_latest m_stands m_least m_ways m_nearFoot m_nearFeet m_nearCost m_traced m_strengths m_sounds m_stand ar1) H := hP
        have hD : va_D A (WX7_scanOf K m_a mA_lane mA_many mA_item mA_poem mA_fresh mA_then mA_was mA_tape mA_strengths mA_sounds mA_stand mA_scheme mA_isKept mA_kept mA_trace arA1 m_thrown m_status m_acts m_taped m_cursor m_start m_token m_value m_fault m_faultAt m_latest m_stands m_least m_ways m_nearFoot m_nearFeet m_nearCost m_traced m_strengths m_sounds m_stand ar1) := hD
        refine lv_if_eq (tgt := 168) hx hb dX7_scanOf_51 (by decide) (fun c_13 => ?_) (fun c_13 => ?_)
        · rw [if_pos c_13] at hM
          refine lv_iinc (v := (x7 + 1)) (lv' := [(7, .int (x7 + 1)), (0, .ref m_a), (1, .ref arA1), (2, .int p2), (3, .int p3), (4, .int p4), (6, .int x6)]) hx hb dX7_scanOf_168 hl (k := 6) rfl rfl (by decide) rfl (fun ls hl => ?_)
          refine lv_goto (tgt := 24) hx hb dX7_scanOf_171 (by decide) ?_
          exact ih m_stands m_least m_ways m_strengths m_sounds m_stand x6 (x7 + 1) hM _ _ _ hP hD hS (lv_sub hl [1, 2, 3, 4, 5, 6, 0] rfl)
        · rw [if_neg c_13] at hM
          refine lv_aload_n hx hb dX7_scanOf_54 rfl (lv_at hl 0 rfl) ?_
          refine lv_aload_n hx hb dX7_scanOf_55 rfl (lv_at hl 1 rfl) ?_
          refine lv_iconst (v := 3) hx hb dX7_scanOf_56 (by decide) ?_
          refine lv_iload_n hx hb dX7_scanOf_57 rfl (lv_at hl 2 rfl) ?_
          refine lv_iadd hx hb dX7_scanOf_58 ?_
          obtain ⟨g_14, hM⟩ := ng hM
          refine va_iald hx hb hK hP 4 0 rfl rfl g_14 dX7_scanOf_59 ?_
          refine lv_iload hx hb dX7_scanOf_60 (lv_at hl 6 rfl) ?_
          obtain ⟨u0_15, u1_15, hC, hM⟩ := oe2 hM
          refine cV_v (As := [.int (ar1 ((3 : Int32) + p2).toNatClampNeg), .int x7]) (rest := []) C0 hP hD hS [0, 1, 2, 3] (kX7_layScan l G K m_a mA_lane mA_many mA_item mA_poem mA_fresh mA_then mA_was mA_tape mA_strengths mA_sounds mA_stand mA_scheme mA_isKept mA_kept mA_trace m_thrown m_status m_acts m_taped m_cursor m_start m_token m_value m_fault m_faultAt m_latest m_stands m_least m_ways m_nearFoot m_nearFeet m_nearCost m_traced m_strengths m_sounds m_stand (ar1 ((3 : Int32) + p2).toNatClampNeg) x7 H.size u0_15 u1_15 hC) rfl rfl rfl tb1105 tb1107 tp37 tb9 tb1108 hdX7_layScan (va_recv hK hP (ci := 7) (q0 := 0) rfl rfl) ⟨Nat.le_of_ble_eq_true rfl, Nat.le_of_ble_eq_true rfl⟩ rfl hl.1 (Nat.le_of_ble_eq_true rfl) rfl ⟨Nat.le_refl _, Nat.le_refl _⟩ dX7_scanOf_62 (fun H locs hP hD hS => ?_)
          have hP : va_P G vwCl (WX7_scanOf K m_a mA_lane mA_many mA_item mA_poem mA_fresh mA_then mA_was mA_tape mA_strengths mA_sounds mA_stand mA_scheme mA_isKept mA_kept mA_trace arA1 m_thrown m_status m_acts m_taped m_cursor m_start m_token m_value m_fault m_faultAt m_latest u0_15 m_least m_ways m_nearFoot m_nearFeet m_nearCost m_traced m_strengths m_sounds u1_15 ar1) H := hP
          have hD : va_D A (WX7_scanOf K m_a mA_lane mA_many mA_item mA_poem mA_fresh mA_then mA_was mA_tape mA_strengths mA_sounds mA_stand mA_scheme mA_isKept mA_kept mA_trace arA1 m_thrown m_status m_acts m_taped m_cursor m_start m_token m_value m_fault m_faultAt m_latest u0_15 m_least m_ways m_nearFoot m_nearFeet m_nearCost m_traced m_strengths m_sounds u1_15 ar1) := hD
          refine lv_iconst (v := 0) hx hb dX7_scanOf_65 (by decide) ?_
          refine lv_istore (lv' := [(8, .int (0 : Int32)), (0, .ref m_a), (1, .ref arA1), (2, .int p2), (3, .int p3), (4, .int p4), (6, .int x6), (7, .int x7)]) hx hb dX7_scanOf_66 hl (by decide) rfl (fun ls hl => ?_)
          refine lv_iconst (v := 0) hx hb dX7_scanOf_68 (by decide) ?_
          refine lv_istore (lv' := [(9, .int (0 : Int32)), (8, .int (0 : Int32)), (0, .ref m_a), (1, .ref arA1), (2, .int p2), (3, .int p3), (4, .int p4), (6, .int x6), (7, .int x7)]) hx hb dX7_scanOf_69 hl (by decide) rfl (fun ls hl => ?_)
          exact wX7_scanOf_b71 C0 m_a mA_lane mA_many mA_item mA_poem mA_fresh mA_then mA_was mA_tape mA_strengths mA_sounds mA_stand mA_scheme mA_isKept mA_kept mA_trace arA1 m_thrown m_status m_acts m_taped m_cursor m_start m_token m_value m_fault m_faultAt m_latest m_nearFoot m_nearFeet m_nearCost m_traced ar1 p2 p3 p4 p5 r o_m_stands o_m_least o_m_ways o_m_strengths o_m_sounds o_m_stand kr (mX7_scanOf_b24 ar1 p2 p3 p4 p5  n) ih FU u0_15 m_least m_ways m_strengths m_sounds u1_15 x6 x7 (0 : Int32) (0 : Int32) hM _ _ _ hP hD hS (lv_sub hl [2, 3, 4, 5, 6, 7, 8, 1, 0] rfl)
set_option maxHeartbeats 4000000 in
set_option maxRecDepth 100000 in
theorem wX7_scanOf_b0 {p : Program} {l : Launch} {e : Env} {s : State} {m : MethodId} {args : Array Value} {below : List Frame} {meth : Method} {c : Code} {Q : State → Prop} {G : va_G} {K : Nat → ClassId} {A : Nat → Prop} (C0 : CX p s m args c cX7_scanOf 11 RX7 G K E0 A) (m_a mA_lane mA_many mA_item mA_poem mA_fresh mA_then mA_was mA_tape mA_strengths mA_sounds mA_stand mA_scheme mA_isKept mA_kept mA_trace arA1 : Nat) (m_thrown : Int32) (m_status : Int32) (m_acts : Int32) (m_taped : Int32) (m_cursor : Int32) (m_start : Int32) (m_token : Int32) (m_value : Int32) (m_fault : Int32) (m_faultAt : Int32) (m_latest : Int32) (m_nearFoot : Int32) (m_nearFeet : Int32) (m_nearCost : Int32) (m_traced : Int32) (ar1 : Nat → Int32) (p2 : Int32) (p3 : Int32) (p4 : Int32) (p5 : Int32) (r : Int32) (o_m_stands : Int32) (o_m_least : Int32) (o_m_ways : Int32) (o_m_strengths : Nat → Int32) (o_m_sounds : Nat → Int32) (o_m_stand : Nat → Int32) (kr : ∀ (H : Heap) (locs : List Loc) (ls : Array Slot) (pc : Nat), decode cX7_scanOf pc = .ok (.ireturn, 1) → va_P G vwCl (WX7_scanOf K m_a mA_lane mA_many mA_item mA_poem mA_fresh mA_then mA_was mA_tape mA_strengths mA_sounds mA_stand mA_scheme mA_isKept mA_kept mA_trace arA1 m_thrown m_status m_acts m_taped m_cursor m_start m_token m_value m_fault m_faultAt m_latest o_m_stands o_m_least o_m_ways m_nearFoot m_nearFeet m_nearCost m_traced o_m_strengths o_m_sounds o_m_stand ar1) H → va_D A (WX7_scanOf K m_a mA_lane mA_many mA_item mA_poem mA_fresh mA_then mA_was mA_tape mA_strengths mA_sounds mA_stand mA_scheme mA_isKept mA_kept mA_trace arA1 m_thrown m_status m_acts m_taped m_cursor m_start m_token m_value m_fault m_faultAt m_latest o_m_stands o_m_least o_m_ways m_nearFoot m_nearFeet m_nearCost m_traced o_m_strengths o_m_sounds o_m_stand ar1) → va_S A s.heap H locs → W p l e rmX7_scanOf s m args below meth c H locs 0 0 Q (F0 m pc ls [.int r])) (m_stands : Int32) (m_least : Int32) (m_ways : Int32) (m_strengths : Nat → Int32) (m_sounds : Nat → Int32) (m_stand : Nat → Int32) (hM : mX7_scanOf_b0 ar1 p2 p3 p4 p5  m_stands m_least m_ways m_strengths m_sounds m_stand = some (r, o_m_stands, o_m_least, o_m_ways, o_m_strengths, o_m_sounds, o_m_stand)) : ∀ (H : Heap) (locs : List Loc) (ls : Array Slot), va_P G vwCl (WX7_scanOf K m_a mA_lane mA_many mA_item mA_poem mA_fresh mA_then mA_was mA_tape mA_strengths mA_sounds mA_stand mA_scheme mA_isKept mA_kept mA_trace arA1 m_thrown m_status m_acts m_taped m_cursor m_start m_token m_value m_fault m_faultAt m_latest m_stands m_least m_ways m_nearFoot m_nearFeet m_nearCost m_traced m_strengths m_sounds m_stand ar1) H → va_D A (WX7_scanOf K m_a mA_lane mA_many mA_item mA_poem mA_fresh mA_then mA_was mA_tape mA_strengths mA_sounds mA_stand mA_scheme mA_isKept mA_kept mA_trace arA1 m_thrown m_status m_acts m_taped m_cursor m_start m_token m_value m_fault m_faultAt m_latest m_stands m_least m_ways m_nearFoot m_nearFeet m_nearCost m_traced m_strengths m_sounds m_stand ar1) → va_S A s.heap H locs → lv_has ls 11 [(0, .ref m_a), (1, .ref arA1), (2, .int p2), (3, .int p3), (4, .int p4), (5, .int p5)] → W p l e rmX7_scanOf s m args below meth c H locs 0 0 Q (F0 m 0 ls []) := by
  obtain ⟨hx, hb, hml, hown, hts, hK, hA, hEo, hE⟩ := id C0
  intro H locs ls hP hD hS hl
  unfold mX7_scanOf_b0 at hM
  refine lv_aload_n hx hb dX7_scanOf_0 rfl (lv_at hl 0 rfl) ?_
  refine lv_aload_n hx hb dX7_scanOf_1 rfl (lv_at hl 1 rfl) ?_
  refine lv_iload_n hx hb dX7_scanOf_2 rfl (lv_at hl 2 rfl) ?_
  refine lv_iload hx hb dX7_scanOf_3 (lv_at hl 5 rfl) ?_
  obtain ⟨r_16, u0_16, u1_16, hC, hM⟩ := oe3 hM
  refine cV_i (As := [.ref arA1, .int p2, .int p5]) (rest := []) C0 hP hD hS [0, 1, 2, 4] (kX7_layLine l G K m_a mA_lane mA_many mA_item mA_poem mA_fresh mA_then mA_was mA_tape mA_strengths mA_sounds mA_stand mA_scheme mA_isKept mA_kept mA_trace arA1 m_thrown m_status m_acts m_taped m_cursor m_start m_token m_value m_fault m_faultAt m_latest m_stands m_least m_ways m_nearFoot m_nearFeet m_nearCost m_traced m_strengths m_sounds ar1 p2 p5 H.size r_16 u0_16 u1_16 hC) rfl rfl rfl tb1094 tb1096 tp35 tb9 tb1097 hdX7_layLine (va_recv hK hP (ci := 7) (q0 := 0) rfl rfl) ⟨Nat.le_of_ble_eq_true rfl, Nat.le_of_ble_eq_true rfl⟩ rfl hl.1 (Nat.le_of_ble_eq_true rfl) rfl ⟨Nat.le_refl _, Nat.le_refl _⟩ dX7_scanOf_5 (fun H locs hP hD hS => ?_)
  have hP : va_P G vwCl (WX7_scanOf K m_a mA_lane mA_many mA_item mA_poem mA_fresh mA_then mA_was mA_tape mA_strengths mA_sounds mA_stand mA_scheme mA_isKept mA_kept mA_trace arA1 m_thrown m_status m_acts m_taped m_cursor m_start m_token m_value m_fault m_faultAt m_latest m_stands m_least m_ways m_nearFoot m_nearFeet m_nearCost m_traced u0_16 u1_16 m_stand ar1) H := hP
  have hD : va_D A (WX7_scanOf K m_a mA_lane mA_many mA_item mA_poem mA_fresh mA_then mA_was mA_tape mA_strengths mA_sounds mA_stand mA_scheme mA_isKept mA_kept mA_trace arA1 m_thrown m_status m_acts m_taped m_cursor m_start m_token m_value m_fault m_faultAt m_latest m_stands m_least m_ways m_nearFoot m_nearFeet m_nearCost m_traced u0_16 u1_16 m_stand ar1) := hD
  refine lv_istore (lv' := [(6, .int r_16), (0, .ref m_a), (1, .ref arA1), (2, .int p2), (3, .int p3), (4, .int p4), (5, .int p5)]) hx hb dX7_scanOf_8 hl (by decide) rfl (fun ls hl => ?_)
  refine lv_aload_n hx hb dX7_scanOf_10 rfl (lv_at hl 1 rfl) ?_
  refine lv_ldc (v := -1000000) hx hb hown (hts _ tb917) dX7_scanOf_11 ?_
  refine va_put (D := G) (ci := 7) (v := .int (-1000000 : Int32)) (ty := .int) (C := RX7) (T := TX7) (N := 33) hx hb hts inX7 tyX7 tyX7_ok nmX7 hown hK hP hD hS 0 rfl rfl 23 (by decide) (hts _ tb787) (fun _ h9 => h9) rfl (tyX7_ok 23 (by decide)) rfl rfl (Nat.le_of_ble_eq_true rfl) dX7_scanOf_13 (fun H locs hP hD hS => ?_)
  have hP : va_P G vwCl (WX7_scanOf K m_a mA_lane mA_many mA_item mA_poem mA_fresh mA_then mA_was mA_tape mA_strengths mA_sounds mA_stand mA_scheme mA_isKept mA_kept mA_trace arA1 m_thrown m_status m_acts m_taped m_cursor m_start m_token m_value m_fault m_faultAt m_latest m_stands (-1000000 : Int32) m_ways m_nearFoot m_nearFeet m_nearCost m_traced u0_16 u1_16 m_stand ar1) H := hP
  have hD : va_D A (WX7_scanOf K m_a mA_lane mA_many mA_item mA_poem mA_fresh mA_then mA_was mA_tape mA_strengths mA_sounds mA_stand mA_scheme mA_isKept mA_kept mA_trace arA1 m_thrown m_status m_acts m_taped m_cursor m_start m_token m_value m_fault m_faultAt m_latest m_stands (-1000000 : Int32) m_ways m_nearFoot m_nearFeet m_nearCost m_traced u0_16 u1_16 m_stand ar1) := hD
  refine lv_aload_n hx hb dX7_scanOf_16 rfl (lv_at hl 1 rfl) ?_
  refine lv_iconst (v := 0) hx hb dX7_scanOf_17 (by decide) ?_
  refine va_put (D := G) (ci := 7) (v := .int (0 : Int32)) (ty := .int) (C := RX7) (T := TX7) (N := 33) hx hb hts inX7 tyX7 tyX7_ok nmX7 hown hK hP hD hS 0 rfl rfl 24 (by decide) (hts _ tb788) (fun _ h9 => h9) rfl (tyX7_ok 24 (by decide)) rfl rfl (Nat.le_of_ble_eq_true rfl) dX7_scanOf_18 (fun H locs hP hD hS => ?_)
  have hP : va_P G vwCl (WX7_scanOf K m_a mA_lane mA_many mA_item mA_poem mA_fresh mA_then mA_was mA_tape mA_strengths mA_sounds mA_stand mA_scheme mA_isKept mA_kept mA_trace arA1 m_thrown m_status m_acts m_taped m_cursor m_start m_token m_value m_fault m_faultAt m_latest m_stands (-1000000 : Int32) (0 : Int32) m_nearFoot m_nearFeet m_nearCost m_traced u0_16 u1_16 m_stand ar1) H := hP
  have hD : va_D A (WX7_scanOf K m_a mA_lane mA_many mA_item mA_poem mA_fresh mA_then mA_was mA_tape mA_strengths mA_sounds mA_stand mA_scheme mA_isKept mA_kept mA_trace arA1 m_thrown m_status m_acts m_taped m_cursor m_start m_token m_value m_fault m_faultAt m_latest m_stands (-1000000 : Int32) (0 : Int32) m_nearFoot m_nearFeet m_nearCost m_traced u0_16 u1_16 m_stand ar1) := hD
  refine lv_iconst (v := 0) hx hb dX7_scanOf_21 (by decide) ?_
  refine lv_istore (lv' := [(7, .int (0 : Int32)), (6, .int r_16), (0, .ref m_a), (1, .ref arA1), (2, .int p2), (3, .int p3), (4, .int p4), (5, .int p5)]) hx hb dX7_scanOf_22 hl (by decide) rfl (fun ls hl => ?_)
  exact wX7_scanOf_b24 C0 m_a mA_lane mA_many mA_item mA_poem mA_fresh mA_then mA_was mA_tape mA_strengths mA_sounds mA_stand mA_scheme mA_isKept mA_kept mA_trace arA1 m_thrown m_status m_acts m_taped m_cursor m_start m_token m_value m_fault m_faultAt m_latest m_nearFoot m_nearFeet m_nearCost m_traced ar1 p2 p3 p4 p5 r o_m_stands o_m_least o_m_ways o_m_strengths o_m_sounds o_m_stand kr  FU m_stands (-1000000 : Int32) (0 : Int32) u0_16 u1_16 m_stand r_16 (0 : Int32) hM _ _ _ hP hD hS (lv_sub hl [2, 3, 4, 5, 6, 1, 0] rfl)
set_option maxHeartbeats 4000000 in
set_option maxRecDepth 100000 in
theorem kX7_scanOf (l : Launch) (G : va_G) (K : Nat → ClassId) (m_a mA_lane mA_many mA_item mA_poem mA_fresh mA_then mA_was mA_tape mA_strengths mA_sounds mA_stand mA_scheme mA_isKept mA_kept mA_trace arA1 : Nat) (m_thrown : Int32) (m_status : Int32) (m_acts : Int32) (m_taped : Int32) (m_cursor : Int32) (m_start : Int32) (m_token : Int32) (m_value : Int32) (m_fault : Int32) (m_faultAt : Int32) (m_latest : Int32) (m_stands : Int32) (m_least : Int32) (m_ways : Int32) (m_nearFoot : Int32) (m_nearFeet : Int32) (m_nearCost : Int32) (m_traced : Int32) (m_strengths : Nat → Int32) (m_sounds : Nat → Int32) (m_stand : Nat → Int32) (ar1 : Nat → Int32) (p2 : Int32) (p3 : Int32) (p4 : Int32) (p5 : Int32) (sz : Nat) (r : Int32) (o_m_stands : Int32) (o_m_least : Int32) (o_m_ways : Int32) (o_m_strengths : Nat → Int32) (o_m_sounds : Nat → Int32) (o_m_stand : Nat → Int32) (hM : mX7_scanOf ar1 m_stands m_least m_ways m_strengths m_sounds m_stand p2 p3 p4 p5 = some (r, o_m_stands, o_m_least, o_m_ways, o_m_strengths, o_m_sounds, o_m_stand)) : Met l yX7_scanOf (mC yX7_scanOf cX7_scanOf 11 (some .int)) rmX7_scanOf (va_Pc [.ref m_a, .ref arA1, .int p2, .int p3, .int p4, .int p5] (PCe G K E0 (WX7_scanOf K m_a mA_lane mA_many mA_item mA_poem mA_fresh mA_then mA_was mA_tape mA_strengths mA_sounds mA_stand mA_scheme mA_isKept mA_kept mA_trace arA1 m_thrown m_status m_acts m_taped m_cursor m_start m_token m_value m_fault m_faultAt m_latest m_stands m_least m_ways m_nearFoot m_nearFeet m_nearCost m_traced m_strengths m_sounds m_stand ar1) sz)) (va_Qi (fun (x : Int32) (_ : Unit) => x = r) (fun _ t => va_P G vwCl (WX7_scanOf K m_a mA_lane mA_many mA_item mA_poem mA_fresh mA_then mA_was mA_tape mA_strengths mA_sounds mA_stand mA_scheme mA_isKept mA_kept mA_trace arA1 m_thrown m_status m_acts m_taped m_cursor m_start m_token m_value m_fault m_faultAt m_latest o_m_stands o_m_least o_m_ways m_nearFoot m_nearFeet m_nearCost m_traced o_m_strengths o_m_sounds o_m_stand ar1) t.heap) (va_A (WX7_scanOf K m_a mA_lane mA_many mA_item mA_poem mA_fresh mA_then mA_was mA_tape mA_strengths mA_sounds mA_stand mA_scheme mA_isKept mA_kept mA_trace arA1 m_thrown m_status m_acts m_taped m_cursor m_start m_token m_value m_fault m_faultAt m_latest m_stands m_least m_ways m_nearFoot m_nearFeet m_nearCost m_traced m_strengths m_sounds m_stand ar1) sz)) rmX7_scanOf.cells rmX7_scanOf.slots (va_A (WX7_scanOf K m_a mA_lane mA_many mA_item mA_poem mA_fresh mA_then mA_was mA_tape mA_strengths mA_sounds mA_stand mA_scheme mA_isKept mA_kept mA_trace arA1 m_thrown m_status m_acts m_taped m_cursor m_start m_token m_value m_fault m_faultAt m_latest m_stands m_least m_ways m_nearFoot m_nearFeet m_nearCost m_traced m_strengths m_sounds m_stand ar1) sz) := by
  refine Met.ofW (cc := cX7_scanOf) (maxL := 11) (ret := (some .int)) (by decide) rfl ?_
  intro p e s m args below meth c s₁ B hml hv
  obtain ⟨rfl, hsz, hP, hK, hD0, hE⟩ := hv
  have hx := B.exec
  have hb := B.bytes
  have hr := B.returns
  have hts0 := atoms_spec (ws := mC yX7_scanOf cX7_scanOf 11 (some .int)) B.pre
  have hts : ∀ w ∈ tbG, w.before _ s = true := fun w h => hts0 w (List.mem_cons_of_mem _ h)
  have hown : s.vm.findClass RX7 = some m.cls := findClass_of_methodNamed B.named
  subst hsz
  have hD := hD0.self (sz := s.heap.size)
  generalize hAe : va_A (WX7_scanOf K m_a mA_lane mA_many mA_item mA_poem mA_fresh mA_then mA_was mA_tape mA_strengths mA_sounds mA_stand mA_scheme mA_isKept mA_kept mA_trace arA1 m_thrown m_status m_acts m_taped m_cursor m_start m_token m_value m_fault m_faultAt m_latest m_stands m_least m_ways m_nearFoot m_nearFeet m_nearCost m_traced m_strengths m_sounds m_stand ar1) s.heap.size = A at hD hE ⊢
  have hA : ∀ q : Nat, s.heap.size ≤ q → A q := fun q h => by rw [← hAe]; exact Or.inr h
  have hS : va_S A s.heap s.heap [] := va_S.rf
  have hl := lv_entry ([.ref m_a, .ref arA1, .int p2, .int p3, .int p4, .int p5]) (n := 11) (Nat.le_of_ble_eq_true rfl)
  rw [lg_entry_eq]
  generalize (lg_sl ([.ref m_a, .ref arA1, .int p2, .int p3, .int p4, .int p5]) ++ List.replicate (11 - (lg_sl ([.ref m_a, .ref arA1, .int p2, .int p3, .int p4, .int p5])).length) Slot.unset).toArray = ls at hl ⊢
  have hl : lv_has ls 11 [(0, .ref m_a), (1, .ref arA1), (2, .int p2), (3, .int p3), (4, .int p4), (5, .int p5)] := hl
  exact wX7_scanOf_b0 ⟨hx, hb, hml, hown, hts, hK, hA, E0_ok, hE⟩ m_a mA_lane mA_many mA_item mA_poem mA_fresh mA_then mA_was mA_tape mA_strengths mA_sounds mA_stand mA_scheme mA_isKept mA_kept mA_trace arA1 m_thrown m_status m_acts m_taped m_cursor m_start m_token m_value m_fault m_faultAt m_latest m_nearFoot m_nearFeet m_nearCost m_traced ar1 p2 p3 p4 p5 r o_m_stands o_m_least o_m_ways o_m_strengths o_m_sounds o_m_stand (fun H locs ls pc hdg hP hD hS => W.iret (v := r) hx hb hr (fun t ht hW => ⟨⟨r, (), rfl, rfl, (show va_P G vwCl _ t.heap by rw [ht]; exact hP)⟩, hS.F ht⟩) hS.2.2 hdg) m_stands m_least m_ways m_strengths m_sounds m_stand  hM _ _ _ hP hD hS hl
abbrev WX7_byMetre (K : Nat → ClassId) (m_a mA_lane mA_many mA_item mA_poem mA_fresh mA_then mA_was mA_tape mA_strengths mA_sounds mA_stand mA_scheme mA_isKept mA_kept mA_trace arA1 : Nat) (m_thrown : Int32) (m_status : Int32) (m_acts : Int32) (m_taped : Int32) (m_cursor : Int32) (m_start : Int32) (m_token : Int32) (m_value : Int32) (m_fault : Int32) (m_faultAt : Int32) (m_latest : Int32) (m_stands : Int32) (m_least : Int32) (m_ways : Int32) (m_nearFoot : Int32) (m_nearFeet : Int32) (m_nearCost : Int32) (m_traced : Int32) (m_strengths : Nat → Int32) (m_sounds : Nat → Int32) (m_stand : Nat → Int32) (ar1 : Nat → Int32) : va_W := [(m_a, .inr (7, [.int m_thrown, .int m_status, .ref mA_lane, .ref mA_many, .ref mA_item, .ref mA_poem, .ref mA_fresh, .ref mA_then, .ref mA_was, .int m_acts, .ref mA_tape, .int m_taped, .int m_cursor, .int m_start, .int m_token, .int m_value, .int m_fault, .int m_faultAt, .int m_latest, .ref mA_strengths, .ref mA_sounds, .ref mA_stand, .int m_stands, .int m_least, .int m_ways, .ref mA_scheme, .int m_nearFoot, .int m_nearFeet, .int m_nearCost, .ref mA_isKept, .ref mA_kept, .ref mA_trace, .int m_traced])), aI K mA_strengths 20 m_strengths, aI K mA_sounds 5 m_sounds, aI K mA_stand 20 m_stand, aI K arA1 207 ar1]
def rmX7_byMetre : Room := { frames := 8, cells := 0, slots := 0, locals := 190 }
theorem hdX7_byMetre : yX7_byMetre.cls = RX7 ∧ yX7_byMetre.cls ≠ "java/lang/invoke/MethodHandle" ∧ yX7_byMetre.cls ≠ "java/lang/invoke/VarHandle" ∧ (parseMethodDescriptor yX7_byMetre.desc).map (fun d => d.parameters.length) = some 2 := by decide +kernel
set_option maxHeartbeats 4000000 in
set_option maxRecDepth 100000 in
theorem wX7_byMetre_b0 {p : Program} {l : Launch} {e : Env} {s : State} {m : MethodId} {args : Array Value} {below : List Frame} {meth : Method} {c : Code} {Q : State → Prop} {G : va_G} {K : Nat → ClassId} {A : Nat → Prop} (C0 : CX p s m args c cX7_byMetre 3 RX7 G K E0 A) (m_a mA_lane mA_many mA_item mA_poem mA_fresh mA_then mA_was mA_tape mA_strengths mA_sounds mA_stand mA_scheme mA_isKept mA_kept mA_trace arA1 : Nat) (m_thrown : Int32) (m_status : Int32) (m_acts : Int32) (m_taped : Int32) (m_cursor : Int32) (m_start : Int32) (m_token : Int32) (m_value : Int32) (m_fault : Int32) (m_faultAt : Int32) (m_latest : Int32) (m_nearFoot : Int32) (m_nearFeet : Int32) (m_nearCost : Int32) (m_traced : Int32) (ar1 : Nat → Int32) (p2 : Int32) (r : Int32) (o_m_stands : Int32) (o_m_least : Int32) (o_m_ways : Int32) (o_m_strengths : Nat → Int32) (o_m_sounds : Nat → Int32) (o_m_stand : Nat → Int32) (kr : ∀ (H : Heap) (locs : List Loc) (ls : Array Slot) (pc : Nat), decode cX7_byMetre pc = .ok (.ireturn, 1) → va_P G vwCl (WX7_byMetre K m_a mA_lane mA_many mA_item mA_poem mA_fresh mA_then mA_was mA_tape mA_strengths mA_sounds mA_stand mA_scheme mA_isKept mA_kept mA_trace arA1 m_thrown m_status m_acts m_taped m_cursor m_start m_token m_value m_fault m_faultAt m_latest o_m_stands o_m_least o_m_ways m_nearFoot m_nearFeet m_nearCost m_traced o_m_strengths o_m_sounds o_m_stand ar1) H → va_D A (WX7_byMetre K m_a mA_lane mA_many mA_item mA_poem mA_fresh mA_then mA_was mA_tape mA_strengths mA_sounds mA_stand mA_scheme mA_isKept mA_kept mA_trace arA1 m_thrown m_status m_acts m_taped m_cursor m_start m_token m_value m_fault m_faultAt m_latest o_m_stands o_m_least o_m_ways m_nearFoot m_nearFeet m_nearCost m_traced o_m_strengths o_m_sounds o_m_stand ar1) → va_S A s.heap H locs → W p l e rmX7_byMetre s m args below meth c H locs 0 0 Q (F0 m pc ls [.int r])) (m_stands : Int32) (m_least : Int32) (m_ways : Int32) (m_strengths : Nat → Int32) (m_sounds : Nat → Int32) (m_stand : Nat → Int32) (hM : mX7_byMetre_b0 ar1 p2  m_stands m_least m_ways m_strengths m_sounds m_stand = some (r, o_m_stands, o_m_least, o_m_ways, o_m_strengths, o_m_sounds, o_m_stand)) : ∀ (H : Heap) (locs : List Loc) (ls : Array Slot), va_P G vwCl (WX7_byMetre K m_a mA_lane mA_many mA_item mA_poem mA_fresh mA_then mA_was mA_tape mA_strengths mA_sounds mA_stand mA_scheme mA_isKept mA_kept mA_trace arA1 m_thrown m_status m_acts m_taped m_cursor m_start m_token m_value m_fault m_faultAt m_latest m_stands m_least m_ways m_nearFoot m_nearFeet m_nearCost m_traced m_strengths m_sounds m_stand ar1) H → va_D A (WX7_byMetre K m_a mA_lane mA_many mA_item mA_poem mA_fresh mA_then mA_was mA_tape mA_strengths mA_sounds mA_stand mA_scheme mA_isKept mA_kept mA_trace arA1 m_thrown m_status m_acts m_taped m_cursor m_start m_token m_value m_fault m_faultAt m_latest m_stands m_least m_ways m_nearFoot m_nearFeet m_nearCost m_traced m_strengths m_sounds m_stand ar1) → va_S A s.heap H locs → lv_has ls 3 [(0, .ref m_a), (1, .ref arA1), (2, .int p2)] → W p l e rmX7_byMetre s m args below meth c H locs 0 0 Q (F0 m 0 ls []) := by
  obtain ⟨hx, hb, hml, hown, hts, hK, hA, hEo, hE⟩ := id C0
  intro H locs ls hP hD hS hl
  unfold mX7_byMetre_b0 at hM
  refine lv_aload_n hx hb dX7_byMetre_0 rfl (lv_at hl 0 rfl) ?_
  refine lv_aload_n hx hb dX7_byMetre_1 rfl (lv_at hl 1 rfl) ?_
  refine lv_iload_n hx hb dX7_byMetre_2 rfl (lv_at hl 2 rfl) ?_
  refine lv_aload_n hx hb dX7_byMetre_3 rfl (lv_at hl 1 rfl) ?_
  refine lv_iconst (v := 1) hx hb dX7_byMetre_4 (by decide) ?_
  refine va_iald hx hb hK hP 4 0 rfl rfl (show ¬ ((1 : Int32) < 0 ∨ 207 ≤ ((1 : Int32)).toNatClampNeg) by decide) dX7_byMetre_5 ?_
  refine lv_aload_n hx hb dX7_byMetre_6 rfl (lv_at hl 1 rfl) ?_
  refine lv_iconst (v := 2) hx hb dX7_byMetre_7 (by decide) ?_
  refine va_iald hx hb hK hP 4 0 rfl rfl (show ¬ ((2 : Int32) < 0 ∨ 207 ≤ ((2 : Int32)).toNatClampNeg) by decide) dX7_byMetre_8 ?_
  refine lv_iconst (v := (-1)) hx hb dX7_byMetre_9 (by decide) ?_
  obtain ⟨r_1, u0_1, u1_1, u2_1, u3_1, u4_1, u5_1, hC, hM⟩ := oe7 hM
  refine cV_i (As := [.ref arA1, .int p2, .int (ar1 (1 : Int32).toNatClampNeg), .int (ar1 (2 : Int32).toNatClampNeg), .int ((-1) : Int32)]) (rest := []) C0 hP hD hS [0, 1, 2, 3, 4] (kX7_scanOf l G K m_a mA_lane mA_many mA_item mA_poem mA_fresh mA_then mA_was mA_tape mA_strengths mA_sounds mA_stand mA_scheme mA_isKept mA_kept mA_trace arA1 m_thrown m_status m_acts m_taped m_cursor m_start m_token m_value m_fault m_faultAt m_latest m_stands m_least m_ways m_nearFoot m_nearFeet m_nearCost m_traced m_strengths m_sounds m_stand ar1 p2 (ar1 (1 : Int32).toNatClampNeg) (ar1 (2 : Int32).toNatClampNeg) ((-1) : Int32) H.size r_1 u0_1 u1_1 u2_1 u3_1 u4_1 u5_1 hC) rfl rfl rfl tb1090 tb1092 tp34 tb9 tb1093 hdX7_scanOf (va_recv hK hP (ci := 7) (q0 := 0) rfl rfl) ⟨Nat.le_of_ble_eq_true rfl, Nat.le_of_ble_eq_true rfl⟩ rfl hl.1 (Nat.le_of_ble_eq_true rfl) rfl ⟨Nat.le_refl _, Nat.le_refl _⟩ dX7_byMetre_10 (fun H locs hP hD hS => ?_)
  have hP : va_P G vwCl (WX7_byMetre K m_a mA_lane mA_many mA_item mA_poem mA_fresh mA_then mA_was mA_tape mA_strengths mA_sounds mA_stand mA_scheme mA_isKept mA_kept mA_trace arA1 m_thrown m_status m_acts m_taped m_cursor m_start m_token m_value m_fault m_faultAt m_latest u0_1 u1_1 u2_1 m_nearFoot m_nearFeet m_nearCost m_traced u3_1 u4_1 u5_1 ar1) H := hP
  have hD : va_D A (WX7_byMetre K m_a mA_lane mA_many mA_item mA_poem mA_fresh mA_then mA_was mA_tape mA_strengths mA_sounds mA_stand mA_scheme mA_isKept mA_kept mA_trace arA1 m_thrown m_status m_acts m_taped m_cursor m_start m_token m_value m_fault m_faultAt m_latest u0_1 u1_1 u2_1 m_nearFoot m_nearFeet m_nearCost m_traced u3_1 u4_1 u5_1 ar1) := hD
  have t0 := Option.some.inj hM
  obtain ⟨q1, t1⟩ := Prod.mk.inj t0
  obtain ⟨q2, t2⟩ := Prod.mk.inj t1
  obtain ⟨q3, t3⟩ := Prod.mk.inj t2
  obtain ⟨q4, t4⟩ := Prod.mk.inj t3
  obtain ⟨q5, t5⟩ := Prod.mk.inj t4
  obtain ⟨q6, t6⟩ := Prod.mk.inj t5
  subst q1
  subst q2
  subst q3
  subst q4
  subst q5
  subst q6
  subst t6
  exact kr _ _ _ _ dX7_byMetre_13 hP hD hS
set_option maxHeartbeats 4000000 in
set_option maxRecDepth 100000 in
theorem kX7_byMetre (l : Launch) (G : va_G) (K : Nat → ClassId) (m_a mA_lane mA_many mA_item mA_poem mA_fresh mA_then mA_was mA_tape mA_strengths mA_sounds mA_stand mA_scheme mA_isKept mA_kept mA_trace arA1 : Nat) (m_thrown : Int32) (m_status : Int32) (m_acts : Int32) (m_taped : Int32) (m_cursor : Int32) (m_start : Int32) (m_token : Int32) (m_value : Int32) (m_fault : Int32) (m_faultAt : Int32) (m_latest : Int32) (m_stands : Int32) (m_least : Int32) (m_ways : Int32) (m_nearFoot : Int32) (m_nearFeet : Int32) (m_nearCost : Int32) (m_traced : Int32) (m_strengths : Nat → Int32) (m_sounds : Nat → Int32) (m_stand : Nat → Int32) (ar1 : Nat → Int32) (p2 : Int32) (sz : Nat) (r : Int32) (o_m_stands : Int32) (o_m_least : Int32) (o_m_ways : Int32) (o_m_strengths : Nat → Int32) (o_m_sounds : Nat → Int32) (o_m_stand : Nat → Int32) (hM : mX7_byMetre ar1 m_stands m_least m_ways m_strengths m_sounds m_stand p2 = some (r, o_m_stands, o_m_least, o_m_ways, o_m_strengths, o_m_sounds, o_m_stand)) : Met l yX7_byMetre (mC yX7_byMetre cX7_byMetre 3 (some .int)) rmX7_byMetre (va_Pc [.ref m_a, .ref arA1, .int p2] (PCe G K E0 (WX7_byMetre K m_a mA_lane mA_many mA_item mA_poem mA_fresh mA_then mA_was mA_tape mA_strengths mA_sounds mA_stand mA_scheme mA_isKept mA_kept mA_trace arA1 m_thrown m_status m_acts m_taped m_cursor m_start m_token m_value m_fault m_faultAt m_latest m_stands m_least m_ways m_nearFoot m_nearFeet m_nearCost m_traced m_strengths m_sounds m_stand ar1) sz)) (va_Qi (fun (x : Int32) (_ : Unit) => x = r) (fun _ t => va_P G vwCl (WX7_byMetre K m_a mA_lane mA_many mA_item mA_poem mA_fresh mA_then mA_was mA_tape mA_strengths mA_sounds mA_stand mA_scheme mA_isKept mA_kept mA_trace arA1 m_thrown m_status m_acts m_taped m_cursor m_start m_token m_value m_fault m_faultAt m_latest o_m_stands o_m_least o_m_ways m_nearFoot m_nearFeet m_nearCost m_traced o_m_strengths o_m_sounds o_m_stand ar1) t.heap) (va_A (WX7_byMetre K m_a mA_lane mA_many mA_item mA_poem mA_fresh mA_then mA_was mA_tape mA_strengths mA_sounds mA_stand mA_scheme mA_isKept mA_kept mA_trace arA1 m_thrown m_status m_acts m_taped m_cursor m_start m_token m_value m_fault m_faultAt m_latest m_stands m_least m_ways m_nearFoot m_nearFeet m_nearCost m_traced m_strengths m_sounds m_stand ar1) sz)) rmX7_byMetre.cells rmX7_byMetre.slots (va_A (WX7_byMetre K m_a mA_lane mA_many mA_item mA_poem mA_fresh mA_then mA_was mA_tape mA_strengths mA_sounds mA_stand mA_scheme mA_isKept mA_kept mA_trace arA1 m_thrown m_status m_acts m_taped m_cursor m_start m_token m_value m_fault m_faultAt m_latest m_stands m_least m_ways m_nearFoot m_nearFeet m_nearCost m_traced m_strengths m_sounds m_stand ar1) sz) := by
  refine Met.ofW (cc := cX7_byMetre) (maxL := 3) (ret := (some .int)) (by decide) rfl ?_
  intro p e s m args below meth c s₁ B hml hv
  obtain ⟨rfl, hsz, hP, hK, hD0, hE⟩ := hv
  have hx := B.exec
  have hb := B.bytes
  have hr := B.returns
  have hts0 := atoms_spec (ws := mC yX7_byMetre cX7_byMetre 3 (some .int)) B.pre
  have hts : ∀ w ∈ tbG, w.before _ s = true := fun w h => hts0 w (List.mem_cons_of_mem _ h)
  have hown : s.vm.findClass RX7 = some m.cls := findClass_of_methodNamed B.named
  subst hsz
  have hD := hD0.self (sz := s.heap.size)
  generalize hAe : va_A (WX7_byMetre K m_a mA_lane mA_many mA_item mA_poem mA_fresh mA_then mA_was mA_tape mA_strengths mA_sounds mA_stand mA_scheme mA_isKept mA_kept mA_trace arA1 m_thrown m_status m_acts m_taped m_cursor m_start m_token m_value m_fault m_faultAt m_latest m_stands m_least m_ways m_nearFoot m_nearFeet m_nearCost m_traced m_strengths m_sounds m_stand ar1) s.heap.size = A at hD hE ⊢
  have hA : ∀ q : Nat, s.heap.size ≤ q → A q := fun q h => by rw [← hAe]; exact Or.inr h
  have hS : va_S A s.heap s.heap [] := va_S.rf
  have hl := lv_entry ([.ref m_a, .ref arA1, .int p2]) (n := 3) (Nat.le_of_ble_eq_true rfl)
  rw [lg_entry_eq]
  generalize (lg_sl ([.ref m_a, .ref arA1, .int p2]) ++ List.replicate (3 - (lg_sl ([.ref m_a, .ref arA1, .int p2])).length) Slot.unset).toArray = ls at hl ⊢
  have hl : lv_has ls 3 [(0, .ref m_a), (1, .ref arA1), (2, .int p2)] := hl
  exact wX7_byMetre_b0 ⟨hx, hb, hml, hown, hts, hK, hA, E0_ok, hE⟩ m_a mA_lane mA_many mA_item mA_poem mA_fresh mA_then mA_was mA_tape mA_strengths mA_sounds mA_stand mA_scheme mA_isKept mA_kept mA_trace arA1 m_thrown m_status m_acts m_taped m_cursor m_start m_token m_value m_fault m_faultAt m_latest m_nearFoot m_nearFeet m_nearCost m_traced ar1 p2 r o_m_stands o_m_least o_m_ways o_m_strengths o_m_sounds o_m_stand (fun H locs ls pc hdg hP hD hS => W.iret (v := r) hx hb hr (fun t ht hW => ⟨⟨r, (), rfl, rfl, (show va_P G vwCl _ t.heap by rw [ht]; exact hP)⟩, hS.F ht⟩) hS.2.2 hdg) m_stands m_least m_ways m_strengths m_sounds m_stand  hM _ _ _ hP hD hS hl
abbrev WX7_allBy (K : Nat → ClassId) (m_a mA_lane mA_many mA_item mA_poem mA_fresh mA_then mA_was mA_tape mA_strengths mA_sounds mA_stand mA_scheme mA_isKept mA_kept mA_trace arA1 : Nat) (m_thrown : Int32) (m_status : Int32) (m_acts : Int32) (m_taped : Int32) (m_cursor : Int32) (m_start : Int32) (m_token : Int32) (m_value : Int32) (m_fault : Int32) (m_faultAt : Int32) (m_latest : Int32) (m_stands : Int32) (m_least : Int32) (m_ways : Int32) (m_nearFoot : Int32) (m_nearFeet : Int32) (m_nearCost : Int32) (m_traced : Int32) (m_strengths : Nat → Int32) (m_sounds : Nat → Int32) (m_stand : Nat → Int32) (ar1 : Nat → Int32) : va_W := [(m_a, .inr (7, [.int m_thrown, .int m_status, .ref mA_lane, .ref mA_many, .ref mA_item, .ref mA_poem, .ref mA_fresh, .ref mA_then, .ref mA_was, .int m_acts, .ref mA_tape, .int m_taped, .int m_cursor, .int m_start, .int m_token, .int m_value, .int m_fault, .int m_faultAt, .int m_latest, .ref mA_strengths, .ref mA_sounds, .ref mA_stand, .int m_stands, .int m_least, .int m_ways, .ref mA_scheme, .int m_nearFoot, .int m_nearFeet, .int m_nearCost, .ref mA_isKept, .ref mA_kept, .ref mA_trace, .int m_traced])), aI K mA_strengths 20 m_strengths, aI K mA_sounds 5 m_sounds, aI K mA_stand 20 m_stand, aI K arA1 207 ar1]
def rmX7_allBy : Room := { frames := 8, cells := 0, slots := 0, locals := 190 }
theorem hdX7_allBy : yX7_allBy.cls = RX7 ∧ yX7_allBy.cls ≠ "java/lang/invoke/MethodHandle" ∧ yX7_allBy.cls ≠ "java/lang/invoke/VarHandle" ∧ (parseMethodDescriptor yX7_allBy.desc).map (fun d => d.parameters.length) = some 3 := by decide +kernel
set_option maxHeartbeats 4000000 in
set_option maxRecDepth 100000 in
theorem wX7_allBy_b6 {p : Program} {l : Launch} {e : Env} {s : State} {m : MethodId} {args : Array Value} {below : List Frame} {meth : Method} {c : Code} {Q : State → Prop} {G : va_G} {K : Nat → ClassId} {A : Nat → Prop} (C0 : CX p s m args c cX7_allBy 7 RX7 G K E0 A) (m_a mA_lane mA_many mA_item mA_poem mA_fresh mA_then mA_was mA_tape mA_strengths mA_sounds mA_stand mA_scheme mA_isKept mA_kept mA_trace arA1 : Nat) (m_thrown : Int32) (m_status : Int32) (m_acts : Int32) (m_taped : Int32) (m_cursor : Int32) (m_start : Int32) (m_token : Int32) (m_value : Int32) (m_fault : Int32) (m_faultAt : Int32) (m_latest : Int32) (m_nearFoot : Int32) (m_nearFeet : Int32) (m_nearCost : Int32) (m_traced : Int32) (ar1 : Nat → Int32) (p2 : Int32) (p3 : Int32) (r : Int32) (o_m_stands : Int32) (o_m_least : Int32) (o_m_ways : Int32) (o_m_strengths : Nat → Int32) (o_m_sounds : Nat → Int32) (o_m_stand : Nat → Int32) (kr : ∀ (H : Heap) (locs : List Loc) (ls : Array Slot) (pc : Nat), decode cX7_allBy pc = .ok (.ireturn, 1) → va_P G vwCl (WX7_allBy K m_a mA_lane mA_many mA_item mA_poem mA_fresh mA_then mA_was mA_tape mA_strengths mA_sounds mA_stand mA_scheme mA_isKept mA_kept mA_trace arA1 m_thrown m_status m_acts m_taped m_cursor m_start m_token m_value m_fault m_faultAt m_latest o_m_stands o_m_least o_m_ways m_nearFoot m_nearFeet m_nearCost m_traced o_m_strengths o_m_sounds o_m_stand ar1) H → va_D A (WX7_allBy K m_a mA_lane mA_many mA_item mA_poem mA_fresh mA_then mA_was mA_tape mA_strengths mA_sounds mA_stand mA_scheme mA_isKept mA_kept mA_trace arA1 m_thrown m_status m_acts m_taped m_cursor m_start m_token m_value m_fault m_faultAt m_latest o_m_stands o_m_least o_m_ways m_nearFoot m_nearFeet m_nearCost m_traced o_m_strengths o_m_sounds o_m_stand ar1) → va_S A s.heap H locs → W p l e rmX7_allBy s m args below meth c H locs 0 0 Q (F0 m pc ls [.int r])) (n : Nat) : ∀ (m_stands : Int32) (m_least : Int32) (m_ways : Int32) (m_strengths : Nat → Int32) (m_sounds : Nat → Int32) (m_stand : Nat → Int32) (x4 : Int32) (x5 : Int32), mX7_allBy_b6 ar1 p2 p3  n m_stands m_least m_ways m_strengths m_sounds m_stand x4 x5 = some (r, o_m_stands, o_m_least, o_m_ways, o_m_strengths, o_m_sounds, o_m_stand) → ∀ (H : Heap) (locs : List Loc) (ls : Array Slot), va_P G vwCl (WX7_allBy K m_a mA_lane mA_many mA_item mA_poem mA_fresh mA_then mA_was mA_tape mA_strengths mA_sounds mA_stand mA_scheme mA_isKept mA_kept mA_trace arA1 m_thrown m_status m_acts m_taped m_cursor m_start m_token m_value m_fault m_faultAt m_latest m_stands m_least m_ways m_nearFoot m_nearFeet m_nearCost m_traced m_strengths m_sounds m_stand ar1) H → va_D A (WX7_allBy K m_a mA_lane mA_many mA_item mA_poem mA_fresh mA_then mA_was mA_tape mA_strengths mA_sounds mA_stand mA_scheme mA_isKept mA_kept mA_trace arA1 m_thrown m_status m_acts m_taped m_cursor m_start m_token m_value m_fault m_faultAt m_latest m_stands m_least m_ways m_nearFoot m_nearFeet m_nearCost m_traced m_strengths m_sounds m_stand ar1) → va_S A s.heap H locs → lv_has ls 7 [(0, .ref m_a), (1, .ref arA1), (2, .int p2), (3, .int p3), (4, .int x4), (5, .int x5)] → W p l e rmX7_allBy s m args below meth c H locs 0 0 Q (F0 m 6 ls []) := by
  obtain ⟨hx, hb, hml, hown, hts, hK, hA, hEo, hE⟩ := id C0
  induction n with
  | zero =>
    intro m_stands m_least m_ways m_strengths m_sounds m_stand x4 x5 hM
    cases hM
  | succ n ih =>
    intro m_stands m_least m_ways m_strengths m_sounds m_stand x4 x5 hM H locs ls hP hD hS hl
    rw [mX7_allBy_b6] at hM
    refine lv_iload hx hb dX7_allBy_6 (lv_at hl 5 rfl) ?_
    refine lv_aload_n hx hb dX7_allBy_8 rfl (lv_at hl 1 rfl) ?_
    refine lv_iconst (v := 0) hx hb dX7_allBy_9 (by decide) ?_
    refine va_iald hx hb hK hP 4 0 rfl rfl (show ¬ ((0 : Int32) < 0 ∨ 207 ≤ ((0 : Int32)).toNatClampNeg) by decide) dX7_allBy_10 ?_
    refine lv_icmp_ge (tgt := 49) hx hb dX7_allBy_11 (by decide) (fun c_1 => ?_) (fun c_1 => ?_)
    · rw [if_pos c_1] at hM
      refine lv_iload hx hb dX7_allBy_49 (lv_at hl 4 rfl) ?_
      have t0 := Option.some.inj hM
      obtain ⟨q1, t1⟩ := Prod.mk.inj t0
      obtain ⟨q2, t2⟩ := Prod.mk.inj t1
      obtain ⟨q3, t3⟩ := Prod.mk.inj t2
      obtain ⟨q4, t4⟩ := Prod.mk.inj t3
      obtain ⟨q5, t5⟩ := Prod.mk.inj t4
      obtain ⟨q6, t6⟩ := Prod.mk.inj t5
      subst q1
      subst q2
      subst q3
      subst q4
      subst q5
      subst q6
      subst t6
      exact kr _ _ _ _ dX7_allBy_51 hP hD hS
    · rw [if_neg c_1] at hM
      refine lv_aload_n hx hb dX7_allBy_14 rfl (lv_at hl 0 rfl) ?_
      refine lv_aload_n hx hb dX7_allBy_15 rfl (lv_at hl 1 rfl) ?_
      refine lv_iload hx hb dX7_allBy_16 (lv_at hl 5 rfl) ?_
      refine lv_iload_n hx hb dX7_allBy_18 rfl (lv_at hl 2 rfl) ?_
      refine lv_iload_n hx hb dX7_allBy_19 rfl (lv_at hl 3 rfl) ?_
      refine lv_iconst (v := (-1)) hx hb dX7_allBy_20 (by decide) ?_
      obtain ⟨r_2, u0_2, u1_2, u2_2, u3_2, u4_2, u5_2, hC, hM⟩ := oe7 hM
      refine cV_i (As := [.ref arA1, .int x5, .int p2, .int p3, .int ((-1) : Int32)]) (rest := []) C0 hP hD hS [0, 1, 2, 3, 4] (kX7_scanOf l G K m_a mA_lane mA_many mA_item mA_poem mA_fresh mA_then mA_was mA_tape mA_strengths mA_sounds mA_stand mA_scheme mA_isKept mA_kept mA_trace arA1 m_thrown m_status m_acts m_taped m_cursor m_start m_token m_value m_fault m_faultAt m_latest m_stands m_least m_ways m_nearFoot m_nearFeet m_nearCost m_traced m_strengths m_sounds m_stand ar1 x5 p2 p3 ((-1) : Int32) H.size r_2 u0_2 u1_2 u2_2 u3_2 u4_2 u5_2 hC) rfl rfl rfl tb1090 tb1092 tp34 tb9 tb1093 hdX7_scanOf (va_recv hK hP (ci := 7) (q0 := 0) rfl rfl) ⟨Nat.le_of_ble_eq_true rfl, Nat.le_of_ble_eq_true rfl⟩ rfl hl.1 (Nat.le_of_ble_eq_true rfl) rfl ⟨Nat.le_refl _, Nat.le_refl _⟩ dX7_allBy_21 (fun H locs hP hD hS => ?_)
      have hP : va_P G vwCl (WX7_allBy K m_a mA_lane mA_many mA_item mA_poem mA_fresh mA_then mA_was mA_tape mA_strengths mA_sounds mA_stand mA_scheme mA_isKept mA_kept mA_trace arA1 m_thrown m_status m_acts m_taped m_cursor m_start m_token m_value m_fault m_faultAt m_latest u0_2 u1_2 u2_2 m_nearFoot m_nearFeet m_nearCost m_traced u3_2 u4_2 u5_2 ar1) H := hP
      have hD : va_D A (WX7_allBy K m_a mA_lane mA_many mA_item mA_poem mA_fresh mA_then mA_was mA_tape mA_strengths mA_sounds mA_stand mA_scheme mA_isKept mA_kept mA_trace arA1 m_thrown m_status m_acts m_taped m_cursor m_start m_token m_value m_fault m_faultAt m_latest u0_2 u1_2 u2_2 m_nearFoot m_nearFeet m_nearCost m_traced u3_2 u4_2 u5_2 ar1) := hD
      refine lv_istore (lv' := [(6, .int r_2), (0, .ref m_a), (1, .ref arA1), (2, .int p2), (3, .int p3), (4, .int x4), (5, .int x5)]) hx hb dX7_allBy_24 hl (by decide) rfl (fun ls hl => ?_)
      refine lv_iload hx hb dX7_allBy_26 (lv_at hl 0 rfl) ?_
      refine lv_ldc (v := -1000000) hx hb hown (hts _ tb917) dX7_allBy_28 ?_
      refine lv_icmp_ne (tgt := 36) hx hb dX7_allBy_30 (by decide) (fun c_3 => ?_) (fun c_3 => ?_)
      · rw [if_neg c_3] at hM
        refine lv_iload hx hb dX7_allBy_36 (lv_at hl 5 rfl) ?_
        refine lv_iload hx hb dX7_allBy_38 (lv_at hl 0 rfl) ?_
        refine lv_iadd hx hb dX7_allBy_40 ?_
        refine lv_istore (lv' := [(4, .int (x4 + r_2)), (6, .int r_2), (0, .ref m_a), (1, .ref arA1), (2, .int p2), (3, .int p3), (5, .int x5)]) hx hb dX7_allBy_41 hl (by decide) rfl (fun ls hl => ?_)
        refine lv_iinc (v := (x5 + 1)) (lv' := [(5, .int (x5 + 1)), (4, .int (x4 + r_2)), (6, .int r_2), (0, .ref m_a), (1, .ref arA1), (2, .int p2), (3, .int p3)]) hx hb dX7_allBy_43 hl (k := 6) rfl rfl (by decide) rfl (fun ls hl => ?_)
        refine lv_goto (tgt := 6) hx hb dX7_allBy_46 (by decide) ?_
        exact ih u0_2 u1_2 u2_2 u3_2 u4_2 u5_2 (x4 + r_2) (x5 + 1) hM _ _ _ hP hD hS (lv_sub hl [3, 4, 5, 6, 1, 0] rfl)
      · rw [if_pos c_3] at hM
        refine lv_ldc (v := -1000000) hx hb hown (hts _ tb917) dX7_allBy_33 ?_
        have t0 := Option.some.inj hM
        obtain ⟨q1, t1⟩ := Prod.mk.inj t0
        obtain ⟨q2, t2⟩ := Prod.mk.inj t1
        obtain ⟨q3, t3⟩ := Prod.mk.inj t2
        obtain ⟨q4, t4⟩ := Prod.mk.inj t3
        obtain ⟨q5, t5⟩ := Prod.mk.inj t4
        obtain ⟨q6, t6⟩ := Prod.mk.inj t5
        subst q1
        subst q2
        subst q3
        subst q4
        subst q5
        subst q6
        subst t6
        exact kr _ _ _ _ dX7_allBy_35 hP hD hS
set_option maxHeartbeats 4000000 in
set_option maxRecDepth 100000 in
theorem wX7_allBy_b0 {p : Program} {l : Launch} {e : Env} {s : State} {m : MethodId} {args : Array Value} {below : List Frame} {meth : Method} {c : Code} {Q : State → Prop} {G : va_G} {K : Nat → ClassId} {A : Nat → Prop} (C0 : CX p s m args c cX7_allBy 7 RX7 G K E0 A) (m_a mA_lane mA_many mA_item mA_poem mA_fresh mA_then mA_was mA_tape mA_strengths mA_sounds mA_stand mA_scheme mA_isKept mA_kept mA_trace arA1 : Nat) (m_thrown : Int32) (m_status : Int32) (m_acts : Int32) (m_taped : Int32) (m_cursor : Int32) (m_start : Int32) (m_token : Int32) (m_value : Int32) (m_fault : Int32) (m_faultAt : Int32) (m_latest : Int32) (m_nearFoot : Int32) (m_nearFeet : Int32) (m_nearCost : Int32) (m_traced : Int32) (ar1 : Nat → Int32) (p2 : Int32) (p3 : Int32) (r : Int32) (o_m_stands : Int32) (o_m_least : Int32) (o_m_ways : Int32) (o_m_strengths : Nat → Int32) (o_m_sounds : Nat → Int32) (o_m_stand : Nat → Int32) (kr : ∀ (H : Heap) (locs : List Loc) (ls : Array Slot) (pc : Nat), decode cX7_allBy pc = .ok (.ireturn, 1) → va_P G vwCl (WX7_allBy K m_a mA_lane mA_many mA_item mA_poem mA_fresh mA_then mA_was mA_tape mA_strengths mA_sounds mA_stand mA_scheme mA_isKept mA_kept mA_trace arA1 m_thrown m_status m_acts m_taped m_cursor m_start m_token m_value m_fault m_faultAt m_latest o_m_stands o_m_least o_m_ways m_nearFoot m_nearFeet m_nearCost m_traced o_m_strengths o_m_sounds o_m_stand ar1) H → va_D A (WX7_allBy K m_a mA_lane mA_many mA_item mA_poem mA_fresh mA_then mA_was mA_tape mA_strengths mA_sounds mA_stand mA_scheme mA_isKept mA_kept mA_trace arA1 m_thrown m_status m_acts m_taped m_cursor m_start m_token m_value m_fault m_faultAt m_latest o_m_stands o_m_least o_m_ways m_nearFoot m_nearFeet m_nearCost m_traced o_m_strengths o_m_sounds o_m_stand ar1) → va_S A s.heap H locs → W p l e rmX7_allBy s m args below meth c H locs 0 0 Q (F0 m pc ls [.int r])) (m_stands : Int32) (m_least : Int32) (m_ways : Int32) (m_strengths : Nat → Int32) (m_sounds : Nat → Int32) (m_stand : Nat → Int32) (hM : mX7_allBy_b0 ar1 p2 p3  m_stands m_least m_ways m_strengths m_sounds m_stand = some (r, o_m_stands, o_m_least, o_m_ways, o_m_strengths, o_m_sounds, o_m_stand)) : ∀ (H : Heap) (locs : List Loc) (ls : Array Slot), va_P G vwCl (WX7_allBy K m_a mA_lane mA_many mA_item mA_poem mA_fresh mA_then mA_was mA_tape mA_strengths mA_sounds mA_stand mA_scheme mA_isKept mA_kept mA_trace arA1 m_thrown m_status m_acts m_taped m_cursor m_start m_token m_value m_fault m_faultAt m_latest m_stands m_least m_ways m_nearFoot m_nearFeet m_nearCost m_traced m_strengths m_sounds m_stand ar1) H → va_D A (WX7_allBy K m_a mA_lane mA_many mA_item mA_poem mA_fresh mA_then mA_was mA_tape mA_strengths mA_sounds mA_stand mA_scheme mA_isKept mA_kept mA_trace arA1 m_thrown m_status m_acts m_taped m_cursor m_start m_token m_value m_fault m_faultAt m_latest m_stands m_least m_ways m_nearFoot m_nearFeet m_nearCost m_traced m_strengths m_sounds m_stand ar1) → va_S A s.heap H locs → lv_has ls 7 [(0, .ref m_a), (1, .ref arA1), (2, .int p2), (3, .int p3)] → W p l e rmX7_allBy s m args below meth c H locs 0 0 Q (F0 m 0 ls []) := by
  obtain ⟨hx, hb, hml, hown, hts, hK, hA, hEo, hE⟩ := id C0
  intro H locs ls hP hD hS hl
  unfold mX7_allBy_b0 at hM
  refine lv_iconst (v := 0) hx hb dX7_allBy_0 (by decide) ?_
  refine lv_istore (lv' := [(4, .int (0 : Int32)), (0, .ref m_a), (1, .ref arA1), (2, .int p2), (3, .int p3)]) hx hb dX7_allBy_1 hl (by decide) rfl (fun ls hl => ?_)
  refine lv_iconst (v := 0) hx hb dX7_allBy_3 (by decide) ?_
  refine lv_istore (lv' := [(5, .int (0 : Int32)), (4, .int (0 : Int32)), (0, .ref m_a), (1, .ref arA1), (2, .int p2), (3, .int p3)]) hx hb dX7_allBy_4 hl (by decide) rfl (fun ls hl => ?_)
  exact wX7_allBy_b6 C0 m_a mA_lane mA_many mA_item mA_poem mA_fresh mA_then mA_was mA_tape mA_strengths mA_sounds mA_stand mA_scheme mA_isKept mA_kept mA_trace arA1 m_thrown m_status m_acts m_taped m_cursor m_start m_token m_value m_fault m_faultAt m_latest m_nearFoot m_nearFeet m_nearCost m_traced ar1 p2 p3 r o_m_stands o_m_least o_m_ways o_m_strengths o_m_sounds o_m_stand kr  FU m_stands m_least m_ways m_strengths m_sounds m_stand (0 : Int32) (0 : Int32) hM _ _ _ hP hD hS (lv_sub hl [2, 3, 4, 5, 1, 0] rfl)
set_option maxHeartbeats 4000000 in
set_option maxRecDepth 100000 in
theorem kX7_allBy (l : Launch) (G : va_G) (K : Nat → ClassId) (m_a mA_lane mA_many mA_item mA_poem mA_fresh mA_then mA_was mA_tape mA_strengths mA_sounds mA_stand mA_scheme mA_isKept mA_kept mA_trace arA1 : Nat) (m_thrown : Int32) (m_status : Int32) (m_acts : Int32) (m_taped : Int32) (m_cursor : Int32) (m_start : Int32) (m_token : Int32) (m_value : Int32) (m_fault : Int32) (m_faultAt : Int32) (m_latest : Int32) (m_stands : Int32) (m_least : Int32) (m_ways : Int32) (m_nearFoot : Int32) (m_nearFeet : Int32) (m_nearCost : Int32) (m_traced : Int32) (m_strengths : Nat → Int32) (m_sounds : Nat → Int32) (m_stand : Nat → Int32) (ar1 : Nat → Int32) (p2 : Int32) (p3 : Int32) (sz : Nat) (r : Int32) (o_m_stands : Int32) (o_m_least : Int32) (o_m_ways : Int32) (o_m_strengths : Nat → Int32) (o_m_sounds : Nat → Int32) (o_m_stand : Nat → Int32) (hM : mX7_allBy ar1 m_stands m_least m_ways m_strengths m_sounds m_stand p2 p3 = some (r, o_m_stands, o_m_least, o_m_ways, o_m_strengths, o_m_sounds, o_m_stand)) : Met l yX7_allBy (mC yX7_allBy cX7_allBy 7 (some .int)) rmX7_allBy (va_Pc [.ref m_a, .ref arA1, .int p2, .int p3] (PCe G K E0 (WX7_allBy K m_a mA_lane mA_many mA_item mA_poem mA_fresh mA_then mA_was mA_tape mA_strengths mA_sounds mA_stand mA_scheme mA_isKept mA_kept mA_trace arA1 m_thrown m_status m_acts m_taped m_cursor m_start m_token m_value m_fault m_faultAt m_latest m_stands m_least m_ways m_nearFoot m_nearFeet m_nearCost m_traced m_strengths m_sounds m_stand ar1) sz)) (va_Qi (fun (x : Int32) (_ : Unit) => x = r) (fun _ t => va_P G vwCl (WX7_allBy K m_a mA_lane mA_many mA_item mA_poem mA_fresh mA_then mA_was mA_tape mA_strengths mA_sounds mA_stand mA_scheme mA_isKept mA_kept mA_trace arA1 m_thrown m_status m_acts m_taped m_cursor m_start m_token m_value m_fault m_faultAt m_latest o_m_stands o_m_least o_m_ways m_nearFoot m_nearFeet m_nearCost m_traced o_m_strengths o_m_sounds o_m_stand ar1) t.heap) (va_A (WX7_allBy K m_a mA_lane mA_many mA_item mA_poem mA_fresh mA_then mA_was mA_tape mA_strengths mA_sounds mA_stand mA_scheme mA_isKept mA_kept mA_trace arA1 m_thrown m_status m_acts m_taped m_cursor m_start m_token m_value m_fault m_faultAt m_latest m_stands m_least m_ways m_nearFoot m_nearFeet m_nearCost m_traced m_strengths m_sounds m_stand ar1) sz)) rmX7_allBy.cells rmX7_allBy.slots (va_A (WX7_allBy K m_a mA_lane mA_many mA_item mA_poem mA_fresh mA_then mA_was mA_tape mA_strengths mA_sounds mA_stand mA_scheme mA_isKept mA_kept mA_trace arA1 m_thrown m_status m_acts m_taped m_cursor m_start m_token m_value m_fault m_faultAt m_latest m_stands m_least m_ways m_nearFoot m_nearFeet m_nearCost m_traced m_strengths m_sounds m_stand ar1) sz) := by
  refine Met.ofW (cc := cX7_allBy) (maxL := 7) (ret := (some .int)) (by decide) rfl ?_
  intro p e s m args below meth c s₁ B hml hv
  obtain ⟨rfl, hsz, hP, hK, hD0, hE⟩ := hv
  have hx := B.exec
  have hb := B.bytes
  have hr := B.returns
  have hts0 := atoms_spec (ws := mC yX7_allBy cX7_allBy 7 (some .int)) B.pre
  have hts : ∀ w ∈ tbG, w.before _ s = true := fun w h => hts0 w (List.mem_cons_of_mem _ h)
  have hown : s.vm.findClass RX7 = some m.cls := findClass_of_methodNamed B.named
  subst hsz
  have hD := hD0.self (sz := s.heap.size)
  generalize hAe : va_A (WX7_allBy K m_a mA_lane mA_many mA_item mA_poem mA_fresh mA_then mA_was mA_tape mA_strengths mA_sounds mA_stand mA_scheme mA_isKept mA_kept mA_trace arA1 m_thrown m_status m_acts m_taped m_cursor m_start m_token m_value m_fault m_faultAt m_latest m_stands m_least m_ways m_nearFoot m_nearFeet m_nearCost m_traced m_strengths m_sounds m_stand ar1) s.heap.size = A at hD hE ⊢
  have hA : ∀ q : Nat, s.heap.size ≤ q → A q := fun q h => by rw [← hAe]; exact Or.inr h
  have hS : va_S A s.heap s.heap [] := va_S.rf
  have hl := lv_entry ([.ref m_a, .ref arA1, .int p2, .int p3]) (n := 7) (Nat.le_of_ble_eq_true rfl)
  rw [lg_entry_eq]
  generalize (lg_sl ([.ref m_a, .ref arA1, .int p2, .int p3]) ++ List.replicate (7 - (lg_sl ([.ref m_a, .ref arA1, .int p2, .int p3])).length) Slot.unset).toArray = ls at hl ⊢
  have hl : lv_has ls 7 [(0, .ref m_a), (1, .ref arA1), (2, .int p2), (3, .int p3)] := hl
  exact wX7_allBy_b0 ⟨hx, hb, hml, hown, hts, hK, hA, E0_ok, hE⟩ m_a mA_lane mA_many mA_item mA_poem mA_fresh mA_then mA_was mA_tape mA_strengths mA_sounds mA_stand mA_scheme mA_isKept mA_kept mA_trace arA1 m_thrown m_status m_acts m_taped m_cursor m_start m_token m_value m_fault m_faultAt m_latest m_nearFoot m_nearFeet m_nearCost m_traced ar1 p2 p3 r o_m_stands o_m_least o_m_ways o_m_strengths o_m_sounds o_m_stand (fun H locs ls pc hdg hP hD hS => W.iret (v := r) hx hb hr (fun t ht hW => ⟨⟨r, (), rfl, rfl, (show va_P G vwCl _ t.heap by rw [ht]; exact hP)⟩, hS.F ht⟩) hS.2.2 hdg) m_stands m_least m_ways m_strengths m_sounds m_stand  hM _ _ _ hP hD hS hl
abbrev WX7_tailFrom (K : Nat → ClassId) (arA1 : Nat) (ar1 : Nat → Int32) : va_W := [aI K arA1 207 ar1]
def rmX7_tailFrom : Room := { frames := 6, cells := 0, slots := 0, locals := 132 }
theorem hdX7_tailFrom : yX7_tailFrom.cls ≠ "java/lang/invoke/MethodHandle" ∧ yX7_tailFrom.cls ≠ "java/lang/invoke/VarHandle" ∧ (parseMethodDescriptor yX7_tailFrom.desc).map (fun d => d.parameters.length) = some 2 := by decide +kernel
set_option maxHeartbeats 4000000 in
set_option maxRecDepth 100000 in
theorem wX7_tailFrom_b59 {p : Program} {l : Launch} {e : Env} {s : State} {m : MethodId} {args : Array Value} {below : List Frame} {meth : Method} {c : Code} {Q : State → Prop} {G : va_G} {K : Nat → ClassId} {A : Nat → Prop} (C0 : CX p s m args c cX7_tailFrom 5 RX7 G K E0 A) (arA1 : Nat) (ar1 : Nat → Int32) (p2 : Int32) (r : Int32)  (kr : ∀ (H : Heap) (locs : List Loc) (ls : Array Slot) (pc : Nat), decode cX7_tailFrom pc = .ok (.ireturn, 1) → va_P G vwCl (WX7_tailFrom K arA1 ar1) H → va_D A (WX7_tailFrom K arA1 ar1) → va_S A s.heap H locs → W p l e rmX7_tailFrom s m args below meth c H locs 0 0 Q (F0 m pc ls [.int r])) (n : Nat) : ∀ (x2 : Int32) (x3 : Int32) (x4 : Int32), mX7_tailFrom_b59 ar1 p2  n x2 x3 x4 = some r → ∀ (H : Heap) (locs : List Loc) (ls : Array Slot), va_P G vwCl (WX7_tailFrom K arA1 ar1) H → va_D A (WX7_tailFrom K arA1 ar1) → va_S A s.heap H locs → lv_has ls 5 [(0, .ref arA1), (1, .int p2), (2, .int x2), (3, .int x3), (4, .int x4)] → W p l e rmX7_tailFrom s m args below meth c H locs 0 0 Q (F0 m 59 ls []) := by
  obtain ⟨hx, hb, hml, hown, hts, hK, hA, hEo, hE⟩ := id C0
  induction n with
  | zero =>
    intro x2 x3 x4 hM
    cases hM
  | succ n ih =>
    intro x2 x3 x4 hM H locs ls hP hD hS hl
    rw [mX7_tailFrom_b59] at hM
    refine lv_iload hx hb dX7_tailFrom_59 (lv_at hl 4 rfl) ?_
    refine lv_aload_n hx hb dX7_tailFrom_61 rfl (lv_at hl 0 rfl) ?_
    refine lv_iload_n hx hb dX7_tailFrom_62 rfl (lv_at hl 1 rfl) ?_
    obtain ⟨r_1, hC, hM⟩ := oe1 hM
    refine cS_i (As := [.ref arA1, .int p2]) (rest := [.int x4]) C0 hP hD hS [0] (kX7_sizeOfWord l G K arA1 ar1 p2 H.size r_1 hC) rfl rfl rfl tb1030 tb1031 tb9 tb1032 hdX7_sizeOfWord ⟨Nat.le_of_ble_eq_true rfl, Nat.le_of_ble_eq_true rfl⟩ rfl hl.1 (Nat.le_of_ble_eq_true rfl) rfl ⟨Nat.le_refl _, Nat.le_refl _⟩ dX7_tailFrom_63 (fun H locs hP hD hS => ?_)
    have hP : va_P G vwCl (WX7_tailFrom K arA1 ar1) H := hP
    have hD : va_D A (WX7_tailFrom K arA1 ar1) := hD
    refine lv_icmp_ge (tgt := 96) hx hb dX7_tailFrom_66 (by decide) (fun c_2 => ?_) (fun c_2 => ?_)
    · rw [if_pos c_2] at hM
      refine lv_ldc (v := -1000000) hx hb hown (hts _ tb917) dX7_tailFrom_96 ?_
      have q1 := Option.some.inj hM
      subst q1
      exact kr _ _ _ _ dX7_tailFrom_98 hP hD hS
    · rw [if_neg c_2] at hM
      refine lv_aload_n hx hb dX7_tailFrom_69 rfl (lv_at hl 0 rfl) ?_
      refine lv_iload_n hx hb dX7_tailFrom_70 rfl (lv_at hl 1 rfl) ?_
      refine lv_iload hx hb dX7_tailFrom_71 (lv_at hl 4 rfl) ?_
      obtain ⟨r_3, hC, hM⟩ := oe1 hM
      refine cS_i (As := [.ref arA1, .int p2, .int x4]) (rest := []) C0 hP hD hS [0] (kX7_isRun l G K arA1 ar1 p2 x4 H.size r_3 hC) rfl rfl rfl tb1042 tb1043 tb9 tb1044 hdX7_isRun ⟨Nat.le_of_ble_eq_true rfl, Nat.le_of_ble_eq_true rfl⟩ rfl hl.1 (Nat.le_of_ble_eq_true rfl) rfl ⟨Nat.le_refl _, Nat.le_refl _⟩ dX7_tailFrom_73 (fun H locs hP hD hS => ?_)
      have hP : va_P G vwCl (WX7_tailFrom K arA1 ar1) H := hP
      have hD : va_D A (WX7_tailFrom K arA1 ar1) := hD
      refine lv_if_eq (tgt := 90) hx hb dX7_tailFrom_76 (by decide) (fun c_4 => ?_) (fun c_4 => ?_)
      · rw [if_pos c_4] at hM
        refine lv_iinc (v := (x4 + 1)) (lv' := [(4, .int (x4 + 1)), (0, .ref arA1), (1, .int p2), (2, .int x2), (3, .int x3)]) hx hb dX7_tailFrom_90 hl (k := 4) rfl rfl (by decide) rfl (fun ls hl => ?_)
        refine lv_goto (tgt := 59) hx hb dX7_tailFrom_93 (by decide) ?_
        exact ih x2 x3 (x4 + 1) hM _ _ _ hP hD hS (lv_sub hl [1, 2, 3, 4, 0] rfl)
      · rw [if_neg c_4] at hM
        refine lv_iload_n hx hb dX7_tailFrom_79 rfl (lv_at hl 3 rfl) ?_
        refine lv_iload_n hx hb dX7_tailFrom_80 rfl (lv_at hl 2 rfl) ?_
        refine lv_icmp_ne (tgt := 87) hx hb dX7_tailFrom_81 (by decide) (fun c_5 => ?_) (fun c_5 => ?_)
        · rw [if_neg c_5] at hM
          refine lv_iinc (v := (x3 + 1)) (lv' := [(3, .int (x3 + 1)), (0, .ref arA1), (1, .int p2), (2, .int x2), (4, .int x4)]) hx hb dX7_tailFrom_87 hl (k := 3) rfl rfl (by decide) rfl (fun ls hl => ?_)
          refine lv_iinc (v := (x4 + 1)) (lv' := [(4, .int (x4 + 1)), (3, .int (x3 + 1)), (0, .ref arA1), (1, .int p2), (2, .int x2)]) hx hb dX7_tailFrom_90 hl (k := 4) rfl rfl (by decide) rfl (fun ls hl => ?_)
          refine lv_goto (tgt := 59) hx hb dX7_tailFrom_93 (by decide) ?_
          exact ih x2 (x3 + 1) (x4 + 1) hM _ _ _ hP hD hS (lv_sub hl [2, 3, 4, 1, 0] rfl)
        · rw [if_pos c_5] at hM
          refine lv_iload hx hb dX7_tailFrom_84 (lv_at hl 4 rfl) ?_
          have q1 := Option.some.inj hM
          subst q1
          exact kr _ _ _ _ dX7_tailFrom_86 hP hD hS
set_option maxHeartbeats 4000000 in
set_option maxRecDepth 100000 in
theorem wX7_tailFrom_b5 {p : Program} {l : Launch} {e : Env} {s : State} {m : MethodId} {args : Array Value} {below : List Frame} {meth : Method} {c : Code} {Q : State → Prop} {G : va_G} {K : Nat → ClassId} {A : Nat → Prop} (C0 : CX p s m args c cX7_tailFrom 5 RX7 G K E0 A) (arA1 : Nat) (ar1 : Nat → Int32) (p2 : Int32) (r : Int32)  (kr : ∀ (H : Heap) (locs : List Loc) (ls : Array Slot) (pc : Nat), decode cX7_tailFrom pc = .ok (.ireturn, 1) → va_P G vwCl (WX7_tailFrom K arA1 ar1) H → va_D A (WX7_tailFrom K arA1 ar1) → va_S A s.heap H locs → W p l e rmX7_tailFrom s m args below meth c H locs 0 0 Q (F0 m pc ls [.int r])) (n : Nat) : ∀ (x2 : Int32) (x3 : Int32), mX7_tailFrom_b5 ar1 p2  n x2 x3 = some r → ∀ (H : Heap) (locs : List Loc) (ls : Array Slot), va_P G vwCl (WX7_tailFrom K arA1 ar1) H → va_D A (WX7_tailFrom K arA1 ar1) → va_S A s.heap H locs → lv_has ls 5 [(0, .ref arA1), (1, .int p2), (2, .int x2), (3, .int x3)] → W p l e rmX7_tailFrom s m args below meth c H locs 0 0 Q (F0 m 5 ls []) := by
  obtain ⟨hx, hb, hml, hown, hts, hK, hA, hEo, hE⟩ := id C0
  induction n with
  | zero =>
    intro x2 x3 hM
    cases hM
  | succ n ih =>
    intro x2 x3 hM H locs ls hP hD hS hl
    rw [mX7_tailFrom_b5] at hM
    refine lv_iload_n hx hb dX7_tailFrom_5 rfl (lv_at hl 3 rfl) ?_
    refine lv_aload_n hx hb dX7_tailFrom_6 rfl (lv_at hl 0 rfl) ?_
    refine lv_iload_n hx hb dX7_tailFrom_7 rfl (lv_at hl 1 rfl) ?_
    obtain ⟨r_6, hC, hM⟩ := oe1 hM
    refine cS_i (As := [.ref arA1, .int p2]) (rest := [.int x3]) C0 hP hD hS [0] (kX7_syllables l G K arA1 ar1 p2 H.size r_6 hC) rfl rfl rfl tb1036 tb1037 tb9 tb1038 hdX7_syllables ⟨Nat.le_of_ble_eq_true rfl, Nat.le_of_ble_eq_true rfl⟩ rfl hl.1 (Nat.le_of_ble_eq_true rfl) rfl ⟨Nat.le_refl _, Nat.le_refl _⟩ dX7_tailFrom_8 (fun H locs hP hD hS => ?_)
    have hP : va_P G vwCl (WX7_tailFrom K arA1 ar1) H := hP
    have hD : va_D A (WX7_tailFrom K arA1 ar1) := hD
    refine lv_icmp_ge (tgt := 36) hx hb dX7_tailFrom_11 (by decide) (fun c_7 => ?_) (fun c_7 => ?_)
    · rw [if_pos c_7] at hM
      refine lv_iload_n hx hb dX7_tailFrom_36 rfl (lv_at hl 2 rfl) ?_
      refine lv_ldc (v := -1000000) hx hb hown (hts _ tb917) dX7_tailFrom_37 ?_
      refine lv_icmp_ne (tgt := 52) hx hb dX7_tailFrom_39 (by decide) (fun c_8 => ?_) (fun c_8 => ?_)
      · rw [if_neg c_8] at hM
        refine lv_iload_n hx hb dX7_tailFrom_52 rfl (lv_at hl 2 rfl) ?_
        refine lv_istore_n (lv' := [(2, .int x2), (0, .ref arA1), (1, .int p2), (3, .int x3)]) hx hb dX7_tailFrom_53 rfl hl (by decide) rfl (fun ls hl => ?_)
        refine lv_iconst (v := 0) hx hb dX7_tailFrom_54 (by decide) ?_
        refine lv_istore_n (lv' := [(3, .int (0 : Int32)), (2, .int x2), (0, .ref arA1), (1, .int p2)]) hx hb dX7_tailFrom_55 rfl hl (by decide) rfl (fun ls hl => ?_)
        refine lv_iconst (v := 0) hx hb dX7_tailFrom_56 (by decide) ?_
        refine lv_istore (lv' := [(4, .int (0 : Int32)), (3, .int (0 : Int32)), (2, .int x2), (0, .ref arA1), (1, .int p2)]) hx hb dX7_tailFrom_57 hl (by decide) rfl (fun ls hl => ?_)
        exact wX7_tailFrom_b59 C0 arA1 ar1 p2 r kr  FU x2 (0 : Int32) (0 : Int32) hM _ _ _ hP hD hS (lv_sub hl [3, 4, 2, 1, 0] rfl)
      · rw [if_pos c_8] at hM
        refine lv_aload_n hx hb dX7_tailFrom_42 rfl (lv_at hl 0 rfl) ?_
        refine lv_iload_n hx hb dX7_tailFrom_43 rfl (lv_at hl 1 rfl) ?_
        obtain ⟨r_9, hC, hM⟩ := oe1 hM
        refine cS_i (As := [.ref arA1, .int p2]) (rest := []) C0 hP hD hS [0] (kX7_syllables l G K arA1 ar1 p2 H.size r_9 hC) rfl rfl rfl tb1036 tb1037 tb9 tb1038 hdX7_syllables ⟨Nat.le_of_ble_eq_true rfl, Nat.le_of_ble_eq_true rfl⟩ rfl hl.1 (Nat.le_of_ble_eq_true rfl) rfl ⟨Nat.le_refl _, Nat.le_refl _⟩ dX7_tailFrom_44 (fun H locs hP hD hS => ?_)
        have hP : va_P G vwCl (WX7_tailFrom K arA1 ar1) H := hP
        have hD : va_D A (WX7_tailFrom K arA1 ar1) := hD
        refine lv_iconst (v := 1) hx hb dX7_tailFrom_47 (by decide) ?_
        refine lv_isub hx hb dX7_tailFrom_48 ?_
        refine lv_goto (tgt := 53) hx hb dX7_tailFrom_49 (by decide) ?_
        refine lv_istore_n (lv' := [(2, .int (r_9 - (1 : Int32))), (0, .ref arA1), (1, .int p2), (3, .int x3)]) hx hb dX7_tailFrom_53 rfl hl (by decide) rfl (fun ls hl => ?_)
        refine lv_iconst (v := 0) hx hb dX7_tailFrom_54 (by decide) ?_
        refine lv_istore_n (lv' := [(3, .int (0 : Int32)), (2, .int (r_9 - (1 : Int32))), (0, .ref arA1), (1, .int p2)]) hx hb dX7_tailFrom_55 rfl hl (by decide) rfl (fun ls hl => ?_)
        refine lv_iconst (v := 0) hx hb dX7_tailFrom_56 (by decide) ?_
        refine lv_istore (lv' := [(4, .int (0 : Int32)), (3, .int (0 : Int32)), (2, .int (r_9 - (1 : Int32))), (0, .ref arA1), (1, .int p2)]) hx hb dX7_tailFrom_57 hl (by decide) rfl (fun ls hl => ?_)
        exact wX7_tailFrom_b59 C0 arA1 ar1 p2 r kr  FU (r_9 - (1 : Int32)) (0 : Int32) (0 : Int32) hM _ _ _ hP hD hS (lv_sub hl [3, 4, 2, 1, 0] rfl)
    · rw [if_neg c_7] at hM
      refine lv_aload_n hx hb dX7_tailFrom_14 rfl (lv_at hl 0 rfl) ?_
      refine lv_iload_n hx hb dX7_tailFrom_15 rfl (lv_at hl 1 rfl) ?_
      refine lv_iload_n hx hb dX7_tailFrom_16 rfl (lv_at hl 3 rfl) ?_
      obtain ⟨r_10, hC, hM⟩ := oe1 hM
      refine cS_i (As := [.ref arA1, .int p2, .int x3]) (rest := []) C0 hP hD hS [0] (kX7_strength l G K arA1 ar1 p2 x3 H.size r_10 hC) rfl rfl rfl tb1052 tb1053 tb9 tb1054 hdX7_strength ⟨Nat.le_of_ble_eq_true rfl, Nat.le_of_ble_eq_true rfl⟩ rfl hl.1 (Nat.le_of_ble_eq_true rfl) rfl ⟨Nat.le_refl _, Nat.le_refl _⟩ dX7_tailFrom_17 (fun H locs hP hD hS => ?_)
      have hP : va_P G vwCl (WX7_tailFrom K arA1 ar1) H := hP
      have hD : va_D A (WX7_tailFrom K arA1 ar1) := hD
      refine lv_iconst (v := 1) hx hb dX7_tailFrom_20 (by decide) ?_
      refine lv_icmp_ne (tgt := 28) hx hb dX7_tailFrom_21 (by decide) (fun c_11 => ?_) (fun c_11 => ?_)
      · rw [if_neg c_11] at hM
        refine lv_iload_n hx hb dX7_tailFrom_28 rfl (lv_at hl 2 rfl) ?_
        refine lv_istore_n (lv' := [(2, .int x2), (0, .ref arA1), (1, .int p2), (3, .int x3)]) hx hb dX7_tailFrom_29 rfl hl (by decide) rfl (fun ls hl => ?_)
        refine lv_iinc (v := (x3 + 1)) (lv' := [(3, .int (x3 + 1)), (2, .int x2), (0, .ref arA1), (1, .int p2)]) hx hb dX7_tailFrom_30 hl (k := 3) rfl rfl (by decide) rfl (fun ls hl => ?_)
        refine lv_goto (tgt := 5) hx hb dX7_tailFrom_33 (by decide) ?_
        exact ih x2 (x3 + 1) hM _ _ _ hP hD hS (lv_sub hl [2, 3, 1, 0] rfl)
      · rw [if_pos c_11] at hM
        refine lv_iload_n hx hb dX7_tailFrom_24 rfl (lv_at hl 3 rfl) ?_
        refine lv_goto (tgt := 29) hx hb dX7_tailFrom_25 (by decide) ?_
        refine lv_istore_n (lv' := [(2, .int x3), (0, .ref arA1), (1, .int p2), (3, .int x3)]) hx hb dX7_tailFrom_29 rfl hl (by decide) rfl (fun ls hl => ?_)
        refine lv_iinc (v := (x3 + 1)) (lv' := [(3, .int (x3 + 1)), (2, .int x3), (0, .ref arA1), (1, .int p2)]) hx hb dX7_tailFrom_30 hl (k := 3) rfl rfl (by decide) rfl (fun ls hl => ?_)
        refine lv_goto (tgt := 5) hx hb dX7_tailFrom_33 (by decide) ?_
        exact ih x3 (x3 + 1) hM _ _ _ hP hD hS (lv_sub hl [2, 3, 1, 0] rfl)
set_option maxHeartbeats 4000000 in
set_option maxRecDepth 100000 in
theorem wX7_tailFrom_b0 {p : Program} {l : Launch} {e : Env} {s : State} {m : MethodId} {args : Array Value} {below : List Frame} {meth : Method} {c : Code} {Q : State → Prop} {G : va_G} {K : Nat → ClassId} {A : Nat → Prop} (C0 : CX p s m args c cX7_tailFrom 5 RX7 G K E0 A) (arA1 : Nat) (ar1 : Nat → Int32) (p2 : Int32) (r : Int32)  (kr : ∀ (H : Heap) (locs : List Loc) (ls : Array Slot) (pc : Nat), decode cX7_tailFrom pc = .ok (.ireturn, 1) → va_P G vwCl (WX7_tailFrom K arA1 ar1) H → va_D A (WX7_tailFrom K arA1 ar1) → va_S A s.heap H locs → W p l e rmX7_tailFrom s m args below meth c H locs 0 0 Q (F0 m pc ls [.int r]))  (hM : mX7_tailFrom_b0 ar1 p2   = some r) : ∀ (H : Heap) (locs : List Loc) (ls : Array Slot), va_P G vwCl (WX7_tailFrom K arA1 ar1) H → va_D A (WX7_tailFrom K arA1 ar1) → va_S A s.heap H locs → lv_has ls 5 [(0, .ref arA1), (1, .int p2)] → W p l e rmX7_tailFrom s m args below meth c H locs 0 0 Q (F0 m 0 ls []) := by
  obtain ⟨hx, hb, hml, hown, hts, hK, hA, hEo, hE⟩ := id C0
  intro H locs ls hP hD hS hl
  unfold mX7_tailFrom_b0 at hM
  refine lv_ldc (v := -1000000) hx hb hown (hts _ tb917) dX7_tailFrom_0 ?_
  refine lv_istore_n (lv' := [(2, .int (-1000000 : Int32)), (0, .ref arA1), (1, .int p2)]) hx hb dX7_tailFrom_2 rfl hl (by decide) rfl (fun ls hl => ?_)
  refine lv_iconst (v := 0) hx hb dX7_tailFrom_3 (by decide) ?_
  refine lv_istore_n (lv' := [(3, .int (0 : Int32)), (2, .int (-1000000 : Int32)), (0, .ref arA1), (1, .int p2)]) hx hb dX7_tailFrom_4 rfl hl (by decide) rfl (fun ls hl => ?_)
  exact wX7_tailFrom_b5 C0 arA1 ar1 p2 r kr  FU (-1000000 : Int32) (0 : Int32) hM _ _ _ hP hD hS (lv_sub hl [2, 3, 1, 0] rfl)
set_option maxHeartbeats 4000000 in
set_option maxRecDepth 100000 in
theorem kX7_tailFrom (l : Launch) (G : va_G) (K : Nat → ClassId) (arA1 : Nat) (ar1 : Nat → Int32) (p2 : Int32) (sz : Nat) (r : Int32)  (hM : mX7_tailFrom ar1 p2 = some r) : Met l yX7_tailFrom (mC yX7_tailFrom cX7_tailFrom 5 (some .int)) rmX7_tailFrom (va_Pc [.ref arA1, .int p2] (PCe G K E0 (WX7_tailFrom K arA1 ar1) sz)) (va_Qi (fun (x : Int32) (_ : Unit) => x = r) (fun _ t => va_P G vwCl (WX7_tailFrom K arA1 ar1) t.heap) (va_A (WX7_tailFrom K arA1 ar1) sz)) rmX7_tailFrom.cells rmX7_tailFrom.slots (va_A (WX7_tailFrom K arA1 ar1) sz) := by
  refine Met.ofW (cc := cX7_tailFrom) (maxL := 5) (ret := (some .int)) (by decide) rfl ?_
  intro p e s m args below meth c s₁ B hml hv
  obtain ⟨rfl, hsz, hP, hK, hD0, hE⟩ := hv
  have hx := B.exec
  have hb := B.bytes
  have hr := B.returns
  have hts0 := atoms_spec (ws := mC yX7_tailFrom cX7_tailFrom 5 (some .int)) B.pre
  have hts : ∀ w ∈ tbG, w.before _ s = true := fun w h => hts0 w (List.mem_cons_of_mem _ h)
  have hown : s.vm.findClass RX7 = some m.cls := findClass_of_methodNamed B.named
  subst hsz
  have hD := hD0.self (sz := s.heap.size)
  generalize hAe : va_A (WX7_tailFrom K arA1 ar1) s.heap.size = A at hD hE ⊢
  have hA : ∀ q : Nat, s.heap.size ≤ q → A q := fun q h => by rw [← hAe]; exact Or.inr h
  have hS : va_S A s.heap s.heap [] := va_S.rf
  have hl := lv_entry ([.ref arA1, .int p2]) (n := 5) (Nat.le_of_ble_eq_true rfl)
  rw [lg_entry_eq]
  generalize (lg_sl ([.ref arA1, .int p2]) ++ List.replicate (5 - (lg_sl ([.ref arA1, .int p2])).length) Slot.unset).toArray = ls at hl ⊢
  have hl : lv_has ls 5 [(0, .ref arA1), (1, .int p2)] := hl
  exact wX7_tailFrom_b0 ⟨hx, hb, hml, hown, hts, hK, hA, E0_ok, hE⟩ arA1 ar1 p2 r (fun H locs ls pc hdg hP hD hS => W.iret (v := r) hx hb hr (fun t ht hW => ⟨⟨r, (), rfl, rfl, (show va_P G vwCl _ t.heap by rw [ht]; exact hP)⟩, hS.F ht⟩) hS.2.2 hdg)   hM _ _ _ hP hD hS hl
abbrev WX7_tailSize (K : Nat → ClassId) (arA1 : Nat) (ar1 : Nat → Int32) : va_W := [aI K arA1 207 ar1]
def rmX7_tailSize : Room := { frames := 7, cells := 0, slots := 0, locals := 156 }
theorem hdX7_tailSize : yX7_tailSize.cls ≠ "java/lang/invoke/MethodHandle" ∧ yX7_tailSize.cls ≠ "java/lang/invoke/VarHandle" ∧ (parseMethodDescriptor yX7_tailSize.desc).map (fun d => d.parameters.length) = some 2 := by decide +kernel
set_option maxHeartbeats 4000000 in
set_option maxRecDepth 100000 in
theorem wX7_tailSize_b18 {p : Program} {l : Launch} {e : Env} {s : State} {m : MethodId} {args : Array Value} {below : List Frame} {meth : Method} {c : Code} {Q : State → Prop} {G : va_G} {K : Nat → ClassId} {A : Nat → Prop} (C0 : CX p s m args c cX7_tailSize 2 RX7 G K E0 A) (arA1 : Nat) (ar1 : Nat → Int32) (p2 : Int32) (r : Int32)  (kr : ∀ (H : Heap) (locs : List Loc) (ls : Array Slot) (pc : Nat), decode cX7_tailSize pc = .ok (.ireturn, 1) → va_P G vwCl (WX7_tailSize K arA1 ar1) H → va_D A (WX7_tailSize K arA1 ar1) → va_S A s.heap H locs → W p l e rmX7_tailSize s m args below meth c H locs 0 0 Q (F0 m pc ls [.int r])) (s0 : Int32) (s1 : Int32) (hM : mX7_tailSize_b18 ar1 p2  s0 s1 = some r) : ∀ (H : Heap) (locs : List Loc) (ls : Array Slot), va_P G vwCl (WX7_tailSize K arA1 ar1) H → va_D A (WX7_tailSize K arA1 ar1) → va_S A s.heap H locs → lv_has ls 2 [(0, .ref arA1), (1, .int p2)] → W p l e rmX7_tailSize s m args below meth c H locs 0 0 Q (F0 m 18 ls [.int s1, .int s0]) := by
  obtain ⟨hx, hb, hml, hown, hts, hK, hA, hEo, hE⟩ := id C0
  intro H locs ls hP hD hS hl
  unfold mX7_tailSize_b18 at hM
  refine lv_isub hx hb dX7_tailSize_18 ?_
  refine lv_aload_n hx hb dX7_tailSize_19 rfl (lv_at hl 0 rfl) ?_
  refine lv_iload_n hx hb dX7_tailSize_20 rfl (lv_at hl 1 rfl) ?_
  obtain ⟨r_1, hC, hM⟩ := oe1 hM
  refine cS_i (As := [.ref arA1, .int p2]) (rest := [.int (s0 - s1)]) C0 hP hD hS [0] (kX7_tailFrom l G K arA1 ar1 p2 H.size r_1 hC) rfl rfl rfl tb1065 tb1066 tb9 tb1067 hdX7_tailFrom ⟨Nat.le_of_ble_eq_true rfl, Nat.le_of_ble_eq_true rfl⟩ rfl hl.1 (Nat.le_of_ble_eq_true rfl) rfl ⟨Nat.le_refl _, Nat.le_refl _⟩ dX7_tailSize_21 (fun H locs hP hD hS => ?_)
  have hP : va_P G vwCl (WX7_tailSize K arA1 ar1) H := hP
  have hD : va_D A (WX7_tailSize K arA1 ar1) := hD
  refine lv_isub hx hb dX7_tailSize_24 ?_
  have q1 := Option.some.inj hM
  subst q1
  exact kr _ _ _ _ dX7_tailSize_25 hP hD hS
set_option maxHeartbeats 4000000 in
set_option maxRecDepth 100000 in
theorem wX7_tailSize_b0 {p : Program} {l : Launch} {e : Env} {s : State} {m : MethodId} {args : Array Value} {below : List Frame} {meth : Method} {c : Code} {Q : State → Prop} {G : va_G} {K : Nat → ClassId} {A : Nat → Prop} (C0 : CX p s m args c cX7_tailSize 2 RX7 G K E0 A) (arA1 : Nat) (ar1 : Nat → Int32) (p2 : Int32) (r : Int32)  (kr : ∀ (H : Heap) (locs : List Loc) (ls : Array Slot) (pc : Nat), decode cX7_tailSize pc = .ok (.ireturn, 1) → va_P G vwCl (WX7_tailSize K arA1 ar1) H → va_D A (WX7_tailSize K arA1 ar1) → va_S A s.heap H locs → W p l e rmX7_tailSize s m args below meth c H locs 0 0 Q (F0 m pc ls [.int r]))  (hM : mX7_tailSize_b0 ar1 p2   = some r) : ∀ (H : Heap) (locs : List Loc) (ls : Array Slot), va_P G vwCl (WX7_tailSize K arA1 ar1) H → va_D A (WX7_tailSize K arA1 ar1) → va_S A s.heap H locs → lv_has ls 2 [(0, .ref arA1), (1, .int p2)] → W p l e rmX7_tailSize s m args below meth c H locs 0 0 Q (F0 m 0 ls []) := by
  obtain ⟨hx, hb, hml, hown, hts, hK, hA, hEo, hE⟩ := id C0
  intro H locs ls hP hD hS hl
  unfold mX7_tailSize_b0 at hM
  refine lv_aload_n hx hb dX7_tailSize_0 rfl (lv_at hl 0 rfl) ?_
  refine lv_iload_n hx hb dX7_tailSize_1 rfl (lv_at hl 1 rfl) ?_
  obtain ⟨r_2, hC, hM⟩ := oe1 hM
  refine cS_i (As := [.ref arA1, .int p2]) (rest := []) C0 hP hD hS [0] (kX7_sizeOfWord l G K arA1 ar1 p2 H.size r_2 hC) rfl rfl rfl tb1030 tb1031 tb9 tb1032 hdX7_sizeOfWord ⟨Nat.le_of_ble_eq_true rfl, Nat.le_of_ble_eq_true rfl⟩ rfl hl.1 (Nat.le_of_ble_eq_true rfl) rfl ⟨Nat.le_refl _, Nat.le_refl _⟩ dX7_tailSize_2 (fun H locs hP hD hS => ?_)
  have hP : va_P G vwCl (WX7_tailSize K arA1 ar1) H := hP
  have hD : va_D A (WX7_tailSize K arA1 ar1) := hD
  refine lv_aload_n hx hb dX7_tailSize_5 rfl (lv_at hl 0 rfl) ?_
  refine lv_iload_n hx hb dX7_tailSize_6 rfl (lv_at hl 1 rfl) ?_
  obtain ⟨r_3, hC, hM⟩ := oe1 hM
  refine cS_i (As := [.ref arA1, .int p2]) (rest := [.int r_2]) C0 hP hD hS [0] (kX7_isMuteEnd l G K arA1 ar1 p2 H.size r_3 hC) rfl rfl rfl tb1045 tb1046 tb9 tb1047 hdX7_isMuteEnd ⟨Nat.le_of_ble_eq_true rfl, Nat.le_of_ble_eq_true rfl⟩ rfl hl.1 (Nat.le_of_ble_eq_true rfl) rfl ⟨Nat.le_refl _, Nat.le_refl _⟩ dX7_tailSize_7 (fun H locs hP hD hS => ?_)
  have hP : va_P G vwCl (WX7_tailSize K arA1 ar1) H := hP
  have hD : va_D A (WX7_tailSize K arA1 ar1) := hD
  refine lv_if_eq (tgt := 17) hx hb dX7_tailSize_10 (by decide) (fun c_4 => ?_) (fun c_4 => ?_)
  · rw [if_pos c_4] at hM
    refine lv_iconst (v := 0) hx hb dX7_tailSize_17 (by decide) ?_
    exact wX7_tailSize_b18 C0 arA1 ar1 p2 r kr  r_2 (0 : Int32) hM _ _ _ hP hD hS (lv_sub hl [0, 1] rfl)
  · rw [if_neg c_4] at hM
    refine lv_iconst (v := 1) hx hb dX7_tailSize_13 (by decide) ?_
    refine lv_goto (tgt := 18) hx hb dX7_tailSize_14 (by decide) ?_
    exact wX7_tailSize_b18 C0 arA1 ar1 p2 r kr  r_2 (1 : Int32) hM _ _ _ hP hD hS (lv_sub hl [0, 1] rfl)
set_option maxHeartbeats 4000000 in
set_option maxRecDepth 100000 in
theorem kX7_tailSize (l : Launch) (G : va_G) (K : Nat → ClassId) (arA1 : Nat) (ar1 : Nat → Int32) (p2 : Int32) (sz : Nat) (r : Int32)  (hM : mX7_tailSize ar1 p2 = some r) : Met l yX7_tailSize (mC yX7_tailSize cX7_tailSize 2 (some .int)) rmX7_tailSize (va_Pc [.ref arA1, .int p2] (PCe G K E0 (WX7_tailSize K arA1 ar1) sz)) (va_Qi (fun (x : Int32) (_ : Unit) => x = r) (fun _ t => va_P G vwCl (WX7_tailSize K arA1 ar1) t.heap) (va_A (WX7_tailSize K arA1 ar1) sz)) rmX7_tailSize.cells rmX7_tailSize.slots (va_A (WX7_tailSize K arA1 ar1) sz) := by
  refine Met.ofW (cc := cX7_tailSize) (maxL := 2) (ret := (some .int)) (by decide) rfl ?_
  intro p e s m args below meth c s₁ B hml hv
  obtain ⟨rfl, hsz, hP, hK, hD0, hE⟩ := hv
  have hx := B.exec
  have hb := B.bytes
  have hr := B.returns
  have hts0 := atoms_spec (ws := mC yX7_tailSize cX7_tailSize 2 (some .int)) B.pre
  have hts : ∀ w ∈ tbG, w.before _ s = true := fun w h => hts0 w (List.mem_cons_of_mem _ h)
  have hown : s.vm.findClass RX7 = some m.cls := findClass_of_methodNamed B.named
  subst hsz
  have hD := hD0.self (sz := s.heap.size)
  generalize hAe : va_A (WX7_tailSize K arA1 ar1) s.heap.size = A at hD hE ⊢
  have hA : ∀ q : Nat, s.heap.size ≤ q → A q := fun q h => by rw [← hAe]; exact Or.inr h
  have hS : va_S A s.heap s.heap [] := va_S.rf
  have hl := lv_entry ([.ref arA1, .int p2]) (n := 2) (Nat.le_of_ble_eq_true rfl)
  rw [lg_entry_eq]
  generalize (lg_sl ([.ref arA1, .int p2]) ++ List.replicate (2 - (lg_sl ([.ref arA1, .int p2])).length) Slot.unset).toArray = ls at hl ⊢
  have hl : lv_has ls 2 [(0, .ref arA1), (1, .int p2)] := hl
  exact wX7_tailSize_b0 ⟨hx, hb, hml, hown, hts, hK, hA, E0_ok, hE⟩ arA1 ar1 p2 r (fun H locs ls pc hdg hP hD hS => W.iret (v := r) hx hb hr (fun t ht hW => ⟨⟨r, (), rfl, rfl, (show va_P G vwCl _ t.heap by rw [ht]; exact hP)⟩, hS.F ht⟩) hS.2.2 hdg)   hM _ _ _ hP hD hS hl
