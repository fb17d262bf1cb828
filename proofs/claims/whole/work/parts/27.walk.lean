def rmX7_readWord : Room := { frames := 4, cells := 0, slots := 0, locals := 89 }
theorem hdX7_readWord : yX7_readWord.cls = RX7 ∧ yX7_readWord.cls ≠ "java/lang/invoke/MethodHandle" ∧ yX7_readWord.cls ≠ "java/lang/invoke/VarHandle" ∧ (parseMethodDescriptor yX7_readWord.desc).map (fun d => d.parameters.length) = some 1 := by decide +kernel
set_option maxHeartbeats 4000000 in
set_option maxRecDepth 100000 in
theorem wX7_readWord_b128 {p : Program} {l : Launch} {e : Env} {s : State} {m : MethodId} {args : Array Value} {below : List Frame} {meth : Method} {c : Code} {Q : State → Prop} {G : va_G} {K : Nat → ClassId} {A : Nat → Prop} (C0 : CX p s m args c cX7_readWord 6 RX7 G K E0 A) (m_a mA_lane mA_many mA_item mA_poem mA_fresh mA_then mA_was mA_tape mA_strengths mA_sounds mA_stand mA_scheme mA_isKept mA_kept mA_trace : Nat) (m_thrown : Int32) (m_status : Int32) (m_acts : Int32) (m_taped : Int32) (m_latest : Int32) (m_stands : Int32) (m_least : Int32) (m_ways : Int32) (m_nearFoot : Int32) (m_nearFeet : Int32) (m_nearCost : Int32) (m_traced : Int32) (m_tape : Nat → Int32) (p1 : Int32) (o_m_cursor : Int32) (o_m_start : Int32) (o_m_token : Int32) (o_m_value : Int32) (o_m_fault : Int32) (o_m_faultAt : Int32) (o_m_fresh : Nat → Int32) (kr : ∀ (H : Heap) (locs : List Loc) (ls : Array Slot) (pc : Nat), decode cX7_readWord pc = .ok (.return_, 1) → va_P G vwCl [(m_a, .inr (7, [.int m_thrown, .int m_status, .ref mA_lane, .ref mA_many, .ref mA_item, .ref mA_poem, .ref mA_fresh, .ref mA_then, .ref mA_was, .int m_acts, .ref mA_tape, .int m_taped, .int o_m_cursor, .int o_m_start, .int o_m_token, .int o_m_value, .int o_m_fault, .int o_m_faultAt, .int m_latest, .ref mA_strengths, .ref mA_sounds, .ref mA_stand, .int m_stands, .int m_least, .int m_ways, .ref mA_scheme, .int m_nearFoot, .int m_nearFeet, .int m_nearCost, .ref mA_isKept, .ref mA_kept, .ref mA_trace, .int m_traced])), aI K mA_fresh 207 o_m_fresh, aI K mA_tape 130 m_tape] H → va_D A [(m_a, .inr (7, [.int m_thrown, .int m_status, .ref mA_lane, .ref mA_many, .ref mA_item, .ref mA_poem, .ref mA_fresh, .ref mA_then, .ref mA_was, .int m_acts, .ref mA_tape, .int m_taped, .int o_m_cursor, .int o_m_start, .int o_m_token, .int o_m_value, .int o_m_fault, .int o_m_faultAt, .int m_latest, .ref mA_strengths, .ref mA_sounds, .ref mA_stand, .int m_stands, .int m_least, .int m_ways, .ref mA_scheme, .int m_nearFoot, .int m_nearFeet, .int m_nearCost, .ref mA_isKept, .ref mA_kept, .ref mA_trace, .int m_traced])), aI K mA_fresh 207 o_m_fresh, aI K mA_tape 130 m_tape] → va_S A s.heap H locs → W p l e rmX7_readWord s m args below meth c H locs 0 0 Q (F0 m pc ls [])) (k65 : Int32 → Int32 → Int32 → Int32 → Int32 → Int32 → (Nat → Int32) → Int32 → Int32 → Int32 → Int32 → Option ((Int32) × (Int32) × (Int32) × (Int32) × (Int32) × (Int32) × (Nat → Int32))) (hk65 : ∀ (m_cursor : Int32) (m_start : Int32) (m_token : Int32) (m_value : Int32) (m_fault : Int32) (m_faultAt : Int32) (m_fresh : Nat → Int32) (x2 : Int32) (x3 : Int32) (x4 : Int32) (x5 : Int32), k65 m_cursor m_start m_token m_value m_fault m_faultAt m_fresh x2 x3 x4 x5 = some (o_m_cursor, o_m_start, o_m_token, o_m_value, o_m_fault, o_m_faultAt, o_m_fresh) → ∀ (H : Heap) (locs : List Loc) (ls : Array Slot), va_P G vwCl [(m_a, .inr (7, [.int m_thrown, .int m_status, .ref mA_lane, .ref mA_many, .ref mA_item, .ref mA_poem, .ref mA_fresh, .ref mA_then, .ref mA_was, .int m_acts, .ref mA_tape, .int m_taped, .int m_cursor, .int m_start, .int m_token, .int m_value, .int m_fault, .int m_faultAt, .int m_latest, .ref mA_strengths, .ref mA_sounds, .ref mA_stand, .int m_stands, .int m_least, .int m_ways, .ref mA_scheme, .int m_nearFoot, .int m_nearFeet, .int m_nearCost, .ref mA_isKept, .ref mA_kept, .ref mA_trace, .int m_traced])), aI K mA_fresh 207 m_fresh, aI K mA_tape 130 m_tape] H → va_D A [(m_a, .inr (7, [.int m_thrown, .int m_status, .ref mA_lane, .ref mA_many, .ref mA_item, .ref mA_poem, .ref mA_fresh, .ref mA_then, .ref mA_was, .int m_acts, .ref mA_tape, .int m_taped, .int m_cursor, .int m_start, .int m_token, .int m_value, .int m_fault, .int m_faultAt, .int m_latest, .ref mA_strengths, .ref mA_sounds, .ref mA_stand, .int m_stands, .int m_least, .int m_ways, .ref mA_scheme, .int m_nearFoot, .int m_nearFeet, .int m_nearCost, .ref mA_isKept, .ref mA_kept, .ref mA_trace, .int m_traced])), aI K mA_fresh 207 m_fresh, aI K mA_tape 130 m_tape] → va_S A s.heap H locs → lv_has ls 6 [(0, .ref m_a), (1, .int p1), (2, .int x2), (3, .int x3), (4, .int x4), (5, .int x5)] → W p l e rmX7_readWord s m args below meth c H locs 0 0 Q (F0 m 65 ls [])) (m_cursor : Int32) (m_start : Int32) (m_token : Int32) (m_value : Int32) (m_fault : Int32) (m_faultAt : Int32) (m_fresh : Nat → Int32) (x2 : Int32) (x3 : Int32) (x4 : Int32) (s0 : Int32) (hM : mX7_readWord_b128 m_taped m_tape p1 k65 m_cursor m_start m_token m_value m_fault m_faultAt m_fresh x2 x3 x4 s0 = some (o_m_cursor, o_m_start, o_m_token, o_m_value, o_m_fault, o_m_faultAt, o_m_fresh)) : ∀ (H : Heap) (locs : List Loc) (ls : Array Slot), va_P G vwCl [(m_a, .inr (7, [.int m_thrown, .int m_status, .ref mA_lane, .ref mA_many, .ref mA_item, .ref mA_poem, .ref mA_fresh, .ref mA_then, .ref mA_was, .int m_acts, .ref mA_tape, .int m_taped, .int m_cursor, .int m_start, .int m_token, .int m_value, .int m_fault, .int m_faultAt, .int m_latest, .ref mA_strengths, .ref mA_sounds, .ref mA_stand, .int m_stands, .int m_least, .int m_ways, .ref mA_scheme, .int m_nearFoot, .int m_nearFeet, .int m_nearCost, .ref mA_isKept, .ref mA_kept, .ref mA_trace, .int m_traced])), aI K mA_fresh 207 m_fresh, aI K mA_tape 130 m_tape] H → va_D A [(m_a, .inr (7, [.int m_thrown, .int m_status, .ref mA_lane, .ref mA_many, .ref mA_item, .ref mA_poem, .ref mA_fresh, .ref mA_then, .ref mA_was, .int m_acts, .ref mA_tape, .int m_taped, .int m_cursor, .int m_start, .int m_token, .int m_value, .int m_fault, .int m_faultAt, .int m_latest, .ref mA_strengths, .ref mA_sounds, .ref mA_stand, .int m_stands, .int m_least, .int m_ways, .ref mA_scheme, .int m_nearFoot, .int m_nearFeet, .int m_nearCost, .ref mA_isKept, .ref mA_kept, .ref mA_trace, .int m_traced])), aI K mA_fresh 207 m_fresh, aI K mA_tape 130 m_tape] → va_S A s.heap H locs → lv_has ls 6 [(0, .ref m_a), (1, .int p1), (2, .int x2), (3, .int x3), (4, .int x4)] → W p l e rmX7_readWord s m args below meth c H locs 0 0 Q (F0 m 128 ls [.int s0]) := by
  obtain ⟨hx, hb, hml, hown, hts, hK, hA, hEo, hE⟩ := id C0
  intro H locs ls hP hD hS hl
  unfold mX7_readWord_b128 at hM
  refine lv_istore (lv' := [(5, .int s0), (0, .ref m_a), (1, .int p1), (2, .int x2), (3, .int x3), (4, .int x4)]) hx hb dX7_readWord_128 hl (by decide) rfl (fun ls hl => ?_)
  refine lv_iinc (v := (x4 + 1)) (lv' := [(4, .int (x4 + 1)), (5, .int s0), (0, .ref m_a), (1, .int p1), (2, .int x2), (3, .int x3)]) hx hb dX7_readWord_130 hl (k := 5) rfl rfl (by decide) rfl (fun ls hl => ?_)
  refine lv_aload_n hx hb dX7_readWord_133 rfl (lv_at hl 2 rfl) ?_
  obtain ⟨u0_1, u1_1, u2_1, u3_1, hC, hM⟩ := oe4 hM
  refine cV_v (As := []) (rest := []) C0 hP hD hS [0, 2] (kX7_nextToken l G K m_a mA_lane mA_many mA_item mA_poem mA_fresh mA_then mA_was mA_tape mA_strengths mA_sounds mA_stand mA_scheme mA_isKept mA_kept mA_trace m_thrown m_status m_acts m_taped m_cursor m_start m_token m_value m_fault m_faultAt m_latest m_stands m_least m_ways m_nearFoot m_nearFeet m_nearCost m_traced m_tape H.size u0_1 u1_1 u2_1 u3_1 hC) rfl rfl rfl tb917 tb919 tp15 tb9 tb920 hdX7_nextToken (va_recv hK hP (ci := 7) (q0 := 0) rfl rfl) ⟨Nat.le_of_ble_eq_true rfl, Nat.le_of_ble_eq_true rfl⟩ rfl hl.1 (Nat.le_of_ble_eq_true rfl) rfl ⟨Nat.le_refl _, Nat.le_refl _⟩ dX7_readWord_134 (fun H locs hP hD hS => ?_)
  have hP : va_P G vwCl [(m_a, .inr (7, [.int m_thrown, .int m_status, .ref mA_lane, .ref mA_many, .ref mA_item, .ref mA_poem, .ref mA_fresh, .ref mA_then, .ref mA_was, .int m_acts, .ref mA_tape, .int m_taped, .int u0_1, .int u1_1, .int u2_1, .int u3_1, .int m_fault, .int m_faultAt, .int m_latest, .ref mA_strengths, .ref mA_sounds, .ref mA_stand, .int m_stands, .int m_least, .int m_ways, .ref mA_scheme, .int m_nearFoot, .int m_nearFeet, .int m_nearCost, .ref mA_isKept, .ref mA_kept, .ref mA_trace, .int m_traced])), aI K mA_fresh 207 m_fresh, aI K mA_tape 130 m_tape] H := hP
  have hD : va_D A [(m_a, .inr (7, [.int m_thrown, .int m_status, .ref mA_lane, .ref mA_many, .ref mA_item, .ref mA_poem, .ref mA_fresh, .ref mA_then, .ref mA_was, .int m_acts, .ref mA_tape, .int m_taped, .int u0_1, .int u1_1, .int u2_1, .int u3_1, .int m_fault, .int m_faultAt, .int m_latest, .ref mA_strengths, .ref mA_sounds, .ref mA_stand, .int m_stands, .int m_least, .int m_ways, .ref mA_scheme, .int m_nearFoot, .int m_nearFeet, .int m_nearCost, .ref mA_isKept, .ref mA_kept, .ref mA_trace, .int m_traced])), aI K mA_fresh 207 m_fresh, aI K mA_tape 130 m_tape] := hD
  refine lv_goto (tgt := 65) hx hb dX7_readWord_137 (by decide) ?_
  exact hk65 u0_1 u1_1 u2_1 u3_1 m_fault m_faultAt m_fresh x2 x3 (x4 + 1) s0 hM _ _ _ hP hD hS (lv_sub hl [2, 3, 4, 5, 0, 1] rfl)
set_option maxHeartbeats 4000000 in
set_option maxRecDepth 100000 in
theorem wX7_readWord_b123 {p : Program} {l : Launch} {e : Env} {s : State} {m : MethodId} {args : Array Value} {below : List Frame} {meth : Method} {c : Code} {Q : State → Prop} {G : va_G} {K : Nat → ClassId} {A : Nat → Prop} (C0 : CX p s m args c cX7_readWord 6 RX7 G K E0 A) (m_a mA_lane mA_many mA_item mA_poem mA_fresh mA_then mA_was mA_tape mA_strengths mA_sounds mA_stand mA_scheme mA_isKept mA_kept mA_trace : Nat) (m_thrown : Int32) (m_status : Int32) (m_acts : Int32) (m_taped : Int32) (m_latest : Int32) (m_stands : Int32) (m_least : Int32) (m_ways : Int32) (m_nearFoot : Int32) (m_nearFeet : Int32) (m_nearCost : Int32) (m_traced : Int32) (m_tape : Nat → Int32) (p1 : Int32) (o_m_cursor : Int32) (o_m_start : Int32) (o_m_token : Int32) (o_m_value : Int32) (o_m_fault : Int32) (o_m_faultAt : Int32) (o_m_fresh : Nat → Int32) (kr : ∀ (H : Heap) (locs : List Loc) (ls : Array Slot) (pc : Nat), decode cX7_readWord pc = .ok (.return_, 1) → va_P G vwCl [(m_a, .inr (7, [.int m_thrown, .int m_status, .ref mA_lane, .ref mA_many, .ref mA_item, .ref mA_poem, .ref mA_fresh, .ref mA_then, .ref mA_was, .int m_acts, .ref mA_tape, .int m_taped, .int o_m_cursor, .int o_m_start, .int o_m_token, .int o_m_value, .int o_m_fault, .int o_m_faultAt, .int m_latest, .ref mA_strengths, .ref mA_sounds, .ref mA_stand, .int m_stands, .int m_least, .int m_ways, .ref mA_scheme, .int m_nearFoot, .int m_nearFeet, .int m_nearCost, .ref mA_isKept, .ref mA_kept, .ref mA_trace, .int m_traced])), aI K mA_fresh 207 o_m_fresh, aI K mA_tape 130 m_tape] H → va_D A [(m_a, .inr (7, [.int m_thrown, .int m_status, .ref mA_lane, .ref mA_many, .ref mA_item, .ref mA_poem, .ref mA_fresh, .ref mA_then, .ref mA_was, .int m_acts, .ref mA_tape, .int m_taped, .int o_m_cursor, .int o_m_start, .int o_m_token, .int o_m_value, .int o_m_fault, .int o_m_faultAt, .int m_latest, .ref mA_strengths, .ref mA_sounds, .ref mA_stand, .int m_stands, .int m_least, .int m_ways, .ref mA_scheme, .int m_nearFoot, .int m_nearFeet, .int m_nearCost, .ref mA_isKept, .ref mA_kept, .ref mA_trace, .int m_traced])), aI K mA_fresh 207 o_m_fresh, aI K mA_tape 130 m_tape] → va_S A s.heap H locs → W p l e rmX7_readWord s m args below meth c H locs 0 0 Q (F0 m pc ls [])) (k65 : Int32 → Int32 → Int32 → Int32 → Int32 → Int32 → (Nat → Int32) → Int32 → Int32 → Int32 → Int32 → Option ((Int32) × (Int32) × (Int32) × (Int32) × (Int32) × (Int32) × (Nat → Int32))) (hk65 : ∀ (m_cursor : Int32) (m_start : Int32) (m_token : Int32) (m_value : Int32) (m_fault : Int32) (m_faultAt : Int32) (m_fresh : Nat → Int32) (x2 : Int32) (x3 : Int32) (x4 : Int32) (x5 : Int32), k65 m_cursor m_start m_token m_value m_fault m_faultAt m_fresh x2 x3 x4 x5 = some (o_m_cursor, o_m_start, o_m_token, o_m_value, o_m_fault, o_m_faultAt, o_m_fresh) → ∀ (H : Heap) (locs : List Loc) (ls : Array Slot), va_P G vwCl [(m_a, .inr (7, [.int m_thrown, .int m_status, .ref mA_lane, .ref mA_many, .ref mA_item, .ref mA_poem, .ref mA_fresh, .ref mA_then, .ref mA_was, .int m_acts, .ref mA_tape, .int m_taped, .int m_cursor, .int m_start, .int m_token, .int m_value, .int m_fault, .int m_faultAt, .int m_latest, .ref mA_strengths, .ref mA_sounds, .ref mA_stand, .int m_stands, .int m_least, .int m_ways, .ref mA_scheme, .int m_nearFoot, .int m_nearFeet, .int m_nearCost, .ref mA_isKept, .ref mA_kept, .ref mA_trace, .int m_traced])), aI K mA_fresh 207 m_fresh, aI K mA_tape 130 m_tape] H → va_D A [(m_a, .inr (7, [.int m_thrown, .int m_status, .ref mA_lane, .ref mA_many, .ref mA_item, .ref mA_poem, .ref mA_fresh, .ref mA_then, .ref mA_was, .int m_acts, .ref mA_tape, .int m_taped, .int m_cursor, .int m_start, .int m_token, .int m_value, .int m_fault, .int m_faultAt, .int m_latest, .ref mA_strengths, .ref mA_sounds, .ref mA_stand, .int m_stands, .int m_least, .int m_ways, .ref mA_scheme, .int m_nearFoot, .int m_nearFeet, .int m_nearCost, .ref mA_isKept, .ref mA_kept, .ref mA_trace, .int m_traced])), aI K mA_fresh 207 m_fresh, aI K mA_tape 130 m_tape] → va_S A s.heap H locs → lv_has ls 6 [(0, .ref m_a), (1, .int p1), (2, .int x2), (3, .int x3), (4, .int x4), (5, .int x5)] → W p l e rmX7_readWord s m args below meth c H locs 0 0 Q (F0 m 65 ls [])) (m_cursor : Int32) (m_start : Int32) (m_token : Int32) (m_value : Int32) (m_fault : Int32) (m_faultAt : Int32) (m_fresh : Nat → Int32) (x2 : Int32) (x3 : Int32) (x4 : Int32) (hM : mX7_readWord_b123 m_taped m_tape p1 k65 m_cursor m_start m_token m_value m_fault m_faultAt m_fresh x2 x3 x4 = some (o_m_cursor, o_m_start, o_m_token, o_m_value, o_m_fault, o_m_faultAt, o_m_fresh)) : ∀ (H : Heap) (locs : List Loc) (ls : Array Slot), va_P G vwCl [(m_a, .inr (7, [.int m_thrown, .int m_status, .ref mA_lane, .ref mA_many, .ref mA_item, .ref mA_poem, .ref mA_fresh, .ref mA_then, .ref mA_was, .int m_acts, .ref mA_tape, .int m_taped, .int m_cursor, .int m_start, .int m_token, .int m_value, .int m_fault, .int m_faultAt, .int m_latest, .ref mA_strengths, .ref mA_sounds, .ref mA_stand, .int m_stands, .int m_least, .int m_ways, .ref mA_scheme, .int m_nearFoot, .int m_nearFeet, .int m_nearCost, .ref mA_isKept, .ref mA_kept, .ref mA_trace, .int m_traced])), aI K mA_fresh 207 m_fresh, aI K mA_tape 130 m_tape] H → va_D A [(m_a, .inr (7, [.int m_thrown, .int m_status, .ref mA_lane, .ref mA_many, .ref mA_item, .ref mA_poem, .ref mA_fresh, .ref mA_then, .ref mA_was, .int m_acts, .ref mA_tape, .int m_taped, .int m_cursor, .int m_start, .int m_token, .int m_value, .int m_fault, .int m_faultAt, .int m_latest, .ref mA_strengths, .ref mA_sounds, .ref mA_stand, .int m_stands, .int m_least, .int m_ways, .ref mA_scheme, .int m_nearFoot, .int m_nearFeet, .int m_nearCost, .ref mA_isKept, .ref mA_kept, .ref mA_trace, .int m_traced])), aI K mA_fresh 207 m_fresh, aI K mA_tape 130 m_tape] → va_S A s.heap H locs → lv_has ls 6 [(0, .ref m_a), (1, .int p1), (2, .int x2), (3, .int x3), (4, .int x4)] → W p l e rmX7_readWord s m args below meth c H locs 0 0 Q (F0 m 123 ls []) := by
  obtain ⟨hx, hb, hml, hown, hts, hK, hA, hEo, hE⟩ := id C0
  intro H locs ls hP hD hS hl
  unfold mX7_readWord_b123 at hM
  refine lv_iconst (v := 1) hx hb dX7_readWord_123 (by decide) ?_
  refine lv_goto (tgt := 128) hx hb dX7_readWord_124 (by decide) ?_
  exact wX7_readWord_b128 C0 m_a mA_lane mA_many mA_item mA_poem mA_fresh mA_then mA_was mA_tape mA_strengths mA_sounds mA_stand mA_scheme mA_isKept mA_kept mA_trace m_thrown m_status m_acts m_taped m_latest m_stands m_least m_ways m_nearFoot m_nearFeet m_nearCost m_traced m_tape p1 o_m_cursor o_m_start o_m_token o_m_value o_m_fault o_m_faultAt o_m_fresh kr k65 hk65 m_cursor m_start m_token m_value m_fault m_faultAt m_fresh x2 x3 x4 (1 : Int32) hM _ _ _ hP hD hS (lv_sub hl [0, 1, 2, 3, 4] rfl)
set_option maxHeartbeats 4000000 in
set_option maxRecDepth 100000 in
theorem wX7_readWord_b156 {p : Program} {l : Launch} {e : Env} {s : State} {m : MethodId} {args : Array Value} {below : List Frame} {meth : Method} {c : Code} {Q : State → Prop} {G : va_G} {K : Nat → ClassId} {A : Nat → Prop} (C0 : CX p s m args c cX7_readWord 6 RX7 G K E0 A) (m_a mA_lane mA_many mA_item mA_poem mA_fresh mA_then mA_was mA_tape mA_strengths mA_sounds mA_stand mA_scheme mA_isKept mA_kept mA_trace : Nat) (m_thrown : Int32) (m_status : Int32) (m_acts : Int32) (m_taped : Int32) (m_latest : Int32) (m_stands : Int32) (m_least : Int32) (m_ways : Int32) (m_nearFoot : Int32) (m_nearFeet : Int32) (m_nearCost : Int32) (m_traced : Int32) (m_tape : Nat → Int32) (p1 : Int32) (o_m_cursor : Int32) (o_m_start : Int32) (o_m_token : Int32) (o_m_value : Int32) (o_m_fault : Int32) (o_m_faultAt : Int32) (o_m_fresh : Nat → Int32) (kr : ∀ (H : Heap) (locs : List Loc) (ls : Array Slot) (pc : Nat), decode cX7_readWord pc = .ok (.return_, 1) → va_P G vwCl [(m_a, .inr (7, [.int m_thrown, .int m_status, .ref mA_lane, .ref mA_many, .ref mA_item, .ref mA_poem, .ref mA_fresh, .ref mA_then, .ref mA_was, .int m_acts, .ref mA_tape, .int m_taped, .int o_m_cursor, .int o_m_start, .int o_m_token, .int o_m_value, .int o_m_fault, .int o_m_faultAt, .int m_latest, .ref mA_strengths, .ref mA_sounds, .ref mA_stand, .int m_stands, .int m_least, .int m_ways, .ref mA_scheme, .int m_nearFoot, .int m_nearFeet, .int m_nearCost, .ref mA_isKept, .ref mA_kept, .ref mA_trace, .int m_traced])), aI K mA_fresh 207 o_m_fresh, aI K mA_tape 130 m_tape] H → va_D A [(m_a, .inr (7, [.int m_thrown, .int m_status, .ref mA_lane, .ref mA_many, .ref mA_item, .ref mA_poem, .ref mA_fresh, .ref mA_then, .ref mA_was, .int m_acts, .ref mA_tape, .int m_taped, .int o_m_cursor, .int o_m_start, .int o_m_token, .int o_m_value, .int o_m_fault, .int o_m_faultAt, .int m_latest, .ref mA_strengths, .ref mA_sounds, .ref mA_stand, .int m_stands, .int m_least, .int m_ways, .ref mA_scheme, .int m_nearFoot, .int m_nearFeet, .int m_nearCost, .ref mA_isKept, .ref mA_kept, .ref mA_trace, .int m_traced])), aI K mA_fresh 207 o_m_fresh, aI K mA_tape 130 m_tape] → va_S A s.heap H locs → W p l e rmX7_readWord s m args below meth c H locs 0 0 Q (F0 m pc ls [])) (m_cursor : Int32) (m_start : Int32) (m_token : Int32) (m_value : Int32) (m_fault : Int32) (m_faultAt : Int32) (m_fresh : Nat → Int32) (x2 : Int32) (x4 : Int32) (hM : mX7_readWord_b156 m_taped m_tape p1  m_cursor m_start m_token m_value m_fault m_faultAt m_fresh x2 x4 = some (o_m_cursor, o_m_start, o_m_token, o_m_value, o_m_fault, o_m_faultAt, o_m_fresh)) : ∀ (H : Heap) (locs : List Loc) (ls : Array Slot), va_P G vwCl [(m_a, .inr (7, [.int m_thrown, .int m_status, .ref mA_lane, .ref mA_many, .ref mA_item, .ref mA_poem, .ref mA_fresh, .ref mA_then, .ref mA_was, .int m_acts, .ref mA_tape, .int m_taped, .int m_cursor, .int m_start, .int m_token, .int m_value, .int m_fault, .int m_faultAt, .int m_latest, .ref mA_strengths, .ref mA_sounds, .ref mA_stand, .int m_stands, .int m_least, .int m_ways, .ref mA_scheme, .int m_nearFoot, .int m_nearFeet, .int m_nearCost, .ref mA_isKept, .ref mA_kept, .ref mA_trace, .int m_traced])), aI K mA_fresh 207 m_fresh, aI K mA_tape 130 m_tape] H → va_D A [(m_a, .inr (7, [.int m_thrown, .int m_status, .ref mA_lane, .ref mA_many, .ref mA_item, .ref mA_poem, .ref mA_fresh, .ref mA_then, .ref mA_was, .int m_acts, .ref mA_tape, .int m_taped, .int m_cursor, .int m_start, .int m_token, .int m_value, .int m_fault, .int m_faultAt, .int m_latest, .ref mA_strengths, .ref mA_sounds, .ref mA_stand, .int m_stands, .int m_least, .int m_ways, .ref mA_scheme, .int m_nearFoot, .int m_nearFeet, .int m_nearCost, .ref mA_isKept, .ref mA_kept, .ref mA_trace, .int m_traced])), aI K mA_fresh 207 m_fresh, aI K mA_tape 130 m_tape] → va_S A s.heap H locs → lv_has ls 6 [(0, .ref m_a), (1, .int p1), (2, .int x2), (4, .int x4)] → W p l e rmX7_readWord s m args below meth c H locs 0 0 Q (F0 m 156 ls []) := by
  obtain ⟨hx, hb, hml, hown, hts, hK, hA, hEo, hE⟩ := id C0
  intro H locs ls hP hD hS hl
  unfold mX7_readWord_b156 at hM
  refine lv_aload_n hx hb dX7_readWord_156 rfl (lv_at hl 0 rfl) ?_
  refine va_get (D := G) (ci := 7) (v := .ref mA_fresh) (C := RX7) (T := TX7) (N := 33) hx hb hts inX7 hown hK hP 0 rfl rfl 6 (by decide) (hts _ tb774) (fun _ h9 => h9) rfl dX7_readWord_157 ?_
  refine lv_iload_n hx hb dX7_readWord_160 rfl (lv_at hl 2 rfl) ?_
  refine lv_iconst (v := 1) hx hb dX7_readWord_161 (by decide) ?_
  refine lv_iadd hx hb dX7_readWord_162 ?_
  refine lv_iload hx hb dX7_readWord_163 (lv_at hl 3 rfl) ?_
  obtain ⟨g_2, hM⟩ := ng hM
  refine va_iast hx hb hK hP hD hS 1 0 rfl rfl g_2 dX7_readWord_165 (fun H locs hP hD hS => ?_)
  have hP : va_P G vwCl [(m_a, .inr (7, [.int m_thrown, .int m_status, .ref mA_lane, .ref mA_many, .ref mA_item, .ref mA_poem, .ref mA_fresh, .ref mA_then, .ref mA_was, .int m_acts, .ref mA_tape, .int m_taped, .int m_cursor, .int m_start, .int m_token, .int m_value, .int m_fault, .int m_faultAt, .int m_latest, .ref mA_strengths, .ref mA_sounds, .ref mA_stand, .int m_stands, .int m_least, .int m_ways, .ref mA_scheme, .int m_nearFoot, .int m_nearFeet, .int m_nearCost, .ref mA_isKept, .ref mA_kept, .ref mA_trace, .int m_traced])), aI K mA_fresh 207 (upd m_fresh (x2 + (1 : Int32)).toNatClampNeg x4), aI K mA_tape 130 m_tape] H := hP
  have hD : va_D A [(m_a, .inr (7, [.int m_thrown, .int m_status, .ref mA_lane, .ref mA_many, .ref mA_item, .ref mA_poem, .ref mA_fresh, .ref mA_then, .ref mA_was, .int m_acts, .ref mA_tape, .int m_taped, .int m_cursor, .int m_start, .int m_token, .int m_value, .int m_fault, .int m_faultAt, .int m_latest, .ref mA_strengths, .ref mA_sounds, .ref mA_stand, .int m_stands, .int m_least, .int m_ways, .ref mA_scheme, .int m_nearFoot, .int m_nearFeet, .int m_nearCost, .ref mA_isKept, .ref mA_kept, .ref mA_trace, .int m_traced])), aI K mA_fresh 207 (upd m_fresh (x2 + (1 : Int32)).toNatClampNeg x4), aI K mA_tape 130 m_tape] := hD
  refine lv_aload_n hx hb dX7_readWord_166 rfl (lv_at hl 0 rfl) ?_
  refine va_get (D := G) (ci := 7) (v := .ref mA_fresh) (C := RX7) (T := TX7) (N := 33) hx hb hts inX7 hown hK hP 0 rfl rfl 6 (by decide) (hts _ tb774) (fun _ h9 => h9) rfl dX7_readWord_167 ?_
  refine lv_iconst (v := 3) hx hb dX7_readWord_170 (by decide) ?_
  refine lv_iload_n hx hb dX7_readWord_171 rfl (lv_at hl 1 rfl) ?_
  refine lv_iadd hx hb dX7_readWord_172 ?_
  refine lv_dup2_11 hx hb dX7_readWord_173 rfl rfl ?_
  obtain ⟨g_3, hM⟩ := ng hM
  refine va_iald hx hb hK hP 1 0 rfl rfl g_3 dX7_readWord_174 ?_
  refine lv_iconst (v := 1) hx hb dX7_readWord_175 (by decide) ?_
  refine lv_iadd hx hb dX7_readWord_176 ?_
  obtain ⟨g_4, hM⟩ := ng hM
  refine va_iast hx hb hK hP hD hS 1 0 rfl rfl g_4 dX7_readWord_177 (fun H locs hP hD hS => ?_)
  have hP : va_P G vwCl [(m_a, .inr (7, [.int m_thrown, .int m_status, .ref mA_lane, .ref mA_many, .ref mA_item, .ref mA_poem, .ref mA_fresh, .ref mA_then, .ref mA_was, .int m_acts, .ref mA_tape, .int m_taped, .int m_cursor, .int m_start, .int m_token, .int m_value, .int m_fault, .int m_faultAt, .int m_latest, .ref mA_strengths, .ref mA_sounds, .ref mA_stand, .int m_stands, .int m_least, .int m_ways, .ref mA_scheme, .int m_nearFoot, .int m_nearFeet, .int m_nearCost, .ref mA_isKept, .ref mA_kept, .ref mA_trace, .int m_traced])), aI K mA_fresh 207 (upd (upd m_fresh (x2 + (1 : Int32)).toNatClampNeg x4) ((3 : Int32) + p1).toNatClampNeg (((upd m_fresh (x2 + (1 : Int32)).toNatClampNeg x4) ((3 : Int32) + p1).toNatClampNeg) + (1 : Int32))), aI K mA_tape 130 m_tape] H := hP
  have hD : va_D A [(m_a, .inr (7, [.int m_thrown, .int m_status, .ref mA_lane, .ref mA_many, .ref mA_item, .ref mA_poem, .ref mA_fresh, .ref mA_then, .ref mA_was, .int m_acts, .ref mA_tape, .int m_taped, .int m_cursor, .int m_start, .int m_token, .int m_value, .int m_fault, .int m_faultAt, .int m_latest, .ref mA_strengths, .ref mA_sounds, .ref mA_stand, .int m_stands, .int m_least, .int m_ways, .ref mA_scheme, .int m_nearFoot, .int m_nearFeet, .int m_nearCost, .ref mA_isKept, .ref mA_kept, .ref mA_trace, .int m_traced])), aI K mA_fresh 207 (upd (upd m_fresh (x2 + (1 : Int32)).toNatClampNeg x4) ((3 : Int32) + p1).toNatClampNeg (((upd m_fresh (x2 + (1 : Int32)).toNatClampNeg x4) ((3 : Int32) + p1).toNatClampNeg) + (1 : Int32))), aI K mA_tape 130 m_tape] := hD
  cases hM
  exact kr _ _ _ _ dX7_readWord_178 hP hD hS
set_option maxHeartbeats 4000000 in
set_option maxRecDepth 100000 in
theorem wX7_readWord_b140 {p : Program} {l : Launch} {e : Env} {s : State} {m : MethodId} {args : Array Value} {below : List Frame} {meth : Method} {c : Code} {Q : State → Prop} {G : va_G} {K : Nat → ClassId} {A : Nat → Prop} (C0 : CX p s m args c cX7_readWord 6 RX7 G K E0 A) (m_a mA_lane mA_many mA_item mA_poem mA_fresh mA_then mA_was mA_tape mA_strengths mA_sounds mA_stand mA_scheme mA_isKept mA_kept mA_trace : Nat) (m_thrown : Int32) (m_status : Int32) (m_acts : Int32) (m_taped : Int32) (m_latest : Int32) (m_stands : Int32) (m_least : Int32) (m_ways : Int32) (m_nearFoot : Int32) (m_nearFeet : Int32) (m_nearCost : Int32) (m_traced : Int32) (m_tape : Nat → Int32) (p1 : Int32) (o_m_cursor : Int32) (o_m_start : Int32) (o_m_token : Int32) (o_m_value : Int32) (o_m_fault : Int32) (o_m_faultAt : Int32) (o_m_fresh : Nat → Int32) (kr : ∀ (H : Heap) (locs : List Loc) (ls : Array Slot) (pc : Nat), decode cX7_readWord pc = .ok (.return_, 1) → va_P G vwCl [(m_a, .inr (7, [.int m_thrown, .int m_status, .ref mA_lane, .ref mA_many, .ref mA_item, .ref mA_poem, .ref mA_fresh, .ref mA_then, .ref mA_was, .int m_acts, .ref mA_tape, .int m_taped, .int o_m_cursor, .int o_m_start, .int o_m_token, .int o_m_value, .int o_m_fault, .int o_m_faultAt, .int m_latest, .ref mA_strengths, .ref mA_sounds, .ref mA_stand, .int m_stands, .int m_least, .int m_ways, .ref mA_scheme, .int m_nearFoot, .int m_nearFeet, .int m_nearCost, .ref mA_isKept, .ref mA_kept, .ref mA_trace, .int m_traced])), aI K mA_fresh 207 o_m_fresh, aI K mA_tape 130 m_tape] H → va_D A [(m_a, .inr (7, [.int m_thrown, .int m_status, .ref mA_lane, .ref mA_many, .ref mA_item, .ref mA_poem, .ref mA_fresh, .ref mA_then, .ref mA_was, .int m_acts, .ref mA_tape, .int m_taped, .int o_m_cursor, .int o_m_start, .int o_m_token, .int o_m_value, .int o_m_fault, .int o_m_faultAt, .int m_latest, .ref mA_strengths, .ref mA_sounds, .ref mA_stand, .int m_stands, .int m_least, .int m_ways, .ref mA_scheme, .int m_nearFoot, .int m_nearFeet, .int m_nearCost, .ref mA_isKept, .ref mA_kept, .ref mA_trace, .int m_traced])), aI K mA_fresh 207 o_m_fresh, aI K mA_tape 130 m_tape] → va_S A s.heap H locs → W p l e rmX7_readWord s m args below meth c H locs 0 0 Q (F0 m pc ls [])) (m_cursor : Int32) (m_start : Int32) (m_token : Int32) (m_value : Int32) (m_fault : Int32) (m_faultAt : Int32) (m_fresh : Nat → Int32) (x2 : Int32) (x3 : Int32) (x4 : Int32) (x5 : Int32) (hM : mX7_readWord_b140 m_taped m_tape p1  m_cursor m_start m_token m_value m_fault m_faultAt m_fresh x2 x3 x4 x5 = some (o_m_cursor, o_m_start, o_m_token, o_m_value, o_m_fault, o_m_faultAt, o_m_fresh)) : ∀ (H : Heap) (locs : List Loc) (ls : Array Slot), va_P G vwCl [(m_a, .inr (7, [.int m_thrown, .int m_status, .ref mA_lane, .ref mA_many, .ref mA_item, .ref mA_poem, .ref mA_fresh, .ref mA_then, .ref mA_was, .int m_acts, .ref mA_tape, .int m_taped, .int m_cursor, .int m_start, .int m_token, .int m_value, .int m_fault, .int m_faultAt, .int m_latest, .ref mA_strengths, .ref mA_sounds, .ref mA_stand, .int m_stands, .int m_least, .int m_ways, .ref mA_scheme, .int m_nearFoot, .int m_nearFeet, .int m_nearCost, .ref mA_isKept, .ref mA_kept, .ref mA_trace, .int m_traced])), aI K mA_fresh 207 m_fresh, aI K mA_tape 130 m_tape] H → va_D A [(m_a, .inr (7, [.int m_thrown, .int m_status, .ref mA_lane, .ref mA_many, .ref mA_item, .ref mA_poem, .ref mA_fresh, .ref mA_then, .ref mA_was, .int m_acts, .ref mA_tape, .int m_taped, .int m_cursor, .int m_start, .int m_token, .int m_value, .int m_fault, .int m_faultAt, .int m_latest, .ref mA_strengths, .ref mA_sounds, .ref mA_stand, .int m_stands, .int m_least, .int m_ways, .ref mA_scheme, .int m_nearFoot, .int m_nearFeet, .int m_nearCost, .ref mA_isKept, .ref mA_kept, .ref mA_trace, .int m_traced])), aI K mA_fresh 207 m_fresh, aI K mA_tape 130 m_tape] → va_S A s.heap H locs → lv_has ls 6 [(0, .ref m_a), (1, .int p1), (2, .int x2), (3, .int x3), (4, .int x4), (5, .int x5)] → W p l e rmX7_readWord s m args below meth c H locs 0 0 Q (F0 m 140 ls []) := by
  obtain ⟨hx, hb, hml, hown, hts, hK, hA, hEo, hE⟩ := id C0
  intro H locs ls hP hD hS hl
  unfold mX7_readWord_b140 at hM
  refine lv_iload hx hb dX7_readWord_140 (lv_at hl 4 rfl) ?_
  refine lv_if_le (tgt := 156) hx hb dX7_readWord_142 (by decide) (fun c_5 => ?_) (fun c_5 => ?_)
  · rw [if_pos c_5] at hM
    exact wX7_readWord_b156 C0 m_a mA_lane mA_many mA_item mA_poem mA_fresh mA_then mA_was mA_tape mA_strengths mA_sounds mA_stand mA_scheme mA_isKept mA_kept mA_trace m_thrown m_status m_acts m_taped m_latest m_stands m_least m_ways m_nearFoot m_nearFeet m_nearCost m_traced m_tape p1 o_m_cursor o_m_start o_m_token o_m_value o_m_fault o_m_faultAt o_m_fresh kr  m_cursor m_start m_token m_value m_fault m_faultAt m_fresh x2 x4 hM _ _ _ hP hD hS (lv_sub hl [0, 1, 2, 4] rfl)
  · rw [if_neg c_5] at hM
    refine lv_iload hx hb dX7_readWord_145 (lv_at hl 5 rfl) ?_
    refine lv_if_ne (tgt := 156) hx hb dX7_readWord_147 (by decide) (fun c_6 => ?_) (fun c_6 => ?_)
    · rw [if_pos c_6] at hM
      exact wX7_readWord_b156 C0 m_a mA_lane mA_many mA_item mA_poem mA_fresh mA_then mA_was mA_tape mA_strengths mA_sounds mA_stand mA_scheme mA_isKept mA_kept mA_trace m_thrown m_status m_acts m_taped m_latest m_stands m_least m_ways m_nearFoot m_nearFeet m_nearCost m_traced m_tape p1 o_m_cursor o_m_start o_m_token o_m_value o_m_fault o_m_faultAt o_m_fresh kr  m_cursor m_start m_token m_value m_fault m_faultAt m_fresh x2 x4 hM _ _ _ hP hD hS (lv_sub hl [0, 1, 2, 4] rfl)
    · rw [if_neg c_6] at hM
      refine lv_aload_n hx hb dX7_readWord_150 rfl (lv_at hl 0 rfl) ?_
      refine lv_iconst (v := 4) hx hb dX7_readWord_151 (by decide) ?_
      refine lv_iload_n hx hb dX7_readWord_152 rfl (lv_at hl 3 rfl) ?_
      obtain ⟨u0_7, u1_7, hC, hM⟩ := oe2 hM
      refine cV_v (As := [.int (4 : Int32), .int x3]) (rest := []) C0 hP hD hS [0] (kX7_badAt l G K m_a mA_lane mA_many mA_item mA_poem mA_fresh mA_then mA_was mA_tape mA_strengths mA_sounds mA_stand mA_scheme mA_isKept mA_kept mA_trace m_thrown m_status m_acts m_taped m_cursor m_start m_token m_value m_fault m_faultAt m_latest m_stands m_least m_ways m_nearFoot m_nearFeet m_nearCost m_traced (4 : Int32) x3 H.size u0_7 u1_7 hC) rfl rfl rfl tb961 tb963 tp23 tb9 tb964 hdX7_badAt (va_recv hK hP (ci := 7) (q0 := 0) rfl rfl) ⟨Nat.le_of_ble_eq_true rfl, Nat.le_of_ble_eq_true rfl⟩ rfl hl.1 (Nat.le_of_ble_eq_true rfl) rfl ⟨Nat.le_refl _, Nat.le_refl _⟩ dX7_readWord_153 (fun H locs hP hD hS => ?_)
      have hP : va_P G vwCl [(m_a, .inr (7, [.int m_thrown, .int m_status, .ref mA_lane, .ref mA_many, .ref mA_item, .ref mA_poem, .ref mA_fresh, .ref mA_then, .ref mA_was, .int m_acts, .ref mA_tape, .int m_taped, .int m_cursor, .int m_start, .int m_token, .int m_value, .int u0_7, .int u1_7, .int m_latest, .ref mA_strengths, .ref mA_sounds, .ref mA_stand, .int m_stands, .int m_least, .int m_ways, .ref mA_scheme, .int m_nearFoot, .int m_nearFeet, .int m_nearCost, .ref mA_isKept, .ref mA_kept, .ref mA_trace, .int m_traced])), aI K mA_fresh 207 m_fresh, aI K mA_tape 130 m_tape] H := hP
      have hD : va_D A [(m_a, .inr (7, [.int m_thrown, .int m_status, .ref mA_lane, .ref mA_many, .ref mA_item, .ref mA_poem, .ref mA_fresh, .ref mA_then, .ref mA_was, .int m_acts, .ref mA_tape, .int m_taped, .int m_cursor, .int m_start, .int m_token, .int m_value, .int u0_7, .int u1_7, .int m_latest, .ref mA_strengths, .ref mA_sounds, .ref mA_stand, .int m_stands, .int m_least, .int m_ways, .ref mA_scheme, .int m_nearFoot, .int m_nearFeet, .int m_nearCost, .ref mA_isKept, .ref mA_kept, .ref mA_trace, .int m_traced])), aI K mA_fresh 207 m_fresh, aI K mA_tape 130 m_tape] := hD
      exact wX7_readWord_b156 C0 m_a mA_lane mA_many mA_item mA_poem mA_fresh mA_then mA_was mA_tape mA_strengths mA_sounds mA_stand mA_scheme mA_isKept mA_kept mA_trace m_thrown m_status m_acts m_taped m_latest m_stands m_least m_ways m_nearFoot m_nearFeet m_nearCost m_traced m_tape p1 o_m_cursor o_m_start o_m_token o_m_value o_m_fault o_m_faultAt o_m_fresh kr  m_cursor m_start m_token m_value u0_7 u1_7 m_fresh x2 x4 hM _ _ _ hP hD hS (lv_sub hl [0, 1, 2, 4] rfl)
set_option maxHeartbeats 4000000 in
set_option maxRecDepth 100000 in
theorem wX7_readWord_b65 {p : Program} {l : Launch} {e : Env} {s : State} {m : MethodId} {args : Array Value} {below : List Frame} {meth : Method} {c : Code} {Q : State → Prop} {G : va_G} {K : Nat → ClassId} {A : Nat → Prop} (C0 : CX p s m args c cX7_readWord 6 RX7 G K E0 A) (m_a mA_lane mA_many mA_item mA_poem mA_fresh mA_then mA_was mA_tape mA_strengths mA_sounds mA_stand mA_scheme mA_isKept mA_kept mA_trace : Nat) (m_thrown : Int32) (m_status : Int32) (m_acts : Int32) (m_taped : Int32) (m_latest : Int32) (m_stands : Int32) (m_least : Int32) (m_ways : Int32) (m_nearFoot : Int32) (m_nearFeet : Int32) (m_nearCost : Int32) (m_traced : Int32) (m_tape : Nat → Int32) (p1 : Int32) (o_m_cursor : Int32) (o_m_start : Int32) (o_m_token : Int32) (o_m_value : Int32) (o_m_fault : Int32) (o_m_faultAt : Int32) (o_m_fresh : Nat → Int32) (kr : ∀ (H : Heap) (locs : List Loc) (ls : Array Slot) (pc : Nat), decode cX7_readWord pc = .ok (.return_, 1) → va_P G vwCl [(m_a, .inr (7, [.int m_thrown, .int m_status, .ref mA_lane, .ref mA_many, .ref mA_item, .ref mA_poem, .ref mA_fresh, .ref mA_then, .ref mA_was, .int m_acts, .ref mA_tape, .int m_taped, .int o_m_cursor, .int o_m_start, .int o_m_token, .int o_m_value, .int o_m_fault, .int o_m_faultAt, .int m_latest, .ref mA_strengths, .ref mA_sounds, .ref mA_stand, .int m_stands, .int m_least, .int m_ways, .ref mA_scheme, .int m_nearFoot, .int m_nearFeet, .int m_nearCost, .ref mA_isKept, .ref mA_kept, .ref mA_trace, .int m_traced])), aI K mA_fresh 207 o_m_fresh, aI K mA_tape 130 m_tape] H → va_D A [(m_a, .inr (7, [.int m_thrown, .int m_status, .ref mA_lane, .ref mA_many, .ref mA_item, .ref mA_poem, .ref mA_fresh, .ref mA_then, .ref mA_was, .int m_acts, .ref mA_tape, .int m_taped, .int o_m_cursor, .int o_m_start, .int o_m_token, .int o_m_value, .int o_m_fault, .int o_m_faultAt, .int m_latest, .ref mA_strengths, .ref mA_sounds, .ref mA_stand, .int m_stands, .int m_least, .int m_ways, .ref mA_scheme, .int m_nearFoot, .int m_nearFeet, .int m_nearCost, .ref mA_isKept, .ref mA_kept, .ref mA_trace, .int m_traced])), aI K mA_fresh 207 o_m_fresh, aI K mA_tape 130 m_tape] → va_S A s.heap H locs → W p l e rmX7_readWord s m args below meth c H locs 0 0 Q (F0 m pc ls [])) (n : Nat) : ∀ (m_cursor : Int32) (m_start : Int32) (m_token : Int32) (m_value : Int32) (m_fault : Int32) (m_faultAt : Int32) (m_fresh : Nat → Int32) (x2 : Int32) (x3 : Int32) (x4 : Int32) (x5 : Int32), mX7_readWord_b65 m_taped m_tape p1  n m_cursor m_start m_token m_value m_fault m_faultAt m_fresh x2 x3 x4 x5 = some (o_m_cursor, o_m_start, o_m_token, o_m_value, o_m_fault, o_m_faultAt, o_m_fresh) → ∀ (H : Heap) (locs : List Loc) (ls : Array Slot), va_P G vwCl [(m_a, .inr (7, [.int m_thrown, .int m_status, .ref mA_lane, .ref mA_many, .ref mA_item, .ref mA_poem, .ref mA_fresh, .ref mA_then, .ref mA_was, .int m_acts, .ref mA_tape, .int m_taped, .int m_cursor, .int m_start, .int m_token, .int m_value, .int m_fault, .int m_faultAt, .int m_latest, .ref mA_strengths, .ref mA_sounds, .ref mA_stand, .int m_stands, .int m_least, .int m_ways, .ref mA_scheme, .int m_nearFoot, .int m_nearFeet, .int m_nearCost, .ref mA_isKept, .ref mA_kept, .ref mA_trace, .int m_traced])), aI K mA_fresh 207 m_fresh, aI K mA_tape 130 m_tape] H → va_D A [(m_a, .inr (7, [.int m_thrown, .int m_status, .ref mA_lane, .ref mA_many, .ref mA_item, .ref mA_poem, .ref mA_fresh, .ref mA_then, .ref mA_was, .int m_acts, .ref mA_tape, .int m_taped, .int m_cursor, .int m_start, .int m_token, .int m_value, .int m_fault, .int m_faultAt, .int m_latest, .ref mA_strengths, .ref mA_sounds, .ref mA_stand, .int m_stands, .int m_least, .int m_ways, .ref mA_scheme, .int m_nearFoot, .int m_nearFeet, .int m_nearCost, .ref mA_isKept, .ref mA_kept, .ref mA_trace, .int m_traced])), aI K mA_fresh 207 m_fresh, aI K mA_tape 130 m_tape] → va_S A s.heap H locs → lv_has ls 6 [(0, .ref m_a), (1, .int p1), (2, .int x2), (3, .int x3), (4, .int x4), (5, .int x5)] → W p l e rmX7_readWord s m args below meth c H locs 0 0 Q (F0 m 65 ls []) := by
  obtain ⟨hx, hb, hml, hown, hts, hK, hA, hEo, hE⟩ := id C0
  induction n with
  | zero =>
    intro m_cursor m_start m_token m_value m_fault m_faultAt m_fresh x2 x3 x4 x5 hM
    cases hM
  | succ n ih =>
    intro m_cursor m_start m_token m_value m_fault m_faultAt m_fresh x2 x3 x4 x5 hM H locs ls hP hD hS hl
    rw [mX7_readWord_b65] at hM
    refine lv_aload_n hx hb dX7_readWord_65 rfl (lv_at hl 0 rfl) ?_
    refine va_get (D := G) (ci := 7) (v := .int m_fault) (C := RX7) (T := TX7) (N := 33) hx hb hts inX7 hown hK hP 0 rfl rfl 16 (by decide) (hts _ tb784) (fun _ h9 => h9) rfl dX7_readWord_66 ?_
    refine lv_if_ne (tgt := 140) hx hb dX7_readWord_69 (by decide) (fun c_8 => ?_) (fun c_8 => ?_)
    · rw [if_pos c_8] at hM
      exact wX7_readWord_b140 C0 m_a mA_lane mA_many mA_item mA_poem mA_fresh mA_then mA_was mA_tape mA_strengths mA_sounds mA_stand mA_scheme mA_isKept mA_kept mA_trace m_thrown m_status m_acts m_taped m_latest m_stands m_least m_ways m_nearFoot m_nearFeet m_nearCost m_traced m_tape p1 o_m_cursor o_m_start o_m_token o_m_value o_m_fault o_m_faultAt o_m_fresh kr  m_cursor m_start m_token m_value m_fault m_faultAt m_fresh x2 x3 x4 x5 hM _ _ _ hP hD hS (lv_sub hl [0, 1, 2, 3, 4, 5] rfl)
    · rw [if_neg c_8] at hM
      refine lv_aload_n hx hb dX7_readWord_72 rfl (lv_at hl 0 rfl) ?_
      refine va_get (D := G) (ci := 7) (v := .int m_token) (C := RX7) (T := TX7) (N := 33) hx hb hts inX7 hown hK hP 0 rfl rfl 14 (by decide) (hts _ tb782) (fun _ h9 => h9) rfl dX7_readWord_73 ?_
      refine lv_iconst (v := 2) hx hb dX7_readWord_76 (by decide) ?_
      refine lv_icmp_ne (tgt := 140) hx hb dX7_readWord_77 (by decide) (fun c_9 => ?_) (fun c_9 => ?_)
      · rw [if_pos c_9] at hM
        exact wX7_readWord_b140 C0 m_a mA_lane mA_many mA_item mA_poem mA_fresh mA_then mA_was mA_tape mA_strengths mA_sounds mA_stand mA_scheme mA_isKept mA_kept mA_trace m_thrown m_status m_acts m_taped m_latest m_stands m_least m_ways m_nearFoot m_nearFeet m_nearCost m_traced m_tape p1 o_m_cursor o_m_start o_m_token o_m_value o_m_fault o_m_faultAt o_m_fresh kr  m_cursor m_start m_token m_value m_fault m_faultAt m_fresh x2 x3 x4 x5 hM _ _ _ hP hD hS (lv_sub hl [0, 1, 2, 3, 4, 5] rfl)
      · rw [if_neg c_9] at hM
        refine lv_iload hx hb dX7_readWord_80 (lv_at hl 4 rfl) ?_
        refine lv_bipush (v := 8) hx hb dX7_readWord_82 (by decide) ?_
        refine lv_icmp_ge (tgt := 140) hx hb dX7_readWord_84 (by decide) (fun c_10 => ?_) (fun c_10 => ?_)
        · rw [if_pos c_10] at hM
          exact wX7_readWord_b140 C0 m_a mA_lane mA_many mA_item mA_poem mA_fresh mA_then mA_was mA_tape mA_strengths mA_sounds mA_stand mA_scheme mA_isKept mA_kept mA_trace m_thrown m_status m_acts m_taped m_latest m_stands m_least m_ways m_nearFoot m_nearFeet m_nearCost m_traced m_tape p1 o_m_cursor o_m_start o_m_token o_m_value o_m_fault o_m_faultAt o_m_fresh kr  m_cursor m_start m_token m_value m_fault m_faultAt m_fresh x2 x3 x4 x5 hM _ _ _ hP hD hS (lv_sub hl [0, 1, 2, 3, 4, 5] rfl)
        · rw [if_neg c_10] at hM
          refine lv_aload_n hx hb dX7_readWord_87 rfl (lv_at hl 0 rfl) ?_
          refine va_get (D := G) (ci := 7) (v := .ref mA_fresh) (C := RX7) (T := TX7) (N := 33) hx hb hts inX7 hown hK hP 0 rfl rfl 6 (by decide) (hts _ tb774) (fun _ h9 => h9) rfl dX7_readWord_88 ?_
          refine lv_iload_n hx hb dX7_readWord_91 rfl (lv_at hl 2 rfl) ?_
          refine lv_iconst (v := 2) hx hb dX7_readWord_92 (by decide) ?_
          refine lv_iadd hx hb dX7_readWord_93 ?_
          refine lv_iload hx hb dX7_readWord_94 (lv_at hl 4 rfl) ?_
          refine lv_iadd hx hb dX7_readWord_96 ?_
          refine lv_aload_n hx hb dX7_readWord_97 rfl (lv_at hl 0 rfl) ?_
          refine va_get (D := G) (ci := 7) (v := .int m_value) (C := RX7) (T := TX7) (N := 33) hx hb hts inX7 hown hK hP 0 rfl rfl 15 (by decide) (hts _ tb783) (fun _ h9 => h9) rfl dX7_readWord_98 ?_
          refine lv_bipush (v := 97) hx hb dX7_readWord_101 (by decide) ?_
          refine lv_isub hx hb dX7_readWord_103 ?_
          obtain ⟨g_11, hM⟩ := ng hM
          refine va_iast hx hb hK hP hD hS 1 0 rfl rfl g_11 dX7_readWord_104 (fun H locs hP hD hS => ?_)
          have hP : va_P G vwCl [(m_a, .inr (7, [.int m_thrown, .int m_status, .ref mA_lane, .ref mA_many, .ref mA_item, .ref mA_poem, .ref mA_fresh, .ref mA_then, .ref mA_was, .int m_acts, .ref mA_tape, .int m_taped, .int m_cursor, .int m_start, .int m_token, .int m_value, .int m_fault, .int m_faultAt, .int m_latest, .ref mA_strengths, .ref mA_sounds, .ref mA_stand, .int m_stands, .int m_least, .int m_ways, .ref mA_scheme, .int m_nearFoot, .int m_nearFeet, .int m_nearCost, .ref mA_isKept, .ref mA_kept, .ref mA_trace, .int m_traced])), aI K mA_fresh 207 (upd m_fresh ((x2 + (2 : Int32)) + x4).toNatClampNeg (m_value - (97 : Int32))), aI K mA_tape 130 m_tape] H := hP
          have hD : va_D A [(m_a, .inr (7, [.int m_thrown, .int m_status, .ref mA_lane, .ref mA_many, .ref mA_item, .ref mA_poem, .ref mA_fresh, .ref mA_then, .ref mA_was, .int m_acts, .ref mA_tape, .int m_taped, .int m_cursor, .int m_start, .int m_token, .int m_value, .int m_fault, .int m_faultAt, .int m_latest, .ref mA_strengths, .ref mA_sounds, .ref mA_stand, .int m_stands, .int m_least, .int m_ways, .ref mA_scheme, .int m_nearFoot, .int m_nearFeet, .int m_nearCost, .ref mA_isKept, .ref mA_kept, .ref mA_trace, .int m_traced])), aI K mA_fresh 207 (upd m_fresh ((x2 + (2 : Int32)) + x4).toNatClampNeg (m_value - (97 : Int32))), aI K mA_tape 130 m_tape] := hD
          refine lv_iload hx hb dX7_readWord_105 (lv_at hl 5 rfl) ?_
          refine lv_if_ne (tgt := 123) hx hb dX7_readWord_107 (by decide) (fun c_12 => ?_) (fun c_12 => ?_)
          · rw [if_pos c_12] at hM
            exact wX7_readWord_b123 C0 m_a mA_lane mA_many mA_item mA_poem mA_fresh mA_then mA_was mA_tape mA_strengths mA_sounds mA_stand mA_scheme mA_isKept mA_kept mA_trace m_thrown m_status m_acts m_taped m_latest m_stands m_least m_ways m_nearFoot m_nearFeet m_nearCost m_traced m_tape p1 o_m_cursor o_m_start o_m_token o_m_value o_m_fault o_m_faultAt o_m_fresh kr (mX7_readWord_b65 m_taped m_tape p1  n) ih m_cursor m_start m_token m_value m_fault m_faultAt (upd m_fresh ((x2 + (2 : Int32)) + x4).toNatClampNeg (m_value - (97 : Int32))) x2 x3 x4 hM _ _ _ hP hD hS (lv_sub hl [0, 1, 2, 3, 4] rfl)
          · rw [if_neg c_12] at hM
            refine lv_aload_n hx hb dX7_readWord_110 rfl (lv_at hl 0 rfl) ?_
            refine va_get (D := G) (ci := 7) (v := .int m_value) (C := RX7) (T := TX7) (N := 33) hx hb hts inX7 hown hK hP 0 rfl rfl 15 (by decide) (hts _ tb783) (fun _ h9 => h9) rfl dX7_readWord_111 ?_
            refine lv_bipush (v := 97) hx hb dX7_readWord_114 (by decide) ?_
            refine lv_isub hx hb dX7_readWord_116 ?_
            obtain ⟨r_13, hC, hM⟩ := oe1 hM
            refine cS_i (As := [.int (m_value - (97 : Int32))]) (rest := []) C0 hP hD hS [] (kX7_isVowel l G K (m_value - (97 : Int32)) H.size r_13 hC) rfl rfl rfl tb958 tb959 tb9 tb960 hdX7_isVowel ⟨Nat.le_of_ble_eq_true rfl, Nat.le_of_ble_eq_true rfl⟩ rfl hl.1 (Nat.le_of_ble_eq_true rfl) rfl ⟨Nat.le_refl _, Nat.le_refl _⟩ dX7_readWord_117 (fun H locs hP hD hS => ?_)
            have hP : va_P G vwCl [(m_a, .inr (7, [.int m_thrown, .int m_status, .ref mA_lane, .ref mA_many, .ref mA_item, .ref mA_poem, .ref mA_fresh, .ref mA_then, .ref mA_was, .int m_acts, .ref mA_tape, .int m_taped, .int m_cursor, .int m_start, .int m_token, .int m_value, .int m_fault, .int m_faultAt, .int m_latest, .ref mA_strengths, .ref mA_sounds, .ref mA_stand, .int m_stands, .int m_least, .int m_ways, .ref mA_scheme, .int m_nearFoot, .int m_nearFeet, .int m_nearCost, .ref mA_isKept, .ref mA_kept, .ref mA_trace, .int m_traced])), aI K mA_fresh 207 (upd m_fresh ((x2 + (2 : Int32)) + x4).toNatClampNeg (m_value - (97 : Int32))), aI K mA_tape 130 m_tape] H := hP
            have hD : va_D A [(m_a, .inr (7, [.int m_thrown, .int m_status, .ref mA_lane, .ref mA_many, .ref mA_item, .ref mA_poem, .ref mA_fresh, .ref mA_then, .ref mA_was, .int m_acts, .ref mA_tape, .int m_taped, .int m_cursor, .int m_start, .int m_token, .int m_value, .int m_fault, .int m_faultAt, .int m_latest, .ref mA_strengths, .ref mA_sounds, .ref mA_stand, .int m_stands, .int m_least, .int m_ways, .ref mA_scheme, .int m_nearFoot, .int m_nearFeet, .int m_nearCost, .ref mA_isKept, .ref mA_kept, .ref mA_trace, .int m_traced])), aI K mA_fresh 207 (upd m_fresh ((x2 + (2 : Int32)) + x4).toNatClampNeg (m_value - (97 : Int32))), aI K mA_tape 130 m_tape] := hD
            refine lv_if_eq (tgt := 127) hx hb dX7_readWord_120 (by decide) (fun c_14 => ?_) (fun c_14 => ?_)
            · rw [if_pos c_14] at hM
              refine lv_iconst (v := 0) hx hb dX7_readWord_127 (by decide) ?_
              exact wX7_readWord_b128 C0 m_a mA_lane mA_many mA_item mA_poem mA_fresh mA_then mA_was mA_tape mA_strengths mA_sounds mA_stand mA_scheme mA_isKept mA_kept mA_trace m_thrown m_status m_acts m_taped m_latest m_stands m_least m_ways m_nearFoot m_nearFeet m_nearCost m_traced m_tape p1 o_m_cursor o_m_start o_m_token o_m_value o_m_fault o_m_faultAt o_m_fresh kr (mX7_readWord_b65 m_taped m_tape p1  n) ih m_cursor m_start m_token m_value m_fault m_faultAt (upd m_fresh ((x2 + (2 : Int32)) + x4).toNatClampNeg (m_value - (97 : Int32))) x2 x3 x4 (0 : Int32) hM _ _ _ hP hD hS (lv_sub hl [0, 1, 2, 3, 4] rfl)
            · rw [if_neg c_14] at hM
              exact wX7_readWord_b123 C0 m_a mA_lane mA_many mA_item mA_poem mA_fresh mA_then mA_was mA_tape mA_strengths mA_sounds mA_stand mA_scheme mA_isKept mA_kept mA_trace m_thrown m_status m_acts m_taped m_latest m_stands m_least m_ways m_nearFoot m_nearFeet m_nearCost m_traced m_tape p1 o_m_cursor o_m_start o_m_token o_m_value o_m_fault o_m_faultAt o_m_fresh kr (mX7_readWord_b65 m_taped m_tape p1  n) ih m_cursor m_start m_token m_value m_fault m_faultAt (upd m_fresh ((x2 + (2 : Int32)) + x4).toNatClampNeg (m_value - (97 : Int32))) x2 x3 x4 hM _ _ _ hP hD hS (lv_sub hl [0, 1, 2, 3, 4] rfl)
set_option maxHeartbeats 4000000 in
set_option maxRecDepth 100000 in
theorem wX7_readWord_b0 {p : Program} {l : Launch} {e : Env} {s : State} {m : MethodId} {args : Array Value} {below : List Frame} {meth : Method} {c : Code} {Q : State → Prop} {G : va_G} {K : Nat → ClassId} {A : Nat → Prop} (C0 : CX p s m args c cX7_readWord 6 RX7 G K E0 A) (m_a mA_lane mA_many mA_item mA_poem mA_fresh mA_then mA_was mA_tape mA_strengths mA_sounds mA_stand mA_scheme mA_isKept mA_kept mA_trace : Nat) (m_thrown : Int32) (m_status : Int32) (m_acts : Int32) (m_taped : Int32) (m_latest : Int32) (m_stands : Int32) (m_least : Int32) (m_ways : Int32) (m_nearFoot : Int32) (m_nearFeet : Int32) (m_nearCost : Int32) (m_traced : Int32) (m_tape : Nat → Int32) (p1 : Int32) (o_m_cursor : Int32) (o_m_start : Int32) (o_m_token : Int32) (o_m_value : Int32) (o_m_fault : Int32) (o_m_faultAt : Int32) (o_m_fresh : Nat → Int32) (kr : ∀ (H : Heap) (locs : List Loc) (ls : Array Slot) (pc : Nat), decode cX7_readWord pc = .ok (.return_, 1) → va_P G vwCl [(m_a, .inr (7, [.int m_thrown, .int m_status, .ref mA_lane, .ref mA_many, .ref mA_item, .ref mA_poem, .ref mA_fresh, .ref mA_then, .ref mA_was, .int m_acts, .ref mA_tape, .int m_taped, .int o_m_cursor, .int o_m_start, .int o_m_token, .int o_m_value, .int o_m_fault, .int o_m_faultAt, .int m_latest, .ref mA_strengths, .ref mA_sounds, .ref mA_stand, .int m_stands, .int m_least, .int m_ways, .ref mA_scheme, .int m_nearFoot, .int m_nearFeet, .int m_nearCost, .ref mA_isKept, .ref mA_kept, .ref mA_trace, .int m_traced])), aI K mA_fresh 207 o_m_fresh, aI K mA_tape 130 m_tape] H → va_D A [(m_a, .inr (7, [.int m_thrown, .int m_status, .ref mA_lane, .ref mA_many, .ref mA_item, .ref mA_poem, .ref mA_fresh, .ref mA_then, .ref mA_was, .int m_acts, .ref mA_tape, .int m_taped, .int o_m_cursor, .int o_m_start, .int o_m_token, .int o_m_value, .int o_m_fault, .int o_m_faultAt, .int m_latest, .ref mA_strengths, .ref mA_sounds, .ref mA_stand, .int m_stands, .int m_least, .int m_ways, .ref mA_scheme, .int m_nearFoot, .int m_nearFeet, .int m_nearCost, .ref mA_isKept, .ref mA_kept, .ref mA_trace, .int m_traced])), aI K mA_fresh 207 o_m_fresh, aI K mA_tape 130 m_tape] → va_S A s.heap H locs → W p l e rmX7_readWord s m args below meth c H locs 0 0 Q (F0 m pc ls [])) (m_cursor : Int32) (m_start : Int32) (m_token : Int32) (m_value : Int32) (m_fault : Int32) (m_faultAt : Int32) (m_fresh : Nat → Int32) (hM : mX7_readWord_b0 m_taped m_tape p1  m_cursor m_start m_token m_value m_fault m_faultAt m_fresh = some (o_m_cursor, o_m_start, o_m_token, o_m_value, o_m_fault, o_m_faultAt, o_m_fresh)) : ∀ (H : Heap) (locs : List Loc) (ls : Array Slot), va_P G vwCl [(m_a, .inr (7, [.int m_thrown, .int m_status, .ref mA_lane, .ref mA_many, .ref mA_item, .ref mA_poem, .ref mA_fresh, .ref mA_then, .ref mA_was, .int m_acts, .ref mA_tape, .int m_taped, .int m_cursor, .int m_start, .int m_token, .int m_value, .int m_fault, .int m_faultAt, .int m_latest, .ref mA_strengths, .ref mA_sounds, .ref mA_stand, .int m_stands, .int m_least, .int m_ways, .ref mA_scheme, .int m_nearFoot, .int m_nearFeet, .int m_nearCost, .ref mA_isKept, .ref mA_kept, .ref mA_trace, .int m_traced])), aI K mA_fresh 207 m_fresh, aI K mA_tape 130 m_tape] H → va_D A [(m_a, .inr (7, [.int m_thrown, .int m_status, .ref mA_lane, .ref mA_many, .ref mA_item, .ref mA_poem, .ref mA_fresh, .ref mA_then, .ref mA_was, .int m_acts, .ref mA_tape, .int m_taped, .int m_cursor, .int m_start, .int m_token, .int m_value, .int m_fault, .int m_faultAt, .int m_latest, .ref mA_strengths, .ref mA_sounds, .ref mA_stand, .int m_stands, .int m_least, .int m_ways, .ref mA_scheme, .int m_nearFoot, .int m_nearFeet, .int m_nearCost, .ref mA_isKept, .ref mA_kept, .ref mA_trace, .int m_traced])), aI K mA_fresh 207 m_fresh, aI K mA_tape 130 m_tape] → va_S A s.heap H locs → lv_has ls 6 [(0, .ref m_a), (1, .int p1)] → W p l e rmX7_readWord s m args below meth c H locs 0 0 Q (F0 m 0 ls []) := by
  obtain ⟨hx, hb, hml, hown, hts, hK, hA, hEo, hE⟩ := id C0
  intro H locs ls hP hD hS hl
  unfold mX7_readWord_b0 at hM
  refine lv_aload_n hx hb dX7_readWord_0 rfl (lv_at hl 0 rfl) ?_
  refine va_get (D := G) (ci := 7) (v := .int m_fault) (C := RX7) (T := TX7) (N := 33) hx hb hts inX7 hown hK hP 0 rfl rfl 16 (by decide) (hts _ tb784) (fun _ h9 => h9) rfl dX7_readWord_1 ?_
  refine lv_if_le (tgt := 8) hx hb dX7_readWord_4 (by decide) (fun c_15 => ?_) (fun c_15 => ?_)
  · rw [if_pos c_15] at hM
    refine lv_bipush (v := 7) hx hb dX7_readWord_8 (by decide) ?_
    refine lv_bipush (v := 10) hx hb dX7_readWord_10 (by decide) ?_
    refine lv_aload_n hx hb dX7_readWord_12 rfl (lv_at hl 0 rfl) ?_
    refine va_get (D := G) (ci := 7) (v := .ref mA_fresh) (C := RX7) (T := TX7) (N := 33) hx hb hts inX7 hown hK hP 0 rfl rfl 6 (by decide) (hts _ tb774) (fun _ h9 => h9) rfl dX7_readWord_13 ?_
    obtain ⟨r_16, hC, hM⟩ := oe1 hM
    refine cS_i (As := [.ref mA_fresh]) (rest := [.int (10 : Int32), .int (7 : Int32)]) C0 hP hD hS [1] (kX7_wordsOf l G K mA_fresh m_fresh H.size r_16 hC) rfl rfl rfl tb955 tb956 tb9 tb957 hdX7_wordsOf ⟨Nat.le_of_ble_eq_true rfl, Nat.le_of_ble_eq_true rfl⟩ rfl hl.1 (Nat.le_of_ble_eq_true rfl) rfl ⟨Nat.le_refl _, Nat.le_refl _⟩ dX7_readWord_16 (fun H locs hP hD hS => ?_)
    have hP : va_P G vwCl [(m_a, .inr (7, [.int m_thrown, .int m_status, .ref mA_lane, .ref mA_many, .ref mA_item, .ref mA_poem, .ref mA_fresh, .ref mA_then, .ref mA_was, .int m_acts, .ref mA_tape, .int m_taped, .int m_cursor, .int m_start, .int m_token, .int m_value, .int m_fault, .int m_faultAt, .int m_latest, .ref mA_strengths, .ref mA_sounds, .ref mA_stand, .int m_stands, .int m_least, .int m_ways, .ref mA_scheme, .int m_nearFoot, .int m_nearFeet, .int m_nearCost, .ref mA_isKept, .ref mA_kept, .ref mA_trace, .int m_traced])), aI K mA_fresh 207 m_fresh, aI K mA_tape 130 m_tape] H := hP
    have hD : va_D A [(m_a, .inr (7, [.int m_thrown, .int m_status, .ref mA_lane, .ref mA_many, .ref mA_item, .ref mA_poem, .ref mA_fresh, .ref mA_then, .ref mA_was, .int m_acts, .ref mA_tape, .int m_taped, .int m_cursor, .int m_start, .int m_token, .int m_value, .int m_fault, .int m_faultAt, .int m_latest, .ref mA_strengths, .ref mA_sounds, .ref mA_stand, .int m_stands, .int m_least, .int m_ways, .ref mA_scheme, .int m_nearFoot, .int m_nearFeet, .int m_nearCost, .ref mA_isKept, .ref mA_kept, .ref mA_trace, .int m_traced])), aI K mA_fresh 207 m_fresh, aI K mA_tape 130 m_tape] := hD
    refine lv_imul hx hb dX7_readWord_19 ?_
    refine lv_iadd hx hb dX7_readWord_20 ?_
    refine lv_istore_n (lv' := [(2, .int ((7 : Int32) + ((10 : Int32) * r_16))), (0, .ref m_a), (1, .int p1)]) hx hb dX7_readWord_21 rfl hl (by decide) rfl (fun ls hl => ?_)
    refine lv_aload_n hx hb dX7_readWord_22 rfl (lv_at hl 1 rfl) ?_
    refine va_get (D := G) (ci := 7) (v := .ref mA_fresh) (C := RX7) (T := TX7) (N := 33) hx hb hts inX7 hown hK hP 0 rfl rfl 6 (by decide) (hts _ tb774) (fun _ h9 => h9) rfl dX7_readWord_23 ?_
    refine lv_iload_n hx hb dX7_readWord_26 rfl (lv_at hl 0 rfl) ?_
    refine lv_aload_n hx hb dX7_readWord_27 rfl (lv_at hl 1 rfl) ?_
    refine lv_iconst (v := 1) hx hb dX7_readWord_28 (by decide) ?_
    refine lv_iconst (v := 5) hx hb dX7_readWord_29 (by decide) ?_
    obtain ⟨r_17, u0_17, u1_17, u2_17, u3_17, u4_17, u5_17, hC, hM⟩ := oe7 hM
    refine cV_i (As := [.int (1 : Int32), .int (5 : Int32)]) (rest := [.int ((7 : Int32) + ((10 : Int32) * r_16)), .ref mA_fresh]) C0 hP hD hS [0, 2] (kX7_number l G K m_a mA_lane mA_many mA_item mA_poem mA_fresh mA_then mA_was mA_tape mA_strengths mA_sounds mA_stand mA_scheme mA_isKept mA_kept mA_trace m_thrown m_status m_acts m_taped m_cursor m_start m_token m_value m_fault m_faultAt m_latest m_stands m_least m_ways m_nearFoot m_nearFeet m_nearCost m_traced m_tape (1 : Int32) (5 : Int32) H.size r_17 u0_17 u1_17 u2_17 u3_17 u4_17 u5_17 hC) rfl rfl rfl tb938 tb940 tp19 tb9 tb941 hdX7_number (va_recv hK hP (ci := 7) (q0 := 0) rfl rfl) ⟨Nat.le_of_ble_eq_true rfl, Nat.le_of_ble_eq_true rfl⟩ rfl hl.1 (Nat.le_of_ble_eq_true rfl) rfl ⟨Nat.le_refl _, Nat.le_refl _⟩ dX7_readWord_30 (fun H locs hP hD hS => ?_)
    have hP : va_P G vwCl [(m_a, .inr (7, [.int m_thrown, .int m_status, .ref mA_lane, .ref mA_many, .ref mA_item, .ref mA_poem, .ref mA_fresh, .ref mA_then, .ref mA_was, .int m_acts, .ref mA_tape, .int m_taped, .int u0_17, .int u1_17, .int u2_17, .int u3_17, .int u4_17, .int u5_17, .int m_latest, .ref mA_strengths, .ref mA_sounds, .ref mA_stand, .int m_stands, .int m_least, .int m_ways, .ref mA_scheme, .int m_nearFoot, .int m_nearFeet, .int m_nearCost, .ref mA_isKept, .ref mA_kept, .ref mA_trace, .int m_traced])), aI K mA_fresh 207 m_fresh, aI K mA_tape 130 m_tape] H := hP
    have hD : va_D A [(m_a, .inr (7, [.int m_thrown, .int m_status, .ref mA_lane, .ref mA_many, .ref mA_item, .ref mA_poem, .ref mA_fresh, .ref mA_then, .ref mA_was, .int m_acts, .ref mA_tape, .int m_taped, .int u0_17, .int u1_17, .int u2_17, .int u3_17, .int u4_17, .int u5_17, .int m_latest, .ref mA_strengths, .ref mA_sounds, .ref mA_stand, .int m_stands, .int m_least, .int m_ways, .ref mA_scheme, .int m_nearFoot, .int m_nearFeet, .int m_nearCost, .ref mA_isKept, .ref mA_kept, .ref mA_trace, .int m_traced])), aI K mA_fresh 207 m_fresh, aI K mA_tape 130 m_tape] := hD
    obtain ⟨g_18, hM⟩ := ng hM
    refine va_iast hx hb hK hP hD hS 1 0 rfl rfl g_18 dX7_readWord_33 (fun H locs hP hD hS => ?_)
    have hP : va_P G vwCl [(m_a, .inr (7, [.int m_thrown, .int m_status, .ref mA_lane, .ref mA_many, .ref mA_item, .ref mA_poem, .ref mA_fresh, .ref mA_then, .ref mA_was, .int m_acts, .ref mA_tape, .int m_taped, .int u0_17, .int u1_17, .int u2_17, .int u3_17, .int u4_17, .int u5_17, .int m_latest, .ref mA_strengths, .ref mA_sounds, .ref mA_stand, .int m_stands, .int m_least, .int m_ways, .ref mA_scheme, .int m_nearFoot, .int m_nearFeet, .int m_nearCost, .ref mA_isKept, .ref mA_kept, .ref mA_trace, .int m_traced])), aI K mA_fresh 207 (upd m_fresh ((7 : Int32) + ((10 : Int32) * r_16)).toNatClampNeg r_17), aI K mA_tape 130 m_tape] H := hP
    have hD : va_D A [(m_a, .inr (7, [.int m_thrown, .int m_status, .ref mA_lane, .ref mA_many, .ref mA_item, .ref mA_poem, .ref mA_fresh, .ref mA_then, .ref mA_was, .int m_acts, .ref mA_tape, .int m_taped, .int u0_17, .int u1_17, .int u2_17, .int u3_17, .int u4_17, .int u5_17, .int m_latest, .ref mA_strengths, .ref mA_sounds, .ref mA_stand, .int m_stands, .int m_least, .int m_ways, .ref mA_scheme, .int m_nearFoot, .int m_nearFeet, .int m_nearCost, .ref mA_isKept, .ref mA_kept, .ref mA_trace, .int m_traced])), aI K mA_fresh 207 (upd m_fresh ((7 : Int32) + ((10 : Int32) * r_16)).toNatClampNeg r_17), aI K mA_tape 130 m_tape] := hD
    refine lv_aload_n hx hb dX7_readWord_34 rfl (lv_at hl 1 rfl) ?_
    refine va_get (D := G) (ci := 7) (v := .int u1_17) (C := RX7) (T := TX7) (N := 33) hx hb hts inX7 hown hK hP 0 rfl rfl 13 (by decide) (hts _ tb781) (fun _ h9 => h9) rfl dX7_readWord_35 ?_
    refine lv_istore_n (lv' := [(3, .int u1_17), (2, .int ((7 : Int32) + ((10 : Int32) * r_16))), (0, .ref m_a), (1, .int p1)]) hx hb dX7_readWord_38 rfl hl (by decide) rfl (fun ls hl => ?_)
    refine lv_iconst (v := 0) hx hb dX7_readWord_39 (by decide) ?_
    refine lv_istore (lv' := [(4, .int (0 : Int32)), (3, .int u1_17), (2, .int ((7 : Int32) + ((10 : Int32) * r_16))), (0, .ref m_a), (1, .int p1)]) hx hb dX7_readWord_40 hl (by decide) rfl (fun ls hl => ?_)
    refine lv_iconst (v := 0) hx hb dX7_readWord_42 (by decide) ?_
    refine lv_istore (lv' := [(5, .int (0 : Int32)), (4, .int (0 : Int32)), (3, .int u1_17), (2, .int ((7 : Int32) + ((10 : Int32) * r_16))), (0, .ref m_a), (1, .int p1)]) hx hb dX7_readWord_43 hl (by decide) rfl (fun ls hl => ?_)
    refine lv_aload_n hx hb dX7_readWord_45 rfl (lv_at hl 4 rfl) ?_
    refine va_get (D := G) (ci := 7) (v := .int u4_17) (C := RX7) (T := TX7) (N := 33) hx hb hts inX7 hown hK hP 0 rfl rfl 16 (by decide) (hts _ tb784) (fun _ h9 => h9) rfl dX7_readWord_46 ?_
    refine lv_if_ne (tgt := 65) hx hb dX7_readWord_49 (by decide) (fun c_19 => ?_) (fun c_19 => ?_)
    · rw [if_pos c_19] at hM
      exact wX7_readWord_b65 C0 m_a mA_lane mA_many mA_item mA_poem mA_fresh mA_then mA_was mA_tape mA_strengths mA_sounds mA_stand mA_scheme mA_isKept mA_kept mA_trace m_thrown m_status m_acts m_taped m_latest m_stands m_least m_ways m_nearFoot m_nearFeet m_nearCost m_traced m_tape p1 o_m_cursor o_m_start o_m_token o_m_value o_m_fault o_m_faultAt o_m_fresh kr  FU u0_17 u1_17 u2_17 u3_17 u4_17 u5_17 (upd m_fresh ((7 : Int32) + ((10 : Int32) * r_16)).toNatClampNeg r_17) ((7 : Int32) + ((10 : Int32) * r_16)) u1_17 (0 : Int32) (0 : Int32) hM _ _ _ hP hD hS (lv_sub hl [4, 5, 3, 2, 1, 0] rfl)
    · rw [if_neg c_19] at hM
      refine lv_aload_n hx hb dX7_readWord_52 rfl (lv_at hl 4 rfl) ?_
      refine va_get (D := G) (ci := 7) (v := .int u2_17) (C := RX7) (T := TX7) (N := 33) hx hb hts inX7 hown hK hP 0 rfl rfl 14 (by decide) (hts _ tb782) (fun _ h9 => h9) rfl dX7_readWord_53 ?_
      refine lv_iconst (v := 2) hx hb dX7_readWord_56 (by decide) ?_
      refine lv_icmp_eq (tgt := 65) hx hb dX7_readWord_57 (by decide) (fun c_20 => ?_) (fun c_20 => ?_)
      · rw [if_pos c_20] at hM
        exact wX7_readWord_b65 C0 m_a mA_lane mA_many mA_item mA_poem mA_fresh mA_then mA_was mA_tape mA_strengths mA_sounds mA_stand mA_scheme mA_isKept mA_kept mA_trace m_thrown m_status m_acts m_taped m_latest m_stands m_least m_ways m_nearFoot m_nearFeet m_nearCost m_traced m_tape p1 o_m_cursor o_m_start o_m_token o_m_value o_m_fault o_m_faultAt o_m_fresh kr  FU u0_17 u1_17 u2_17 u3_17 u4_17 u5_17 (upd m_fresh ((7 : Int32) + ((10 : Int32) * r_16)).toNatClampNeg r_17) ((7 : Int32) + ((10 : Int32) * r_16)) u1_17 (0 : Int32) (0 : Int32) hM _ _ _ hP hD hS (lv_sub hl [4, 5, 3, 2, 1, 0] rfl)
      · rw [if_neg c_20] at hM
        refine lv_aload_n hx hb dX7_readWord_60 rfl (lv_at hl 4 rfl) ?_
        refine lv_iconst (v := 1) hx hb dX7_readWord_61 (by decide) ?_
        obtain ⟨u0_21, u1_21, hC, hM⟩ := oe2 hM
        refine cV_v (As := [.int (1 : Int32)]) (rest := []) C0 hP hD hS [0] (kX7_bad l G K m_a mA_lane mA_many mA_item mA_poem mA_fresh mA_then mA_was mA_tape mA_strengths mA_sounds mA_stand mA_scheme mA_isKept mA_kept mA_trace m_thrown m_status m_acts m_taped u0_17 u1_17 u2_17 u3_17 u4_17 u5_17 m_latest m_stands m_least m_ways m_nearFoot m_nearFeet m_nearCost m_traced (1 : Int32) H.size u0_21 u1_21 hC) rfl rfl rfl tb934 tb936 tp18 tb9 tb937 hdX7_bad (va_recv hK hP (ci := 7) (q0 := 0) rfl rfl) ⟨Nat.le_of_ble_eq_true rfl, Nat.le_of_ble_eq_true rfl⟩ rfl hl.1 (Nat.le_of_ble_eq_true rfl) rfl ⟨Nat.le_refl _, Nat.le_refl _⟩ dX7_readWord_62 (fun H locs hP hD hS => ?_)
        have hP : va_P G vwCl [(m_a, .inr (7, [.int m_thrown, .int m_status, .ref mA_lane, .ref mA_many, .ref mA_item, .ref mA_poem, .ref mA_fresh, .ref mA_then, .ref mA_was, .int m_acts, .ref mA_tape, .int m_taped, .int u0_17, .int u1_17, .int u2_17, .int u3_17, .int u0_21, .int u1_21, .int m_latest, .ref mA_strengths, .ref mA_sounds, .ref mA_stand, .int m_stands, .int m_least, .int m_ways, .ref mA_scheme, .int m_nearFoot, .int m_nearFeet, .int m_nearCost, .ref mA_isKept, .ref mA_kept, .ref mA_trace, .int m_traced])), aI K mA_fresh 207 (upd m_fresh ((7 : Int32) + ((10 : Int32) * r_16)).toNatClampNeg r_17), aI K mA_tape 130 m_tape] H := hP
        have hD : va_D A [(m_a, .inr (7, [.int m_thrown, .int m_status, .ref mA_lane, .ref mA_many, .ref mA_item, .ref mA_poem, .ref mA_fresh, .ref mA_then, .ref mA_was, .int m_acts, .ref mA_tape, .int m_taped, .int u0_17, .int u1_17, .int u2_17, .int u3_17, .int u0_21, .int u1_21, .int m_latest, .ref mA_strengths, .ref mA_sounds, .ref mA_stand, .int m_stands, .int m_least, .int m_ways, .ref mA_scheme, .int m_nearFoot, .int m_nearFeet, .int m_nearCost, .ref mA_isKept, .ref mA_kept, .ref mA_trace, .int m_traced])), aI K mA_fresh 207 (upd m_fresh ((7 : Int32) + ((10 : Int32) * r_16)).toNatClampNeg r_17), aI K mA_tape 130 m_tape] := hD
        exact wX7_readWord_b65 C0 m_a mA_lane mA_many mA_item mA_poem mA_fresh mA_then mA_was mA_tape mA_strengths mA_sounds mA_stand mA_scheme mA_isKept mA_kept mA_trace m_thrown m_status m_acts m_taped m_latest m_stands m_least m_ways m_nearFoot m_nearFeet m_nearCost m_traced m_tape p1 o_m_cursor o_m_start o_m_token o_m_value o_m_fault o_m_faultAt o_m_fresh kr  FU u0_17 u1_17 u2_17 u3_17 u0_21 u1_21 (upd m_fresh ((7 : Int32) + ((10 : Int32) * r_16)).toNatClampNeg r_17) ((7 : Int32) + ((10 : Int32) * r_16)) u1_17 (0 : Int32) (0 : Int32) hM _ _ _ hP hD hS (lv_sub hl [4, 5, 3, 2, 1, 0] rfl)
  · rw [if_neg c_15] at hM
    cases hM
    exact kr _ _ _ _ dX7_readWord_7 hP hD hS
set_option maxHeartbeats 4000000 in
set_option maxRecDepth 100000 in
theorem kX7_readWord (l : Launch) (G : va_G) (K : Nat → ClassId) (m_a mA_lane mA_many mA_item mA_poem mA_fresh mA_then mA_was mA_tape mA_strengths mA_sounds mA_stand mA_scheme mA_isKept mA_kept mA_trace : Nat) (m_thrown : Int32) (m_status : Int32) (m_acts : Int32) (m_taped : Int32) (m_cursor : Int32) (m_start : Int32) (m_token : Int32) (m_value : Int32) (m_fault : Int32) (m_faultAt : Int32) (m_latest : Int32) (m_stands : Int32) (m_least : Int32) (m_ways : Int32) (m_nearFoot : Int32) (m_nearFeet : Int32) (m_nearCost : Int32) (m_traced : Int32) (m_fresh : Nat → Int32) (m_tape : Nat → Int32) (p1 : Int32) (sz : Nat) (o_m_cursor : Int32) (o_m_start : Int32) (o_m_token : Int32) (o_m_value : Int32) (o_m_fault : Int32) (o_m_faultAt : Int32) (o_m_fresh : Nat → Int32) (hM : mX7_readWord m_taped m_tape m_cursor m_start m_token m_value m_fault m_faultAt m_fresh p1 = some (o_m_cursor, o_m_start, o_m_token, o_m_value, o_m_fault, o_m_faultAt, o_m_fresh)) : Met l yX7_readWord (mC yX7_readWord cX7_readWord 6 none) rmX7_readWord (va_Pc [.ref m_a, .int p1] (PCe G K E0 [(m_a, .inr (7, [.int m_thrown, .int m_status, .ref mA_lane, .ref mA_many, .ref mA_item, .ref mA_poem, .ref mA_fresh, .ref mA_then, .ref mA_was, .int m_acts, .ref mA_tape, .int m_taped, .int m_cursor, .int m_start, .int m_token, .int m_value, .int m_fault, .int m_faultAt, .int m_latest, .ref mA_strengths, .ref mA_sounds, .ref mA_stand, .int m_stands, .int m_least, .int m_ways, .ref mA_scheme, .int m_nearFoot, .int m_nearFeet, .int m_nearCost, .ref mA_isKept, .ref mA_kept, .ref mA_trace, .int m_traced])), aI K mA_fresh 207 m_fresh, aI K mA_tape 130 m_tape] sz)) (va_Qv (fun (_ : Unit) => True) (fun _ t => va_P G vwCl [(m_a, .inr (7, [.int m_thrown, .int m_status, .ref mA_lane, .ref mA_many, .ref mA_item, .ref mA_poem, .ref mA_fresh, .ref mA_then, .ref mA_was, .int m_acts, .ref mA_tape, .int m_taped, .int o_m_cursor, .int o_m_start, .int o_m_token, .int o_m_value, .int o_m_fault, .int o_m_faultAt, .int m_latest, .ref mA_strengths, .ref mA_sounds, .ref mA_stand, .int m_stands, .int m_least, .int m_ways, .ref mA_scheme, .int m_nearFoot, .int m_nearFeet, .int m_nearCost, .ref mA_isKept, .ref mA_kept, .ref mA_trace, .int m_traced])), aI K mA_fresh 207 o_m_fresh, aI K mA_tape 130 m_tape] t.heap) (va_A [(m_a, .inr (7, [.int m_thrown, .int m_status, .ref mA_lane, .ref mA_many, .ref mA_item, .ref mA_poem, .ref mA_fresh, .ref mA_then, .ref mA_was, .int m_acts, .ref mA_tape, .int m_taped, .int m_cursor, .int m_start, .int m_token, .int m_value, .int m_fault, .int m_faultAt, .int m_latest, .ref mA_strengths, .ref mA_sounds, .ref mA_stand, .int m_stands, .int m_least, .int m_ways, .ref mA_scheme, .int m_nearFoot, .int m_nearFeet, .int m_nearCost, .ref mA_isKept, .ref mA_kept, .ref mA_trace, .int m_traced])), aI K mA_fresh 207 m_fresh, aI K mA_tape 130 m_tape] sz)) rmX7_readWord.cells rmX7_readWord.slots (va_A [(m_a, .inr (7, [.int m_thrown, .int m_status, .ref mA_lane, .ref mA_many, .ref mA_item, .ref mA_poem, .ref mA_fresh, .ref mA_then, .ref mA_was, .int m_acts, .ref mA_tape, .int m_taped, .int m_cursor, .int m_start, .int m_token, .int m_value, .int m_fault, .int m_faultAt, .int m_latest, .ref mA_strengths, .ref mA_sounds, .ref mA_stand, .int m_stands, .int m_least, .int m_ways, .ref mA_scheme, .int m_nearFoot, .int m_nearFeet, .int m_nearCost, .ref mA_isKept, .ref mA_kept, .ref mA_trace, .int m_traced])), aI K mA_fresh 207 m_fresh, aI K mA_tape 130 m_tape] sz) := by
  refine Met.ofW (cc := cX7_readWord) (maxL := 6) (ret := none) (by decide) rfl ?_
  intro p e s m args below meth c s₁ B hml hv
  obtain ⟨rfl, hsz, hP, hK, hD0, hE⟩ := hv
  have hx := B.exec
  have hb := B.bytes
  have hr := B.returns
  have hts0 := atoms_spec (ws := mC yX7_readWord cX7_readWord 6 none) B.pre
  have hts : ∀ w ∈ tbG, w.before _ s = true := fun w h => hts0 w (List.mem_cons_of_mem _ h)
  have hown : s.vm.findClass RX7 = some m.cls := findClass_of_methodNamed B.named
  subst hsz
  have hD := hD0.self (sz := s.heap.size)
  generalize hAe : va_A [(m_a, .inr (7, [.int m_thrown, .int m_status, .ref mA_lane, .ref mA_many, .ref mA_item, .ref mA_poem, .ref mA_fresh, .ref mA_then, .ref mA_was, .int m_acts, .ref mA_tape, .int m_taped, .int m_cursor, .int m_start, .int m_token, .int m_value, .int m_fault, .int m_faultAt, .int m_latest, .ref mA_strengths, .ref mA_sounds, .ref mA_stand, .int m_stands, .int m_least, .int m_ways, .ref mA_scheme, .int m_nearFoot, .int m_nearFeet, .int m_nearCost, .ref mA_isKept, .ref mA_kept, .ref mA_trace, .int m_traced])), aI K mA_fresh 207 m_fresh, aI K mA_tape 130 m_tape] s.heap.size = A at hD hE ⊢
  have hA : ∀ q : Nat, s.heap.size ≤ q → A q := fun q h => by rw [← hAe]; exact Or.inr h
  have hS : va_S A s.heap s.heap [] := va_S.rf
  have hl := lv_entry ([.ref m_a, .int p1]) (n := 6) (Nat.le_of_ble_eq_true rfl)
  rw [lg_entry_eq]
  generalize (lg_sl ([.ref m_a, .int p1]) ++ List.replicate (6 - (lg_sl ([.ref m_a, .int p1])).length) Slot.unset).toArray = ls at hl ⊢
  have hl : lv_has ls 6 [(0, .ref m_a), (1, .int p1)] := hl
  exact wX7_readWord_b0 ⟨hx, hb, hml, hown, hts, hK, hA, E0_ok, hE⟩ m_a mA_lane mA_many mA_item mA_poem mA_fresh mA_then mA_was mA_tape mA_strengths mA_sounds mA_stand mA_scheme mA_isKept mA_kept mA_trace m_thrown m_status m_acts m_taped m_latest m_stands m_least m_ways m_nearFoot m_nearFeet m_nearCost m_traced m_tape p1 o_m_cursor o_m_start o_m_token o_m_value o_m_fault o_m_faultAt o_m_fresh (fun H locs ls pc hdg hP hD hS => W.vret hx hb hr (fun t ht hW => ⟨⟨(), rfl, trivial, by rw [ht]; exact hP⟩, hS.F ht⟩) hS.2.2 hdg) m_cursor m_start m_token m_value m_fault m_faultAt m_fresh  hM _ _ _ hP hD hS hl
def rmX7_readLine : Room := { frames := 5, cells := 0, slots := 0, locals := 114 }
theorem hdX7_readLine : yX7_readLine.cls = RX7 ∧ yX7_readLine.cls ≠ "java/lang/invoke/MethodHandle" ∧ yX7_readLine.cls ≠ "java/lang/invoke/VarHandle" ∧ (parseMethodDescriptor yX7_readLine.desc).map (fun d => d.parameters.length) = some 1 := by decide +kernel
set_option maxHeartbeats 4000000 in
set_option maxRecDepth 100000 in
theorem wX7_readLine_b110 {p : Program} {l : Launch} {e : Env} {s : State} {m : MethodId} {args : Array Value} {below : List Frame} {meth : Method} {c : Code} {Q : State → Prop} {G : va_G} {K : Nat → ClassId} {A : Nat → Prop} (C0 : CX p s m args c cX7_readLine 3 RX7 G K E0 A) (m_a mA_lane mA_many mA_item mA_poem mA_fresh mA_then mA_was mA_tape mA_strengths mA_sounds mA_stand mA_scheme mA_isKept mA_kept mA_trace : Nat) (m_thrown : Int32) (m_status : Int32) (m_acts : Int32) (m_taped : Int32) (m_latest : Int32) (m_stands : Int32) (m_least : Int32) (m_ways : Int32) (m_nearFoot : Int32) (m_nearFeet : Int32) (m_nearCost : Int32) (m_traced : Int32) (m_tape : Nat → Int32) (p1 : Int32) (o_m_cursor : Int32) (o_m_start : Int32) (o_m_token : Int32) (o_m_value : Int32) (o_m_fault : Int32) (o_m_faultAt : Int32) (o_m_fresh : Nat → Int32) (kr : ∀ (H : Heap) (locs : List Loc) (ls : Array Slot) (pc : Nat), decode cX7_readLine pc = .ok (.return_, 1) → va_P G vwCl [(m_a, .inr (7, [.int m_thrown, .int m_status, .ref mA_lane, .ref mA_many, .ref mA_item, .ref mA_poem, .ref mA_fresh, .ref mA_then, .ref mA_was, .int m_acts, .ref mA_tape, .int m_taped, .int o_m_cursor, .int o_m_start, .int o_m_token, .int o_m_value, .int o_m_fault, .int o_m_faultAt, .int m_latest, .ref mA_strengths, .ref mA_sounds, .ref mA_stand, .int m_stands, .int m_least, .int m_ways, .ref mA_scheme, .int m_nearFoot, .int m_nearFeet, .int m_nearCost, .ref mA_isKept, .ref mA_kept, .ref mA_trace, .int m_traced])), aI K mA_fresh 207 o_m_fresh, aI K mA_tape 130 m_tape] H → va_D A [(m_a, .inr (7, [.int m_thrown, .int m_status, .ref mA_lane, .ref mA_many, .ref mA_item, .ref mA_poem, .ref mA_fresh, .ref mA_then, .ref mA_was, .int m_acts, .ref mA_tape, .int m_taped, .int o_m_cursor, .int o_m_start, .int o_m_token, .int o_m_value, .int o_m_fault, .int o_m_faultAt, .int m_latest, .ref mA_strengths, .ref mA_sounds, .ref mA_stand, .int m_stands, .int m_least, .int m_ways, .ref mA_scheme, .int m_nearFoot, .int m_nearFeet, .int m_nearCost, .ref mA_isKept, .ref mA_kept, .ref mA_trace, .int m_traced])), aI K mA_fresh 207 o_m_fresh, aI K mA_tape 130 m_tape] → va_S A s.heap H locs → W p l e rmX7_readLine s m args below meth c H locs 0 0 Q (F0 m pc ls [])) (m_cursor : Int32) (m_start : Int32) (m_token : Int32) (m_value : Int32) (m_fault : Int32) (m_faultAt : Int32) (m_fresh : Nat → Int32) (hM : mX7_readLine_b110 m_taped m_tape p1  m_cursor m_start m_token m_value m_fault m_faultAt m_fresh = some (o_m_cursor, o_m_start, o_m_token, o_m_value, o_m_fault, o_m_faultAt, o_m_fresh)) : ∀ (H : Heap) (locs : List Loc) (ls : Array Slot), va_P G vwCl [(m_a, .inr (7, [.int m_thrown, .int m_status, .ref mA_lane, .ref mA_many, .ref mA_item, .ref mA_poem, .ref mA_fresh, .ref mA_then, .ref mA_was, .int m_acts, .ref mA_tape, .int m_taped, .int m_cursor, .int m_start, .int m_token, .int m_value, .int m_fault, .int m_faultAt, .int m_latest, .ref mA_strengths, .ref mA_sounds, .ref mA_stand, .int m_stands, .int m_least, .int m_ways, .ref mA_scheme, .int m_nearFoot, .int m_nearFeet, .int m_nearCost, .ref mA_isKept, .ref mA_kept, .ref mA_trace, .int m_traced])), aI K mA_fresh 207 m_fresh, aI K mA_tape 130 m_tape] H → va_D A [(m_a, .inr (7, [.int m_thrown, .int m_status, .ref mA_lane, .ref mA_many, .ref mA_item, .ref mA_poem, .ref mA_fresh, .ref mA_then, .ref mA_was, .int m_acts, .ref mA_tape, .int m_taped, .int m_cursor, .int m_start, .int m_token, .int m_value, .int m_fault, .int m_faultAt, .int m_latest, .ref mA_strengths, .ref mA_sounds, .ref mA_stand, .int m_stands, .int m_least, .int m_ways, .ref mA_scheme, .int m_nearFoot, .int m_nearFeet, .int m_nearCost, .ref mA_isKept, .ref mA_kept, .ref mA_trace, .int m_traced])), aI K mA_fresh 207 m_fresh, aI K mA_tape 130 m_tape] → va_S A s.heap H locs → lv_has ls 3 [(0, .ref m_a)] → W p l e rmX7_readLine s m args below meth c H locs 0 0 Q (F0 m 110 ls []) := by
  obtain ⟨hx, hb, hml, hown, hts, hK, hA, hEo, hE⟩ := id C0
  intro H locs ls hP hD hS hl
  unfold mX7_readLine_b110 at hM
  refine lv_aload_n hx hb dX7_readLine_110 rfl (lv_at hl 0 rfl) ?_
  refine lv_bipush (v := 59) hx hb dX7_readLine_111 (by decide) ?_
  obtain ⟨u0_1, u1_1, u2_1, u3_1, u4_1, u5_1, hC, hM⟩ := oe6 hM
  refine cV_v (As := [.int (59 : Int32)]) (rest := []) C0 hP hD hS [0, 2] (kX7_mustSign l G K m_a mA_lane mA_many mA_item mA_poem mA_fresh mA_then mA_was mA_tape mA_strengths mA_sounds mA_stand mA_scheme mA_isKept mA_kept mA_trace m_thrown m_status m_acts m_taped m_cursor m_start m_token m_value m_fault m_faultAt m_latest m_stands m_least m_ways m_nearFoot m_nearFeet m_nearCost m_traced m_tape (59 : Int32) H.size u0_1 u1_1 u2_1 u3_1 u4_1 u5_1 hC) rfl rfl rfl tb942 tb944 tp20 tb9 tb945 hdX7_mustSign (va_recv hK hP (ci := 7) (q0 := 0) rfl rfl) ⟨Nat.le_of_ble_eq_true rfl, Nat.le_of_ble_eq_true rfl⟩ rfl hl.1 (Nat.le_of_ble_eq_true rfl) rfl ⟨Nat.le_refl _, Nat.le_refl _⟩ dX7_readLine_113 (fun H locs hP hD hS => ?_)
  have hP : va_P G vwCl [(m_a, .inr (7, [.int m_thrown, .int m_status, .ref mA_lane, .ref mA_many, .ref mA_item, .ref mA_poem, .ref mA_fresh, .ref mA_then, .ref mA_was, .int m_acts, .ref mA_tape, .int m_taped, .int u0_1, .int u1_1, .int u2_1, .int u3_1, .int u4_1, .int u5_1, .int m_latest, .ref mA_strengths, .ref mA_sounds, .ref mA_stand, .int m_stands, .int m_least, .int m_ways, .ref mA_scheme, .int m_nearFoot, .int m_nearFeet, .int m_nearCost, .ref mA_isKept, .ref mA_kept, .ref mA_trace, .int m_traced])), aI K mA_fresh 207 m_fresh, aI K mA_tape 130 m_tape] H := hP
  have hD : va_D A [(m_a, .inr (7, [.int m_thrown, .int m_status, .ref mA_lane, .ref mA_many, .ref mA_item, .ref mA_poem, .ref mA_fresh, .ref mA_then, .ref mA_was, .int m_acts, .ref mA_tape, .int m_taped, .int u0_1, .int u1_1, .int u2_1, .int u3_1, .int u4_1, .int u5_1, .int m_latest, .ref mA_strengths, .ref mA_sounds, .ref mA_stand, .int m_stands, .int m_least, .int m_ways, .ref mA_scheme, .int m_nearFoot, .int m_nearFeet, .int m_nearCost, .ref mA_isKept, .ref mA_kept, .ref mA_trace, .int m_traced])), aI K mA_fresh 207 m_fresh, aI K mA_tape 130 m_tape] := hD
  refine lv_aload_n hx hb dX7_readLine_116 rfl (lv_at hl 0 rfl) ?_
  refine va_get (D := G) (ci := 7) (v := .ref mA_fresh) (C := RX7) (T := TX7) (N := 33) hx hb hts inX7 hown hK hP 0 rfl rfl 6 (by decide) (hts _ tb774) (fun _ h9 => h9) rfl dX7_readLine_117 ?_
  refine lv_iconst (v := 0) hx hb dX7_readLine_120 (by decide) ?_
  refine lv_dup2_11 hx hb dX7_readLine_121 rfl rfl ?_
  refine va_iald hx hb hK hP 1 0 rfl rfl (show ¬ ((0 : Int32) < 0 ∨ 207 ≤ ((0 : Int32)).toNatClampNeg) by decide) dX7_readLine_122 ?_
  refine lv_iconst (v := 1) hx hb dX7_readLine_123 (by decide) ?_
  refine lv_iadd hx hb dX7_readLine_124 ?_
  refine va_iast hx hb hK hP hD hS 1 0 rfl rfl (show ¬ ((0 : Int32) < 0 ∨ 207 ≤ ((0 : Int32)).toNatClampNeg) by decide) dX7_readLine_125 (fun H locs hP hD hS => ?_)
  have hP : va_P G vwCl [(m_a, .inr (7, [.int m_thrown, .int m_status, .ref mA_lane, .ref mA_many, .ref mA_item, .ref mA_poem, .ref mA_fresh, .ref mA_then, .ref mA_was, .int m_acts, .ref mA_tape, .int m_taped, .int u0_1, .int u1_1, .int u2_1, .int u3_1, .int u4_1, .int u5_1, .int m_latest, .ref mA_strengths, .ref mA_sounds, .ref mA_stand, .int m_stands, .int m_least, .int m_ways, .ref mA_scheme, .int m_nearFoot, .int m_nearFeet, .int m_nearCost, .ref mA_isKept, .ref mA_kept, .ref mA_trace, .int m_traced])), aI K mA_fresh 207 (upd m_fresh (0 : Int32).toNatClampNeg ((m_fresh (0 : Int32).toNatClampNeg) + (1 : Int32))), aI K mA_tape 130 m_tape] H := hP
  have hD : va_D A [(m_a, .inr (7, [.int m_thrown, .int m_status, .ref mA_lane, .ref mA_many, .ref mA_item, .ref mA_poem, .ref mA_fresh, .ref mA_then, .ref mA_was, .int m_acts, .ref mA_tape, .int m_taped, .int u0_1, .int u1_1, .int u2_1, .int u3_1, .int u4_1, .int u5_1, .int m_latest, .ref mA_strengths, .ref mA_sounds, .ref mA_stand, .int m_stands, .int m_least, .int m_ways, .ref mA_scheme, .int m_nearFoot, .int m_nearFeet, .int m_nearCost, .ref mA_isKept, .ref mA_kept, .ref mA_trace, .int m_traced])), aI K mA_fresh 207 (upd m_fresh (0 : Int32).toNatClampNeg ((m_fresh (0 : Int32).toNatClampNeg) + (1 : Int32))), aI K mA_tape 130 m_tape] := hD
  cases hM
  exact kr _ _ _ _ dX7_readLine_126 hP hD hS
set_option maxHeartbeats 4000000 in
set_option maxRecDepth 100000 in
theorem wX7_readLine_b60 {p : Program} {l : Launch} {e : Env} {s : State} {m : MethodId} {args : Array Value} {below : List Frame} {meth : Method} {c : Code} {Q : State → Prop} {G : va_G} {K : Nat → ClassId} {A : Nat → Prop} (C0 : CX p s m args c cX7_readLine 3 RX7 G K E0 A) (m_a mA_lane mA_many mA_item mA_poem mA_fresh mA_then mA_was mA_tape mA_strengths mA_sounds mA_stand mA_scheme mA_isKept mA_kept mA_trace : Nat) (m_thrown : Int32) (m_status : Int32) (m_acts : Int32) (m_taped : Int32) (m_latest : Int32) (m_stands : Int32) (m_least : Int32) (m_ways : Int32) (m_nearFoot : Int32) (m_nearFeet : Int32) (m_nearCost : Int32) (m_traced : Int32) (m_tape : Nat → Int32) (p1 : Int32) (o_m_cursor : Int32) (o_m_start : Int32) (o_m_token : Int32) (o_m_value : Int32) (o_m_fault : Int32) (o_m_faultAt : Int32) (o_m_fresh : Nat → Int32) (kr : ∀ (H : Heap) (locs : List Loc) (ls : Array Slot) (pc : Nat), decode cX7_readLine pc = .ok (.return_, 1) → va_P G vwCl [(m_a, .inr (7, [.int m_thrown, .int m_status, .ref mA_lane, .ref mA_many, .ref mA_item, .ref mA_poem, .ref mA_fresh, .ref mA_then, .ref mA_was, .int m_acts, .ref mA_tape, .int m_taped, .int o_m_cursor, .int o_m_start, .int o_m_token, .int o_m_value, .int o_m_fault, .int o_m_faultAt, .int m_latest, .ref mA_strengths, .ref mA_sounds, .ref mA_stand, .int m_stands, .int m_least, .int m_ways, .ref mA_scheme, .int m_nearFoot, .int m_nearFeet, .int m_nearCost, .ref mA_isKept, .ref mA_kept, .ref mA_trace, .int m_traced])), aI K mA_fresh 207 o_m_fresh, aI K mA_tape 130 m_tape] H → va_D A [(m_a, .inr (7, [.int m_thrown, .int m_status, .ref mA_lane, .ref mA_many, .ref mA_item, .ref mA_poem, .ref mA_fresh, .ref mA_then, .ref mA_was, .int m_acts, .ref mA_tape, .int m_taped, .int o_m_cursor, .int o_m_start, .int o_m_token, .int o_m_value, .int o_m_fault, .int o_m_faultAt, .int m_latest, .ref mA_strengths, .ref mA_sounds, .ref mA_stand, .int m_stands, .int m_least, .int m_ways, .ref mA_scheme, .int m_nearFoot, .int m_nearFeet, .int m_nearCost, .ref mA_isKept, .ref mA_kept, .ref mA_trace, .int m_traced])), aI K mA_fresh 207 o_m_fresh, aI K mA_tape 130 m_tape] → va_S A s.heap H locs → W p l e rmX7_readLine s m args below meth c H locs 0 0 Q (F0 m pc ls [])) (n : Nat) : ∀ (m_cursor : Int32) (m_start : Int32) (m_token : Int32) (m_value : Int32) (m_fault : Int32) (m_faultAt : Int32) (m_fresh : Nat → Int32) (x2 : Int32), mX7_readLine_b60 m_taped m_tape p1  n m_cursor m_start m_token m_value m_fault m_faultAt m_fresh x2 = some (o_m_cursor, o_m_start, o_m_token, o_m_value, o_m_fault, o_m_faultAt, o_m_fresh) → ∀ (H : Heap) (locs : List Loc) (ls : Array Slot), va_P G vwCl [(m_a, .inr (7, [.int m_thrown, .int m_status, .ref mA_lane, .ref mA_many, .ref mA_item, .ref mA_poem, .ref mA_fresh, .ref mA_then, .ref mA_was, .int m_acts, .ref mA_tape, .int m_taped, .int m_cursor, .int m_start, .int m_token, .int m_value, .int m_fault, .int m_faultAt, .int m_latest, .ref mA_strengths, .ref mA_sounds, .ref mA_stand, .int m_stands, .int m_least, .int m_ways, .ref mA_scheme, .int m_nearFoot, .int m_nearFeet, .int m_nearCost, .ref mA_isKept, .ref mA_kept, .ref mA_trace, .int m_traced])), aI K mA_fresh 207 m_fresh, aI K mA_tape 130 m_tape] H → va_D A [(m_a, .inr (7, [.int m_thrown, .int m_status, .ref mA_lane, .ref mA_many, .ref mA_item, .ref mA_poem, .ref mA_fresh, .ref mA_then, .ref mA_was, .int m_acts, .ref mA_tape, .int m_taped, .int m_cursor, .int m_start, .int m_token, .int m_value, .int m_fault, .int m_faultAt, .int m_latest, .ref mA_strengths, .ref mA_sounds, .ref mA_stand, .int m_stands, .int m_least, .int m_ways, .ref mA_scheme, .int m_nearFoot, .int m_nearFeet, .int m_nearCost, .ref mA_isKept, .ref mA_kept, .ref mA_trace, .int m_traced])), aI K mA_fresh 207 m_fresh, aI K mA_tape 130 m_tape] → va_S A s.heap H locs → lv_has ls 3 [(0, .ref m_a), (2, .int x2)] → W p l e rmX7_readLine s m args below meth c H locs 0 0 Q (F0 m 60 ls []) := by
  obtain ⟨hx, hb, hml, hown, hts, hK, hA, hEo, hE⟩ := id C0
  induction n with
  | zero =>
    intro m_cursor m_start m_token m_value m_fault m_faultAt m_fresh x2 hM
    cases hM
  | succ n ih =>
    intro m_cursor m_start m_token m_value m_fault m_faultAt m_fresh x2 hM H locs ls hP hD hS hl
    rw [mX7_readLine_b60] at hM
    refine lv_aload_n hx hb dX7_readLine_60 rfl (lv_at hl 0 rfl) ?_
    refine va_get (D := G) (ci := 7) (v := .int m_fault) (C := RX7) (T := TX7) (N := 33) hx hb hts inX7 hown hK hP 0 rfl rfl 16 (by decide) (hts _ tb784) (fun _ h9 => h9) rfl dX7_readLine_61 ?_
    refine lv_if_ne (tgt := 110) hx hb dX7_readLine_64 (by decide) (fun c_2 => ?_) (fun c_2 => ?_)
    · rw [if_pos c_2] at hM
      exact wX7_readLine_b110 C0 m_a mA_lane mA_many mA_item mA_poem mA_fresh mA_then mA_was mA_tape mA_strengths mA_sounds mA_stand mA_scheme mA_isKept mA_kept mA_trace m_thrown m_status m_acts m_taped m_latest m_stands m_least m_ways m_nearFoot m_nearFeet m_nearCost m_traced m_tape p1 o_m_cursor o_m_start o_m_token o_m_value o_m_fault o_m_faultAt o_m_fresh kr  m_cursor m_start m_token m_value m_fault m_faultAt m_fresh hM _ _ _ hP hD hS (lv_sub hl [0] rfl)
    · rw [if_neg c_2] at hM
      refine lv_aload_n hx hb dX7_readLine_67 rfl (lv_at hl 0 rfl) ?_
      refine va_get (D := G) (ci := 7) (v := .int m_token) (C := RX7) (T := TX7) (N := 33) hx hb hts inX7 hown hK hP 0 rfl rfl 14 (by decide) (hts _ tb782) (fun _ h9 => h9) rfl dX7_readLine_68 ?_
      refine lv_iconst (v := 4) hx hb dX7_readLine_71 (by decide) ?_
      refine lv_icmp_ne (tgt := 110) hx hb dX7_readLine_72 (by decide) (fun c_3 => ?_) (fun c_3 => ?_)
      · rw [if_pos c_3] at hM
        exact wX7_readLine_b110 C0 m_a mA_lane mA_many mA_item mA_poem mA_fresh mA_then mA_was mA_tape mA_strengths mA_sounds mA_stand mA_scheme mA_isKept mA_kept mA_trace m_thrown m_status m_acts m_taped m_latest m_stands m_least m_ways m_nearFoot m_nearFeet m_nearCost m_traced m_tape p1 o_m_cursor o_m_start o_m_token o_m_value o_m_fault o_m_faultAt o_m_fresh kr  m_cursor m_start m_token m_value m_fault m_faultAt m_fresh hM _ _ _ hP hD hS (lv_sub hl [0] rfl)
      · rw [if_neg c_3] at hM
        refine lv_aload_n hx hb dX7_readLine_75 rfl (lv_at hl 0 rfl) ?_
        refine va_get (D := G) (ci := 7) (v := .int m_value) (C := RX7) (T := TX7) (N := 33) hx hb hts inX7 hown hK hP 0 rfl rfl 15 (by decide) (hts _ tb783) (fun _ h9 => h9) rfl dX7_readLine_76 ?_
        refine lv_bipush (v := 44) hx hb dX7_readLine_79 (by decide) ?_
        refine lv_icmp_ne (tgt := 110) hx hb dX7_readLine_81 (by decide) (fun c_4 => ?_) (fun c_4 => ?_)
        · rw [if_pos c_4] at hM
          exact wX7_readLine_b110 C0 m_a mA_lane mA_many mA_item mA_poem mA_fresh mA_then mA_was mA_tape mA_strengths mA_sounds mA_stand mA_scheme mA_isKept mA_kept mA_trace m_thrown m_status m_acts m_taped m_latest m_stands m_least m_ways m_nearFoot m_nearFeet m_nearCost m_traced m_tape p1 o_m_cursor o_m_start o_m_token o_m_value o_m_fault o_m_faultAt o_m_fresh kr  m_cursor m_start m_token m_value m_fault m_faultAt m_fresh hM _ _ _ hP hD hS (lv_sub hl [0] rfl)
        · rw [if_neg c_4] at hM
          refine lv_aload_n hx hb dX7_readLine_84 rfl (lv_at hl 0 rfl) ?_
          refine va_get (D := G) (ci := 7) (v := .ref mA_fresh) (C := RX7) (T := TX7) (N := 33) hx hb hts inX7 hown hK hP 0 rfl rfl 6 (by decide) (hts _ tb774) (fun _ h9 => h9) rfl dX7_readLine_85 ?_
          refine lv_iconst (v := 3) hx hb dX7_readLine_88 (by decide) ?_
          refine lv_iload_n hx hb dX7_readLine_89 rfl (lv_at hl 1 rfl) ?_
          refine lv_iadd hx hb dX7_readLine_90 ?_
          obtain ⟨g_5, hM⟩ := ng hM
          refine va_iald hx hb hK hP 1 0 rfl rfl g_5 dX7_readLine_91 ?_
          refine lv_iconst (v := 5) hx hb dX7_readLine_92 (by decide) ?_
          refine lv_icmp_ge (tgt := 110) hx hb dX7_readLine_93 (by decide) (fun c_6 => ?_) (fun c_6 => ?_)
          · rw [if_pos c_6] at hM
            exact wX7_readLine_b110 C0 m_a mA_lane mA_many mA_item mA_poem mA_fresh mA_then mA_was mA_tape mA_strengths mA_sounds mA_stand mA_scheme mA_isKept mA_kept mA_trace m_thrown m_status m_acts m_taped m_latest m_stands m_least m_ways m_nearFoot m_nearFeet m_nearCost m_traced m_tape p1 o_m_cursor o_m_start o_m_token o_m_value o_m_fault o_m_faultAt o_m_fresh kr  m_cursor m_start m_token m_value m_fault m_faultAt m_fresh hM _ _ _ hP hD hS (lv_sub hl [0] rfl)
          · rw [if_neg c_6] at hM
            refine lv_aload_n hx hb dX7_readLine_96 rfl (lv_at hl 0 rfl) ?_
            refine lv_bipush (v := 44) hx hb dX7_readLine_97 (by decide) ?_
            obtain ⟨u0_7, u1_7, u2_7, u3_7, u4_7, u5_7, hC, hM⟩ := oe6 hM
            refine cV_v (As := [.int (44 : Int32)]) (rest := []) C0 hP hD hS [0, 2] (kX7_mustSign l G K m_a mA_lane mA_many mA_item mA_poem mA_fresh mA_then mA_was mA_tape mA_strengths mA_sounds mA_stand mA_scheme mA_isKept mA_kept mA_trace m_thrown m_status m_acts m_taped m_cursor m_start m_token m_value m_fault m_faultAt m_latest m_stands m_least m_ways m_nearFoot m_nearFeet m_nearCost m_traced m_tape (44 : Int32) H.size u0_7 u1_7 u2_7 u3_7 u4_7 u5_7 hC) rfl rfl rfl tb942 tb944 tp20 tb9 tb945 hdX7_mustSign (va_recv hK hP (ci := 7) (q0 := 0) rfl rfl) ⟨Nat.le_of_ble_eq_true rfl, Nat.le_of_ble_eq_true rfl⟩ rfl hl.1 (Nat.le_of_ble_eq_true rfl) rfl ⟨Nat.le_refl _, Nat.le_refl _⟩ dX7_readLine_99 (fun H locs hP hD hS => ?_)
            have hP : va_P G vwCl [(m_a, .inr (7, [.int m_thrown, .int m_status, .ref mA_lane, .ref mA_many, .ref mA_item, .ref mA_poem, .ref mA_fresh, .ref mA_then, .ref mA_was, .int m_acts, .ref mA_tape, .int m_taped, .int u0_7, .int u1_7, .int u2_7, .int u3_7, .int u4_7, .int u5_7, .int m_latest, .ref mA_strengths, .ref mA_sounds, .ref mA_stand, .int m_stands, .int m_least, .int m_ways, .ref mA_scheme, .int m_nearFoot, .int m_nearFeet, .int m_nearCost, .ref mA_isKept, .ref mA_kept, .ref mA_trace, .int m_traced])), aI K mA_fresh 207 m_fresh, aI K mA_tape 130 m_tape] H := hP
            have hD : va_D A [(m_a, .inr (7, [.int m_thrown, .int m_status, .ref mA_lane, .ref mA_many, .ref mA_item, .ref mA_poem, .ref mA_fresh, .ref mA_then, .ref mA_was, .int m_acts, .ref mA_tape, .int m_taped, .int u0_7, .int u1_7, .int u2_7, .int u3_7, .int u4_7, .int u5_7, .int m_latest, .ref mA_strengths, .ref mA_sounds, .ref mA_stand, .int m_stands, .int m_least, .int m_ways, .ref mA_scheme, .int m_nearFoot, .int m_nearFeet, .int m_nearCost, .ref mA_isKept, .ref mA_kept, .ref mA_trace, .int m_traced])), aI K mA_fresh 207 m_fresh, aI K mA_tape 130 m_tape] := hD
            refine lv_aload_n hx hb dX7_readLine_102 rfl (lv_at hl 0 rfl) ?_
            refine lv_iload_n hx hb dX7_readLine_103 rfl (lv_at hl 1 rfl) ?_
            obtain ⟨u0_8, u1_8, u2_8, u3_8, u4_8, u5_8, u6_8, hC, hM⟩ := oe7 hM
            refine cV_v (As := [.int x2]) (rest := []) C0 hP hD hS [0, 1, 2] (kX7_readWord l G K m_a mA_lane mA_many mA_item mA_poem mA_fresh mA_then mA_was mA_tape mA_strengths mA_sounds mA_stand mA_scheme mA_isKept mA_kept mA_trace m_thrown m_status m_acts m_taped u0_7 u1_7 u2_7 u3_7 u4_7 u5_7 m_latest m_stands m_least m_ways m_nearFoot m_nearFeet m_nearCost m_traced m_fresh m_tape x2 H.size u0_8 u1_8 u2_8 u3_8 u4_8 u5_8 u6_8 hC) rfl rfl rfl tb951 tb953 tp22 tb9 tb954 hdX7_readWord (va_recv hK hP (ci := 7) (q0 := 0) rfl rfl) ⟨Nat.le_of_ble_eq_true rfl, Nat.le_of_ble_eq_true rfl⟩ rfl hl.1 (Nat.le_of_ble_eq_true rfl) rfl ⟨Nat.le_refl _, Nat.le_refl _⟩ dX7_readLine_104 (fun H locs hP hD hS => ?_)
            have hP : va_P G vwCl [(m_a, .inr (7, [.int m_thrown, .int m_status, .ref mA_lane, .ref mA_many, .ref mA_item, .ref mA_poem, .ref mA_fresh, .ref mA_then, .ref mA_was, .int m_acts, .ref mA_tape, .int m_taped, .int u0_8, .int u1_8, .int u2_8, .int u3_8, .int u4_8, .int u5_8, .int m_latest, .ref mA_strengths, .ref mA_sounds, .ref mA_stand, .int m_stands, .int m_least, .int m_ways, .ref mA_scheme, .int m_nearFoot, .int m_nearFeet, .int m_nearCost, .ref mA_isKept, .ref mA_kept, .ref mA_trace, .int m_traced])), aI K mA_fresh 207 u6_8, aI K mA_tape 130 m_tape] H := hP
            have hD : va_D A [(m_a, .inr (7, [.int m_thrown, .int m_status, .ref mA_lane, .ref mA_many, .ref mA_item, .ref mA_poem, .ref mA_fresh, .ref mA_then, .ref mA_was, .int m_acts, .ref mA_tape, .int m_taped, .int u0_8, .int u1_8, .int u2_8, .int u3_8, .int u4_8, .int u5_8, .int m_latest, .ref mA_strengths, .ref mA_sounds, .ref mA_stand, .int m_stands, .int m_least, .int m_ways, .ref mA_scheme, .int m_nearFoot, .int m_nearFeet, .int m_nearCost, .ref mA_isKept, .ref mA_kept, .ref mA_trace, .int m_traced])), aI K mA_fresh 207 u6_8, aI K mA_tape 130 m_tape] := hD
            refine lv_goto (tgt := 60) hx hb dX7_readLine_107 (by decide) ?_
            exact ih u0_8 u1_8 u2_8 u3_8 u4_8 u5_8 u6_8 x2 hM _ _ _ hP hD hS (lv_sub hl [0, 1] rfl)
set_option maxHeartbeats 4000000 in
set_option maxRecDepth 100000 in
theorem wX7_readLine_b54 {p : Program} {l : Launch} {e : Env} {s : State} {m : MethodId} {args : Array Value} {below : List Frame} {meth : Method} {c : Code} {Q : State → Prop} {G : va_G} {K : Nat → ClassId} {A : Nat → Prop} (C0 : CX p s m args c cX7_readLine 3 RX7 G K E0 A) (m_a mA_lane mA_many mA_item mA_poem mA_fresh mA_then mA_was mA_tape mA_strengths mA_sounds mA_stand mA_scheme mA_isKept mA_kept mA_trace : Nat) (m_thrown : Int32) (m_status : Int32) (m_acts : Int32) (m_taped : Int32) (m_latest : Int32) (m_stands : Int32) (m_least : Int32) (m_ways : Int32) (m_nearFoot : Int32) (m_nearFeet : Int32) (m_nearCost : Int32) (m_traced : Int32) (m_tape : Nat → Int32) (p1 : Int32) (o_m_cursor : Int32) (o_m_start : Int32) (o_m_token : Int32) (o_m_value : Int32) (o_m_fault : Int32) (o_m_faultAt : Int32) (o_m_fresh : Nat → Int32) (kr : ∀ (H : Heap) (locs : List Loc) (ls : Array Slot) (pc : Nat), decode cX7_readLine pc = .ok (.return_, 1) → va_P G vwCl [(m_a, .inr (7, [.int m_thrown, .int m_status, .ref mA_lane, .ref mA_many, .ref mA_item, .ref mA_poem, .ref mA_fresh, .ref mA_then, .ref mA_was, .int m_acts, .ref mA_tape, .int m_taped, .int o_m_cursor, .int o_m_start, .int o_m_token, .int o_m_value, .int o_m_fault, .int o_m_faultAt, .int m_latest, .ref mA_strengths, .ref mA_sounds, .ref mA_stand, .int m_stands, .int m_least, .int m_ways, .ref mA_scheme, .int m_nearFoot, .int m_nearFeet, .int m_nearCost, .ref mA_isKept, .ref mA_kept, .ref mA_trace, .int m_traced])), aI K mA_fresh 207 o_m_fresh, aI K mA_tape 130 m_tape] H → va_D A [(m_a, .inr (7, [.int m_thrown, .int m_status, .ref mA_lane, .ref mA_many, .ref mA_item, .ref mA_poem, .ref mA_fresh, .ref mA_then, .ref mA_was, .int m_acts, .ref mA_tape, .int m_taped, .int o_m_cursor, .int o_m_start, .int o_m_token, .int o_m_value, .int o_m_fault, .int o_m_faultAt, .int m_latest, .ref mA_strengths, .ref mA_sounds, .ref mA_stand, .int m_stands, .int m_least, .int m_ways, .ref mA_scheme, .int m_nearFoot, .int m_nearFeet, .int m_nearCost, .ref mA_isKept, .ref mA_kept, .ref mA_trace, .int m_traced])), aI K mA_fresh 207 o_m_fresh, aI K mA_tape 130 m_tape] → va_S A s.heap H locs → W p l e rmX7_readLine s m args below meth c H locs 0 0 Q (F0 m pc ls [])) (m_cursor : Int32) (m_start : Int32) (m_token : Int32) (m_value : Int32) (m_fault : Int32) (m_faultAt : Int32) (m_fresh : Nat → Int32) (s0 : Int32) (hM : mX7_readLine_b54 m_taped m_tape p1  m_cursor m_start m_token m_value m_fault m_faultAt m_fresh s0 = some (o_m_cursor, o_m_start, o_m_token, o_m_value, o_m_fault, o_m_faultAt, o_m_fresh)) : ∀ (H : Heap) (locs : List Loc) (ls : Array Slot), va_P G vwCl [(m_a, .inr (7, [.int m_thrown, .int m_status, .ref mA_lane, .ref mA_many, .ref mA_item, .ref mA_poem, .ref mA_fresh, .ref mA_then, .ref mA_was, .int m_acts, .ref mA_tape, .int m_taped, .int m_cursor, .int m_start, .int m_token, .int m_value, .int m_fault, .int m_faultAt, .int m_latest, .ref mA_strengths, .ref mA_sounds, .ref mA_stand, .int m_stands, .int m_least, .int m_ways, .ref mA_scheme, .int m_nearFoot, .int m_nearFeet, .int m_nearCost, .ref mA_isKept, .ref mA_kept, .ref mA_trace, .int m_traced])), aI K mA_fresh 207 m_fresh, aI K mA_tape 130 m_tape] H → va_D A [(m_a, .inr (7, [.int m_thrown, .int m_status, .ref mA_lane, .ref mA_many, .ref mA_item, .ref mA_poem, .ref mA_fresh, .ref mA_then, .ref mA_was, .int m_acts, .ref mA_tape, .int m_taped, .int m_cursor, .int m_start, .int m_token, .int m_value, .int m_fault, .int m_faultAt, .int m_latest, .ref mA_strengths, .ref mA_sounds, .ref mA_stand, .int m_stands, .int m_least, .int m_ways, .ref mA_scheme, .int m_nearFoot, .int m_nearFeet, .int m_nearCost, .ref mA_isKept, .ref mA_kept, .ref mA_trace, .int m_traced])), aI K mA_fresh 207 m_fresh, aI K mA_tape 130 m_tape] → va_S A s.heap H locs → lv_has ls 3 [(0, .ref m_a)] → W p l e rmX7_readLine s m args below meth c H locs 0 0 Q (F0 m 54 ls [.int s0]) := by
  obtain ⟨hx, hb, hml, hown, hts, hK, hA, hEo, hE⟩ := id C0
  intro H locs ls hP hD hS hl
  unfold mX7_readLine_b54 at hM
  refine lv_istore_n (lv' := [(2, .int s0), (0, .ref m_a)]) hx hb dX7_readLine_54 rfl hl (by decide) rfl (fun ls hl => ?_)
  refine lv_aload_n hx hb dX7_readLine_55 rfl (lv_at hl 1 rfl) ?_
  refine lv_iload_n hx hb dX7_readLine_56 rfl (lv_at hl 0 rfl) ?_
  obtain ⟨u0_9, u1_9, u2_9, u3_9, u4_9, u5_9, u6_9, hC, hM⟩ := oe7 hM
  refine cV_v (As := [.int s0]) (rest := []) C0 hP hD hS [0, 1, 2] (kX7_readWord l G K m_a mA_lane mA_many mA_item mA_poem mA_fresh mA_then mA_was mA_tape mA_strengths mA_sounds mA_stand mA_scheme mA_isKept mA_kept mA_trace m_thrown m_status m_acts m_taped m_cursor m_start m_token m_value m_fault m_faultAt m_latest m_stands m_least m_ways m_nearFoot m_nearFeet m_nearCost m_traced m_fresh m_tape s0 H.size u0_9 u1_9 u2_9 u3_9 u4_9 u5_9 u6_9 hC) rfl rfl rfl tb951 tb953 tp22 tb9 tb954 hdX7_readWord (va_recv hK hP (ci := 7) (q0 := 0) rfl rfl) ⟨Nat.le_of_ble_eq_true rfl, Nat.le_of_ble_eq_true rfl⟩ rfl hl.1 (Nat.le_of_ble_eq_true rfl) rfl ⟨Nat.le_refl _, Nat.le_refl _⟩ dX7_readLine_57 (fun H locs hP hD hS => ?_)
  have hP : va_P G vwCl [(m_a, .inr (7, [.int m_thrown, .int m_status, .ref mA_lane, .ref mA_many, .ref mA_item, .ref mA_poem, .ref mA_fresh, .ref mA_then, .ref mA_was, .int m_acts, .ref mA_tape, .int m_taped, .int u0_9, .int u1_9, .int u2_9, .int u3_9, .int u4_9, .int u5_9, .int m_latest, .ref mA_strengths, .ref mA_sounds, .ref mA_stand, .int m_stands, .int m_least, .int m_ways, .ref mA_scheme, .int m_nearFoot, .int m_nearFeet, .int m_nearCost, .ref mA_isKept, .ref mA_kept, .ref mA_trace, .int m_traced])), aI K mA_fresh 207 u6_9, aI K mA_tape 130 m_tape] H := hP
  have hD : va_D A [(m_a, .inr (7, [.int m_thrown, .int m_status, .ref mA_lane, .ref mA_many, .ref mA_item, .ref mA_poem, .ref mA_fresh, .ref mA_then, .ref mA_was, .int m_acts, .ref mA_tape, .int m_taped, .int u0_9, .int u1_9, .int u2_9, .int u3_9, .int u4_9, .int u5_9, .int m_latest, .ref mA_strengths, .ref mA_sounds, .ref mA_stand, .int m_stands, .int m_least, .int m_ways, .ref mA_scheme, .int m_nearFoot, .int m_nearFeet, .int m_nearCost, .ref mA_isKept, .ref mA_kept, .ref mA_trace, .int m_traced])), aI K mA_fresh 207 u6_9, aI K mA_tape 130 m_tape] := hD
  exact wX7_readLine_b60 C0 m_a mA_lane mA_many mA_item mA_poem mA_fresh mA_then mA_was mA_tape mA_strengths mA_sounds mA_stand mA_scheme mA_isKept mA_kept mA_trace m_thrown m_status m_acts m_taped m_latest m_stands m_least m_ways m_nearFoot m_nearFeet m_nearCost m_traced m_tape p1 o_m_cursor o_m_start o_m_token o_m_value o_m_fault o_m_faultAt o_m_fresh kr  FU u0_9 u1_9 u2_9 u3_9 u4_9 u5_9 u6_9 s0 hM _ _ _ hP hD hS (lv_sub hl [1, 0] rfl)
set_option maxHeartbeats 4000000 in
set_option maxRecDepth 100000 in
theorem wX7_readLine_b44 {p : Program} {l : Launch} {e : Env} {s : State} {m : MethodId} {args : Array Value} {below : List Frame} {meth : Method} {c : Code} {Q : State → Prop} {G : va_G} {K : Nat → ClassId} {A : Nat → Prop} (C0 : CX p s m args c cX7_readLine 3 RX7 G K E0 A) (m_a mA_lane mA_many mA_item mA_poem mA_fresh mA_then mA_was mA_tape mA_strengths mA_sounds mA_stand mA_scheme mA_isKept mA_kept mA_trace : Nat) (m_thrown : Int32) (m_status : Int32) (m_acts : Int32) (m_taped : Int32) (m_latest : Int32) (m_stands : Int32) (m_least : Int32) (m_ways : Int32) (m_nearFoot : Int32) (m_nearFeet : Int32) (m_nearCost : Int32) (m_traced : Int32) (m_tape : Nat → Int32) (p1 : Int32) (o_m_cursor : Int32) (o_m_start : Int32) (o_m_token : Int32) (o_m_value : Int32) (o_m_fault : Int32) (o_m_faultAt : Int32) (o_m_fresh : Nat → Int32) (kr : ∀ (H : Heap) (locs : List Loc) (ls : Array Slot) (pc : Nat), decode cX7_readLine pc = .ok (.return_, 1) → va_P G vwCl [(m_a, .inr (7, [.int m_thrown, .int m_status, .ref mA_lane, .ref mA_many, .ref mA_item, .ref mA_poem, .ref mA_fresh, .ref mA_then, .ref mA_was, .int m_acts, .ref mA_tape, .int m_taped, .int o_m_cursor, .int o_m_start, .int o_m_token, .int o_m_value, .int o_m_fault, .int o_m_faultAt, .int m_latest, .ref mA_strengths, .ref mA_sounds, .ref mA_stand, .int m_stands, .int m_least, .int m_ways, .ref mA_scheme, .int m_nearFoot, .int m_nearFeet, .int m_nearCost, .ref mA_isKept, .ref mA_kept, .ref mA_trace, .int m_traced])), aI K mA_fresh 207 o_m_fresh, aI K mA_tape 130 m_tape] H → va_D A [(m_a, .inr (7, [.int m_thrown, .int m_status, .ref mA_lane, .ref mA_many, .ref mA_item, .ref mA_poem, .ref mA_fresh, .ref mA_then, .ref mA_was, .int m_acts, .ref mA_tape, .int m_taped, .int o_m_cursor, .int o_m_start, .int o_m_token, .int o_m_value, .int o_m_fault, .int o_m_faultAt, .int m_latest, .ref mA_strengths, .ref mA_sounds, .ref mA_stand, .int m_stands, .int m_least, .int m_ways, .ref mA_scheme, .int m_nearFoot, .int m_nearFeet, .int m_nearCost, .ref mA_isKept, .ref mA_kept, .ref mA_trace, .int m_traced])), aI K mA_fresh 207 o_m_fresh, aI K mA_tape 130 m_tape] → va_S A s.heap H locs → W p l e rmX7_readLine s m args below meth c H locs 0 0 Q (F0 m pc ls [])) (m_cursor : Int32) (m_start : Int32) (m_token : Int32) (m_value : Int32) (m_fault : Int32) (m_faultAt : Int32) (m_fresh : Nat → Int32) (hM : mX7_readLine_b44 m_taped m_tape p1  m_cursor m_start m_token m_value m_fault m_faultAt m_fresh = some (o_m_cursor, o_m_start, o_m_token, o_m_value, o_m_fault, o_m_faultAt, o_m_fresh)) : ∀ (H : Heap) (locs : List Loc) (ls : Array Slot), va_P G vwCl [(m_a, .inr (7, [.int m_thrown, .int m_status, .ref mA_lane, .ref mA_many, .ref mA_item, .ref mA_poem, .ref mA_fresh, .ref mA_then, .ref mA_was, .int m_acts, .ref mA_tape, .int m_taped, .int m_cursor, .int m_start, .int m_token, .int m_value, .int m_fault, .int m_faultAt, .int m_latest, .ref mA_strengths, .ref mA_sounds, .ref mA_stand, .int m_stands, .int m_least, .int m_ways, .ref mA_scheme, .int m_nearFoot, .int m_nearFeet, .int m_nearCost, .ref mA_isKept, .ref mA_kept, .ref mA_trace, .int m_traced])), aI K mA_fresh 207 m_fresh, aI K mA_tape 130 m_tape] H → va_D A [(m_a, .inr (7, [.int m_thrown, .int m_status, .ref mA_lane, .ref mA_many, .ref mA_item, .ref mA_poem, .ref mA_fresh, .ref mA_then, .ref mA_was, .int m_acts, .ref mA_tape, .int m_taped, .int m_cursor, .int m_start, .int m_token, .int m_value, .int m_fault, .int m_faultAt, .int m_latest, .ref mA_strengths, .ref mA_sounds, .ref mA_stand, .int m_stands, .int m_least, .int m_ways, .ref mA_scheme, .int m_nearFoot, .int m_nearFeet, .int m_nearCost, .ref mA_isKept, .ref mA_kept, .ref mA_trace, .int m_traced])), aI K mA_fresh 207 m_fresh, aI K mA_tape 130 m_tape] → va_S A s.heap H locs → lv_has ls 3 [(0, .ref m_a), (1, .int p1)] → W p l e rmX7_readLine s m args below meth c H locs 0 0 Q (F0 m 44 ls []) := by
  obtain ⟨hx, hb, hml, hown, hts, hK, hA, hEo, hE⟩ := id C0
  intro H locs ls hP hD hS hl
  unfold mX7_readLine_b44 at hM
  refine lv_iload_n hx hb dX7_readLine_44 rfl (lv_at hl 1 rfl) ?_
  refine lv_iconst (v := 4) hx hb dX7_readLine_45 (by decide) ?_
  refine lv_icmp_ge (tgt := 53) hx hb dX7_readLine_46 (by decide) (fun c_10 => ?_) (fun c_10 => ?_)
  · rw [if_pos c_10] at hM
    refine lv_iconst (v := 3) hx hb dX7_readLine_53 (by decide) ?_
    exact wX7_readLine_b54 C0 m_a mA_lane mA_many mA_item mA_poem mA_fresh mA_then mA_was mA_tape mA_strengths mA_sounds mA_stand mA_scheme mA_isKept mA_kept mA_trace m_thrown m_status m_acts m_taped m_latest m_stands m_least m_ways m_nearFoot m_nearFeet m_nearCost m_traced m_tape p1 o_m_cursor o_m_start o_m_token o_m_value o_m_fault o_m_faultAt o_m_fresh kr  m_cursor m_start m_token m_value m_fault m_faultAt m_fresh (3 : Int32) hM _ _ _ hP hD hS (lv_sub hl [0] rfl)
  · rw [if_neg c_10] at hM
    refine lv_iload_n hx hb dX7_readLine_49 rfl (lv_at hl 1 rfl) ?_
    refine lv_goto (tgt := 54) hx hb dX7_readLine_50 (by decide) ?_
    exact wX7_readLine_b54 C0 m_a mA_lane mA_many mA_item mA_poem mA_fresh mA_then mA_was mA_tape mA_strengths mA_sounds mA_stand mA_scheme mA_isKept mA_kept mA_trace m_thrown m_status m_acts m_taped m_latest m_stands m_least m_ways m_nearFoot m_nearFeet m_nearCost m_traced m_tape p1 o_m_cursor o_m_start o_m_token o_m_value o_m_fault o_m_faultAt o_m_fresh kr  m_cursor m_start m_token m_value m_fault m_faultAt m_fresh p1 hM _ _ _ hP hD hS (lv_sub hl [0] rfl)
set_option maxHeartbeats 4000000 in
set_option maxRecDepth 100000 in
theorem wX7_readLine_b41 {p : Program} {l : Launch} {e : Env} {s : State} {m : MethodId} {args : Array Value} {below : List Frame} {meth : Method} {c : Code} {Q : State → Prop} {G : va_G} {K : Nat → ClassId} {A : Nat → Prop} (C0 : CX p s m args c cX7_readLine 3 RX7 G K E0 A) (m_a mA_lane mA_many mA_item mA_poem mA_fresh mA_then mA_was mA_tape mA_strengths mA_sounds mA_stand mA_scheme mA_isKept mA_kept mA_trace : Nat) (m_thrown : Int32) (m_status : Int32) (m_acts : Int32) (m_taped : Int32) (m_latest : Int32) (m_stands : Int32) (m_least : Int32) (m_ways : Int32) (m_nearFoot : Int32) (m_nearFeet : Int32) (m_nearCost : Int32) (m_traced : Int32) (m_tape : Nat → Int32) (p1 : Int32) (o_m_cursor : Int32) (o_m_start : Int32) (o_m_token : Int32) (o_m_value : Int32) (o_m_fault : Int32) (o_m_faultAt : Int32) (o_m_fresh : Nat → Int32) (kr : ∀ (H : Heap) (locs : List Loc) (ls : Array Slot) (pc : Nat), decode cX7_readLine pc = .ok (.return_, 1) → va_P G vwCl [(m_a, .inr (7, [.int m_thrown, .int m_status, .ref mA_lane, .ref mA_many, .ref mA_item, .ref mA_poem, .ref mA_fresh, .ref mA_then, .ref mA_was, .int m_acts, .ref mA_tape, .int m_taped, .int o_m_cursor, .int o_m_start, .int o_m_token, .int o_m_value, .int o_m_fault, .int o_m_faultAt, .int m_latest, .ref mA_strengths, .ref mA_sounds, .ref mA_stand, .int m_stands, .int m_least, .int m_ways, .ref mA_scheme, .int m_nearFoot, .int m_nearFeet, .int m_nearCost, .ref mA_isKept, .ref mA_kept, .ref mA_trace, .int m_traced])), aI K mA_fresh 207 o_m_fresh, aI K mA_tape 130 m_tape] H → va_D A [(m_a, .inr (7, [.int m_thrown, .int m_status, .ref mA_lane, .ref mA_many, .ref mA_item, .ref mA_poem, .ref mA_fresh, .ref mA_then, .ref mA_was, .int m_acts, .ref mA_tape, .int m_taped, .int o_m_cursor, .int o_m_start, .int o_m_token, .int o_m_value, .int o_m_fault, .int o_m_faultAt, .int m_latest, .ref mA_strengths, .ref mA_sounds, .ref mA_stand, .int m_stands, .int m_least, .int m_ways, .ref mA_scheme, .int m_nearFoot, .int m_nearFeet, .int m_nearCost, .ref mA_isKept, .ref mA_kept, .ref mA_trace, .int m_traced])), aI K mA_fresh 207 o_m_fresh, aI K mA_tape 130 m_tape] → va_S A s.heap H locs → W p l e rmX7_readLine s m args below meth c H locs 0 0 Q (F0 m pc ls [])) (m_cursor : Int32) (m_start : Int32) (m_token : Int32) (m_value : Int32) (m_fault : Int32) (m_faultAt : Int32) (m_fresh : Nat → Int32) (s1 : Int32) (hM : mX7_readLine_b41 m_taped m_tape p1  m_cursor m_start m_token m_value m_fault m_faultAt m_fresh s1 = some (o_m_cursor, o_m_start, o_m_token, o_m_value, o_m_fault, o_m_faultAt, o_m_fresh)) : ∀ (H : Heap) (locs : List Loc) (ls : Array Slot), va_P G vwCl [(m_a, .inr (7, [.int m_thrown, .int m_status, .ref mA_lane, .ref mA_many, .ref mA_item, .ref mA_poem, .ref mA_fresh, .ref mA_then, .ref mA_was, .int m_acts, .ref mA_tape, .int m_taped, .int m_cursor, .int m_start, .int m_token, .int m_value, .int m_fault, .int m_faultAt, .int m_latest, .ref mA_strengths, .ref mA_sounds, .ref mA_stand, .int m_stands, .int m_least, .int m_ways, .ref mA_scheme, .int m_nearFoot, .int m_nearFeet, .int m_nearCost, .ref mA_isKept, .ref mA_kept, .ref mA_trace, .int m_traced])), aI K mA_fresh 207 m_fresh, aI K mA_tape 130 m_tape] H → va_D A [(m_a, .inr (7, [.int m_thrown, .int m_status, .ref mA_lane, .ref mA_many, .ref mA_item, .ref mA_poem, .ref mA_fresh, .ref mA_then, .ref mA_was, .int m_acts, .ref mA_tape, .int m_taped, .int m_cursor, .int m_start, .int m_token, .int m_value, .int m_fault, .int m_faultAt, .int m_latest, .ref mA_strengths, .ref mA_sounds, .ref mA_stand, .int m_stands, .int m_least, .int m_ways, .ref mA_scheme, .int m_nearFoot, .int m_nearFeet, .int m_nearCost, .ref mA_isKept, .ref mA_kept, .ref mA_trace, .int m_traced])), aI K mA_fresh 207 m_fresh, aI K mA_tape 130 m_tape] → va_S A s.heap H locs → lv_has ls 3 [(0, .ref m_a), (1, .int p1)] → W p l e rmX7_readLine s m args below meth c H locs 0 0 Q (F0 m 41 ls [.int s1, .ref m_a]) := by
  obtain ⟨hx, hb, hml, hown, hts, hK, hA, hEo, hE⟩ := id C0
  intro H locs ls hP hD hS hl
  unfold mX7_readLine_b41 at hM
  obtain ⟨u0_11, u1_11, hC, hM⟩ := oe2 hM
  refine cV_v (As := [.int s1]) (rest := []) C0 hP hD hS [0] (kX7_bad l G K m_a mA_lane mA_many mA_item mA_poem mA_fresh mA_then mA_was mA_tape mA_strengths mA_sounds mA_stand mA_scheme mA_isKept mA_kept mA_trace m_thrown m_status m_acts m_taped m_cursor m_start m_token m_value m_fault m_faultAt m_latest m_stands m_least m_ways m_nearFoot m_nearFeet m_nearCost m_traced s1 H.size u0_11 u1_11 hC) rfl rfl rfl tb934 tb936 tp18 tb9 tb937 hdX7_bad (va_recv hK hP (ci := 7) (q0 := 0) rfl rfl) ⟨Nat.le_of_ble_eq_true rfl, Nat.le_of_ble_eq_true rfl⟩ rfl hl.1 (Nat.le_of_ble_eq_true rfl) rfl ⟨Nat.le_refl _, Nat.le_refl _⟩ dX7_readLine_41 (fun H locs hP hD hS => ?_)
  have hP : va_P G vwCl [(m_a, .inr (7, [.int m_thrown, .int m_status, .ref mA_lane, .ref mA_many, .ref mA_item, .ref mA_poem, .ref mA_fresh, .ref mA_then, .ref mA_was, .int m_acts, .ref mA_tape, .int m_taped, .int m_cursor, .int m_start, .int m_token, .int m_value, .int u0_11, .int u1_11, .int m_latest, .ref mA_strengths, .ref mA_sounds, .ref mA_stand, .int m_stands, .int m_least, .int m_ways, .ref mA_scheme, .int m_nearFoot, .int m_nearFeet, .int m_nearCost, .ref mA_isKept, .ref mA_kept, .ref mA_trace, .int m_traced])), aI K mA_fresh 207 m_fresh, aI K mA_tape 130 m_tape] H := hP
  have hD : va_D A [(m_a, .inr (7, [.int m_thrown, .int m_status, .ref mA_lane, .ref mA_many, .ref mA_item, .ref mA_poem, .ref mA_fresh, .ref mA_then, .ref mA_was, .int m_acts, .ref mA_tape, .int m_taped, .int m_cursor, .int m_start, .int m_token, .int m_value, .int u0_11, .int u1_11, .int m_latest, .ref mA_strengths, .ref mA_sounds, .ref mA_stand, .int m_stands, .int m_least, .int m_ways, .ref mA_scheme, .int m_nearFoot, .int m_nearFeet, .int m_nearCost, .ref mA_isKept, .ref mA_kept, .ref mA_trace, .int m_traced])), aI K mA_fresh 207 m_fresh, aI K mA_tape 130 m_tape] := hD
  exact wX7_readLine_b44 C0 m_a mA_lane mA_many mA_item mA_poem mA_fresh mA_then mA_was mA_tape mA_strengths mA_sounds mA_stand mA_scheme mA_isKept mA_kept mA_trace m_thrown m_status m_acts m_taped m_latest m_stands m_least m_ways m_nearFoot m_nearFeet m_nearCost m_traced m_tape p1 o_m_cursor o_m_start o_m_token o_m_value o_m_fault o_m_faultAt o_m_fresh kr  m_cursor m_start m_token m_value u0_11 u1_11 m_fresh hM _ _ _ hP hD hS (lv_sub hl [0, 1] rfl)
set_option maxHeartbeats 4000000 in
set_option maxRecDepth 100000 in
theorem wX7_readLine_b0 {p : Program} {l : Launch} {e : Env} {s : State} {m : MethodId} {args : Array Value} {below : List Frame} {meth : Method} {c : Code} {Q : State → Prop} {G : va_G} {K : Nat → ClassId} {A : Nat → Prop} (C0 : CX p s m args c cX7_readLine 3 RX7 G K E0 A) (m_a mA_lane mA_many mA_item mA_poem mA_fresh mA_then mA_was mA_tape mA_strengths mA_sounds mA_stand mA_scheme mA_isKept mA_kept mA_trace : Nat) (m_thrown : Int32) (m_status : Int32) (m_acts : Int32) (m_taped : Int32) (m_latest : Int32) (m_stands : Int32) (m_least : Int32) (m_ways : Int32) (m_nearFoot : Int32) (m_nearFeet : Int32) (m_nearCost : Int32) (m_traced : Int32) (m_tape : Nat → Int32) (p1 : Int32) (o_m_cursor : Int32) (o_m_start : Int32) (o_m_token : Int32) (o_m_value : Int32) (o_m_fault : Int32) (o_m_faultAt : Int32) (o_m_fresh : Nat → Int32) (kr : ∀ (H : Heap) (locs : List Loc) (ls : Array Slot) (pc : Nat), decode cX7_readLine pc = .ok (.return_, 1) → va_P G vwCl [(m_a, .inr (7, [.int m_thrown, .int m_status, .ref mA_lane, .ref mA_many, .ref mA_item, .ref mA_poem, .ref mA_fresh, .ref mA_then, .ref mA_was, .int m_acts, .ref mA_tape, .int m_taped, .int o_m_cursor, .int o_m_start, .int o_m_token, .int o_m_value, .int o_m_fault, .int o_m_faultAt, .int m_latest, .ref mA_strengths, .ref mA_sounds, .ref mA_stand, .int m_stands, .int m_least, .int m_ways, .ref mA_scheme, .int m_nearFoot, .int m_nearFeet, .int m_nearCost, .ref mA_isKept, .ref mA_kept, .ref mA_trace, .int m_traced])), aI K mA_fresh 207 o_m_fresh, aI K mA_tape 130 m_tape] H → va_D A [(m_a, .inr (7, [.int m_thrown, .int m_status, .ref mA_lane, .ref mA_many, .ref mA_item, .ref mA_poem, .ref mA_fresh, .ref mA_then, .ref mA_was, .int m_acts, .ref mA_tape, .int m_taped, .int o_m_cursor, .int o_m_start, .int o_m_token, .int o_m_value, .int o_m_fault, .int o_m_faultAt, .int m_latest, .ref mA_strengths, .ref mA_sounds, .ref mA_stand, .int m_stands, .int m_least, .int m_ways, .ref mA_scheme, .int m_nearFoot, .int m_nearFeet, .int m_nearCost, .ref mA_isKept, .ref mA_kept, .ref mA_trace, .int m_traced])), aI K mA_fresh 207 o_m_fresh, aI K mA_tape 130 m_tape] → va_S A s.heap H locs → W p l e rmX7_readLine s m args below meth c H locs 0 0 Q (F0 m pc ls [])) (m_cursor : Int32) (m_start : Int32) (m_token : Int32) (m_value : Int32) (m_fault : Int32) (m_faultAt : Int32) (m_fresh : Nat → Int32) (hM : mX7_readLine_b0 m_taped m_tape p1  m_cursor m_start m_token m_value m_fault m_faultAt m_fresh = some (o_m_cursor, o_m_start, o_m_token, o_m_value, o_m_fault, o_m_faultAt, o_m_fresh)) : ∀ (H : Heap) (locs : List Loc) (ls : Array Slot), va_P G vwCl [(m_a, .inr (7, [.int m_thrown, .int m_status, .ref mA_lane, .ref mA_many, .ref mA_item, .ref mA_poem, .ref mA_fresh, .ref mA_then, .ref mA_was, .int m_acts, .ref mA_tape, .int m_taped, .int m_cursor, .int m_start, .int m_token, .int m_value, .int m_fault, .int m_faultAt, .int m_latest, .ref mA_strengths, .ref mA_sounds, .ref mA_stand, .int m_stands, .int m_least, .int m_ways, .ref mA_scheme, .int m_nearFoot, .int m_nearFeet, .int m_nearCost, .ref mA_isKept, .ref mA_kept, .ref mA_trace, .int m_traced])), aI K mA_fresh 207 m_fresh, aI K mA_tape 130 m_tape] H → va_D A [(m_a, .inr (7, [.int m_thrown, .int m_status, .ref mA_lane, .ref mA_many, .ref mA_item, .ref mA_poem, .ref mA_fresh, .ref mA_then, .ref mA_was, .int m_acts, .ref mA_tape, .int m_taped, .int m_cursor, .int m_start, .int m_token, .int m_value, .int m_fault, .int m_faultAt, .int m_latest, .ref mA_strengths, .ref mA_sounds, .ref mA_stand, .int m_stands, .int m_least, .int m_ways, .ref mA_scheme, .int m_nearFoot, .int m_nearFeet, .int m_nearCost, .ref mA_isKept, .ref mA_kept, .ref mA_trace, .int m_traced])), aI K mA_fresh 207 m_fresh, aI K mA_tape 130 m_tape] → va_S A s.heap H locs → lv_has ls 3 [(0, .ref m_a), (1, .int p1)] → W p l e rmX7_readLine s m args below meth c H locs 0 0 Q (F0 m 0 ls []) := by
  obtain ⟨hx, hb, hml, hown, hts, hK, hA, hEo, hE⟩ := id C0
  intro H locs ls hP hD hS hl
  unfold mX7_readLine_b0 at hM
  refine lv_iload_n hx hb dX7_readLine_0 rfl (lv_at hl 1 rfl) ?_
  refine lv_iconst (v := 4) hx hb dX7_readLine_1 (by decide) ?_
  refine lv_icmp_ne (tgt := 44) hx hb dX7_readLine_2 (by decide) (fun c_12 => ?_) (fun c_12 => ?_)
  · rw [if_pos c_12] at hM
    exact wX7_readLine_b44 C0 m_a mA_lane mA_many mA_item mA_poem mA_fresh mA_then mA_was mA_tape mA_strengths mA_sounds mA_stand mA_scheme mA_isKept mA_kept mA_trace m_thrown m_status m_acts m_taped m_latest m_stands m_least m_ways m_nearFoot m_nearFeet m_nearCost m_traced m_tape p1 o_m_cursor o_m_start o_m_token o_m_value o_m_fault o_m_faultAt o_m_fresh kr  m_cursor m_start m_token m_value m_fault m_faultAt m_fresh hM _ _ _ hP hD hS (lv_sub hl [0, 1] rfl)
  · rw [if_neg c_12] at hM
    refine lv_aload_n hx hb dX7_readLine_5 rfl (lv_at hl 0 rfl) ?_
    refine va_get (D := G) (ci := 7) (v := .int m_fault) (C := RX7) (T := TX7) (N := 33) hx hb hts inX7 hown hK hP 0 rfl rfl 16 (by decide) (hts _ tb784) (fun _ h9 => h9) rfl dX7_readLine_6 ?_
    refine lv_if_ne (tgt := 44) hx hb dX7_readLine_9 (by decide) (fun c_13 => ?_) (fun c_13 => ?_)
    · rw [if_pos c_13] at hM
      exact wX7_readLine_b44 C0 m_a mA_lane mA_many mA_item mA_poem mA_fresh mA_then mA_was mA_tape mA_strengths mA_sounds mA_stand mA_scheme mA_isKept mA_kept mA_trace m_thrown m_status m_acts m_taped m_latest m_stands m_least m_ways m_nearFoot m_nearFeet m_nearCost m_traced m_tape p1 o_m_cursor o_m_start o_m_token o_m_value o_m_fault o_m_faultAt o_m_fresh kr  m_cursor m_start m_token m_value m_fault m_faultAt m_fresh hM _ _ _ hP hD hS (lv_sub hl [0, 1] rfl)
    · rw [if_neg c_13] at hM
      refine lv_aload_n hx hb dX7_readLine_12 rfl (lv_at hl 0 rfl) ?_
      refine va_get (D := G) (ci := 7) (v := .int m_token) (C := RX7) (T := TX7) (N := 33) hx hb hts inX7 hown hK hP 0 rfl rfl 14 (by decide) (hts _ tb782) (fun _ h9 => h9) rfl dX7_readLine_13 ?_
      refine lv_iconst (v := 3) hx hb dX7_readLine_16 (by decide) ?_
      refine lv_icmp_ne (tgt := 44) hx hb dX7_readLine_17 (by decide) (fun c_14 => ?_) (fun c_14 => ?_)
      · rw [if_pos c_14] at hM
        exact wX7_readLine_b44 C0 m_a mA_lane mA_many mA_item mA_poem mA_fresh mA_then mA_was mA_tape mA_strengths mA_sounds mA_stand mA_scheme mA_isKept mA_kept mA_trace m_thrown m_status m_acts m_taped m_latest m_stands m_least m_ways m_nearFoot m_nearFeet m_nearCost m_traced m_tape p1 o_m_cursor o_m_start o_m_token o_m_value o_m_fault o_m_faultAt o_m_fresh kr  m_cursor m_start m_token m_value m_fault m_faultAt m_fresh hM _ _ _ hP hD hS (lv_sub hl [0, 1] rfl)
      · rw [if_neg c_14] at hM
        refine lv_aload_n hx hb dX7_readLine_20 rfl (lv_at hl 0 rfl) ?_
        refine lv_aload_n hx hb dX7_readLine_21 rfl (lv_at hl 0 rfl) ?_
        refine va_get (D := G) (ci := 7) (v := .int m_value) (C := RX7) (T := TX7) (N := 33) hx hb hts inX7 hown hK hP 0 rfl rfl 15 (by decide) (hts _ tb783) (fun _ h9 => h9) rfl dX7_readLine_22 ?_
        refine lv_i2l hx hb dX7_readLine_25 rfl ?_
        refine lv_lconst (v := 1) hx hb dX7_readLine_26 (by decide) ?_
        refine lv_ldc2 (v := 5) hx hb hown (hts _ tb950) dX7_readLine_27 ?_
        obtain ⟨r_15, hC, hM⟩ := oe1 hM
        refine cS_i (As := [.long m_value.toInt64, .long (1 : Int64), .long (5 : Int64)]) (rest := [.ref m_a]) C0 hP hD hS [] (kX7_in l G K m_value.toInt64 (1 : Int64) (5 : Int64) H.size r_15 hC) rfl rfl rfl tb877 tb878 tb9 tb879 hdX7_in ⟨Nat.le_of_ble_eq_true rfl, Nat.le_of_ble_eq_true rfl⟩ rfl hl.1 (Nat.le_of_ble_eq_true rfl) rfl ⟨Nat.le_refl _, Nat.le_refl _⟩ dX7_readLine_30 (fun H locs hP hD hS => ?_)
        have hP : va_P G vwCl [(m_a, .inr (7, [.int m_thrown, .int m_status, .ref mA_lane, .ref mA_many, .ref mA_item, .ref mA_poem, .ref mA_fresh, .ref mA_then, .ref mA_was, .int m_acts, .ref mA_tape, .int m_taped, .int m_cursor, .int m_start, .int m_token, .int m_value, .int m_fault, .int m_faultAt, .int m_latest, .ref mA_strengths, .ref mA_sounds, .ref mA_stand, .int m_stands, .int m_least, .int m_ways, .ref mA_scheme, .int m_nearFoot, .int m_nearFeet, .int m_nearCost, .ref mA_isKept, .ref mA_kept, .ref mA_trace, .int m_traced])), aI K mA_fresh 207 m_fresh, aI K mA_tape 130 m_tape] H := hP
        have hD : va_D A [(m_a, .inr (7, [.int m_thrown, .int m_status, .ref mA_lane, .ref mA_many, .ref mA_item, .ref mA_poem, .ref mA_fresh, .ref mA_then, .ref mA_was, .int m_acts, .ref mA_tape, .int m_taped, .int m_cursor, .int m_start, .int m_token, .int m_value, .int m_fault, .int m_faultAt, .int m_latest, .ref mA_strengths, .ref mA_sounds, .ref mA_stand, .int m_stands, .int m_least, .int m_ways, .ref mA_scheme, .int m_nearFoot, .int m_nearFeet, .int m_nearCost, .ref mA_isKept, .ref mA_kept, .ref mA_trace, .int m_traced])), aI K mA_fresh 207 m_fresh, aI K mA_tape 130 m_tape] := hD
        refine lv_if_eq (tgt := 40) hx hb dX7_readLine_33 (by decide) (fun c_16 => ?_) (fun c_16 => ?_)
        · rw [if_pos c_16] at hM
          refine lv_iconst (v := 2) hx hb dX7_readLine_40 (by decide) ?_
          exact wX7_readLine_b41 C0 m_a mA_lane mA_many mA_item mA_poem mA_fresh mA_then mA_was mA_tape mA_strengths mA_sounds mA_stand mA_scheme mA_isKept mA_kept mA_trace m_thrown m_status m_acts m_taped m_latest m_stands m_least m_ways m_nearFoot m_nearFeet m_nearCost m_traced m_tape p1 o_m_cursor o_m_start o_m_token o_m_value o_m_fault o_m_faultAt o_m_fresh kr  m_cursor m_start m_token m_value m_fault m_faultAt m_fresh (2 : Int32) hM _ _ _ hP hD hS (lv_sub hl [0, 1] rfl)
        · rw [if_neg c_16] at hM
          refine lv_iconst (v := 3) hx hb dX7_readLine_36 (by decide) ?_
          refine lv_goto (tgt := 41) hx hb dX7_readLine_37 (by decide) ?_
          exact wX7_readLine_b41 C0 m_a mA_lane mA_many mA_item mA_poem mA_fresh mA_then mA_was mA_tape mA_strengths mA_sounds mA_stand mA_scheme mA_isKept mA_kept mA_trace m_thrown m_status m_acts m_taped m_latest m_stands m_least m_ways m_nearFoot m_nearFeet m_nearCost m_traced m_tape p1 o_m_cursor o_m_start o_m_token o_m_value o_m_fault o_m_faultAt o_m_fresh kr  m_cursor m_start m_token m_value m_fault m_faultAt m_fresh (3 : Int32) hM _ _ _ hP hD hS (lv_sub hl [0, 1] rfl)
set_option maxHeartbeats 4000000 in
set_option maxRecDepth 100000 in
theorem kX7_readLine (l : Launch) (G : va_G) (K : Nat → ClassId) (m_a mA_lane mA_many mA_item mA_poem mA_fresh mA_then mA_was mA_tape mA_strengths mA_sounds mA_stand mA_scheme mA_isKept mA_kept mA_trace : Nat) (m_thrown : Int32) (m_status : Int32) (m_acts : Int32) (m_taped : Int32) (m_cursor : Int32) (m_start : Int32) (m_token : Int32) (m_value : Int32) (m_fault : Int32) (m_faultAt : Int32) (m_latest : Int32) (m_stands : Int32) (m_least : Int32) (m_ways : Int32) (m_nearFoot : Int32) (m_nearFeet : Int32) (m_nearCost : Int32) (m_traced : Int32) (m_fresh : Nat → Int32) (m_tape : Nat → Int32) (p1 : Int32) (sz : Nat) (o_m_cursor : Int32) (o_m_start : Int32) (o_m_token : Int32) (o_m_value : Int32) (o_m_fault : Int32) (o_m_faultAt : Int32) (o_m_fresh : Nat → Int32) (hM : mX7_readLine m_taped m_tape m_cursor m_start m_token m_value m_fault m_faultAt m_fresh p1 = some (o_m_cursor, o_m_start, o_m_token, o_m_value, o_m_fault, o_m_faultAt, o_m_fresh)) : Met l yX7_readLine (mC yX7_readLine cX7_readLine 3 none) rmX7_readLine (va_Pc [.ref m_a, .int p1] (PCe G K E0 [(m_a, .inr (7, [.int m_thrown, .int m_status, .ref mA_lane, .ref mA_many, .ref mA_item, .ref mA_poem, .ref mA_fresh, .ref mA_then, .ref mA_was, .int m_acts, .ref mA_tape, .int m_taped, .int m_cursor, .int m_start, .int m_token, .int m_value, .int m_fault, .int m_faultAt, .int m_latest, .ref mA_strengths, .ref mA_sounds, .ref mA_stand, .int m_stands, .int m_least, .int m_ways, .ref mA_scheme, .int m_nearFoot, .int m_nearFeet, .int m_nearCost, .ref mA_isKept, .ref mA_kept, .ref mA_trace, .int m_traced])), aI K mA_fresh 207 m_fresh, aI K mA_tape 130 m_tape] sz)) (va_Qv (fun (_ : Unit) => True) (fun _ t => va_P G vwCl [(m_a, .inr (7, [.int m_thrown, .int m_status, .ref mA_lane, .ref mA_many, .ref mA_item, .ref mA_poem, .ref mA_fresh, .ref mA_then, .ref mA_was, .int m_acts, .ref mA_tape, .int m_taped, .int o_m_cursor, .int o_m_start, .int o_m_token, .int o_m_value, .int o_m_fault, .int o_m_faultAt, .int m_latest, .ref mA_strengths, .ref mA_sounds, .ref mA_stand, .int m_stands, .int m_least, .int m_ways, .ref mA_scheme, .int m_nearFoot, .int m_nearFeet, .int m_nearCost, .ref mA_isKept, .ref mA_kept, .ref mA_trace, .int m_traced])), aI K mA_fresh 207 o_m_fresh, aI K mA_tape 130 m_tape] t.heap) (va_A [(m_a, .inr (7, [.int m_thrown, .int m_status, .ref mA_lane, .ref mA_many, .ref mA_item, .ref mA_poem, .ref mA_fresh, .ref mA_then, .ref mA_was, .int m_acts, .ref mA_tape, .int m_taped, .int m_cursor, .int m_start, .int m_token, .int m_value, .int m_fault, .int m_faultAt, .int m_latest, .ref mA_strengths, .ref mA_sounds, .ref mA_stand, .int m_stands, .int m_least, .int m_ways, .ref mA_scheme, .int m_nearFoot, .int m_nearFeet, .int m_nearCost, .ref mA_isKept, .ref mA_kept, .ref mA_trace, .int m_traced])), aI K mA_fresh 207 m_fresh, aI K mA_tape 130 m_tape] sz)) rmX7_readLine.cells rmX7_readLine.slots (va_A [(m_a, .inr (7, [.int m_thrown, .int m_status, .ref mA_lane, .ref mA_many, .ref mA_item, .ref mA_poem, .ref mA_fresh, .ref mA_then, .ref mA_was, .int m_acts, .ref mA_tape, .int m_taped, .int m_cursor, .int m_start, .int m_token, .int m_value, .int m_fault, .int m_faultAt, .int m_latest, .ref mA_strengths, .ref mA_sounds, .ref mA_stand, .int m_stands, .int m_least, .int m_ways, .ref mA_scheme, .int m_nearFoot, .int m_nearFeet, .int m_nearCost, .ref mA_isKept, .ref mA_kept, .ref mA_trace, .int m_traced])), aI K mA_fresh 207 m_fresh, aI K mA_tape 130 m_tape] sz) := by
  refine Met.ofW (cc := cX7_readLine) (maxL := 3) (ret := none) (by decide) rfl ?_
  intro p e s m args below meth c s₁ B hml hv
  obtain ⟨rfl, hsz, hP, hK, hD0, hE⟩ := hv
  have hx := B.exec
  have hb := B.bytes
  have hr := B.returns
  have hts0 := atoms_spec (ws := mC yX7_readLine cX7_readLine 3 none) B.pre
  have hts : ∀ w ∈ tbG, w.before _ s = true := fun w h => hts0 w (List.mem_cons_of_mem _ h)
  have hown : s.vm.findClass RX7 = some m.cls := findClass_of_methodNamed B.named
  subst hsz
  have hD := hD0.self (sz := s.heap.size)
  generalize hAe : va_A [(m_a, .inr (7, [.int m_thrown, .int m_status, .ref mA_lane, .ref mA_many, .ref mA_item, .ref mA_poem, .ref mA_fresh, .ref mA_then, .ref mA_was, .int m_acts, .ref mA_tape, .int m_taped, .int m_cursor, .int m_start, .int m_token, .int m_value, .int m_fault, .int m_faultAt, .int m_latest, .ref mA_strengths, .ref mA_sounds, .ref mA_stand, .int m_stands, .int m_least, .int m_ways, .ref mA_scheme, .int m_nearFoot, .int m_nearFeet, .int m_nearCost, .ref mA_isKept, .ref mA_kept, .ref mA_trace, .int m_traced])), aI K mA_fresh 207 m_fresh, aI K mA_tape 130 m_tape] s.heap.size = A at hD hE ⊢
  have hA : ∀ q : Nat, s.heap.size ≤ q → A q := fun q h => by rw [← hAe]; exact Or.inr h
  have hS : va_S A s.heap s.heap [] := va_S.rf
  have hl := lv_entry ([.ref m_a, .int p1]) (n := 3) (Nat.le_of_ble_eq_true rfl)
  rw [lg_entry_eq]
  generalize (lg_sl ([.ref m_a, .int p1]) ++ List.replicate (3 - (lg_sl ([.ref m_a, .int p1])).length) Slot.unset).toArray = ls at hl ⊢
  have hl : lv_has ls 3 [(0, .ref m_a), (1, .int p1)] := hl
  exact wX7_readLine_b0 ⟨hx, hb, hml, hown, hts, hK, hA, E0_ok, hE⟩ m_a mA_lane mA_many mA_item mA_poem mA_fresh mA_then mA_was mA_tape mA_strengths mA_sounds mA_stand mA_scheme mA_isKept mA_kept mA_trace m_thrown m_status m_acts m_taped m_latest m_stands m_least m_ways m_nearFoot m_nearFeet m_nearCost m_traced m_tape p1 o_m_cursor o_m_start o_m_token o_m_value o_m_fault o_m_faultAt o_m_fresh (fun H locs ls pc hdg hP hD hS => W.vret hx hb hr (fun t ht hW => ⟨⟨(), rfl, trivial, by rw [ht]; exact hP⟩, hS.F ht⟩) hS.2.2 hdg) m_cursor m_start m_token m_value m_fault m_faultAt m_fresh  hM _ _ _ hP hD hS hl
def rmX7_poem : Room := { frames := 6, cells := 0, slots := 0, locals := 136 }
theorem hdX7_poem : yX7_poem.cls = RX7 ∧ yX7_poem.cls ≠ "java/lang/invoke/MethodHandle" ∧ yX7_poem.cls ≠ "java/lang/invoke/VarHandle" ∧ (parseMethodDescriptor yX7_poem.desc).map (fun d => d.parameters.length) = some 0 := by decide +kernel
set_option maxHeartbeats 4000000 in
set_option maxRecDepth 100000 in
theorem wX7_poem_b132 {p : Program} {l : Launch} {e : Env} {s : State} {m : MethodId} {args : Array Value} {below : List Frame} {meth : Method} {c : Code} {Q : State → Prop} {G : va_G} {K : Nat → ClassId} {A : Nat → Prop} (C0 : CX p s m args c cX7_poem 2 RX7 G K E0 A) (m_a mA_lane mA_many mA_item mA_poem mA_fresh mA_then mA_was mA_tape mA_strengths mA_sounds mA_stand mA_scheme mA_isKept mA_kept mA_trace : Nat) (m_status : Int32) (m_stands : Int32) (m_least : Int32) (m_ways : Int32) (m_nearFoot : Int32) (m_nearFeet : Int32) (m_nearCost : Int32) (m_traced : Int32) (m_tape : Nat → Int32)  (r : Int32) (o_m_thrown : Int32) (o_m_acts : Int32) (o_m_taped : Int32) (o_m_cursor : Int32) (o_m_start : Int32) (o_m_token : Int32) (o_m_value : Int32) (o_m_fault : Int32) (o_m_faultAt : Int32) (o_m_latest : Int32) (o_m_poem : Nat → Int32) (o_m_fresh : Nat → Int32) (kr : ∀ (H : Heap) (locs : List Loc) (ls : Array Slot) (pc : Nat), decode cX7_poem pc = .ok (.ireturn, 1) → va_P G vwCl [(m_a, .inr (7, [.int o_m_thrown, .int m_status, .ref mA_lane, .ref mA_many, .ref mA_item, .ref mA_poem, .ref mA_fresh, .ref mA_then, .ref mA_was, .int o_m_acts, .ref mA_tape, .int o_m_taped, .int o_m_cursor, .int o_m_start, .int o_m_token, .int o_m_value, .int o_m_fault, .int o_m_faultAt, .int o_m_latest, .ref mA_strengths, .ref mA_sounds, .ref mA_stand, .int m_stands, .int m_least, .int m_ways, .ref mA_scheme, .int m_nearFoot, .int m_nearFeet, .int m_nearCost, .ref mA_isKept, .ref mA_kept, .ref mA_trace, .int m_traced])), aI K mA_poem 207 o_m_poem, aI K mA_fresh 207 o_m_fresh, aI K mA_tape 130 m_tape] H → va_D A [(m_a, .inr (7, [.int o_m_thrown, .int m_status, .ref mA_lane, .ref mA_many, .ref mA_item, .ref mA_poem, .ref mA_fresh, .ref mA_then, .ref mA_was, .int o_m_acts, .ref mA_tape, .int o_m_taped, .int o_m_cursor, .int o_m_start, .int o_m_token, .int o_m_value, .int o_m_fault, .int o_m_faultAt, .int o_m_latest, .ref mA_strengths, .ref mA_sounds, .ref mA_stand, .int m_stands, .int m_least, .int m_ways, .ref mA_scheme, .int m_nearFoot, .int m_nearFeet, .int m_nearCost, .ref mA_isKept, .ref mA_kept, .ref mA_trace, .int m_traced])), aI K mA_poem 207 o_m_poem, aI K mA_fresh 207 o_m_fresh, aI K mA_tape 130 m_tape] → va_S A s.heap H locs → W p l e rmX7_poem s m args below meth c H locs 0 0 Q (F0 m pc ls [.int r])) (n : Nat) : ∀ (m_thrown : Int32) (m_acts : Int32) (m_taped : Int32) (m_cursor : Int32) (m_start : Int32) (m_token : Int32) (m_value : Int32) (m_fault : Int32) (m_faultAt : Int32) (m_latest : Int32) (m_poem : Nat → Int32) (m_fresh : Nat → Int32) (x1 : Int32), mX7_poem_b132 m_tape  n m_thrown m_acts m_taped m_cursor m_start m_token m_value m_fault m_faultAt m_latest m_poem m_fresh x1 = some (r, o_m_thrown, o_m_acts, o_m_taped, o_m_cursor, o_m_start, o_m_token, o_m_value, o_m_fault, o_m_faultAt, o_m_latest, o_m_poem, o_m_fresh) → ∀ (H : Heap) (locs : List Loc) (ls : Array Slot), va_P G vwCl [(m_a, .inr (7, [.int m_thrown, .int m_status, .ref mA_lane, .ref mA_many, .ref mA_item, .ref mA_poem, .ref mA_fresh, .ref mA_then, .ref mA_was, .int m_acts, .ref mA_tape, .int m_taped, .int m_cursor, .int m_start, .int m_token, .int m_value, .int m_fault, .int m_faultAt, .int m_latest, .ref mA_strengths, .ref mA_sounds, .ref mA_stand, .int m_stands, .int m_least, .int m_ways, .ref mA_scheme, .int m_nearFoot, .int m_nearFeet, .int m_nearCost, .ref mA_isKept, .ref mA_kept, .ref mA_trace, .int m_traced])), aI K mA_poem 207 m_poem, aI K mA_fresh 207 m_fresh, aI K mA_tape 130 m_tape] H → va_D A [(m_a, .inr (7, [.int m_thrown, .int m_status, .ref mA_lane, .ref mA_many, .ref mA_item, .ref mA_poem, .ref mA_fresh, .ref mA_then, .ref mA_was, .int m_acts, .ref mA_tape, .int m_taped, .int m_cursor, .int m_start, .int m_token, .int m_value, .int m_fault, .int m_faultAt, .int m_latest, .ref mA_strengths, .ref mA_sounds, .ref mA_stand, .int m_stands, .int m_least, .int m_ways, .ref mA_scheme, .int m_nearFoot, .int m_nearFeet, .int m_nearCost, .ref mA_isKept, .ref mA_kept, .ref mA_trace, .int m_traced])), aI K mA_poem 207 m_poem, aI K mA_fresh 207 m_fresh, aI K mA_tape 130 m_tape] → va_S A s.heap H locs → lv_has ls 2 [(0, .ref m_a), (1, .int x1)] → W p l e rmX7_poem s m args below meth c H locs 0 0 Q (F0 m 132 ls []) := by
  obtain ⟨hx, hb, hml, hown, hts, hK, hA, hEo, hE⟩ := id C0
  induction n with
  | zero =>
    intro m_thrown m_acts m_taped m_cursor m_start m_token m_value m_fault m_faultAt m_latest m_poem m_fresh x1 hM
    cases hM
  | succ n ih =>
    intro m_thrown m_acts m_taped m_cursor m_start m_token m_value m_fault m_faultAt m_latest m_poem m_fresh x1 hM H locs ls hP hD hS hl
    rw [mX7_poem_b132] at hM
    refine lv_iload_n hx hb dX7_poem_132 rfl (lv_at hl 1 rfl) ?_
    refine lv_sipush (v := 207) hx hb dX7_poem_133 (by decide) ?_
    refine lv_icmp_ge (tgt := 157) hx hb dX7_poem_136 (by decide) (fun c_1 => ?_) (fun c_1 => ?_)
    · rw [if_pos c_1] at hM
      refine lv_aload_n hx hb dX7_poem_157 rfl (lv_at hl 0 rfl) ?_
      refine va_get (D := G) (ci := 7) (v := .ref mA_poem) (C := RX7) (T := TX7) (N := 33) hx hb hts inX7 hown hK hP 0 rfl rfl 5 (by decide) (hts _ tb773) (fun _ h9 => h9) rfl dX7_poem_158 ?_
      refine lv_iconst (v := 0) hx hb dX7_poem_161 (by decide) ?_
      refine va_iald hx hb hK hP 1 0 rfl rfl (show ¬ ((0 : Int32) < 0 ∨ 207 ≤ ((0 : Int32)).toNatClampNeg) by decide) dX7_poem_162 ?_
      cases hM
      exact kr _ _ _ _ dX7_poem_163 hP hD hS
    · rw [if_neg c_1] at hM
      refine lv_aload_n hx hb dX7_poem_139 rfl (lv_at hl 0 rfl) ?_
      refine va_get (D := G) (ci := 7) (v := .ref mA_poem) (C := RX7) (T := TX7) (N := 33) hx hb hts inX7 hown hK hP 0 rfl rfl 5 (by decide) (hts _ tb773) (fun _ h9 => h9) rfl dX7_poem_140 ?_
      refine lv_iload_n hx hb dX7_poem_143 rfl (lv_at hl 1 rfl) ?_
      refine lv_aload_n hx hb dX7_poem_144 rfl (lv_at hl 0 rfl) ?_
      refine va_get (D := G) (ci := 7) (v := .ref mA_fresh) (C := RX7) (T := TX7) (N := 33) hx hb hts inX7 hown hK hP 0 rfl rfl 6 (by decide) (hts _ tb774) (fun _ h9 => h9) rfl dX7_poem_145 ?_
      refine lv_iload_n hx hb dX7_poem_148 rfl (lv_at hl 1 rfl) ?_
      obtain ⟨g_2, hM⟩ := ng hM
      refine va_iald hx hb hK hP 2 0 rfl rfl g_2 dX7_poem_149 ?_
      obtain ⟨g_3, hM⟩ := ng hM
      refine va_iast hx hb hK hP hD hS 1 0 rfl rfl g_3 dX7_poem_150 (fun H locs hP hD hS => ?_)
      have hP : va_P G vwCl [(m_a, .inr (7, [.int m_thrown, .int m_status, .ref mA_lane, .ref mA_many, .ref mA_item, .ref mA_poem, .ref mA_fresh, .ref mA_then, .ref mA_was, .int m_acts, .ref mA_tape, .int m_taped, .int m_cursor, .int m_start, .int m_token, .int m_value, .int m_fault, .int m_faultAt, .int m_latest, .ref mA_strengths, .ref mA_sounds, .ref mA_stand, .int m_stands, .int m_least, .int m_ways, .ref mA_scheme, .int m_nearFoot, .int m_nearFeet, .int m_nearCost, .ref mA_isKept, .ref mA_kept, .ref mA_trace, .int m_traced])), aI K mA_poem 207 (upd m_poem x1.toNatClampNeg (m_fresh x1.toNatClampNeg)), aI K mA_fresh 207 m_fresh, aI K mA_tape 130 m_tape] H := hP
      have hD : va_D A [(m_a, .inr (7, [.int m_thrown, .int m_status, .ref mA_lane, .ref mA_many, .ref mA_item, .ref mA_poem, .ref mA_fresh, .ref mA_then, .ref mA_was, .int m_acts, .ref mA_tape, .int m_taped, .int m_cursor, .int m_start, .int m_token, .int m_value, .int m_fault, .int m_faultAt, .int m_latest, .ref mA_strengths, .ref mA_sounds, .ref mA_stand, .int m_stands, .int m_least, .int m_ways, .ref mA_scheme, .int m_nearFoot, .int m_nearFeet, .int m_nearCost, .ref mA_isKept, .ref mA_kept, .ref mA_trace, .int m_traced])), aI K mA_poem 207 (upd m_poem x1.toNatClampNeg (m_fresh x1.toNatClampNeg)), aI K mA_fresh 207 m_fresh, aI K mA_tape 130 m_tape] := hD
      refine lv_iinc (v := (x1 + 1)) (lv' := [(1, .int (x1 + 1)), (0, .ref m_a)]) hx hb dX7_poem_151 hl (k := 1) rfl rfl (by decide) rfl (fun ls hl => ?_)
      refine lv_goto (tgt := 132) hx hb dX7_poem_154 (by decide) ?_
      exact ih m_thrown m_acts m_taped m_cursor m_start m_token m_value m_fault m_faultAt m_latest (upd m_poem x1.toNatClampNeg (m_fresh x1.toNatClampNeg)) m_fresh (x1 + 1) hM _ _ _ hP hD hS (lv_sub hl [1, 0] rfl)
set_option maxHeartbeats 4000000 in
set_option maxRecDepth 100000 in
theorem wX7_poem_b110 {p : Program} {l : Launch} {e : Env} {s : State} {m : MethodId} {args : Array Value} {below : List Frame} {meth : Method} {c : Code} {Q : State → Prop} {G : va_G} {K : Nat → ClassId} {A : Nat → Prop} (C0 : CX p s m args c cX7_poem 2 RX7 G K E0 A) (m_a mA_lane mA_many mA_item mA_poem mA_fresh mA_then mA_was mA_tape mA_strengths mA_sounds mA_stand mA_scheme mA_isKept mA_kept mA_trace : Nat) (m_status : Int32) (m_stands : Int32) (m_least : Int32) (m_ways : Int32) (m_nearFoot : Int32) (m_nearFeet : Int32) (m_nearCost : Int32) (m_traced : Int32) (m_tape : Nat → Int32)  (r : Int32) (o_m_thrown : Int32) (o_m_acts : Int32) (o_m_taped : Int32) (o_m_cursor : Int32) (o_m_start : Int32) (o_m_token : Int32) (o_m_value : Int32) (o_m_fault : Int32) (o_m_faultAt : Int32) (o_m_latest : Int32) (o_m_poem : Nat → Int32) (o_m_fresh : Nat → Int32) (kr : ∀ (H : Heap) (locs : List Loc) (ls : Array Slot) (pc : Nat), decode cX7_poem pc = .ok (.ireturn, 1) → va_P G vwCl [(m_a, .inr (7, [.int o_m_thrown, .int m_status, .ref mA_lane, .ref mA_many, .ref mA_item, .ref mA_poem, .ref mA_fresh, .ref mA_then, .ref mA_was, .int o_m_acts, .ref mA_tape, .int o_m_taped, .int o_m_cursor, .int o_m_start, .int o_m_token, .int o_m_value, .int o_m_fault, .int o_m_faultAt, .int o_m_latest, .ref mA_strengths, .ref mA_sounds, .ref mA_stand, .int m_stands, .int m_least, .int m_ways, .ref mA_scheme, .int m_nearFoot, .int m_nearFeet, .int m_nearCost, .ref mA_isKept, .ref mA_kept, .ref mA_trace, .int m_traced])), aI K mA_poem 207 o_m_poem, aI K mA_fresh 207 o_m_fresh, aI K mA_tape 130 m_tape] H → va_D A [(m_a, .inr (7, [.int o_m_thrown, .int m_status, .ref mA_lane, .ref mA_many, .ref mA_item, .ref mA_poem, .ref mA_fresh, .ref mA_then, .ref mA_was, .int o_m_acts, .ref mA_tape, .int o_m_taped, .int o_m_cursor, .int o_m_start, .int o_m_token, .int o_m_value, .int o_m_fault, .int o_m_faultAt, .int o_m_latest, .ref mA_strengths, .ref mA_sounds, .ref mA_stand, .int m_stands, .int m_least, .int m_ways, .ref mA_scheme, .int m_nearFoot, .int m_nearFeet, .int m_nearCost, .ref mA_isKept, .ref mA_kept, .ref mA_trace, .int m_traced])), aI K mA_poem 207 o_m_poem, aI K mA_fresh 207 o_m_fresh, aI K mA_tape 130 m_tape] → va_S A s.heap H locs → W p l e rmX7_poem s m args below meth c H locs 0 0 Q (F0 m pc ls [.int r])) (m_thrown : Int32) (m_acts : Int32) (m_taped : Int32) (m_cursor : Int32) (m_start : Int32) (m_token : Int32) (m_value : Int32) (m_fault : Int32) (m_faultAt : Int32) (m_latest : Int32) (m_poem : Nat → Int32) (m_fresh : Nat → Int32) (hM : mX7_poem_b110 m_tape  m_thrown m_acts m_taped m_cursor m_start m_token m_value m_fault m_faultAt m_latest m_poem m_fresh = some (r, o_m_thrown, o_m_acts, o_m_taped, o_m_cursor, o_m_start, o_m_token, o_m_value, o_m_fault, o_m_faultAt, o_m_latest, o_m_poem, o_m_fresh)) : ∀ (H : Heap) (locs : List Loc) (ls : Array Slot), va_P G vwCl [(m_a, .inr (7, [.int m_thrown, .int m_status, .ref mA_lane, .ref mA_many, .ref mA_item, .ref mA_poem, .ref mA_fresh, .ref mA_then, .ref mA_was, .int m_acts, .ref mA_tape, .int m_taped, .int m_cursor, .int m_start, .int m_token, .int m_value, .int m_fault, .int m_faultAt, .int m_latest, .ref mA_strengths, .ref mA_sounds, .ref mA_stand, .int m_stands, .int m_least, .int m_ways, .ref mA_scheme, .int m_nearFoot, .int m_nearFeet, .int m_nearCost, .ref mA_isKept, .ref mA_kept, .ref mA_trace, .int m_traced])), aI K mA_poem 207 m_poem, aI K mA_fresh 207 m_fresh, aI K mA_tape 130 m_tape] H → va_D A [(m_a, .inr (7, [.int m_thrown, .int m_status, .ref mA_lane, .ref mA_many, .ref mA_item, .ref mA_poem, .ref mA_fresh, .ref mA_then, .ref mA_was, .int m_acts, .ref mA_tape, .int m_taped, .int m_cursor, .int m_start, .int m_token, .int m_value, .int m_fault, .int m_faultAt, .int m_latest, .ref mA_strengths, .ref mA_sounds, .ref mA_stand, .int m_stands, .int m_least, .int m_ways, .ref mA_scheme, .int m_nearFoot, .int m_nearFeet, .int m_nearCost, .ref mA_isKept, .ref mA_kept, .ref mA_trace, .int m_traced])), aI K mA_poem 207 m_poem, aI K mA_fresh 207 m_fresh, aI K mA_tape 130 m_tape] → va_S A s.heap H locs → lv_has ls 2 [(0, .ref m_a)] → W p l e rmX7_poem s m args below meth c H locs 0 0 Q (F0 m 110 ls []) := by
  obtain ⟨hx, hb, hml, hown, hts, hK, hA, hEo, hE⟩ := id C0
  intro H locs ls hP hD hS hl
  unfold mX7_poem_b110 at hM
  refine lv_aload_n hx hb dX7_poem_110 rfl (lv_at hl 0 rfl) ?_
  obtain ⟨r_4, u0_4, u1_4, u2_4, u3_4, hC, hM⟩ := oe5 hM
  refine cV_i (As := []) (rest := []) C0 hP hD hS [0] (kX7_failed l G K m_a mA_lane mA_many mA_item mA_poem mA_fresh mA_then mA_was mA_tape mA_strengths mA_sounds mA_stand mA_scheme mA_isKept mA_kept mA_trace m_thrown m_status m_acts m_taped m_cursor m_start m_token m_value m_fault m_faultAt m_latest m_stands m_least m_ways m_nearFoot m_nearFeet m_nearCost m_traced H.size r_4 u0_4 u1_4 u2_4 u3_4 hC) rfl rfl rfl tb965 tb967 tp24 tb9 tb968 hdX7_failed (va_recv hK hP (ci := 7) (q0 := 0) rfl rfl) ⟨Nat.le_of_ble_eq_true rfl, Nat.le_of_ble_eq_true rfl⟩ rfl hl.1 (Nat.le_of_ble_eq_true rfl) rfl ⟨Nat.le_refl _, Nat.le_refl _⟩ dX7_poem_111 (fun H locs hP hD hS => ?_)
  have hP : va_P G vwCl [(m_a, .inr (7, [.int m_thrown, .int m_status, .ref mA_lane, .ref mA_many, .ref mA_item, .ref mA_poem, .ref mA_fresh, .ref mA_then, .ref mA_was, .int m_acts, .ref mA_tape, .int u0_4, .int m_cursor, .int m_start, .int m_token, .int m_value, .int u1_4, .int u2_4, .int u3_4, .ref mA_strengths, .ref mA_sounds, .ref mA_stand, .int m_stands, .int m_least, .int m_ways, .ref mA_scheme, .int m_nearFoot, .int m_nearFeet, .int m_nearCost, .ref mA_isKept, .ref mA_kept, .ref mA_trace, .int m_traced])), aI K mA_poem 207 m_poem, aI K mA_fresh 207 m_fresh, aI K mA_tape 130 m_tape] H := hP
  have hD : va_D A [(m_a, .inr (7, [.int m_thrown, .int m_status, .ref mA_lane, .ref mA_many, .ref mA_item, .ref mA_poem, .ref mA_fresh, .ref mA_then, .ref mA_was, .int m_acts, .ref mA_tape, .int u0_4, .int m_cursor, .int m_start, .int m_token, .int m_value, .int u1_4, .int u2_4, .int u3_4, .ref mA_strengths, .ref mA_sounds, .ref mA_stand, .int m_stands, .int m_least, .int m_ways, .ref mA_scheme, .int m_nearFoot, .int m_nearFeet, .int m_nearCost, .ref mA_isKept, .ref mA_kept, .ref mA_trace, .int m_traced])), aI K mA_poem 207 m_poem, aI K mA_fresh 207 m_fresh, aI K mA_tape 130 m_tape] := hD
  refine lv_if_eq (tgt := 125) hx hb dX7_poem_114 (by decide) (fun c_5 => ?_) (fun c_5 => ?_)
  · rw [if_pos c_5] at hM
    refine lv_aload_n hx hb dX7_poem_125 rfl (lv_at hl 0 rfl) ?_
    refine lv_iconst (v := 0) hx hb dX7_poem_126 (by decide) ?_
    refine va_put (D := G) (ci := 7) (v := .int (0 : Int32)) (ty := .int) (C := RX7) (T := TX7) (N := 33) hx hb hts inX7 tyX7 tyX7_ok nmX7 hown hK hP hD hS 0 rfl rfl 9 (by decide) (hts _ tb777) (fun _ h9 => h9) rfl (tyX7_ok 9 (by decide)) rfl rfl (Nat.le_of_ble_eq_true rfl) dX7_poem_127 (fun H locs hP hD hS => ?_)
    have hP : va_P G vwCl [(m_a, .inr (7, [.int m_thrown, .int m_status, .ref mA_lane, .ref mA_many, .ref mA_item, .ref mA_poem, .ref mA_fresh, .ref mA_then, .ref mA_was, .int (0 : Int32), .ref mA_tape, .int u0_4, .int m_cursor, .int m_start, .int m_token, .int m_value, .int u1_4, .int u2_4, .int u3_4, .ref mA_strengths, .ref mA_sounds, .ref mA_stand, .int m_stands, .int m_least, .int m_ways, .ref mA_scheme, .int m_nearFoot, .int m_nearFeet, .int m_nearCost, .ref mA_isKept, .ref mA_kept, .ref mA_trace, .int m_traced])), aI K mA_poem 207 m_poem, aI K mA_fresh 207 m_fresh, aI K mA_tape 130 m_tape] H := hP
    have hD : va_D A [(m_a, .inr (7, [.int m_thrown, .int m_status, .ref mA_lane, .ref mA_many, .ref mA_item, .ref mA_poem, .ref mA_fresh, .ref mA_then, .ref mA_was, .int (0 : Int32), .ref mA_tape, .int u0_4, .int m_cursor, .int m_start, .int m_token, .int m_value, .int u1_4, .int u2_4, .int u3_4, .ref mA_strengths, .ref mA_sounds, .ref mA_stand, .int m_stands, .int m_least, .int m_ways, .ref mA_scheme, .int m_nearFoot, .int m_nearFeet, .int m_nearCost, .ref mA_isKept, .ref mA_kept, .ref mA_trace, .int m_traced])), aI K mA_poem 207 m_poem, aI K mA_fresh 207 m_fresh, aI K mA_tape 130 m_tape] := hD
    refine lv_iconst (v := 0) hx hb dX7_poem_130 (by decide) ?_
    refine lv_istore_n (lv' := [(1, .int (0 : Int32)), (0, .ref m_a)]) hx hb dX7_poem_131 rfl hl (by decide) rfl (fun ls hl => ?_)
    exact wX7_poem_b132 C0 m_a mA_lane mA_many mA_item mA_poem mA_fresh mA_then mA_was mA_tape mA_strengths mA_sounds mA_stand mA_scheme mA_isKept mA_kept mA_trace m_status m_stands m_least m_ways m_nearFoot m_nearFeet m_nearCost m_traced m_tape r o_m_thrown o_m_acts o_m_taped o_m_cursor o_m_start o_m_token o_m_value o_m_fault o_m_faultAt o_m_latest o_m_poem o_m_fresh kr  FU m_thrown (0 : Int32) u0_4 m_cursor m_start m_token m_value u1_4 u2_4 u3_4 m_poem m_fresh (0 : Int32) hM _ _ _ hP hD hS (lv_sub hl [1, 0] rfl)
  · rw [if_neg c_5] at hM
    refine lv_ldc (v := -1000100) hx hb hown (hts _ tb969) dX7_poem_117 ?_
    refine lv_aload_n hx hb dX7_poem_119 rfl (lv_at hl 0 rfl) ?_
    refine va_get (D := G) (ci := 7) (v := .int u2_4) (C := RX7) (T := TX7) (N := 33) hx hb hts inX7 hown hK hP 0 rfl rfl 17 (by decide) (hts _ tb785) (fun _ h9 => h9) rfl dX7_poem_120 ?_
    refine lv_isub hx hb dX7_poem_123 ?_
    cases hM
    exact kr _ _ _ _ dX7_poem_124 hP hD hS
set_option maxHeartbeats 4000000 in
set_option maxRecDepth 100000 in
theorem wX7_poem_b82 {p : Program} {l : Launch} {e : Env} {s : State} {m : MethodId} {args : Array Value} {below : List Frame} {meth : Method} {c : Code} {Q : State → Prop} {G : va_G} {K : Nat → ClassId} {A : Nat → Prop} (C0 : CX p s m args c cX7_poem 2 RX7 G K E0 A) (m_a mA_lane mA_many mA_item mA_poem mA_fresh mA_then mA_was mA_tape mA_strengths mA_sounds mA_stand mA_scheme mA_isKept mA_kept mA_trace : Nat) (m_status : Int32) (m_stands : Int32) (m_least : Int32) (m_ways : Int32) (m_nearFoot : Int32) (m_nearFeet : Int32) (m_nearCost : Int32) (m_traced : Int32) (m_tape : Nat → Int32)  (r : Int32) (o_m_thrown : Int32) (o_m_acts : Int32) (o_m_taped : Int32) (o_m_cursor : Int32) (o_m_start : Int32) (o_m_token : Int32) (o_m_value : Int32) (o_m_fault : Int32) (o_m_faultAt : Int32) (o_m_latest : Int32) (o_m_poem : Nat → Int32) (o_m_fresh : Nat → Int32) (kr : ∀ (H : Heap) (locs : List Loc) (ls : Array Slot) (pc : Nat), decode cX7_poem pc = .ok (.ireturn, 1) → va_P G vwCl [(m_a, .inr (7, [.int o_m_thrown, .int m_status, .ref mA_lane, .ref mA_many, .ref mA_item, .ref mA_poem, .ref mA_fresh, .ref mA_then, .ref mA_was, .int o_m_acts, .ref mA_tape, .int o_m_taped, .int o_m_cursor, .int o_m_start, .int o_m_token, .int o_m_value, .int o_m_fault, .int o_m_faultAt, .int o_m_latest, .ref mA_strengths, .ref mA_sounds, .ref mA_stand, .int m_stands, .int m_least, .int m_ways, .ref mA_scheme, .int m_nearFoot, .int m_nearFeet, .int m_nearCost, .ref mA_isKept, .ref mA_kept, .ref mA_trace, .int m_traced])), aI K mA_poem 207 o_m_poem, aI K mA_fresh 207 o_m_fresh, aI K mA_tape 130 m_tape] H → va_D A [(m_a, .inr (7, [.int o_m_thrown, .int m_status, .ref mA_lane, .ref mA_many, .ref mA_item, .ref mA_poem, .ref mA_fresh, .ref mA_then, .ref mA_was, .int o_m_acts, .ref mA_tape, .int o_m_taped, .int o_m_cursor, .int o_m_start, .int o_m_token, .int o_m_value, .int o_m_fault, .int o_m_faultAt, .int o_m_latest, .ref mA_strengths, .ref mA_sounds, .ref mA_stand, .int m_stands, .int m_least, .int m_ways, .ref mA_scheme, .int m_nearFoot, .int m_nearFeet, .int m_nearCost, .ref mA_isKept, .ref mA_kept, .ref mA_trace, .int m_traced])), aI K mA_poem 207 o_m_poem, aI K mA_fresh 207 o_m_fresh, aI K mA_tape 130 m_tape] → va_S A s.heap H locs → W p l e rmX7_poem s m args below meth c H locs 0 0 Q (F0 m pc ls [.int r])) (n : Nat) : ∀ (m_thrown : Int32) (m_acts : Int32) (m_taped : Int32) (m_cursor : Int32) (m_start : Int32) (m_token : Int32) (m_value : Int32) (m_fault : Int32) (m_faultAt : Int32) (m_latest : Int32) (m_poem : Nat → Int32) (m_fresh : Nat → Int32), mX7_poem_b82 m_tape  n m_thrown m_acts m_taped m_cursor m_start m_token m_value m_fault m_faultAt m_latest m_poem m_fresh = some (r, o_m_thrown, o_m_acts, o_m_taped, o_m_cursor, o_m_start, o_m_token, o_m_value, o_m_fault, o_m_faultAt, o_m_latest, o_m_poem, o_m_fresh) → ∀ (H : Heap) (locs : List Loc) (ls : Array Slot), va_P G vwCl [(m_a, .inr (7, [.int m_thrown, .int m_status, .ref mA_lane, .ref mA_many, .ref mA_item, .ref mA_poem, .ref mA_fresh, .ref mA_then, .ref mA_was, .int m_acts, .ref mA_tape, .int m_taped, .int m_cursor, .int m_start, .int m_token, .int m_value, .int m_fault, .int m_faultAt, .int m_latest, .ref mA_strengths, .ref mA_sounds, .ref mA_stand, .int m_stands, .int m_least, .int m_ways, .ref mA_scheme, .int m_nearFoot, .int m_nearFeet, .int m_nearCost, .ref mA_isKept, .ref mA_kept, .ref mA_trace, .int m_traced])), aI K mA_poem 207 m_poem, aI K mA_fresh 207 m_fresh, aI K mA_tape 130 m_tape] H → va_D A [(m_a, .inr (7, [.int m_thrown, .int m_status, .ref mA_lane, .ref mA_many, .ref mA_item, .ref mA_poem, .ref mA_fresh, .ref mA_then, .ref mA_was, .int m_acts, .ref mA_tape, .int m_taped, .int m_cursor, .int m_start, .int m_token, .int m_value, .int m_fault, .int m_faultAt, .int m_latest, .ref mA_strengths, .ref mA_sounds, .ref mA_stand, .int m_stands, .int m_least, .int m_ways, .ref mA_scheme, .int m_nearFoot, .int m_nearFeet, .int m_nearCost, .ref mA_isKept, .ref mA_kept, .ref mA_trace, .int m_traced])), aI K mA_poem 207 m_poem, aI K mA_fresh 207 m_fresh, aI K mA_tape 130 m_tape] → va_S A s.heap H locs → lv_has ls 2 [(0, .ref m_a)] → W p l e rmX7_poem s m args below meth c H locs 0 0 Q (F0 m 82 ls []) := by
  obtain ⟨hx, hb, hml, hown, hts, hK, hA, hEo, hE⟩ := id C0
  induction n with
  | zero =>
    intro m_thrown m_acts m_taped m_cursor m_start m_token m_value m_fault m_faultAt m_latest m_poem m_fresh hM
    cases hM
  | succ n ih =>
    intro m_thrown m_acts m_taped m_cursor m_start m_token m_value m_fault m_faultAt m_latest m_poem m_fresh hM H locs ls hP hD hS hl
    rw [mX7_poem_b82] at hM
    refine lv_aload_n hx hb dX7_poem_82 rfl (lv_at hl 0 rfl) ?_
    refine va_get (D := G) (ci := 7) (v := .int m_fault) (C := RX7) (T := TX7) (N := 33) hx hb hts inX7 hown hK hP 0 rfl rfl 16 (by decide) (hts _ tb784) (fun _ h9 => h9) rfl dX7_poem_83 ?_
    refine lv_if_ne (tgt := 110) hx hb dX7_poem_86 (by decide) (fun c_6 => ?_) (fun c_6 => ?_)
    · rw [if_pos c_6] at hM
      exact wX7_poem_b110 C0 m_a mA_lane mA_many mA_item mA_poem mA_fresh mA_then mA_was mA_tape mA_strengths mA_sounds mA_stand mA_scheme mA_isKept mA_kept mA_trace m_status m_stands m_least m_ways m_nearFoot m_nearFeet m_nearCost m_traced m_tape r o_m_thrown o_m_acts o_m_taped o_m_cursor o_m_start o_m_token o_m_value o_m_fault o_m_faultAt o_m_latest o_m_poem o_m_fresh kr  m_thrown m_acts m_taped m_cursor m_start m_token m_value m_fault m_faultAt m_latest m_poem m_fresh hM _ _ _ hP hD hS (lv_sub hl [0] rfl)
    · rw [if_neg c_6] at hM
      refine lv_aload_n hx hb dX7_poem_89 rfl (lv_at hl 0 rfl) ?_
      refine va_get (D := G) (ci := 7) (v := .int m_token) (C := RX7) (T := TX7) (N := 33) hx hb hts inX7 hown hK hP 0 rfl rfl 14 (by decide) (hts _ tb782) (fun _ h9 => h9) rfl dX7_poem_90 ?_
      refine lv_iconst (v := 3) hx hb dX7_poem_93 (by decide) ?_
      refine lv_icmp_ne (tgt := 110) hx hb dX7_poem_94 (by decide) (fun c_7 => ?_) (fun c_7 => ?_)
      · rw [if_pos c_7] at hM
        exact wX7_poem_b110 C0 m_a mA_lane mA_many mA_item mA_poem mA_fresh mA_then mA_was mA_tape mA_strengths mA_sounds mA_stand mA_scheme mA_isKept mA_kept mA_trace m_status m_stands m_least m_ways m_nearFoot m_nearFeet m_nearCost m_traced m_tape r o_m_thrown o_m_acts o_m_taped o_m_cursor o_m_start o_m_token o_m_value o_m_fault o_m_faultAt o_m_latest o_m_poem o_m_fresh kr  m_thrown m_acts m_taped m_cursor m_start m_token m_value m_fault m_faultAt m_latest m_poem m_fresh hM _ _ _ hP hD hS (lv_sub hl [0] rfl)
      · rw [if_neg c_7] at hM
        refine lv_aload_n hx hb dX7_poem_97 rfl (lv_at hl 0 rfl) ?_
        refine lv_aload_n hx hb dX7_poem_98 rfl (lv_at hl 0 rfl) ?_
        refine va_get (D := G) (ci := 7) (v := .ref mA_fresh) (C := RX7) (T := TX7) (N := 33) hx hb hts inX7 hown hK hP 0 rfl rfl 6 (by decide) (hts _ tb774) (fun _ h9 => h9) rfl dX7_poem_99 ?_
        refine lv_iconst (v := 0) hx hb dX7_poem_102 (by decide) ?_
        refine va_iald hx hb hK hP 2 0 rfl rfl (show ¬ ((0 : Int32) < 0 ∨ 207 ≤ ((0 : Int32)).toNatClampNeg) by decide) dX7_poem_103 ?_
        obtain ⟨u0_8, u1_8, u2_8, u3_8, u4_8, u5_8, u6_8, hC, hM⟩ := oe7 hM
        refine cV_v (As := [.int (m_fresh (0 : Int32).toNatClampNeg)]) (rest := []) C0 hP hD hS [0, 2, 3] (kX7_readLine l G K m_a mA_lane mA_many mA_item mA_poem mA_fresh mA_then mA_was mA_tape mA_strengths mA_sounds mA_stand mA_scheme mA_isKept mA_kept mA_trace m_thrown m_status m_acts m_taped m_cursor m_start m_token m_value m_fault m_faultAt m_latest m_stands m_least m_ways m_nearFoot m_nearFeet m_nearCost m_traced m_fresh m_tape (m_fresh (0 : Int32).toNatClampNeg) H.size u0_8 u1_8 u2_8 u3_8 u4_8 u5_8 u6_8 hC) rfl rfl rfl tb946 tb948 tp21 tb9 tb949 hdX7_readLine (va_recv hK hP (ci := 7) (q0 := 0) rfl rfl) ⟨Nat.le_of_ble_eq_true rfl, Nat.le_of_ble_eq_true rfl⟩ rfl hl.1 (Nat.le_of_ble_eq_true rfl) rfl ⟨Nat.le_refl _, Nat.le_refl _⟩ dX7_poem_104 (fun H locs hP hD hS => ?_)
        have hP : va_P G vwCl [(m_a, .inr (7, [.int m_thrown, .int m_status, .ref mA_lane, .ref mA_many, .ref mA_item, .ref mA_poem, .ref mA_fresh, .ref mA_then, .ref mA_was, .int m_acts, .ref mA_tape, .int m_taped, .int u0_8, .int u1_8, .int u2_8, .int u3_8, .int u4_8, .int u5_8, .int m_latest, .ref mA_strengths, .ref mA_sounds, .ref mA_stand, .int m_stands, .int m_least, .int m_ways, .ref mA_scheme, .int m_nearFoot, .int m_nearFeet, .int m_nearCost, .ref mA_isKept, .ref mA_kept, .ref mA_trace, .int m_traced])), aI K mA_poem 207 m_poem, aI K mA_fresh 207 u6_8, aI K mA_tape 130 m_tape] H := hP
        have hD : va_D A [(m_a, .inr (7, [.int m_thrown, .int m_status, .ref mA_lane, .ref mA_many, .ref mA_item, .ref mA_poem, .ref mA_fresh, .ref mA_then, .ref mA_was, .int m_acts, .ref mA_tape, .int m_taped, .int u0_8, .int u1_8, .int u2_8, .int u3_8, .int u4_8, .int u5_8, .int m_latest, .ref mA_strengths, .ref mA_sounds, .ref mA_stand, .int m_stands, .int m_least, .int m_ways, .ref mA_scheme, .int m_nearFoot, .int m_nearFeet, .int m_nearCost, .ref mA_isKept, .ref mA_kept, .ref mA_trace, .int m_traced])), aI K mA_poem 207 m_poem, aI K mA_fresh 207 u6_8, aI K mA_tape 130 m_tape] := hD
        refine lv_goto (tgt := 82) hx hb dX7_poem_107 (by decide) ?_
        exact ih m_thrown m_acts m_taped u0_8 u1_8 u2_8 u3_8 u4_8 u5_8 m_latest m_poem u6_8 hM _ _ _ hP hD hS (lv_sub hl [0] rfl)
set_option maxHeartbeats 4000000 in
set_option maxRecDepth 100000 in
theorem wX7_poem_b11 {p : Program} {l : Launch} {e : Env} {s : State} {m : MethodId} {args : Array Value} {below : List Frame} {meth : Method} {c : Code} {Q : State → Prop} {G : va_G} {K : Nat → ClassId} {A : Nat → Prop} (C0 : CX p s m args c cX7_poem 2 RX7 G K E0 A) (m_a mA_lane mA_many mA_item mA_poem mA_fresh mA_then mA_was mA_tape mA_strengths mA_sounds mA_stand mA_scheme mA_isKept mA_kept mA_trace : Nat) (m_status : Int32) (m_stands : Int32) (m_least : Int32) (m_ways : Int32) (m_nearFoot : Int32) (m_nearFeet : Int32) (m_nearCost : Int32) (m_traced : Int32) (m_tape : Nat → Int32)  (r : Int32) (o_m_thrown : Int32) (o_m_acts : Int32) (o_m_taped : Int32) (o_m_cursor : Int32) (o_m_start : Int32) (o_m_token : Int32) (o_m_value : Int32) (o_m_fault : Int32) (o_m_faultAt : Int32) (o_m_latest : Int32) (o_m_poem : Nat → Int32) (o_m_fresh : Nat → Int32) (kr : ∀ (H : Heap) (locs : List Loc) (ls : Array Slot) (pc : Nat), decode cX7_poem pc = .ok (.ireturn, 1) → va_P G vwCl [(m_a, .inr (7, [.int o_m_thrown, .int m_status, .ref mA_lane, .ref mA_many, .ref mA_item, .ref mA_poem, .ref mA_fresh, .ref mA_then, .ref mA_was, .int o_m_acts, .ref mA_tape, .int o_m_taped, .int o_m_cursor, .int o_m_start, .int o_m_token, .int o_m_value, .int o_m_fault, .int o_m_faultAt, .int o_m_latest, .ref mA_strengths, .ref mA_sounds, .ref mA_stand, .int m_stands, .int m_least, .int m_ways, .ref mA_scheme, .int m_nearFoot, .int m_nearFeet, .int m_nearCost, .ref mA_isKept, .ref mA_kept, .ref mA_trace, .int m_traced])), aI K mA_poem 207 o_m_poem, aI K mA_fresh 207 o_m_fresh, aI K mA_tape 130 m_tape] H → va_D A [(m_a, .inr (7, [.int o_m_thrown, .int m_status, .ref mA_lane, .ref mA_many, .ref mA_item, .ref mA_poem, .ref mA_fresh, .ref mA_then, .ref mA_was, .int o_m_acts, .ref mA_tape, .int o_m_taped, .int o_m_cursor, .int o_m_start, .int o_m_token, .int o_m_value, .int o_m_fault, .int o_m_faultAt, .int o_m_latest, .ref mA_strengths, .ref mA_sounds, .ref mA_stand, .int m_stands, .int m_least, .int m_ways, .ref mA_scheme, .int m_nearFoot, .int m_nearFeet, .int m_nearCost, .ref mA_isKept, .ref mA_kept, .ref mA_trace, .int m_traced])), aI K mA_poem 207 o_m_poem, aI K mA_fresh 207 o_m_fresh, aI K mA_tape 130 m_tape] → va_S A s.heap H locs → W p l e rmX7_poem s m args below meth c H locs 0 0 Q (F0 m pc ls [.int r])) (n : Nat) : ∀ (m_thrown : Int32) (m_acts : Int32) (m_taped : Int32) (m_cursor : Int32) (m_start : Int32) (m_token : Int32) (m_value : Int32) (m_fault : Int32) (m_faultAt : Int32) (m_latest : Int32) (m_poem : Nat → Int32) (m_fresh : Nat → Int32) (x1 : Int32), mX7_poem_b11 m_tape  n m_thrown m_acts m_taped m_cursor m_start m_token m_value m_fault m_faultAt m_latest m_poem m_fresh x1 = some (r, o_m_thrown, o_m_acts, o_m_taped, o_m_cursor, o_m_start, o_m_token, o_m_value, o_m_fault, o_m_faultAt, o_m_latest, o_m_poem, o_m_fresh) → ∀ (H : Heap) (locs : List Loc) (ls : Array Slot), va_P G vwCl [(m_a, .inr (7, [.int m_thrown, .int m_status, .ref mA_lane, .ref mA_many, .ref mA_item, .ref mA_poem, .ref mA_fresh, .ref mA_then, .ref mA_was, .int m_acts, .ref mA_tape, .int m_taped, .int m_cursor, .int m_start, .int m_token, .int m_value, .int m_fault, .int m_faultAt, .int m_latest, .ref mA_strengths, .ref mA_sounds, .ref mA_stand, .int m_stands, .int m_least, .int m_ways, .ref mA_scheme, .int m_nearFoot, .int m_nearFeet, .int m_nearCost, .ref mA_isKept, .ref mA_kept, .ref mA_trace, .int m_traced])), aI K mA_poem 207 m_poem, aI K mA_fresh 207 m_fresh, aI K mA_tape 130 m_tape] H → va_D A [(m_a, .inr (7, [.int m_thrown, .int m_status, .ref mA_lane, .ref mA_many, .ref mA_item, .ref mA_poem, .ref mA_fresh, .ref mA_then, .ref mA_was, .int m_acts, .ref mA_tape, .int m_taped, .int m_cursor, .int m_start, .int m_token, .int m_value, .int m_fault, .int m_faultAt, .int m_latest, .ref mA_strengths, .ref mA_sounds, .ref mA_stand, .int m_stands, .int m_least, .int m_ways, .ref mA_scheme, .int m_nearFoot, .int m_nearFeet, .int m_nearCost, .ref mA_isKept, .ref mA_kept, .ref mA_trace, .int m_traced])), aI K mA_poem 207 m_poem, aI K mA_fresh 207 m_fresh, aI K mA_tape 130 m_tape] → va_S A s.heap H locs → lv_has ls 2 [(0, .ref m_a), (1, .int x1)] → W p l e rmX7_poem s m args below meth c H locs 0 0 Q (F0 m 11 ls []) := by
  obtain ⟨hx, hb, hml, hown, hts, hK, hA, hEo, hE⟩ := id C0
  induction n with
  | zero =>
    intro m_thrown m_acts m_taped m_cursor m_start m_token m_value m_fault m_faultAt m_latest m_poem m_fresh x1 hM
    cases hM
  | succ n ih =>
    intro m_thrown m_acts m_taped m_cursor m_start m_token m_value m_fault m_faultAt m_latest m_poem m_fresh x1 hM H locs ls hP hD hS hl
    rw [mX7_poem_b11] at hM
    refine lv_iload_n hx hb dX7_poem_11 rfl (lv_at hl 1 rfl) ?_
    refine lv_sipush (v := 207) hx hb dX7_poem_12 (by decide) ?_
    refine lv_icmp_ge (tgt := 31) hx hb dX7_poem_15 (by decide) (fun c_9 => ?_) (fun c_9 => ?_)
    · rw [if_pos c_9] at hM
      refine lv_aload_n hx hb dX7_poem_31 rfl (lv_at hl 0 rfl) ?_
      refine lv_aload_n hx hb dX7_poem_32 rfl (lv_at hl 0 rfl) ?_
      refine lv_bipush (v := 113) hx hb dX7_poem_33 (by decide) ?_
      obtain ⟨r_10, hC, hM⟩ := oe1 hM
      refine cV_i (As := [.int (113 : Int32)]) (rest := [.ref m_a]) C0 hP hD hS [0] (kX7_isLetter l G K m_a mA_lane mA_many mA_item mA_poem mA_fresh mA_then mA_was mA_tape mA_strengths mA_sounds mA_stand mA_scheme mA_isKept mA_kept mA_trace m_thrown m_status m_acts m_taped m_cursor m_start m_token m_value m_fault m_faultAt m_latest m_stands m_least m_ways m_nearFoot m_nearFeet m_nearCost m_traced (113 : Int32) H.size r_10 hC) rfl rfl rfl tb926 tb928 tp16 tb9 tb929 hdX7_isLetter (va_recv hK hP (ci := 7) (q0 := 0) rfl rfl) ⟨Nat.le_of_ble_eq_true rfl, Nat.le_of_ble_eq_true rfl⟩ rfl hl.1 (Nat.le_of_ble_eq_true rfl) rfl ⟨Nat.le_refl _, Nat.le_refl _⟩ dX7_poem_35 (fun H locs hP hD hS => ?_)
      have hP : va_P G vwCl [(m_a, .inr (7, [.int m_thrown, .int m_status, .ref mA_lane, .ref mA_many, .ref mA_item, .ref mA_poem, .ref mA_fresh, .ref mA_then, .ref mA_was, .int m_acts, .ref mA_tape, .int m_taped, .int m_cursor, .int m_start, .int m_token, .int m_value, .int m_fault, .int m_faultAt, .int m_latest, .ref mA_strengths, .ref mA_sounds, .ref mA_stand, .int m_stands, .int m_least, .int m_ways, .ref mA_scheme, .int m_nearFoot, .int m_nearFeet, .int m_nearCost, .ref mA_isKept, .ref mA_kept, .ref mA_trace, .int m_traced])), aI K mA_poem 207 m_poem, aI K mA_fresh 207 m_fresh, aI K mA_tape 130 m_tape] H := hP
      have hD : va_D A [(m_a, .inr (7, [.int m_thrown, .int m_status, .ref mA_lane, .ref mA_many, .ref mA_item, .ref mA_poem, .ref mA_fresh, .ref mA_then, .ref mA_was, .int m_acts, .ref mA_tape, .int m_taped, .int m_cursor, .int m_start, .int m_token, .int m_value, .int m_fault, .int m_faultAt, .int m_latest, .ref mA_strengths, .ref mA_sounds, .ref mA_stand, .int m_stands, .int m_least, .int m_ways, .ref mA_scheme, .int m_nearFoot, .int m_nearFeet, .int m_nearCost, .ref mA_isKept, .ref mA_kept, .ref mA_trace, .int m_traced])), aI K mA_poem 207 m_poem, aI K mA_fresh 207 m_fresh, aI K mA_tape 130 m_tape] := hD
      obtain ⟨u0_11, u1_11, u2_11, u3_11, u4_11, u5_11, hC, hM⟩ := oe6 hM
      refine cV_v (As := [.int r_10]) (rest := []) C0 hP hD hS [0, 3] (kX7_must l G K m_a mA_lane mA_many mA_item mA_poem mA_fresh mA_then mA_was mA_tape mA_strengths mA_sounds mA_stand mA_scheme mA_isKept mA_kept mA_trace m_thrown m_status m_acts m_taped m_cursor m_start m_token m_value m_fault m_faultAt m_latest m_stands m_least m_ways m_nearFoot m_nearFeet m_nearCost m_traced m_tape r_10 H.size u0_11 u1_11 u2_11 u3_11 u4_11 u5_11 hC) rfl rfl rfl tb930 tb932 tp17 tb9 tb933 hdX7_must (va_recv hK hP (ci := 7) (q0 := 0) rfl rfl) ⟨Nat.le_of_ble_eq_true rfl, Nat.le_of_ble_eq_true rfl⟩ rfl hl.1 (Nat.le_of_ble_eq_true rfl) rfl ⟨Nat.le_refl _, Nat.le_refl _⟩ dX7_poem_38 (fun H locs hP hD hS => ?_)
      have hP : va_P G vwCl [(m_a, .inr (7, [.int m_thrown, .int m_status, .ref mA_lane, .ref mA_many, .ref mA_item, .ref mA_poem, .ref mA_fresh, .ref mA_then, .ref mA_was, .int m_acts, .ref mA_tape, .int m_taped, .int u0_11, .int u1_11, .int u2_11, .int u3_11, .int u4_11, .int u5_11, .int m_latest, .ref mA_strengths, .ref mA_sounds, .ref mA_stand, .int m_stands, .int m_least, .int m_ways, .ref mA_scheme, .int m_nearFoot, .int m_nearFeet, .int m_nearCost, .ref mA_isKept, .ref mA_kept, .ref mA_trace, .int m_traced])), aI K mA_poem 207 m_poem, aI K mA_fresh 207 m_fresh, aI K mA_tape 130 m_tape] H := hP
      have hD : va_D A [(m_a, .inr (7, [.int m_thrown, .int m_status, .ref mA_lane, .ref mA_many, .ref mA_item, .ref mA_poem, .ref mA_fresh, .ref mA_then, .ref mA_was, .int m_acts, .ref mA_tape, .int m_taped, .int u0_11, .int u1_11, .int u2_11, .int u3_11, .int u4_11, .int u5_11, .int m_latest, .ref mA_strengths, .ref mA_sounds, .ref mA_stand, .int m_stands, .int m_least, .int m_ways, .ref mA_scheme, .int m_nearFoot, .int m_nearFeet, .int m_nearCost, .ref mA_isKept, .ref mA_kept, .ref mA_trace, .int m_traced])), aI K mA_poem 207 m_poem, aI K mA_fresh 207 m_fresh, aI K mA_tape 130 m_tape] := hD
      refine lv_aload_n hx hb dX7_poem_41 rfl (lv_at hl 0 rfl) ?_
      refine va_get (D := G) (ci := 7) (v := .ref mA_fresh) (C := RX7) (T := TX7) (N := 33) hx hb hts inX7 hown hK hP 0 rfl rfl 6 (by decide) (hts _ tb774) (fun _ h9 => h9) rfl dX7_poem_42 ?_
      refine lv_iconst (v := 1) hx hb dX7_poem_45 (by decide) ?_
      refine lv_aload_n hx hb dX7_poem_46 rfl (lv_at hl 0 rfl) ?_
      refine lv_iconst (v := 0) hx hb dX7_poem_47 (by decide) ?_
      refine lv_iconst (v := 3) hx hb dX7_poem_48 (by decide) ?_
      obtain ⟨r_12, u0_12, u1_12, u2_12, u3_12, u4_12, u5_12, hC, hM⟩ := oe7 hM
      refine cV_i (As := [.int (0 : Int32), .int (3 : Int32)]) (rest := [.int (1 : Int32), .ref mA_fresh]) C0 hP hD hS [0, 3] (kX7_number l G K m_a mA_lane mA_many mA_item mA_poem mA_fresh mA_then mA_was mA_tape mA_strengths mA_sounds mA_stand mA_scheme mA_isKept mA_kept mA_trace m_thrown m_status m_acts m_taped u0_11 u1_11 u2_11 u3_11 u4_11 u5_11 m_latest m_stands m_least m_ways m_nearFoot m_nearFeet m_nearCost m_traced m_tape (0 : Int32) (3 : Int32) H.size r_12 u0_12 u1_12 u2_12 u3_12 u4_12 u5_12 hC) rfl rfl rfl tb938 tb940 tp19 tb9 tb941 hdX7_number (va_recv hK hP (ci := 7) (q0 := 0) rfl rfl) ⟨Nat.le_of_ble_eq_true rfl, Nat.le_of_ble_eq_true rfl⟩ rfl hl.1 (Nat.le_of_ble_eq_true rfl) rfl ⟨Nat.le_refl _, Nat.le_refl _⟩ dX7_poem_49 (fun H locs hP hD hS => ?_)
      have hP : va_P G vwCl [(m_a, .inr (7, [.int m_thrown, .int m_status, .ref mA_lane, .ref mA_many, .ref mA_item, .ref mA_poem, .ref mA_fresh, .ref mA_then, .ref mA_was, .int m_acts, .ref mA_tape, .int m_taped, .int u0_12, .int u1_12, .int u2_12, .int u3_12, .int u4_12, .int u5_12, .int m_latest, .ref mA_strengths, .ref mA_sounds, .ref mA_stand, .int m_stands, .int m_least, .int m_ways, .ref mA_scheme, .int m_nearFoot, .int m_nearFeet, .int m_nearCost, .ref mA_isKept, .ref mA_kept, .ref mA_trace, .int m_traced])), aI K mA_poem 207 m_poem, aI K mA_fresh 207 m_fresh, aI K mA_tape 130 m_tape] H := hP
      have hD : va_D A [(m_a, .inr (7, [.int m_thrown, .int m_status, .ref mA_lane, .ref mA_many, .ref mA_item, .ref mA_poem, .ref mA_fresh, .ref mA_then, .ref mA_was, .int m_acts, .ref mA_tape, .int m_taped, .int u0_12, .int u1_12, .int u2_12, .int u3_12, .int u4_12, .int u5_12, .int m_latest, .ref mA_strengths, .ref mA_sounds, .ref mA_stand, .int m_stands, .int m_least, .int m_ways, .ref mA_scheme, .int m_nearFoot, .int m_nearFeet, .int m_nearCost, .ref mA_isKept, .ref mA_kept, .ref mA_trace, .int m_traced])), aI K mA_poem 207 m_poem, aI K mA_fresh 207 m_fresh, aI K mA_tape 130 m_tape] := hD
      refine va_iast hx hb hK hP hD hS 2 0 rfl rfl (show ¬ ((1 : Int32) < 0 ∨ 207 ≤ ((1 : Int32)).toNatClampNeg) by decide) dX7_poem_52 (fun H locs hP hD hS => ?_)
      have hP : va_P G vwCl [(m_a, .inr (7, [.int m_thrown, .int m_status, .ref mA_lane, .ref mA_many, .ref mA_item, .ref mA_poem, .ref mA_fresh, .ref mA_then, .ref mA_was, .int m_acts, .ref mA_tape, .int m_taped, .int u0_12, .int u1_12, .int u2_12, .int u3_12, .int u4_12, .int u5_12, .int m_latest, .ref mA_strengths, .ref mA_sounds, .ref mA_stand, .int m_stands, .int m_least, .int m_ways, .ref mA_scheme, .int m_nearFoot, .int m_nearFeet, .int m_nearCost, .ref mA_isKept, .ref mA_kept, .ref mA_trace, .int m_traced])), aI K mA_poem 207 m_poem, aI K mA_fresh 207 (upd m_fresh (1 : Int32).toNatClampNeg r_12), aI K mA_tape 130 m_tape] H := hP
      have hD : va_D A [(m_a, .inr (7, [.int m_thrown, .int m_status, .ref mA_lane, .ref mA_many, .ref mA_item, .ref mA_poem, .ref mA_fresh, .ref mA_then, .ref mA_was, .int m_acts, .ref mA_tape, .int m_taped, .int u0_12, .int u1_12, .int u2_12, .int u3_12, .int u4_12, .int u5_12, .int m_latest, .ref mA_strengths, .ref mA_sounds, .ref mA_stand, .int m_stands, .int m_least, .int m_ways, .ref mA_scheme, .int m_nearFoot, .int m_nearFeet, .int m_nearCost, .ref mA_isKept, .ref mA_kept, .ref mA_trace, .int m_traced])), aI K mA_poem 207 m_poem, aI K mA_fresh 207 (upd m_fresh (1 : Int32).toNatClampNeg r_12), aI K mA_tape 130 m_tape] := hD
      refine lv_aload_n hx hb dX7_poem_53 rfl (lv_at hl 0 rfl) ?_
      refine lv_bipush (v := 44) hx hb dX7_poem_54 (by decide) ?_
      obtain ⟨u0_13, u1_13, u2_13, u3_13, u4_13, u5_13, hC, hM⟩ := oe6 hM
      refine cV_v (As := [.int (44 : Int32)]) (rest := []) C0 hP hD hS [0, 3] (kX7_mustSign l G K m_a mA_lane mA_many mA_item mA_poem mA_fresh mA_then mA_was mA_tape mA_strengths mA_sounds mA_stand mA_scheme mA_isKept mA_kept mA_trace m_thrown m_status m_acts m_taped u0_12 u1_12 u2_12 u3_12 u4_12 u5_12 m_latest m_stands m_least m_ways m_nearFoot m_nearFeet m_nearCost m_traced m_tape (44 : Int32) H.size u0_13 u1_13 u2_13 u3_13 u4_13 u5_13 hC) rfl rfl rfl tb942 tb944 tp20 tb9 tb945 hdX7_mustSign (va_recv hK hP (ci := 7) (q0 := 0) rfl rfl) ⟨Nat.le_of_ble_eq_true rfl, Nat.le_of_ble_eq_true rfl⟩ rfl hl.1 (Nat.le_of_ble_eq_true rfl) rfl ⟨Nat.le_refl _, Nat.le_refl _⟩ dX7_poem_56 (fun H locs hP hD hS => ?_)
      have hP : va_P G vwCl [(m_a, .inr (7, [.int m_thrown, .int m_status, .ref mA_lane, .ref mA_many, .ref mA_item, .ref mA_poem, .ref mA_fresh, .ref mA_then, .ref mA_was, .int m_acts, .ref mA_tape, .int m_taped, .int u0_13, .int u1_13, .int u2_13, .int u3_13, .int u4_13, .int u5_13, .int m_latest, .ref mA_strengths, .ref mA_sounds, .ref mA_stand, .int m_stands, .int m_least, .int m_ways, .ref mA_scheme, .int m_nearFoot, .int m_nearFeet, .int m_nearCost, .ref mA_isKept, .ref mA_kept, .ref mA_trace, .int m_traced])), aI K mA_poem 207 m_poem, aI K mA_fresh 207 (upd m_fresh (1 : Int32).toNatClampNeg r_12), aI K mA_tape 130 m_tape] H := hP
      have hD : va_D A [(m_a, .inr (7, [.int m_thrown, .int m_status, .ref mA_lane, .ref mA_many, .ref mA_item, .ref mA_poem, .ref mA_fresh, .ref mA_then, .ref mA_was, .int m_acts, .ref mA_tape, .int m_taped, .int u0_13, .int u1_13, .int u2_13, .int u3_13, .int u4_13, .int u5_13, .int m_latest, .ref mA_strengths, .ref mA_sounds, .ref mA_stand, .int m_stands, .int m_least, .int m_ways, .ref mA_scheme, .int m_nearFoot, .int m_nearFeet, .int m_nearCost, .ref mA_isKept, .ref mA_kept, .ref mA_trace, .int m_traced])), aI K mA_poem 207 m_poem, aI K mA_fresh 207 (upd m_fresh (1 : Int32).toNatClampNeg r_12), aI K mA_tape 130 m_tape] := hD
      refine lv_aload_n hx hb dX7_poem_59 rfl (lv_at hl 0 rfl) ?_
      refine va_get (D := G) (ci := 7) (v := .ref mA_fresh) (C := RX7) (T := TX7) (N := 33) hx hb hts inX7 hown hK hP 0 rfl rfl 6 (by decide) (hts _ tb774) (fun _ h9 => h9) rfl dX7_poem_60 ?_
      refine lv_iconst (v := 2) hx hb dX7_poem_63 (by decide) ?_
      refine lv_aload_n hx hb dX7_poem_64 rfl (lv_at hl 0 rfl) ?_
      refine lv_iconst (v := 1) hx hb dX7_poem_65 (by decide) ?_
      refine lv_iconst (v := 5) hx hb dX7_poem_66 (by decide) ?_
      obtain ⟨r_14, u0_14, u1_14, u2_14, u3_14, u4_14, u5_14, hC, hM⟩ := oe7 hM
      refine cV_i (As := [.int (1 : Int32), .int (5 : Int32)]) (rest := [.int (2 : Int32), .ref mA_fresh]) C0 hP hD hS [0, 3] (kX7_number l G K m_a mA_lane mA_many mA_item mA_poem mA_fresh mA_then mA_was mA_tape mA_strengths mA_sounds mA_stand mA_scheme mA_isKept mA_kept mA_trace m_thrown m_status m_acts m_taped u0_13 u1_13 u2_13 u3_13 u4_13 u5_13 m_latest m_stands m_least m_ways m_nearFoot m_nearFeet m_nearCost m_traced m_tape (1 : Int32) (5 : Int32) H.size r_14 u0_14 u1_14 u2_14 u3_14 u4_14 u5_14 hC) rfl rfl rfl tb938 tb940 tp19 tb9 tb941 hdX7_number (va_recv hK hP (ci := 7) (q0 := 0) rfl rfl) ⟨Nat.le_of_ble_eq_true rfl, Nat.le_of_ble_eq_true rfl⟩ rfl hl.1 (Nat.le_of_ble_eq_true rfl) rfl ⟨Nat.le_refl _, Nat.le_refl _⟩ dX7_poem_67 (fun H locs hP hD hS => ?_)
      have hP : va_P G vwCl [(m_a, .inr (7, [.int m_thrown, .int m_status, .ref mA_lane, .ref mA_many, .ref mA_item, .ref mA_poem, .ref mA_fresh, .ref mA_then, .ref mA_was, .int m_acts, .ref mA_tape, .int m_taped, .int u0_14, .int u1_14, .int u2_14, .int u3_14, .int u4_14, .int u5_14, .int m_latest, .ref mA_strengths, .ref mA_sounds, .ref mA_stand, .int m_stands, .int m_least, .int m_ways, .ref mA_scheme, .int m_nearFoot, .int m_nearFeet, .int m_nearCost, .ref mA_isKept, .ref mA_kept, .ref mA_trace, .int m_traced])), aI K mA_poem 207 m_poem, aI K mA_fresh 207 (upd m_fresh (1 : Int32).toNatClampNeg r_12), aI K mA_tape 130 m_tape] H := hP
      have hD : va_D A [(m_a, .inr (7, [.int m_thrown, .int m_status, .ref mA_lane, .ref mA_many, .ref mA_item, .ref mA_poem, .ref mA_fresh, .ref mA_then, .ref mA_was, .int m_acts, .ref mA_tape, .int m_taped, .int u0_14, .int u1_14, .int u2_14, .int u3_14, .int u4_14, .int u5_14, .int m_latest, .ref mA_strengths, .ref mA_sounds, .ref mA_stand, .int m_stands, .int m_least, .int m_ways, .ref mA_scheme, .int m_nearFoot, .int m_nearFeet, .int m_nearCost, .ref mA_isKept, .ref mA_kept, .ref mA_trace, .int m_traced])), aI K mA_poem 207 m_poem, aI K mA_fresh 207 (upd m_fresh (1 : Int32).toNatClampNeg r_12), aI K mA_tape 130 m_tape] := hD
      refine va_iast hx hb hK hP hD hS 2 0 rfl rfl (show ¬ ((2 : Int32) < 0 ∨ 207 ≤ ((2 : Int32)).toNatClampNeg) by decide) dX7_poem_70 (fun H locs hP hD hS => ?_)
      have hP : va_P G vwCl [(m_a, .inr (7, [.int m_thrown, .int m_status, .ref mA_lane, .ref mA_many, .ref mA_item, .ref mA_poem, .ref mA_fresh, .ref mA_then, .ref mA_was, .int m_acts, .ref mA_tape, .int m_taped, .int u0_14, .int u1_14, .int u2_14, .int u3_14, .int u4_14, .int u5_14, .int m_latest, .ref mA_strengths, .ref mA_sounds, .ref mA_stand, .int m_stands, .int m_least, .int m_ways, .ref mA_scheme, .int m_nearFoot, .int m_nearFeet, .int m_nearCost, .ref mA_isKept, .ref mA_kept, .ref mA_trace, .int m_traced])), aI K mA_poem 207 m_poem, aI K mA_fresh 207 (upd (upd m_fresh (1 : Int32).toNatClampNeg r_12) (2 : Int32).toNatClampNeg r_14), aI K mA_tape 130 m_tape] H := hP
      have hD : va_D A [(m_a, .inr (7, [.int m_thrown, .int m_status, .ref mA_lane, .ref mA_many, .ref mA_item, .ref mA_poem, .ref mA_fresh, .ref mA_then, .ref mA_was, .int m_acts, .ref mA_tape, .int m_taped, .int u0_14, .int u1_14, .int u2_14, .int u3_14, .int u4_14, .int u5_14, .int m_latest, .ref mA_strengths, .ref mA_sounds, .ref mA_stand, .int m_stands, .int m_least, .int m_ways, .ref mA_scheme, .int m_nearFoot, .int m_nearFeet, .int m_nearCost, .ref mA_isKept, .ref mA_kept, .ref mA_trace, .int m_traced])), aI K mA_poem 207 m_poem, aI K mA_fresh 207 (upd (upd m_fresh (1 : Int32).toNatClampNeg r_12) (2 : Int32).toNatClampNeg r_14), aI K mA_tape 130 m_tape] := hD
      refine lv_aload_n hx hb dX7_poem_71 rfl (lv_at hl 0 rfl) ?_
      refine lv_bipush (v := 59) hx hb dX7_poem_72 (by decide) ?_
      obtain ⟨u0_15, u1_15, u2_15, u3_15, u4_15, u5_15, hC, hM⟩ := oe6 hM
      refine cV_v (As := [.int (59 : Int32)]) (rest := []) C0 hP hD hS [0, 3] (kX7_mustSign l G K m_a mA_lane mA_many mA_item mA_poem mA_fresh mA_then mA_was mA_tape mA_strengths mA_sounds mA_stand mA_scheme mA_isKept mA_kept mA_trace m_thrown m_status m_acts m_taped u0_14 u1_14 u2_14 u3_14 u4_14 u5_14 m_latest m_stands m_least m_ways m_nearFoot m_nearFeet m_nearCost m_traced m_tape (59 : Int32) H.size u0_15 u1_15 u2_15 u3_15 u4_15 u5_15 hC) rfl rfl rfl tb942 tb944 tp20 tb9 tb945 hdX7_mustSign (va_recv hK hP (ci := 7) (q0 := 0) rfl rfl) ⟨Nat.le_of_ble_eq_true rfl, Nat.le_of_ble_eq_true rfl⟩ rfl hl.1 (Nat.le_of_ble_eq_true rfl) rfl ⟨Nat.le_refl _, Nat.le_refl _⟩ dX7_poem_74 (fun H locs hP hD hS => ?_)
      have hP : va_P G vwCl [(m_a, .inr (7, [.int m_thrown, .int m_status, .ref mA_lane, .ref mA_many, .ref mA_item, .ref mA_poem, .ref mA_fresh, .ref mA_then, .ref mA_was, .int m_acts, .ref mA_tape, .int m_taped, .int u0_15, .int u1_15, .int u2_15, .int u3_15, .int u4_15, .int u5_15, .int m_latest, .ref mA_strengths, .ref mA_sounds, .ref mA_stand, .int m_stands, .int m_least, .int m_ways, .ref mA_scheme, .int m_nearFoot, .int m_nearFeet, .int m_nearCost, .ref mA_isKept, .ref mA_kept, .ref mA_trace, .int m_traced])), aI K mA_poem 207 m_poem, aI K mA_fresh 207 (upd (upd m_fresh (1 : Int32).toNatClampNeg r_12) (2 : Int32).toNatClampNeg r_14), aI K mA_tape 130 m_tape] H := hP
      have hD : va_D A [(m_a, .inr (7, [.int m_thrown, .int m_status, .ref mA_lane, .ref mA_many, .ref mA_item, .ref mA_poem, .ref mA_fresh, .ref mA_then, .ref mA_was, .int m_acts, .ref mA_tape, .int m_taped, .int u0_15, .int u1_15, .int u2_15, .int u3_15, .int u4_15, .int u5_15, .int m_latest, .ref mA_strengths, .ref mA_sounds, .ref mA_stand, .int m_stands, .int m_least, .int m_ways, .ref mA_scheme, .int m_nearFoot, .int m_nearFeet, .int m_nearCost, .ref mA_isKept, .ref mA_kept, .ref mA_trace, .int m_traced])), aI K mA_poem 207 m_poem, aI K mA_fresh 207 (upd (upd m_fresh (1 : Int32).toNatClampNeg r_12) (2 : Int32).toNatClampNeg r_14), aI K mA_tape 130 m_tape] := hD
      refine lv_aload_n hx hb dX7_poem_77 rfl (lv_at hl 0 rfl) ?_
      refine lv_iconst (v := 0) hx hb dX7_poem_78 (by decide) ?_
      obtain ⟨u0_16, u1_16, u2_16, u3_16, u4_16, u5_16, u6_16, hC, hM⟩ := oe7 hM
      refine cV_v (As := [.int (0 : Int32)]) (rest := []) C0 hP hD hS [0, 2, 3] (kX7_readLine l G K m_a mA_lane mA_many mA_item mA_poem mA_fresh mA_then mA_was mA_tape mA_strengths mA_sounds mA_stand mA_scheme mA_isKept mA_kept mA_trace m_thrown m_status m_acts m_taped u0_15 u1_15 u2_15 u3_15 u4_15 u5_15 m_latest m_stands m_least m_ways m_nearFoot m_nearFeet m_nearCost m_traced (upd (upd m_fresh (1 : Int32).toNatClampNeg r_12) (2 : Int32).toNatClampNeg r_14) m_tape (0 : Int32) H.size u0_16 u1_16 u2_16 u3_16 u4_16 u5_16 u6_16 hC) rfl rfl rfl tb946 tb948 tp21 tb9 tb949 hdX7_readLine (va_recv hK hP (ci := 7) (q0 := 0) rfl rfl) ⟨Nat.le_of_ble_eq_true rfl, Nat.le_of_ble_eq_true rfl⟩ rfl hl.1 (Nat.le_of_ble_eq_true rfl) rfl ⟨Nat.le_refl _, Nat.le_refl _⟩ dX7_poem_79 (fun H locs hP hD hS => ?_)
      have hP : va_P G vwCl [(m_a, .inr (7, [.int m_thrown, .int m_status, .ref mA_lane, .ref mA_many, .ref mA_item, .ref mA_poem, .ref mA_fresh, .ref mA_then, .ref mA_was, .int m_acts, .ref mA_tape, .int m_taped, .int u0_16, .int u1_16, .int u2_16, .int u3_16, .int u4_16, .int u5_16, .int m_latest, .ref mA_strengths, .ref mA_sounds, .ref mA_stand, .int m_stands, .int m_least, .int m_ways, .ref mA_scheme, .int m_nearFoot, .int m_nearFeet, .int m_nearCost, .ref mA_isKept, .ref mA_kept, .ref mA_trace, .int m_traced])), aI K mA_poem 207 m_poem, aI K mA_fresh 207 u6_16, aI K mA_tape 130 m_tape] H := hP
      have hD : va_D A [(m_a, .inr (7, [.int m_thrown, .int m_status, .ref mA_lane, .ref mA_many, .ref mA_item, .ref mA_poem, .ref mA_fresh, .ref mA_then, .ref mA_was, .int m_acts, .ref mA_tape, .int m_taped, .int u0_16, .int u1_16, .int u2_16, .int u3_16, .int u4_16, .int u5_16, .int m_latest, .ref mA_strengths, .ref mA_sounds, .ref mA_stand, .int m_stands, .int m_least, .int m_ways, .ref mA_scheme, .int m_nearFoot, .int m_nearFeet, .int m_nearCost, .ref mA_isKept, .ref mA_kept, .ref mA_trace, .int m_traced])), aI K mA_poem 207 m_poem, aI K mA_fresh 207 u6_16, aI K mA_tape 130 m_tape] := hD
      exact wX7_poem_b82 C0 m_a mA_lane mA_many mA_item mA_poem mA_fresh mA_then mA_was mA_tape mA_strengths mA_sounds mA_stand mA_scheme mA_isKept mA_kept mA_trace m_status m_stands m_least m_ways m_nearFoot m_nearFeet m_nearCost m_traced m_tape r o_m_thrown o_m_acts o_m_taped o_m_cursor o_m_start o_m_token o_m_value o_m_fault o_m_faultAt o_m_latest o_m_poem o_m_fresh kr  FU m_thrown m_acts m_taped u0_16 u1_16 u2_16 u3_16 u4_16 u5_16 m_latest m_poem u6_16 hM _ _ _ hP hD hS (lv_sub hl [0] rfl)
    · rw [if_neg c_9] at hM
      refine lv_aload_n hx hb dX7_poem_18 rfl (lv_at hl 0 rfl) ?_
      refine va_get (D := G) (ci := 7) (v := .ref mA_fresh) (C := RX7) (T := TX7) (N := 33) hx hb hts inX7 hown hK hP 0 rfl rfl 6 (by decide) (hts _ tb774) (fun _ h9 => h9) rfl dX7_poem_19 ?_
      refine lv_iload_n hx hb dX7_poem_22 rfl (lv_at hl 1 rfl) ?_
      refine lv_iconst (v := 0) hx hb dX7_poem_23 (by decide) ?_
      obtain ⟨g_17, hM⟩ := ng hM
      refine va_iast hx hb hK hP hD hS 2 0 rfl rfl g_17 dX7_poem_24 (fun H locs hP hD hS => ?_)
      have hP : va_P G vwCl [(m_a, .inr (7, [.int m_thrown, .int m_status, .ref mA_lane, .ref mA_many, .ref mA_item, .ref mA_poem, .ref mA_fresh, .ref mA_then, .ref mA_was, .int m_acts, .ref mA_tape, .int m_taped, .int m_cursor, .int m_start, .int m_token, .int m_value, .int m_fault, .int m_faultAt, .int m_latest, .ref mA_strengths, .ref mA_sounds, .ref mA_stand, .int m_stands, .int m_least, .int m_ways, .ref mA_scheme, .int m_nearFoot, .int m_nearFeet, .int m_nearCost, .ref mA_isKept, .ref mA_kept, .ref mA_trace, .int m_traced])), aI K mA_poem 207 m_poem, aI K mA_fresh 207 (upd m_fresh x1.toNatClampNeg (0 : Int32)), aI K mA_tape 130 m_tape] H := hP
      have hD : va_D A [(m_a, .inr (7, [.int m_thrown, .int m_status, .ref mA_lane, .ref mA_many, .ref mA_item, .ref mA_poem, .ref mA_fresh, .ref mA_then, .ref mA_was, .int m_acts, .ref mA_tape, .int m_taped, .int m_cursor, .int m_start, .int m_token, .int m_value, .int m_fault, .int m_faultAt, .int m_latest, .ref mA_strengths, .ref mA_sounds, .ref mA_stand, .int m_stands, .int m_least, .int m_ways, .ref mA_scheme, .int m_nearFoot, .int m_nearFeet, .int m_nearCost, .ref mA_isKept, .ref mA_kept, .ref mA_trace, .int m_traced])), aI K mA_poem 207 m_poem, aI K mA_fresh 207 (upd m_fresh x1.toNatClampNeg (0 : Int32)), aI K mA_tape 130 m_tape] := hD
      refine lv_iinc (v := (x1 + 1)) (lv' := [(1, .int (x1 + 1)), (0, .ref m_a)]) hx hb dX7_poem_25 hl (k := 1) rfl rfl (by decide) rfl (fun ls hl => ?_)
      refine lv_goto (tgt := 11) hx hb dX7_poem_28 (by decide) ?_
      exact ih m_thrown m_acts m_taped m_cursor m_start m_token m_value m_fault m_faultAt m_latest m_poem (upd m_fresh x1.toNatClampNeg (0 : Int32)) (x1 + 1) hM _ _ _ hP hD hS (lv_sub hl [1, 0] rfl)
set_option maxHeartbeats 4000000 in
set_option maxRecDepth 100000 in
theorem wX7_poem_b0 {p : Program} {l : Launch} {e : Env} {s : State} {m : MethodId} {args : Array Value} {below : List Frame} {meth : Method} {c : Code} {Q : State → Prop} {G : va_G} {K : Nat → ClassId} {A : Nat → Prop} (C0 : CX p s m args c cX7_poem 2 RX7 G K E0 A) (m_a mA_lane mA_many mA_item mA_poem mA_fresh mA_then mA_was mA_tape mA_strengths mA_sounds mA_stand mA_scheme mA_isKept mA_kept mA_trace : Nat) (m_status : Int32) (m_stands : Int32) (m_least : Int32) (m_ways : Int32) (m_nearFoot : Int32) (m_nearFeet : Int32) (m_nearCost : Int32) (m_traced : Int32) (m_tape : Nat → Int32)  (r : Int32) (o_m_thrown : Int32) (o_m_acts : Int32) (o_m_taped : Int32) (o_m_cursor : Int32) (o_m_start : Int32) (o_m_token : Int32) (o_m_value : Int32) (o_m_fault : Int32) (o_m_faultAt : Int32) (o_m_latest : Int32) (o_m_poem : Nat → Int32) (o_m_fresh : Nat → Int32) (kr : ∀ (H : Heap) (locs : List Loc) (ls : Array Slot) (pc : Nat), decode cX7_poem pc = .ok (.ireturn, 1) → va_P G vwCl [(m_a, .inr (7, [.int o_m_thrown, .int m_status, .ref mA_lane, .ref mA_many, .ref mA_item, .ref mA_poem, .ref mA_fresh, .ref mA_then, .ref mA_was, .int o_m_acts, .ref mA_tape, .int o_m_taped, .int o_m_cursor, .int o_m_start, .int o_m_token, .int o_m_value, .int o_m_fault, .int o_m_faultAt, .int o_m_latest, .ref mA_strengths, .ref mA_sounds, .ref mA_stand, .int m_stands, .int m_least, .int m_ways, .ref mA_scheme, .int m_nearFoot, .int m_nearFeet, .int m_nearCost, .ref mA_isKept, .ref mA_kept, .ref mA_trace, .int m_traced])), aI K mA_poem 207 o_m_poem, aI K mA_fresh 207 o_m_fresh, aI K mA_tape 130 m_tape] H → va_D A [(m_a, .inr (7, [.int o_m_thrown, .int m_status, .ref mA_lane, .ref mA_many, .ref mA_item, .ref mA_poem, .ref mA_fresh, .ref mA_then, .ref mA_was, .int o_m_acts, .ref mA_tape, .int o_m_taped, .int o_m_cursor, .int o_m_start, .int o_m_token, .int o_m_value, .int o_m_fault, .int o_m_faultAt, .int o_m_latest, .ref mA_strengths, .ref mA_sounds, .ref mA_stand, .int m_stands, .int m_least, .int m_ways, .ref mA_scheme, .int m_nearFoot, .int m_nearFeet, .int m_nearCost, .ref mA_isKept, .ref mA_kept, .ref mA_trace, .int m_traced])), aI K mA_poem 207 o_m_poem, aI K mA_fresh 207 o_m_fresh, aI K mA_tape 130 m_tape] → va_S A s.heap H locs → W p l e rmX7_poem s m args below meth c H locs 0 0 Q (F0 m pc ls [.int r])) (m_thrown : Int32) (m_acts : Int32) (m_taped : Int32) (m_cursor : Int32) (m_start : Int32) (m_token : Int32) (m_value : Int32) (m_fault : Int32) (m_faultAt : Int32) (m_latest : Int32) (m_poem : Nat → Int32) (m_fresh : Nat → Int32) (hM : mX7_poem_b0 m_tape  m_thrown m_acts m_taped m_cursor m_start m_token m_value m_fault m_faultAt m_latest m_poem m_fresh = some (r, o_m_thrown, o_m_acts, o_m_taped, o_m_cursor, o_m_start, o_m_token, o_m_value, o_m_fault, o_m_faultAt, o_m_latest, o_m_poem, o_m_fresh)) : ∀ (H : Heap) (locs : List Loc) (ls : Array Slot), va_P G vwCl [(m_a, .inr (7, [.int m_thrown, .int m_status, .ref mA_lane, .ref mA_many, .ref mA_item, .ref mA_poem, .ref mA_fresh, .ref mA_then, .ref mA_was, .int m_acts, .ref mA_tape, .int m_taped, .int m_cursor, .int m_start, .int m_token, .int m_value, .int m_fault, .int m_faultAt, .int m_latest, .ref mA_strengths, .ref mA_sounds, .ref mA_stand, .int m_stands, .int m_least, .int m_ways, .ref mA_scheme, .int m_nearFoot, .int m_nearFeet, .int m_nearCost, .ref mA_isKept, .ref mA_kept, .ref mA_trace, .int m_traced])), aI K mA_poem 207 m_poem, aI K mA_fresh 207 m_fresh, aI K mA_tape 130 m_tape] H → va_D A [(m_a, .inr (7, [.int m_thrown, .int m_status, .ref mA_lane, .ref mA_many, .ref mA_item, .ref mA_poem, .ref mA_fresh, .ref mA_then, .ref mA_was, .int m_acts, .ref mA_tape, .int m_taped, .int m_cursor, .int m_start, .int m_token, .int m_value, .int m_fault, .int m_faultAt, .int m_latest, .ref mA_strengths, .ref mA_sounds, .ref mA_stand, .int m_stands, .int m_least, .int m_ways, .ref mA_scheme, .int m_nearFoot, .int m_nearFeet, .int m_nearCost, .ref mA_isKept, .ref mA_kept, .ref mA_trace, .int m_traced])), aI K mA_poem 207 m_poem, aI K mA_fresh 207 m_fresh, aI K mA_tape 130 m_tape] → va_S A s.heap H locs → lv_has ls 2 [(0, .ref m_a)] → W p l e rmX7_poem s m args below meth c H locs 0 0 Q (F0 m 0 ls []) := by
  obtain ⟨hx, hb, hml, hown, hts, hK, hA, hEo, hE⟩ := id C0
  intro H locs ls hP hD hS hl
  unfold mX7_poem_b0 at hM
  refine lv_aload_n hx hb dX7_poem_0 rfl (lv_at hl 0 rfl) ?_
  refine lv_iconst (v := 0) hx hb dX7_poem_1 (by decide) ?_
  refine va_put (D := G) (ci := 7) (v := .int (0 : Int32)) (ty := .int) (C := RX7) (T := TX7) (N := 33) hx hb hts inX7 tyX7 tyX7_ok nmX7 hown hK hP hD hS 0 rfl rfl 0 (by decide) (hts _ tb768) (fun _ h9 => h9) rfl (tyX7_ok 0 (by decide)) rfl rfl (Nat.le_of_ble_eq_true rfl) dX7_poem_2 (fun H locs hP hD hS => ?_)
  have hP : va_P G vwCl [(m_a, .inr (7, [.int (0 : Int32), .int m_status, .ref mA_lane, .ref mA_many, .ref mA_item, .ref mA_poem, .ref mA_fresh, .ref mA_then, .ref mA_was, .int m_acts, .ref mA_tape, .int m_taped, .int m_cursor, .int m_start, .int m_token, .int m_value, .int m_fault, .int m_faultAt, .int m_latest, .ref mA_strengths, .ref mA_sounds, .ref mA_stand, .int m_stands, .int m_least, .int m_ways, .ref mA_scheme, .int m_nearFoot, .int m_nearFeet, .int m_nearCost, .ref mA_isKept, .ref mA_kept, .ref mA_trace, .int m_traced])), aI K mA_poem 207 m_poem, aI K mA_fresh 207 m_fresh, aI K mA_tape 130 m_tape] H := hP
  have hD : va_D A [(m_a, .inr (7, [.int (0 : Int32), .int m_status, .ref mA_lane, .ref mA_many, .ref mA_item, .ref mA_poem, .ref mA_fresh, .ref mA_then, .ref mA_was, .int m_acts, .ref mA_tape, .int m_taped, .int m_cursor, .int m_start, .int m_token, .int m_value, .int m_fault, .int m_faultAt, .int m_latest, .ref mA_strengths, .ref mA_sounds, .ref mA_stand, .int m_stands, .int m_least, .int m_ways, .ref mA_scheme, .int m_nearFoot, .int m_nearFeet, .int m_nearCost, .ref mA_isKept, .ref mA_kept, .ref mA_trace, .int m_traced])), aI K mA_poem 207 m_poem, aI K mA_fresh 207 m_fresh, aI K mA_tape 130 m_tape] := hD
  refine lv_aload_n hx hb dX7_poem_5 rfl (lv_at hl 0 rfl) ?_
  obtain ⟨u0_18, u1_18, u2_18, u3_18, u4_18, hC, hM⟩ := oe5 hM
  refine cV_v (As := []) (rest := []) C0 hP hD hS [0, 3] (kX7_begin l G K m_a mA_lane mA_many mA_item mA_poem mA_fresh mA_then mA_was mA_tape mA_strengths mA_sounds mA_stand mA_scheme mA_isKept mA_kept mA_trace (0 : Int32) m_status m_acts m_taped m_cursor m_start m_token m_value m_fault m_faultAt m_latest m_stands m_least m_ways m_nearFoot m_nearFeet m_nearCost m_traced m_tape H.size u0_18 u1_18 u2_18 u3_18 u4_18 hC) rfl rfl rfl tb913 tb915 tp14 tb9 tb916 hdX7_begin (va_recv hK hP (ci := 7) (q0 := 0) rfl rfl) ⟨Nat.le_of_ble_eq_true rfl, Nat.le_of_ble_eq_true rfl⟩ rfl hl.1 (Nat.le_of_ble_eq_true rfl) rfl ⟨Nat.le_refl _, Nat.le_refl _⟩ dX7_poem_6 (fun H locs hP hD hS => ?_)
  have hP : va_P G vwCl [(m_a, .inr (7, [.int (0 : Int32), .int m_status, .ref mA_lane, .ref mA_many, .ref mA_item, .ref mA_poem, .ref mA_fresh, .ref mA_then, .ref mA_was, .int m_acts, .ref mA_tape, .int m_taped, .int u0_18, .int u1_18, .int u2_18, .int u3_18, .int u4_18, .int m_faultAt, .int m_latest, .ref mA_strengths, .ref mA_sounds, .ref mA_stand, .int m_stands, .int m_least, .int m_ways, .ref mA_scheme, .int m_nearFoot, .int m_nearFeet, .int m_nearCost, .ref mA_isKept, .ref mA_kept, .ref mA_trace, .int m_traced])), aI K mA_poem 207 m_poem, aI K mA_fresh 207 m_fresh, aI K mA_tape 130 m_tape] H := hP
  have hD : va_D A [(m_a, .inr (7, [.int (0 : Int32), .int m_status, .ref mA_lane, .ref mA_many, .ref mA_item, .ref mA_poem, .ref mA_fresh, .ref mA_then, .ref mA_was, .int m_acts, .ref mA_tape, .int m_taped, .int u0_18, .int u1_18, .int u2_18, .int u3_18, .int u4_18, .int m_faultAt, .int m_latest, .ref mA_strengths, .ref mA_sounds, .ref mA_stand, .int m_stands, .int m_least, .int m_ways, .ref mA_scheme, .int m_nearFoot, .int m_nearFeet, .int m_nearCost, .ref mA_isKept, .ref mA_kept, .ref mA_trace, .int m_traced])), aI K mA_poem 207 m_poem, aI K mA_fresh 207 m_fresh, aI K mA_tape 130 m_tape] := hD
  refine lv_iconst (v := 0) hx hb dX7_poem_9 (by decide) ?_
  refine lv_istore_n (lv' := [(1, .int (0 : Int32)), (0, .ref m_a)]) hx hb dX7_poem_10 rfl hl (by decide) rfl (fun ls hl => ?_)
  exact wX7_poem_b11 C0 m_a mA_lane mA_many mA_item mA_poem mA_fresh mA_then mA_was mA_tape mA_strengths mA_sounds mA_stand mA_scheme mA_isKept mA_kept mA_trace m_status m_stands m_least m_ways m_nearFoot m_nearFeet m_nearCost m_traced m_tape r o_m_thrown o_m_acts o_m_taped o_m_cursor o_m_start o_m_token o_m_value o_m_fault o_m_faultAt o_m_latest o_m_poem o_m_fresh kr  FU (0 : Int32) m_acts m_taped u0_18 u1_18 u2_18 u3_18 u4_18 m_faultAt m_latest m_poem m_fresh (0 : Int32) hM _ _ _ hP hD hS (lv_sub hl [1, 0] rfl)
set_option maxHeartbeats 4000000 in
set_option maxRecDepth 100000 in
theorem kX7_poem (l : Launch) (G : va_G) (K : Nat → ClassId) (m_a mA_lane mA_many mA_item mA_poem mA_fresh mA_then mA_was mA_tape mA_strengths mA_sounds mA_stand mA_scheme mA_isKept mA_kept mA_trace : Nat) (m_thrown : Int32) (m_status : Int32) (m_acts : Int32) (m_taped : Int32) (m_cursor : Int32) (m_start : Int32) (m_token : Int32) (m_value : Int32) (m_fault : Int32) (m_faultAt : Int32) (m_latest : Int32) (m_stands : Int32) (m_least : Int32) (m_ways : Int32) (m_nearFoot : Int32) (m_nearFeet : Int32) (m_nearCost : Int32) (m_traced : Int32) (m_poem : Nat → Int32) (m_fresh : Nat → Int32) (m_tape : Nat → Int32)  (sz : Nat) (r : Int32) (o_m_thrown : Int32) (o_m_acts : Int32) (o_m_taped : Int32) (o_m_cursor : Int32) (o_m_start : Int32) (o_m_token : Int32) (o_m_value : Int32) (o_m_fault : Int32) (o_m_faultAt : Int32) (o_m_latest : Int32) (o_m_poem : Nat → Int32) (o_m_fresh : Nat → Int32) (hM : mX7_poem m_tape m_thrown m_acts m_taped m_cursor m_start m_token m_value m_fault m_faultAt m_latest m_poem m_fresh = some (r, o_m_thrown, o_m_acts, o_m_taped, o_m_cursor, o_m_start, o_m_token, o_m_value, o_m_fault, o_m_faultAt, o_m_latest, o_m_poem, o_m_fresh)) : Met l yX7_poem (mC yX7_poem cX7_poem 2 (some .int)) rmX7_poem (va_Pc [.ref m_a] (PCe G K E0 [(m_a, .inr (7, [.int m_thrown, .int m_status, .ref mA_lane, .ref mA_many, .ref mA_item, .ref mA_poem, .ref mA_fresh, .ref mA_then, .ref mA_was, .int m_acts, .ref mA_tape, .int m_taped, .int m_cursor, .int m_start, .int m_token, .int m_value, .int m_fault, .int m_faultAt, .int m_latest, .ref mA_strengths, .ref mA_sounds, .ref mA_stand, .int m_stands, .int m_least, .int m_ways, .ref mA_scheme, .int m_nearFoot, .int m_nearFeet, .int m_nearCost, .ref mA_isKept, .ref mA_kept, .ref mA_trace, .int m_traced])), aI K mA_poem 207 m_poem, aI K mA_fresh 207 m_fresh, aI K mA_tape 130 m_tape] sz)) (va_Qi (fun (x : Int32) (_ : Unit) => x = r) (fun _ t => va_P G vwCl [(m_a, .inr (7, [.int o_m_thrown, .int m_status, .ref mA_lane, .ref mA_many, .ref mA_item, .ref mA_poem, .ref mA_fresh, .ref mA_then, .ref mA_was, .int o_m_acts, .ref mA_tape, .int o_m_taped, .int o_m_cursor, .int o_m_start, .int o_m_token, .int o_m_value, .int o_m_fault, .int o_m_faultAt, .int o_m_latest, .ref mA_strengths, .ref mA_sounds, .ref mA_stand, .int m_stands, .int m_least, .int m_ways, .ref mA_scheme, .int m_nearFoot, .int m_nearFeet, .int m_nearCost, .ref mA_isKept, .ref mA_kept, .ref mA_trace, .int m_traced])), aI K mA_poem 207 o_m_poem, aI K mA_fresh 207 o_m_fresh, aI K mA_tape 130 m_tape] t.heap) (va_A [(m_a, .inr (7, [.int m_thrown, .int m_status, .ref mA_lane, .ref mA_many, .ref mA_item, .ref mA_poem, .ref mA_fresh, .ref mA_then, .ref mA_was, .int m_acts, .ref mA_tape, .int m_taped, .int m_cursor, .int m_start, .int m_token, .int m_value, .int m_fault, .int m_faultAt, .int m_latest, .ref mA_strengths, .ref mA_sounds, .ref mA_stand, .int m_stands, .int m_least, .int m_ways, .ref mA_scheme, .int m_nearFoot, .int m_nearFeet, .int m_nearCost, .ref mA_isKept, .ref mA_kept, .ref mA_trace, .int m_traced])), aI K mA_poem 207 m_poem, aI K mA_fresh 207 m_fresh, aI K mA_tape 130 m_tape] sz)) rmX7_poem.cells rmX7_poem.slots (va_A [(m_a, .inr (7, [.int m_thrown, .int m_status, .ref mA_lane, .ref mA_many, .ref mA_item, .ref mA_poem, .ref mA_fresh, .ref mA_then, .ref mA_was, .int m_acts, .ref mA_tape, .int m_taped, .int m_cursor, .int m_start, .int m_token, .int m_value, .int m_fault, .int m_faultAt, .int m_latest, .ref mA_strengths, .ref mA_sounds, .ref mA_stand, .int m_stands, .int m_least, .int m_ways, .ref mA_scheme, .int m_nearFoot, .int m_nearFeet, .int m_nearCost, .ref mA_isKept, .ref mA_kept, .ref mA_trace, .int m_traced])), aI K mA_poem 207 m_poem, aI K mA_fresh 207 m_fresh, aI K mA_tape 130 m_tape] sz) := by
  refine Met.ofW (cc := cX7_poem) (maxL := 2) (ret := (some .int)) (by decide) rfl ?_
  intro p e s m args below meth c s₁ B hml hv
  obtain ⟨rfl, hsz, hP, hK, hD0, hE⟩ := hv
  have hx := B.exec
  have hb := B.bytes
  have hr := B.returns
  have hts0 := atoms_spec (ws := mC yX7_poem cX7_poem 2 (some .int)) B.pre
  have hts : ∀ w ∈ tbG, w.before _ s = true := fun w h => hts0 w (List.mem_cons_of_mem _ h)
  have hown : s.vm.findClass RX7 = some m.cls := findClass_of_methodNamed B.named
  subst hsz
  have hD := hD0.self (sz := s.heap.size)
  generalize hAe : va_A [(m_a, .inr (7, [.int m_thrown, .int m_status, .ref mA_lane, .ref mA_many, .ref mA_item, .ref mA_poem, .ref mA_fresh, .ref mA_then, .ref mA_was, .int m_acts, .ref mA_tape, .int m_taped, .int m_cursor, .int m_start, .int m_token, .int m_value, .int m_fault, .int m_faultAt, .int m_latest, .ref mA_strengths, .ref mA_sounds, .ref mA_stand, .int m_stands, .int m_least, .int m_ways, .ref mA_scheme, .int m_nearFoot, .int m_nearFeet, .int m_nearCost, .ref mA_isKept, .ref mA_kept, .ref mA_trace, .int m_traced])), aI K mA_poem 207 m_poem, aI K mA_fresh 207 m_fresh, aI K mA_tape 130 m_tape] s.heap.size = A at hD hE ⊢
  have hA : ∀ q : Nat, s.heap.size ≤ q → A q := fun q h => by rw [← hAe]; exact Or.inr h
  have hS : va_S A s.heap s.heap [] := va_S.rf
  have hl := lv_entry ([.ref m_a]) (n := 2) (Nat.le_of_ble_eq_true rfl)
  rw [lg_entry_eq]
  generalize (lg_sl ([.ref m_a]) ++ List.replicate (2 - (lg_sl ([.ref m_a])).length) Slot.unset).toArray = ls at hl ⊢
  have hl : lv_has ls 2 [(0, .ref m_a)] := hl
  exact wX7_poem_b0 ⟨hx, hb, hml, hown, hts, hK, hA, E0_ok, hE⟩ m_a mA_lane mA_many mA_item mA_poem mA_fresh mA_then mA_was mA_tape mA_strengths mA_sounds mA_stand mA_scheme mA_isKept mA_kept mA_trace m_status m_stands m_least m_ways m_nearFoot m_nearFeet m_nearCost m_traced m_tape r o_m_thrown o_m_acts o_m_taped o_m_cursor o_m_start o_m_token o_m_value o_m_fault o_m_faultAt o_m_latest o_m_poem o_m_fresh (fun H locs ls pc hdg hP hD hS => W.iret (v := r) hx hb hr (fun t ht hW => ⟨⟨r, (), rfl, rfl, by rw [ht]; exact hP⟩, hS.F ht⟩) hS.2.2 hdg) m_thrown m_acts m_taped m_cursor m_start m_token m_value m_fault m_faultAt m_latest m_poem m_fresh  hM _ _ _ hP hD hS hl
def rmX7_isThere : Room := { frames := 0, cells := 0, slots := 0, locals := 0 }
theorem hdX7_isThere : yX7_isThere.cls = RX7 ∧ yX7_isThere.cls ≠ "java/lang/invoke/MethodHandle" ∧ yX7_isThere.cls ≠ "java/lang/invoke/VarHandle" ∧ (parseMethodDescriptor yX7_isThere.desc).map (fun d => d.parameters.length) = some 0 := by decide +kernel
set_option maxHeartbeats 4000000 in
set_option maxRecDepth 100000 in
theorem wX7_isThere_b0 {p : Program} {l : Launch} {e : Env} {s : State} {m : MethodId} {args : Array Value} {below : List Frame} {meth : Method} {c : Code} {Q : State → Prop} {G : va_G} {K : Nat → ClassId} {A : Nat → Prop} (C0 : CX p s m args c cX7_isThere 1 RX7 G K E0 A) (m_a mA_lane mA_many mA_item mA_poem mA_fresh mA_then mA_was mA_tape mA_strengths mA_sounds mA_stand mA_scheme mA_isKept mA_kept mA_trace : Nat) (m_thrown : Int32) (m_status : Int32) (m_acts : Int32) (m_taped : Int32) (m_cursor : Int32) (m_start : Int32) (m_token : Int32) (m_value : Int32) (m_fault : Int32) (m_faultAt : Int32) (m_latest : Int32) (m_stands : Int32) (m_least : Int32) (m_ways : Int32) (m_nearFoot : Int32) (m_nearFeet : Int32) (m_nearCost : Int32) (m_traced : Int32) (m_poem : Nat → Int32)  (r : Int32)  (kr : ∀ (H : Heap) (locs : List Loc) (ls : Array Slot) (pc : Nat), decode cX7_isThere pc = .ok (.ireturn, 1) → (r = 0 ∨ r = 1) → va_P G vwCl [(m_a, .inr (7, [.int m_thrown, .int m_status, .ref mA_lane, .ref mA_many, .ref mA_item, .ref mA_poem, .ref mA_fresh, .ref mA_then, .ref mA_was, .int m_acts, .ref mA_tape, .int m_taped, .int m_cursor, .int m_start, .int m_token, .int m_value, .int m_fault, .int m_faultAt, .int m_latest, .ref mA_strengths, .ref mA_sounds, .ref mA_stand, .int m_stands, .int m_least, .int m_ways, .ref mA_scheme, .int m_nearFoot, .int m_nearFeet, .int m_nearCost, .ref mA_isKept, .ref mA_kept, .ref mA_trace, .int m_traced])), aI K mA_poem 207 m_poem] H → va_D A [(m_a, .inr (7, [.int m_thrown, .int m_status, .ref mA_lane, .ref mA_many, .ref mA_item, .ref mA_poem, .ref mA_fresh, .ref mA_then, .ref mA_was, .int m_acts, .ref mA_tape, .int m_taped, .int m_cursor, .int m_start, .int m_token, .int m_value, .int m_fault, .int m_faultAt, .int m_latest, .ref mA_strengths, .ref mA_sounds, .ref mA_stand, .int m_stands, .int m_least, .int m_ways, .ref mA_scheme, .int m_nearFoot, .int m_nearFeet, .int m_nearCost, .ref mA_isKept, .ref mA_kept, .ref mA_trace, .int m_traced])), aI K mA_poem 207 m_poem] → va_S A s.heap H locs → W p l e rmX7_isThere s m args below meth c H locs 0 0 Q (F0 m pc ls [.int r]))  (hM : mX7_isThere_b0 m_poem   = some r) : ∀ (H : Heap) (locs : List Loc) (ls : Array Slot), va_P G vwCl [(m_a, .inr (7, [.int m_thrown, .int m_status, .ref mA_lane, .ref mA_many, .ref mA_item, .ref mA_poem, .ref mA_fresh, .ref mA_then, .ref mA_was, .int m_acts, .ref mA_tape, .int m_taped, .int m_cursor, .int m_start, .int m_token, .int m_value, .int m_fault, .int m_faultAt, .int m_latest, .ref mA_strengths, .ref mA_sounds, .ref mA_stand, .int m_stands, .int m_least, .int m_ways, .ref mA_scheme, .int m_nearFoot, .int m_nearFeet, .int m_nearCost, .ref mA_isKept, .ref mA_kept, .ref mA_trace, .int m_traced])), aI K mA_poem 207 m_poem] H → va_D A [(m_a, .inr (7, [.int m_thrown, .int m_status, .ref mA_lane, .ref mA_many, .ref mA_item, .ref mA_poem, .ref mA_fresh, .ref mA_then, .ref mA_was, .int m_acts, .ref mA_tape, .int m_taped, .int m_cursor, .int m_start, .int m_token, .int m_value, .int m_fault, .int m_faultAt, .int m_latest, .ref mA_strengths, .ref mA_sounds, .ref mA_stand, .int m_stands, .int m_least, .int m_ways, .ref mA_scheme, .int m_nearFoot, .int m_nearFeet, .int m_nearCost, .ref mA_isKept, .ref mA_kept, .ref mA_trace, .int m_traced])), aI K mA_poem 207 m_poem] → va_S A s.heap H locs → lv_has ls 1 [(0, .ref m_a)] → W p l e rmX7_isThere s m args below meth c H locs 0 0 Q (F0 m 0 ls []) := by
  obtain ⟨hx, hb, hml, hown, hts, hK, hA, hEo, hE⟩ := id C0
  intro H locs ls hP hD hS hl
  unfold mX7_isThere_b0 at hM
  refine lv_aload_n hx hb dX7_isThere_0 rfl (lv_at hl 0 rfl) ?_
  refine va_get (D := G) (ci := 7) (v := .ref mA_poem) (C := RX7) (T := TX7) (N := 33) hx hb hts inX7 hown hK hP 0 rfl rfl 5 (by decide) (hts _ tb773) (fun _ h9 => h9) rfl dX7_isThere_1 ?_
  refine lv_iconst (v := 0) hx hb dX7_isThere_4 (by decide) ?_
  refine va_iald hx hb hK hP 1 0 rfl rfl (show ¬ ((0 : Int32) < 0 ∨ 207 ≤ ((0 : Int32)).toNatClampNeg) by decide) dX7_isThere_5 ?_
  refine lv_if_le (tgt := 13) hx hb dX7_isThere_6 (by decide) (fun c_1 => ?_) (fun c_1 => ?_)
  · rw [if_pos c_1] at hM
    refine lv_iconst (v := 0) hx hb dX7_isThere_13 (by decide) ?_
    cases hM
    exact kr _ _ _ _ dX7_isThere_14 (by decide) hP hD hS
  · rw [if_neg c_1] at hM
    refine lv_iconst (v := 1) hx hb dX7_isThere_9 (by decide) ?_
    refine lv_goto (tgt := 14) hx hb dX7_isThere_10 (by decide) ?_
    cases hM
    exact kr _ _ _ _ dX7_isThere_14 (by decide) hP hD hS
set_option maxHeartbeats 4000000 in
set_option maxRecDepth 100000 in
theorem kX7_isThere (l : Launch) (G : va_G) (K : Nat → ClassId) (m_a mA_lane mA_many mA_item mA_poem mA_fresh mA_then mA_was mA_tape mA_strengths mA_sounds mA_stand mA_scheme mA_isKept mA_kept mA_trace : Nat) (m_thrown : Int32) (m_status : Int32) (m_acts : Int32) (m_taped : Int32) (m_cursor : Int32) (m_start : Int32) (m_token : Int32) (m_value : Int32) (m_fault : Int32) (m_faultAt : Int32) (m_latest : Int32) (m_stands : Int32) (m_least : Int32) (m_ways : Int32) (m_nearFoot : Int32) (m_nearFeet : Int32) (m_nearCost : Int32) (m_traced : Int32) (m_poem : Nat → Int32)  (sz : Nat) (r : Int32)  (hM : mX7_isThere m_poem = some r) : Met l yX7_isThere (mC yX7_isThere cX7_isThere 1 (some .boolean)) rmX7_isThere (va_Pc [.ref m_a] (PCe G K E0 [(m_a, .inr (7, [.int m_thrown, .int m_status, .ref mA_lane, .ref mA_many, .ref mA_item, .ref mA_poem, .ref mA_fresh, .ref mA_then, .ref mA_was, .int m_acts, .ref mA_tape, .int m_taped, .int m_cursor, .int m_start, .int m_token, .int m_value, .int m_fault, .int m_faultAt, .int m_latest, .ref mA_strengths, .ref mA_sounds, .ref mA_stand, .int m_stands, .int m_least, .int m_ways, .ref mA_scheme, .int m_nearFoot, .int m_nearFeet, .int m_nearCost, .ref mA_isKept, .ref mA_kept, .ref mA_trace, .int m_traced])), aI K mA_poem 207 m_poem] sz)) (va_Qi (fun (x : Int32) (_ : Unit) => x = r) (fun _ t => va_P G vwCl [(m_a, .inr (7, [.int m_thrown, .int m_status, .ref mA_lane, .ref mA_many, .ref mA_item, .ref mA_poem, .ref mA_fresh, .ref mA_then, .ref mA_was, .int m_acts, .ref mA_tape, .int m_taped, .int m_cursor, .int m_start, .int m_token, .int m_value, .int m_fault, .int m_faultAt, .int m_latest, .ref mA_strengths, .ref mA_sounds, .ref mA_stand, .int m_stands, .int m_least, .int m_ways, .ref mA_scheme, .int m_nearFoot, .int m_nearFeet, .int m_nearCost, .ref mA_isKept, .ref mA_kept, .ref mA_trace, .int m_traced])), aI K mA_poem 207 m_poem] t.heap) (va_A [(m_a, .inr (7, [.int m_thrown, .int m_status, .ref mA_lane, .ref mA_many, .ref mA_item, .ref mA_poem, .ref mA_fresh, .ref mA_then, .ref mA_was, .int m_acts, .ref mA_tape, .int m_taped, .int m_cursor, .int m_start, .int m_token, .int m_value, .int m_fault, .int m_faultAt, .int m_latest, .ref mA_strengths, .ref mA_sounds, .ref mA_stand, .int m_stands, .int m_least, .int m_ways, .ref mA_scheme, .int m_nearFoot, .int m_nearFeet, .int m_nearCost, .ref mA_isKept, .ref mA_kept, .ref mA_trace, .int m_traced])), aI K mA_poem 207 m_poem] sz)) rmX7_isThere.cells rmX7_isThere.slots (va_A [(m_a, .inr (7, [.int m_thrown, .int m_status, .ref mA_lane, .ref mA_many, .ref mA_item, .ref mA_poem, .ref mA_fresh, .ref mA_then, .ref mA_was, .int m_acts, .ref mA_tape, .int m_taped, .int m_cursor, .int m_start, .int m_token, .int m_value, .int m_fault, .int m_faultAt, .int m_latest, .ref mA_strengths, .ref mA_sounds, .ref mA_stand, .int m_stands, .int m_least, .int m_ways, .ref mA_scheme, .int m_nearFoot, .int m_nearFeet, .int m_nearCost, .ref mA_isKept, .ref mA_kept, .ref mA_trace, .int m_traced])), aI K mA_poem 207 m_poem] sz) := by
  refine Met.ofW (cc := cX7_isThere) (maxL := 1) (ret := (some .boolean)) (by decide) rfl ?_
  intro p e s m args below meth c s₁ B hml hv
  obtain ⟨rfl, hsz, hP, hK, hD0, hE⟩ := hv
  have hx := B.exec
  have hb := B.bytes
  have hr := B.returns
  have hts0 := atoms_spec (ws := mC yX7_isThere cX7_isThere 1 (some .boolean)) B.pre
  have hts : ∀ w ∈ tbG, w.before _ s = true := fun w h => hts0 w (List.mem_cons_of_mem _ h)
  have hown : s.vm.findClass RX7 = some m.cls := findClass_of_methodNamed B.named
  subst hsz
  have hD := hD0.self (sz := s.heap.size)
  generalize hAe : va_A [(m_a, .inr (7, [.int m_thrown, .int m_status, .ref mA_lane, .ref mA_many, .ref mA_item, .ref mA_poem, .ref mA_fresh, .ref mA_then, .ref mA_was, .int m_acts, .ref mA_tape, .int m_taped, .int m_cursor, .int m_start, .int m_token, .int m_value, .int m_fault, .int m_faultAt, .int m_latest, .ref mA_strengths, .ref mA_sounds, .ref mA_stand, .int m_stands, .int m_least, .int m_ways, .ref mA_scheme, .int m_nearFoot, .int m_nearFeet, .int m_nearCost, .ref mA_isKept, .ref mA_kept, .ref mA_trace, .int m_traced])), aI K mA_poem 207 m_poem] s.heap.size = A at hD hE ⊢
  have hA : ∀ q : Nat, s.heap.size ≤ q → A q := fun q h => by rw [← hAe]; exact Or.inr h
  have hS : va_S A s.heap s.heap [] := va_S.rf
  have hl := lv_entry ([.ref m_a]) (n := 1) (Nat.le_of_ble_eq_true rfl)
  rw [lg_entry_eq]
  generalize (lg_sl ([.ref m_a]) ++ List.replicate (1 - (lg_sl ([.ref m_a])).length) Slot.unset).toArray = ls at hl ⊢
  have hl : lv_has ls 1 [(0, .ref m_a)] := hl
  exact wX7_isThere_b0 ⟨hx, hb, hml, hown, hts, hK, hA, E0_ok, hE⟩ m_a mA_lane mA_many mA_item mA_poem mA_fresh mA_then mA_was mA_tape mA_strengths mA_sounds mA_stand mA_scheme mA_isKept mA_kept mA_trace m_thrown m_status m_acts m_taped m_cursor m_start m_token m_value m_fault m_faultAt m_latest m_stands m_least m_ways m_nearFoot m_nearFeet m_nearCost m_traced m_poem r (fun H locs ls pc hdg hz hP hD hS => W.zret (v := r) (ty := .boolean) hx hb hr (nar_b hz) (fun t ht hW => ⟨⟨r, (), rfl, rfl, by rw [ht]; exact hP⟩, hS.F ht⟩) hS.2.2 hdg)   hM _ _ _ hP hD hS hl
def rmX7_isLine : Room := { frames := 1, cells := 0, slots := 0, locals := 25 }
theorem hdX7_isLine : yX7_isLine.cls = RX7 ∧ yX7_isLine.cls ≠ "java/lang/invoke/MethodHandle" ∧ yX7_isLine.cls ≠ "java/lang/invoke/VarHandle" ∧ (parseMethodDescriptor yX7_isLine.desc).map (fun d => d.parameters.length) = some 1 := by decide +kernel
set_option maxHeartbeats 4000000 in
set_option maxRecDepth 100000 in
theorem wX7_isLine_b0 {p : Program} {l : Launch} {e : Env} {s : State} {m : MethodId} {args : Array Value} {below : List Frame} {meth : Method} {c : Code} {Q : State → Prop} {G : va_G} {K : Nat → ClassId} {A : Nat → Prop} (C0 : CX p s m args c cX7_isLine 2 RX7 G K E0 A) (m_a mA_lane mA_many mA_item mA_poem mA_fresh mA_then mA_was mA_tape mA_strengths mA_sounds mA_stand mA_scheme mA_isKept mA_kept mA_trace : Nat) (m_thrown : Int32) (m_status : Int32) (m_acts : Int32) (m_taped : Int32) (m_cursor : Int32) (m_start : Int32) (m_token : Int32) (m_value : Int32) (m_fault : Int32) (m_faultAt : Int32) (m_latest : Int32) (m_stands : Int32) (m_least : Int32) (m_ways : Int32) (m_nearFoot : Int32) (m_nearFeet : Int32) (m_nearCost : Int32) (m_traced : Int32) (m_poem : Nat → Int32) (p1 : Int32) (r : Int32)  (kr : ∀ (H : Heap) (locs : List Loc) (ls : Array Slot) (pc : Nat), decode cX7_isLine pc = .ok (.ireturn, 1) → (r = 0 ∨ r = 1) → va_P G vwCl [(m_a, .inr (7, [.int m_thrown, .int m_status, .ref mA_lane, .ref mA_many, .ref mA_item, .ref mA_poem, .ref mA_fresh, .ref mA_then, .ref mA_was, .int m_acts, .ref mA_tape, .int m_taped, .int m_cursor, .int m_start, .int m_token, .int m_value, .int m_fault, .int m_faultAt, .int m_latest, .ref mA_strengths, .ref mA_sounds, .ref mA_stand, .int m_stands, .int m_least, .int m_ways, .ref mA_scheme, .int m_nearFoot, .int m_nearFeet, .int m_nearCost, .ref mA_isKept, .ref mA_kept, .ref mA_trace, .int m_traced])), aI K mA_poem 207 m_poem] H → va_D A [(m_a, .inr (7, [.int m_thrown, .int m_status, .ref mA_lane, .ref mA_many, .ref mA_item, .ref mA_poem, .ref mA_fresh, .ref mA_then, .ref mA_was, .int m_acts, .ref mA_tape, .int m_taped, .int m_cursor, .int m_start, .int m_token, .int m_value, .int m_fault, .int m_faultAt, .int m_latest, .ref mA_strengths, .ref mA_sounds, .ref mA_stand, .int m_stands, .int m_least, .int m_ways, .ref mA_scheme, .int m_nearFoot, .int m_nearFeet, .int m_nearCost, .ref mA_isKept, .ref mA_kept, .ref mA_trace, .int m_traced])), aI K mA_poem 207 m_poem] → va_S A s.heap H locs → W p l e rmX7_isLine s m args below meth c H locs 0 0 Q (F0 m pc ls [.int r]))  (hM : mX7_isLine_b0 m_poem p1   = some r) : ∀ (H : Heap) (locs : List Loc) (ls : Array Slot), va_P G vwCl [(m_a, .inr (7, [.int m_thrown, .int m_status, .ref mA_lane, .ref mA_many, .ref mA_item, .ref mA_poem, .ref mA_fresh, .ref mA_then, .ref mA_was, .int m_acts, .ref mA_tape, .int m_taped, .int m_cursor, .int m_start, .int m_token, .int m_value, .int m_fault, .int m_faultAt, .int m_latest, .ref mA_strengths, .ref mA_sounds, .ref mA_stand, .int m_stands, .int m_least, .int m_ways, .ref mA_scheme, .int m_nearFoot, .int m_nearFeet, .int m_nearCost, .ref mA_isKept, .ref mA_kept, .ref mA_trace, .int m_traced])), aI K mA_poem 207 m_poem] H → va_D A [(m_a, .inr (7, [.int m_thrown, .int m_status, .ref mA_lane, .ref mA_many, .ref mA_item, .ref mA_poem, .ref mA_fresh, .ref mA_then, .ref mA_was, .int m_acts, .ref mA_tape, .int m_taped, .int m_cursor, .int m_start, .int m_token, .int m_value, .int m_fault, .int m_faultAt, .int m_latest, .ref mA_strengths, .ref mA_sounds, .ref mA_stand, .int m_stands, .int m_least, .int m_ways, .ref mA_scheme, .int m_nearFoot, .int m_nearFeet, .int m_nearCost, .ref mA_isKept, .ref mA_kept, .ref mA_trace, .int m_traced])), aI K mA_poem 207 m_poem] → va_S A s.heap H locs → lv_has ls 2 [(0, .ref m_a), (1, .int p1)] → W p l e rmX7_isLine s m args below meth c H locs 0 0 Q (F0 m 0 ls []) := by
  obtain ⟨hx, hb, hml, hown, hts, hK, hA, hEo, hE⟩ := id C0
  intro H locs ls hP hD hS hl
  unfold mX7_isLine_b0 at hM
  refine lv_iload_n hx hb dX7_isLine_0 rfl (lv_at hl 1 rfl) ?_
  refine lv_i2l hx hb dX7_isLine_1 rfl ?_
  refine lv_lconst (v := 0) hx hb dX7_isLine_2 (by decide) ?_
  refine lv_aload_n hx hb dX7_isLine_3 rfl (lv_at hl 0 rfl) ?_
  refine va_get (D := G) (ci := 7) (v := .ref mA_poem) (C := RX7) (T := TX7) (N := 33) hx hb hts inX7 hown hK hP 0 rfl rfl 5 (by decide) (hts _ tb773) (fun _ h9 => h9) rfl dX7_isLine_4 ?_
  refine lv_iconst (v := 0) hx hb dX7_isLine_7 (by decide) ?_
  refine va_iald hx hb hK hP 1 0 rfl rfl (show ¬ ((0 : Int32) < 0 ∨ 207 ≤ ((0 : Int32)).toNatClampNeg) by decide) dX7_isLine_8 ?_
  refine lv_iconst (v := 1) hx hb dX7_isLine_9 (by decide) ?_
  refine lv_isub hx hb dX7_isLine_10 ?_
  refine lv_i2l hx hb dX7_isLine_11 rfl ?_
  obtain ⟨r_1, hC, hM⟩ := oe1 hM
  refine cS_i (As := [.long p1.toInt64, .long (0 : Int64), .long (((m_poem (0 : Int32).toNatClampNeg) - (1 : Int32)).toInt64)]) (rest := []) C0 hP hD hS [] (kX7_in l G K p1.toInt64 (0 : Int64) (((m_poem (0 : Int32).toNatClampNeg) - (1 : Int32)).toInt64) H.size r_1 hC) rfl rfl rfl tb877 tb878 tb9 tb879 hdX7_in ⟨Nat.le_of_ble_eq_true rfl, Nat.le_of_ble_eq_true rfl⟩ rfl hl.1 (Nat.le_of_ble_eq_true rfl) rfl ⟨Nat.le_refl _, Nat.le_refl _⟩ dX7_isLine_12 (fun H locs hP hD hS => ?_)
  have hP : va_P G vwCl [(m_a, .inr (7, [.int m_thrown, .int m_status, .ref mA_lane, .ref mA_many, .ref mA_item, .ref mA_poem, .ref mA_fresh, .ref mA_then, .ref mA_was, .int m_acts, .ref mA_tape, .int m_taped, .int m_cursor, .int m_start, .int m_token, .int m_value, .int m_fault, .int m_faultAt, .int m_latest, .ref mA_strengths, .ref mA_sounds, .ref mA_stand, .int m_stands, .int m_least, .int m_ways, .ref mA_scheme, .int m_nearFoot, .int m_nearFeet, .int m_nearCost, .ref mA_isKept, .ref mA_kept, .ref mA_trace, .int m_traced])), aI K mA_poem 207 m_poem] H := hP
  have hD : va_D A [(m_a, .inr (7, [.int m_thrown, .int m_status, .ref mA_lane, .ref mA_many, .ref mA_item, .ref mA_poem, .ref mA_fresh, .ref mA_then, .ref mA_was, .int m_acts, .ref mA_tape, .int m_taped, .int m_cursor, .int m_start, .int m_token, .int m_value, .int m_fault, .int m_faultAt, .int m_latest, .ref mA_strengths, .ref mA_sounds, .ref mA_stand, .int m_stands, .int m_least, .int m_ways, .ref mA_scheme, .int m_nearFoot, .int m_nearFeet, .int m_nearCost, .ref mA_isKept, .ref mA_kept, .ref mA_trace, .int m_traced])), aI K mA_poem 207 m_poem] := hD
  obtain ⟨g_2, hM⟩ := ng hM
  cases hM
  exact kr _ _ _ _ dX7_isLine_15 (Decidable.not_not.mp g_2) hP hD hS
set_option maxHeartbeats 4000000 in
set_option maxRecDepth 100000 in
theorem kX7_isLine (l : Launch) (G : va_G) (K : Nat → ClassId) (m_a mA_lane mA_many mA_item mA_poem mA_fresh mA_then mA_was mA_tape mA_strengths mA_sounds mA_stand mA_scheme mA_isKept mA_kept mA_trace : Nat) (m_thrown : Int32) (m_status : Int32) (m_acts : Int32) (m_taped : Int32) (m_cursor : Int32) (m_start : Int32) (m_token : Int32) (m_value : Int32) (m_fault : Int32) (m_faultAt : Int32) (m_latest : Int32) (m_stands : Int32) (m_least : Int32) (m_ways : Int32) (m_nearFoot : Int32) (m_nearFeet : Int32) (m_nearCost : Int32) (m_traced : Int32) (m_poem : Nat → Int32) (p1 : Int32) (sz : Nat) (r : Int32)  (hM : mX7_isLine m_poem p1 = some r) : Met l yX7_isLine (mC yX7_isLine cX7_isLine 2 (some .boolean)) rmX7_isLine (va_Pc [.ref m_a, .int p1] (PCe G K E0 [(m_a, .inr (7, [.int m_thrown, .int m_status, .ref mA_lane, .ref mA_many, .ref mA_item, .ref mA_poem, .ref mA_fresh, .ref mA_then, .ref mA_was, .int m_acts, .ref mA_tape, .int m_taped, .int m_cursor, .int m_start, .int m_token, .int m_value, .int m_fault, .int m_faultAt, .int m_latest, .ref mA_strengths, .ref mA_sounds, .ref mA_stand, .int m_stands, .int m_least, .int m_ways, .ref mA_scheme, .int m_nearFoot, .int m_nearFeet, .int m_nearCost, .ref mA_isKept, .ref mA_kept, .ref mA_trace, .int m_traced])), aI K mA_poem 207 m_poem] sz)) (va_Qi (fun (x : Int32) (_ : Unit) => x = r) (fun _ t => va_P G vwCl [(m_a, .inr (7, [.int m_thrown, .int m_status, .ref mA_lane, .ref mA_many, .ref mA_item, .ref mA_poem, .ref mA_fresh, .ref mA_then, .ref mA_was, .int m_acts, .ref mA_tape, .int m_taped, .int m_cursor, .int m_start, .int m_token, .int m_value, .int m_fault, .int m_faultAt, .int m_latest, .ref mA_strengths, .ref mA_sounds, .ref mA_stand, .int m_stands, .int m_least, .int m_ways, .ref mA_scheme, .int m_nearFoot, .int m_nearFeet, .int m_nearCost, .ref mA_isKept, .ref mA_kept, .ref mA_trace, .int m_traced])), aI K mA_poem 207 m_poem] t.heap) (va_A [(m_a, .inr (7, [.int m_thrown, .int m_status, .ref mA_lane, .ref mA_many, .ref mA_item, .ref mA_poem, .ref mA_fresh, .ref mA_then, .ref mA_was, .int m_acts, .ref mA_tape, .int m_taped, .int m_cursor, .int m_start, .int m_token, .int m_value, .int m_fault, .int m_faultAt, .int m_latest, .ref mA_strengths, .ref mA_sounds, .ref mA_stand, .int m_stands, .int m_least, .int m_ways, .ref mA_scheme, .int m_nearFoot, .int m_nearFeet, .int m_nearCost, .ref mA_isKept, .ref mA_kept, .ref mA_trace, .int m_traced])), aI K mA_poem 207 m_poem] sz)) rmX7_isLine.cells rmX7_isLine.slots (va_A [(m_a, .inr (7, [.int m_thrown, .int m_status, .ref mA_lane, .ref mA_many, .ref mA_item, .ref mA_poem, .ref mA_fresh, .ref mA_then, .ref mA_was, .int m_acts, .ref mA_tape, .int m_taped, .int m_cursor, .int m_start, .int m_token, .int m_value, .int m_fault, .int m_faultAt, .int m_latest, .ref mA_strengths, .ref mA_sounds, .ref mA_stand, .int m_stands, .int m_least, .int m_ways, .ref mA_scheme, .int m_nearFoot, .int m_nearFeet, .int m_nearCost, .ref mA_isKept, .ref mA_kept, .ref mA_trace, .int m_traced])), aI K mA_poem 207 m_poem] sz) := by
  refine Met.ofW (cc := cX7_isLine) (maxL := 2) (ret := (some .boolean)) (by decide) rfl ?_
  intro p e s m args below meth c s₁ B hml hv
  obtain ⟨rfl, hsz, hP, hK, hD0, hE⟩ := hv
  have hx := B.exec
  have hb := B.bytes
  have hr := B.returns
  have hts0 := atoms_spec (ws := mC yX7_isLine cX7_isLine 2 (some .boolean)) B.pre
  have hts : ∀ w ∈ tbG, w.before _ s = true := fun w h => hts0 w (List.mem_cons_of_mem _ h)
  have hown : s.vm.findClass RX7 = some m.cls := findClass_of_methodNamed B.named
  subst hsz
  have hD := hD0.self (sz := s.heap.size)
  generalize hAe : va_A [(m_a, .inr (7, [.int m_thrown, .int m_status, .ref mA_lane, .ref mA_many, .ref mA_item, .ref mA_poem, .ref mA_fresh, .ref mA_then, .ref mA_was, .int m_acts, .ref mA_tape, .int m_taped, .int m_cursor, .int m_start, .int m_token, .int m_value, .int m_fault, .int m_faultAt, .int m_latest, .ref mA_strengths, .ref mA_sounds, .ref mA_stand, .int m_stands, .int m_least, .int m_ways, .ref mA_scheme, .int m_nearFoot, .int m_nearFeet, .int m_nearCost, .ref mA_isKept, .ref mA_kept, .ref mA_trace, .int m_traced])), aI K mA_poem 207 m_poem] s.heap.size = A at hD hE ⊢
  have hA : ∀ q : Nat, s.heap.size ≤ q → A q := fun q h => by rw [← hAe]; exact Or.inr h
  have hS : va_S A s.heap s.heap [] := va_S.rf
  have hl := lv_entry ([.ref m_a, .int p1]) (n := 2) (Nat.le_of_ble_eq_true rfl)
  rw [lg_entry_eq]
  generalize (lg_sl ([.ref m_a, .int p1]) ++ List.replicate (2 - (lg_sl ([.ref m_a, .int p1])).length) Slot.unset).toArray = ls at hl ⊢
  have hl : lv_has ls 2 [(0, .ref m_a), (1, .int p1)] := hl
  exact wX7_isLine_b0 ⟨hx, hb, hml, hown, hts, hK, hA, E0_ok, hE⟩ m_a mA_lane mA_many mA_item mA_poem mA_fresh mA_then mA_was mA_tape mA_strengths mA_sounds mA_stand mA_scheme mA_isKept mA_kept mA_trace m_thrown m_status m_acts m_taped m_cursor m_start m_token m_value m_fault m_faultAt m_latest m_stands m_least m_ways m_nearFoot m_nearFeet m_nearCost m_traced m_poem p1 r (fun H locs ls pc hdg hz hP hD hS => W.zret (v := r) (ty := .boolean) hx hb hr (nar_b hz) (fun t ht hW => ⟨⟨r, (), rfl, rfl, by rw [ht]; exact hP⟩, hS.F ht⟩) hS.2.2 hdg)   hM _ _ _ hP hD hS hl
def rmX7_isWord : Room := { frames := 1, cells := 0, slots := 0, locals := 25 }
theorem hdX7_isWord : yX7_isWord.cls = RX7 ∧ yX7_isWord.cls ≠ "java/lang/invoke/MethodHandle" ∧ yX7_isWord.cls ≠ "java/lang/invoke/VarHandle" ∧ (parseMethodDescriptor yX7_isWord.desc).map (fun d => d.parameters.length) = some 1 := by decide +kernel
set_option maxHeartbeats 4000000 in
set_option maxRecDepth 100000 in
theorem wX7_isWord_b0 {p : Program} {l : Launch} {e : Env} {s : State} {m : MethodId} {args : Array Value} {below : List Frame} {meth : Method} {c : Code} {Q : State → Prop} {G : va_G} {K : Nat → ClassId} {A : Nat → Prop} (C0 : CX p s m args c cX7_isWord 2 RX7 G K E0 A) (m_a mA_lane mA_many mA_item mA_poem mA_fresh mA_then mA_was mA_tape mA_strengths mA_sounds mA_stand mA_scheme mA_isKept mA_kept mA_trace : Nat) (m_thrown : Int32) (m_status : Int32) (m_acts : Int32) (m_taped : Int32) (m_cursor : Int32) (m_start : Int32) (m_token : Int32) (m_value : Int32) (m_fault : Int32) (m_faultAt : Int32) (m_latest : Int32) (m_stands : Int32) (m_least : Int32) (m_ways : Int32) (m_nearFoot : Int32) (m_nearFeet : Int32) (m_nearCost : Int32) (m_traced : Int32) (m_poem : Nat → Int32) (p1 : Int32) (r : Int32)  (kr : ∀ (H : Heap) (locs : List Loc) (ls : Array Slot) (pc : Nat), decode cX7_isWord pc = .ok (.ireturn, 1) → (r = 0 ∨ r = 1) → va_P G vwCl [(m_a, .inr (7, [.int m_thrown, .int m_status, .ref mA_lane, .ref mA_many, .ref mA_item, .ref mA_poem, .ref mA_fresh, .ref mA_then, .ref mA_was, .int m_acts, .ref mA_tape, .int m_taped, .int m_cursor, .int m_start, .int m_token, .int m_value, .int m_fault, .int m_faultAt, .int m_latest, .ref mA_strengths, .ref mA_sounds, .ref mA_stand, .int m_stands, .int m_least, .int m_ways, .ref mA_scheme, .int m_nearFoot, .int m_nearFeet, .int m_nearCost, .ref mA_isKept, .ref mA_kept, .ref mA_trace, .int m_traced])), aI K mA_poem 207 m_poem] H → va_D A [(m_a, .inr (7, [.int m_thrown, .int m_status, .ref mA_lane, .ref mA_many, .ref mA_item, .ref mA_poem, .ref mA_fresh, .ref mA_then, .ref mA_was, .int m_acts, .ref mA_tape, .int m_taped, .int m_cursor, .int m_start, .int m_token, .int m_value, .int m_fault, .int m_faultAt, .int m_latest, .ref mA_strengths, .ref mA_sounds, .ref mA_stand, .int m_stands, .int m_least, .int m_ways, .ref mA_scheme, .int m_nearFoot, .int m_nearFeet, .int m_nearCost, .ref mA_isKept, .ref mA_kept, .ref mA_trace, .int m_traced])), aI K mA_poem 207 m_poem] → va_S A s.heap H locs → W p l e rmX7_isWord s m args below meth c H locs 0 0 Q (F0 m pc ls [.int r]))  (hM : mX7_isWord_b0 m_poem p1   = some r) : ∀ (H : Heap) (locs : List Loc) (ls : Array Slot), va_P G vwCl [(m_a, .inr (7, [.int m_thrown, .int m_status, .ref mA_lane, .ref mA_many, .ref mA_item, .ref mA_poem, .ref mA_fresh, .ref mA_then, .ref mA_was, .int m_acts, .ref mA_tape, .int m_taped, .int m_cursor, .int m_start, .int m_token, .int m_value, .int m_fault, .int m_faultAt, .int m_latest, .ref mA_strengths, .ref mA_sounds, .ref mA_stand, .int m_stands, .int m_least, .int m_ways, .ref mA_scheme, .int m_nearFoot, .int m_nearFeet, .int m_nearCost, .ref mA_isKept, .ref mA_kept, .ref mA_trace, .int m_traced])), aI K mA_poem 207 m_poem] H → va_D A [(m_a, .inr (7, [.int m_thrown, .int m_status, .ref mA_lane, .ref mA_many, .ref mA_item, .ref mA_poem, .ref mA_fresh, .ref mA_then, .ref mA_was, .int m_acts, .ref mA_tape, .int m_taped, .int m_cursor, .int m_start, .int m_token, .int m_value, .int m_fault, .int m_faultAt, .int m_latest, .ref mA_strengths, .ref mA_sounds, .ref mA_stand, .int m_stands, .int m_least, .int m_ways, .ref mA_scheme, .int m_nearFoot, .int m_nearFeet, .int m_nearCost, .ref mA_isKept, .ref mA_kept, .ref mA_trace, .int m_traced])), aI K mA_poem 207 m_poem] → va_S A s.heap H locs → lv_has ls 2 [(0, .ref m_a), (1, .int p1)] → W p l e rmX7_isWord s m args below meth c H locs 0 0 Q (F0 m 0 ls []) := by
  obtain ⟨hx, hb, hml, hown, hts, hK, hA, hEo, hE⟩ := id C0
  intro H locs ls hP hD hS hl
  unfold mX7_isWord_b0 at hM
  refine lv_iload_n hx hb dX7_isWord_0 rfl (lv_at hl 1 rfl) ?_
  refine lv_i2l hx hb dX7_isWord_1 rfl ?_
  refine lv_lconst (v := 0) hx hb dX7_isWord_2 (by decide) ?_
  refine lv_aload_n hx hb dX7_isWord_3 rfl (lv_at hl 0 rfl) ?_
  refine va_get (D := G) (ci := 7) (v := .ref mA_poem) (C := RX7) (T := TX7) (N := 33) hx hb hts inX7 hown hK hP 0 rfl rfl 5 (by decide) (hts _ tb773) (fun _ h9 => h9) rfl dX7_isWord_4 ?_
  obtain ⟨r_1, hC, hM⟩ := oe1 hM
  refine cS_i (As := [.ref mA_poem]) (rest := [.long (0 : Int64), .long p1.toInt64]) C0 hP hD hS [1] (kX7_wordsOf l G K mA_poem m_poem H.size r_1 hC) rfl rfl rfl tb955 tb956 tb9 tb957 hdX7_wordsOf ⟨Nat.le_of_ble_eq_true rfl, Nat.le_of_ble_eq_true rfl⟩ rfl hl.1 (Nat.le_of_ble_eq_true rfl) rfl ⟨Nat.le_refl _, Nat.le_refl _⟩ dX7_isWord_7 (fun H locs hP hD hS => ?_)
  have hP : va_P G vwCl [(m_a, .inr (7, [.int m_thrown, .int m_status, .ref mA_lane, .ref mA_many, .ref mA_item, .ref mA_poem, .ref mA_fresh, .ref mA_then, .ref mA_was, .int m_acts, .ref mA_tape, .int m_taped, .int m_cursor, .int m_start, .int m_token, .int m_value, .int m_fault, .int m_faultAt, .int m_latest, .ref mA_strengths, .ref mA_sounds, .ref mA_stand, .int m_stands, .int m_least, .int m_ways, .ref mA_scheme, .int m_nearFoot, .int m_nearFeet, .int m_nearCost, .ref mA_isKept, .ref mA_kept, .ref mA_trace, .int m_traced])), aI K mA_poem 207 m_poem] H := hP
  have hD : va_D A [(m_a, .inr (7, [.int m_thrown, .int m_status, .ref mA_lane, .ref mA_many, .ref mA_item, .ref mA_poem, .ref mA_fresh, .ref mA_then, .ref mA_was, .int m_acts, .ref mA_tape, .int m_taped, .int m_cursor, .int m_start, .int m_token, .int m_value, .int m_fault, .int m_faultAt, .int m_latest, .ref mA_strengths, .ref mA_sounds, .ref mA_stand, .int m_stands, .int m_least, .int m_ways, .ref mA_scheme, .int m_nearFoot, .int m_nearFeet, .int m_nearCost, .ref mA_isKept, .ref mA_kept, .ref mA_trace, .int m_traced])), aI K mA_poem 207 m_poem] := hD
  refine lv_iconst (v := 1) hx hb dX7_isWord_10 (by decide) ?_
  refine lv_isub hx hb dX7_isWord_11 ?_
  refine lv_i2l hx hb dX7_isWord_12 rfl ?_
  obtain ⟨r_2, hC, hM⟩ := oe1 hM
  refine cS_i (As := [.long p1.toInt64, .long (0 : Int64), .long ((r_1 - (1 : Int32)).toInt64)]) (rest := []) C0 hP hD hS [] (kX7_in l G K p1.toInt64 (0 : Int64) ((r_1 - (1 : Int32)).toInt64) H.size r_2 hC) rfl rfl rfl tb877 tb878 tb9 tb879 hdX7_in ⟨Nat.le_of_ble_eq_true rfl, Nat.le_of_ble_eq_true rfl⟩ rfl hl.1 (Nat.le_of_ble_eq_true rfl) rfl ⟨Nat.le_refl _, Nat.le_refl _⟩ dX7_isWord_13 (fun H locs hP hD hS => ?_)
  have hP : va_P G vwCl [(m_a, .inr (7, [.int m_thrown, .int m_status, .ref mA_lane, .ref mA_many, .ref mA_item, .ref mA_poem, .ref mA_fresh, .ref mA_then, .ref mA_was, .int m_acts, .ref mA_tape, .int m_taped, .int m_cursor, .int m_start, .int m_token, .int m_value, .int m_fault, .int m_faultAt, .int m_latest, .ref mA_strengths, .ref mA_sounds, .ref mA_stand, .int m_stands, .int m_least, .int m_ways, .ref mA_scheme, .int m_nearFoot, .int m_nearFeet, .int m_nearCost, .ref mA_isKept, .ref mA_kept, .ref mA_trace, .int m_traced])), aI K mA_poem 207 m_poem] H := hP
  have hD : va_D A [(m_a, .inr (7, [.int m_thrown, .int m_status, .ref mA_lane, .ref mA_many, .ref mA_item, .ref mA_poem, .ref mA_fresh, .ref mA_then, .ref mA_was, .int m_acts, .ref mA_tape, .int m_taped, .int m_cursor, .int m_start, .int m_token, .int m_value, .int m_fault, .int m_faultAt, .int m_latest, .ref mA_strengths, .ref mA_sounds, .ref mA_stand, .int m_stands, .int m_least, .int m_ways, .ref mA_scheme, .int m_nearFoot, .int m_nearFeet, .int m_nearCost, .ref mA_isKept, .ref mA_kept, .ref mA_trace, .int m_traced])), aI K mA_poem 207 m_poem] := hD
  obtain ⟨g_3, hM⟩ := ng hM
  cases hM
  exact kr _ _ _ _ dX7_isWord_16 (Decidable.not_not.mp g_3) hP hD hS
set_option maxHeartbeats 4000000 in
set_option maxRecDepth 100000 in
theorem kX7_isWord (l : Launch) (G : va_G) (K : Nat → ClassId) (m_a mA_lane mA_many mA_item mA_poem mA_fresh mA_then mA_was mA_tape mA_strengths mA_sounds mA_stand mA_scheme mA_isKept mA_kept mA_trace : Nat) (m_thrown : Int32) (m_status : Int32) (m_acts : Int32) (m_taped : Int32) (m_cursor : Int32) (m_start : Int32) (m_token : Int32) (m_value : Int32) (m_fault : Int32) (m_faultAt : Int32) (m_latest : Int32) (m_stands : Int32) (m_least : Int32) (m_ways : Int32) (m_nearFoot : Int32) (m_nearFeet : Int32) (m_nearCost : Int32) (m_traced : Int32) (m_poem : Nat → Int32) (p1 : Int32) (sz : Nat) (r : Int32)  (hM : mX7_isWord m_poem p1 = some r) : Met l yX7_isWord (mC yX7_isWord cX7_isWord 2 (some .boolean)) rmX7_isWord (va_Pc [.ref m_a, .int p1] (PCe G K E0 [(m_a, .inr (7, [.int m_thrown, .int m_status, .ref mA_lane, .ref mA_many, .ref mA_item, .ref mA_poem, .ref mA_fresh, .ref mA_then, .ref mA_was, .int m_acts, .ref mA_tape, .int m_taped, .int m_cursor, .int m_start, .int m_token, .int m_value, .int m_fault, .int m_faultAt, .int m_latest, .ref mA_strengths, .ref mA_sounds, .ref mA_stand, .int m_stands, .int m_least, .int m_ways, .ref mA_scheme, .int m_nearFoot, .int m_nearFeet, .int m_nearCost, .ref mA_isKept, .ref mA_kept, .ref mA_trace, .int m_traced])), aI K mA_poem 207 m_poem] sz)) (va_Qi (fun (x : Int32) (_ : Unit) => x = r) (fun _ t => va_P G vwCl [(m_a, .inr (7, [.int m_thrown, .int m_status, .ref mA_lane, .ref mA_many, .ref mA_item, .ref mA_poem, .ref mA_fresh, .ref mA_then, .ref mA_was, .int m_acts, .ref mA_tape, .int m_taped, .int m_cursor, .int m_start, .int m_token, .int m_value, .int m_fault, .int m_faultAt, .int m_latest, .ref mA_strengths, .ref mA_sounds, .ref mA_stand, .int m_stands, .int m_least, .int m_ways, .ref mA_scheme, .int m_nearFoot, .int m_nearFeet, .int m_nearCost, .ref mA_isKept, .ref mA_kept, .ref mA_trace, .int m_traced])), aI K mA_poem 207 m_poem] t.heap) (va_A [(m_a, .inr (7, [.int m_thrown, .int m_status, .ref mA_lane, .ref mA_many, .ref mA_item, .ref mA_poem, .ref mA_fresh, .ref mA_then, .ref mA_was, .int m_acts, .ref mA_tape, .int m_taped, .int m_cursor, .int m_start, .int m_token, .int m_value, .int m_fault, .int m_faultAt, .int m_latest, .ref mA_strengths, .ref mA_sounds, .ref mA_stand, .int m_stands, .int m_least, .int m_ways, .ref mA_scheme, .int m_nearFoot, .int m_nearFeet, .int m_nearCost, .ref mA_isKept, .ref mA_kept, .ref mA_trace, .int m_traced])), aI K mA_poem 207 m_poem] sz)) rmX7_isWord.cells rmX7_isWord.slots (va_A [(m_a, .inr (7, [.int m_thrown, .int m_status, .ref mA_lane, .ref mA_many, .ref mA_item, .ref mA_poem, .ref mA_fresh, .ref mA_then, .ref mA_was, .int m_acts, .ref mA_tape, .int m_taped, .int m_cursor, .int m_start, .int m_token, .int m_value, .int m_fault, .int m_faultAt, .int m_latest, .ref mA_strengths, .ref mA_sounds, .ref mA_stand, .int m_stands, .int m_least, .int m_ways, .ref mA_scheme, .int m_nearFoot, .int m_nearFeet, .int m_nearCost, .ref mA_isKept, .ref mA_kept, .ref mA_trace, .int m_traced])), aI K mA_poem 207 m_poem] sz) := by
  refine Met.ofW (cc := cX7_isWord) (maxL := 2) (ret := (some .boolean)) (by decide) rfl ?_
  intro p e s m args below meth c s₁ B hml hv
  obtain ⟨rfl, hsz, hP, hK, hD0, hE⟩ := hv
  have hx := B.exec
  have hb := B.bytes
  have hr := B.returns
  have hts0 := atoms_spec (ws := mC yX7_isWord cX7_isWord 2 (some .boolean)) B.pre
  have hts : ∀ w ∈ tbG, w.before _ s = true := fun w h => hts0 w (List.mem_cons_of_mem _ h)
  have hown : s.vm.findClass RX7 = some m.cls := findClass_of_methodNamed B.named
  subst hsz
  have hD := hD0.self (sz := s.heap.size)
  generalize hAe : va_A [(m_a, .inr (7, [.int m_thrown, .int m_status, .ref mA_lane, .ref mA_many, .ref mA_item, .ref mA_poem, .ref mA_fresh, .ref mA_then, .ref mA_was, .int m_acts, .ref mA_tape, .int m_taped, .int m_cursor, .int m_start, .int m_token, .int m_value, .int m_fault, .int m_faultAt, .int m_latest, .ref mA_strengths, .ref mA_sounds, .ref mA_stand, .int m_stands, .int m_least, .int m_ways, .ref mA_scheme, .int m_nearFoot, .int m_nearFeet, .int m_nearCost, .ref mA_isKept, .ref mA_kept, .ref mA_trace, .int m_traced])), aI K mA_poem 207 m_poem] s.heap.size = A at hD hE ⊢
  have hA : ∀ q : Nat, s.heap.size ≤ q → A q := fun q h => by rw [← hAe]; exact Or.inr h
  have hS : va_S A s.heap s.heap [] := va_S.rf
  have hl := lv_entry ([.ref m_a, .int p1]) (n := 2) (Nat.le_of_ble_eq_true rfl)
  rw [lg_entry_eq]
  generalize (lg_sl ([.ref m_a, .int p1]) ++ List.replicate (2 - (lg_sl ([.ref m_a, .int p1])).length) Slot.unset).toArray = ls at hl ⊢
  have hl : lv_has ls 2 [(0, .ref m_a), (1, .int p1)] := hl
  exact wX7_isWord_b0 ⟨hx, hb, hml, hown, hts, hK, hA, E0_ok, hE⟩ m_a mA_lane mA_many mA_item mA_poem mA_fresh mA_then mA_was mA_tape mA_strengths mA_sounds mA_stand mA_scheme mA_isKept mA_kept mA_trace m_thrown m_status m_acts m_taped m_cursor m_start m_token m_value m_fault m_faultAt m_latest m_stands m_least m_ways m_nearFoot m_nearFeet m_nearCost m_traced m_poem p1 r (fun H locs ls pc hdg hz hP hD hS => W.zret (v := r) (ty := .boolean) hx hb hr (nar_b hz) (fun t ht hW => ⟨⟨r, (), rfl, rfl, by rw [ht]; exact hP⟩, hS.F ht⟩) hS.2.2 hdg)   hM _ _ _ hP hD hS hl
def rmX7_isMetre : Room := { frames := 1, cells := 0, slots := 0, locals := 25 }
theorem hdX7_isMetre : yX7_isMetre.cls ≠ "java/lang/invoke/MethodHandle" ∧ yX7_isMetre.cls ≠ "java/lang/invoke/VarHandle" ∧ (parseMethodDescriptor yX7_isMetre.desc).map (fun d => d.parameters.length) = some 2 := by decide +kernel
set_option maxHeartbeats 4000000 in
set_option maxRecDepth 100000 in
theorem wX7_isMetre_b0 {p : Program} {l : Launch} {e : Env} {s : State} {m : MethodId} {args : Array Value} {below : List Frame} {meth : Method} {c : Code} {Q : State → Prop} {G : va_G} {K : Nat → ClassId} {A : Nat → Prop} (C0 : CX p s m args c cX7_isMetre 2 RX7 G K E0 A)  (p1 : Int32) (p2 : Int32) (r : Int32)  (kr : ∀ (H : Heap) (locs : List Loc) (ls : Array Slot) (pc : Nat), decode cX7_isMetre pc = .ok (.ireturn, 1) → (r = 0 ∨ r = 1) → va_P G vwCl [] H → va_D A [] → va_S A s.heap H locs → W p l e rmX7_isMetre s m args below meth c H locs 0 0 Q (F0 m pc ls [.int r]))  (hM : mX7_isMetre_b0 p1 p2   = some r) : ∀ (H : Heap) (locs : List Loc) (ls : Array Slot), va_P G vwCl [] H → va_D A [] → va_S A s.heap H locs → lv_has ls 2 [(0, .int p1), (1, .int p2)] → W p l e rmX7_isMetre s m args below meth c H locs 0 0 Q (F0 m 0 ls []) := by
  obtain ⟨hx, hb, hml, hown, hts, hK, hA, hEo, hE⟩ := id C0
  intro H locs ls hP hD hS hl
  unfold mX7_isMetre_b0 at hM
  refine lv_iload_n hx hb dX7_isMetre_0 rfl (lv_at hl 0 rfl) ?_
  refine lv_i2l hx hb dX7_isMetre_1 rfl ?_
  refine lv_lconst (v := 0) hx hb dX7_isMetre_2 (by decide) ?_
  refine lv_ldc2 (v := 3) hx hb hown (hts _ tb1025) dX7_isMetre_3 ?_
  obtain ⟨r_1, hC, hM⟩ := oe1 hM
  refine cS_i (As := [.long p1.toInt64, .long (0 : Int64), .long (3 : Int64)]) (rest := []) C0 hP hD hS [] (kX7_in l G K p1.toInt64 (0 : Int64) (3 : Int64) H.size r_1 hC) rfl rfl rfl tb877 tb878 tb9 tb879 hdX7_in ⟨Nat.le_of_ble_eq_true rfl, Nat.le_of_ble_eq_true rfl⟩ rfl hl.1 (Nat.le_of_ble_eq_true rfl) rfl ⟨Nat.le_refl _, Nat.le_refl _⟩ dX7_isMetre_6 (fun H locs hP hD hS => ?_)
  have hP : va_P G vwCl [] H := hP
  have hD : va_D A [] := hD
  refine lv_if_eq (tgt := 28) hx hb dX7_isMetre_9 (by decide) (fun c_2 => ?_) (fun c_2 => ?_)
  · rw [if_pos c_2] at hM
    refine lv_iconst (v := 0) hx hb dX7_isMetre_28 (by decide) ?_
    cases hM
    exact kr _ _ _ _ dX7_isMetre_29 (by decide) hP hD hS
  · rw [if_neg c_2] at hM
    refine lv_iload_n hx hb dX7_isMetre_12 rfl (lv_at hl 1 rfl) ?_
    refine lv_i2l hx hb dX7_isMetre_13 rfl ?_
    refine lv_lconst (v := 1) hx hb dX7_isMetre_14 (by decide) ?_
    refine lv_ldc2 (v := 5) hx hb hown (hts _ tb950) dX7_isMetre_15 ?_
    obtain ⟨r_3, hC, hM⟩ := oe1 hM
    refine cS_i (As := [.long p2.toInt64, .long (1 : Int64), .long (5 : Int64)]) (rest := []) C0 hP hD hS [] (kX7_in l G K p2.toInt64 (1 : Int64) (5 : Int64) H.size r_3 hC) rfl rfl rfl tb877 tb878 tb9 tb879 hdX7_in ⟨Nat.le_of_ble_eq_true rfl, Nat.le_of_ble_eq_true rfl⟩ rfl hl.1 (Nat.le_of_ble_eq_true rfl) rfl ⟨Nat.le_refl _, Nat.le_refl _⟩ dX7_isMetre_18 (fun H locs hP hD hS => ?_)
    have hP : va_P G vwCl [] H := hP
    have hD : va_D A [] := hD
    refine lv_if_eq (tgt := 28) hx hb dX7_isMetre_21 (by decide) (fun c_4 => ?_) (fun c_4 => ?_)
    · rw [if_pos c_4] at hM
      refine lv_iconst (v := 0) hx hb dX7_isMetre_28 (by decide) ?_
      cases hM
      exact kr _ _ _ _ dX7_isMetre_29 (by decide) hP hD hS
    · rw [if_neg c_4] at hM
      refine lv_iconst (v := 1) hx hb dX7_isMetre_24 (by decide) ?_
      refine lv_goto (tgt := 29) hx hb dX7_isMetre_25 (by decide) ?_
      cases hM
      exact kr _ _ _ _ dX7_isMetre_29 (by decide) hP hD hS
set_option maxHeartbeats 4000000 in
set_option maxRecDepth 100000 in
theorem kX7_isMetre (l : Launch) (G : va_G) (K : Nat → ClassId)  (p1 : Int32) (p2 : Int32) (sz : Nat) (r : Int32)  (hM : mX7_isMetre p1 p2 = some r) : Met l yX7_isMetre (mC yX7_isMetre cX7_isMetre 2 (some .boolean)) rmX7_isMetre (va_Pc [.int p1, .int p2] (PCe G K E0 [] sz)) (va_Qi (fun (x : Int32) (_ : Unit) => x = r) (fun _ t => va_P G vwCl [] t.heap) (va_A [] sz)) rmX7_isMetre.cells rmX7_isMetre.slots (va_A [] sz) := by
  refine Met.ofW (cc := cX7_isMetre) (maxL := 2) (ret := (some .boolean)) (by decide) rfl ?_
  intro p e s m args below meth c s₁ B hml hv
  obtain ⟨rfl, hsz, hP, hK, hD0, hE⟩ := hv
  have hx := B.exec
  have hb := B.bytes
  have hr := B.returns
  have hts0 := atoms_spec (ws := mC yX7_isMetre cX7_isMetre 2 (some .boolean)) B.pre
  have hts : ∀ w ∈ tbG, w.before _ s = true := fun w h => hts0 w (List.mem_cons_of_mem _ h)
  have hown : s.vm.findClass RX7 = some m.cls := findClass_of_methodNamed B.named
  subst hsz
  have hD := hD0.self (sz := s.heap.size)
  generalize hAe : va_A [] s.heap.size = A at hD hE ⊢
  have hA : ∀ q : Nat, s.heap.size ≤ q → A q := fun q h => by rw [← hAe]; exact Or.inr h
  have hS : va_S A s.heap s.heap [] := va_S.rf
  have hl := lv_entry ([.int p1, .int p2]) (n := 2) (Nat.le_of_ble_eq_true rfl)
  rw [lg_entry_eq]
  generalize (lg_sl ([.int p1, .int p2]) ++ List.replicate (2 - (lg_sl ([.int p1, .int p2])).length) Slot.unset).toArray = ls at hl ⊢
  have hl : lv_has ls 2 [(0, .int p1), (1, .int p2)] := hl
  exact wX7_isMetre_b0 ⟨hx, hb, hml, hown, hts, hK, hA, E0_ok, hE⟩ p1 p2 r (fun H locs ls pc hdg hz hP hD hS => W.zret (v := r) (ty := .boolean) hx hb hr (nar_b hz) (fun t ht hW => ⟨⟨r, (), rfl, rfl, by rw [ht]; exact hP⟩, hS.F ht⟩) hS.2.2 hdg)   hM _ _ _ hP hD hS hl
def rmX7_has : Room := { frames := 0, cells := 0, slots := 0, locals := 0 }
theorem hdX7_has : yX7_has.cls ≠ "java/lang/invoke/MethodHandle" ∧ yX7_has.cls ≠ "java/lang/invoke/VarHandle" ∧ (parseMethodDescriptor yX7_has.desc).map (fun d => d.parameters.length) = some 2 := by decide +kernel
set_option maxHeartbeats 4000000 in
set_option maxRecDepth 100000 in
theorem wX7_has_b0 {p : Program} {l : Launch} {e : Env} {s : State} {m : MethodId} {args : Array Value} {below : List Frame} {meth : Method} {c : Code} {Q : State → Prop} {G : va_G} {K : Nat → ClassId} {A : Nat → Prop} (C0 : CX p s m args c cX7_has 2 RX7 G K E0 A)  (p1 : Int32) (p2 : Int32) (r : Int32)  (kr : ∀ (H : Heap) (locs : List Loc) (ls : Array Slot) (pc : Nat), decode cX7_has pc = .ok (.ireturn, 1) → (r = 0 ∨ r = 1) → va_P G vwCl [] H → va_D A [] → va_S A s.heap H locs → W p l e rmX7_has s m args below meth c H locs 0 0 Q (F0 m pc ls [.int r]))  (hM : mX7_has_b0 p1 p2   = some r) : ∀ (H : Heap) (locs : List Loc) (ls : Array Slot), va_P G vwCl [] H → va_D A [] → va_S A s.heap H locs → lv_has ls 2 [(0, .int p1), (1, .int p2)] → W p l e rmX7_has s m args below meth c H locs 0 0 Q (F0 m 0 ls []) := by
  obtain ⟨hx, hb, hml, hown, hts, hK, hA, hEo, hE⟩ := id C0
  intro H locs ls hP hD hS hl
  unfold mX7_has_b0 at hM
  refine lv_iload_n hx hb dX7_has_0 rfl (lv_at hl 0 rfl) ?_
  refine lv_iload_n hx hb dX7_has_1 rfl (lv_at hl 1 rfl) ?_
  refine lv_ishr hx hb dX7_has_2 ?_
  refine lv_iconst (v := 1) hx hb dX7_has_3 (by decide) ?_
  refine lv_iand hx hb dX7_has_4 ?_
  refine lv_iconst (v := 1) hx hb dX7_has_5 (by decide) ?_
  refine lv_icmp_ne (tgt := 13) hx hb dX7_has_6 (by decide) (fun c_1 => ?_) (fun c_1 => ?_)
  · rw [if_pos c_1] at hM
    refine lv_iconst (v := 0) hx hb dX7_has_13 (by decide) ?_
    cases hM
    exact kr _ _ _ _ dX7_has_14 (by decide) hP hD hS
  · rw [if_neg c_1] at hM
    refine lv_iconst (v := 1) hx hb dX7_has_9 (by decide) ?_
    refine lv_goto (tgt := 14) hx hb dX7_has_10 (by decide) ?_
    cases hM
    exact kr _ _ _ _ dX7_has_14 (by decide) hP hD hS
set_option maxHeartbeats 4000000 in
set_option maxRecDepth 100000 in
theorem kX7_has (l : Launch) (G : va_G) (K : Nat → ClassId)  (p1 : Int32) (p2 : Int32) (sz : Nat) (r : Int32)  (hM : mX7_has p1 p2 = some r) : Met l yX7_has (mC yX7_has cX7_has 2 (some .boolean)) rmX7_has (va_Pc [.int p1, .int p2] (PCe G K E0 [] sz)) (va_Qi (fun (x : Int32) (_ : Unit) => x = r) (fun _ t => va_P G vwCl [] t.heap) (va_A [] sz)) rmX7_has.cells rmX7_has.slots (va_A [] sz) := by
  refine Met.ofW (cc := cX7_has) (maxL := 2) (ret := (some .boolean)) (by decide) rfl ?_
  intro p e s m args below meth c s₁ B hml hv
  obtain ⟨rfl, hsz, hP, hK, hD0, hE⟩ := hv
  have hx := B.exec
  have hb := B.bytes
  have hr := B.returns
  have hts0 := atoms_spec (ws := mC yX7_has cX7_has 2 (some .boolean)) B.pre
  have hts : ∀ w ∈ tbG, w.before _ s = true := fun w h => hts0 w (List.mem_cons_of_mem _ h)
  have hown : s.vm.findClass RX7 = some m.cls := findClass_of_methodNamed B.named
  subst hsz
  have hD := hD0.self (sz := s.heap.size)
  generalize hAe : va_A [] s.heap.size = A at hD hE ⊢
  have hA : ∀ q : Nat, s.heap.size ≤ q → A q := fun q h => by rw [← hAe]; exact Or.inr h
  have hS : va_S A s.heap s.heap [] := va_S.rf
  have hl := lv_entry ([.int p1, .int p2]) (n := 2) (Nat.le_of_ble_eq_true rfl)
  rw [lg_entry_eq]
  generalize (lg_sl ([.int p1, .int p2]) ++ List.replicate (2 - (lg_sl ([.int p1, .int p2])).length) Slot.unset).toArray = ls at hl ⊢
  have hl : lv_has ls 2 [(0, .int p1), (1, .int p2)] := hl
  exact wX7_has_b0 ⟨hx, hb, hml, hown, hts, hK, hA, E0_ok, hE⟩ p1 p2 r (fun H locs ls pc hdg hz hP hD hS => W.zret (v := r) (ty := .boolean) hx hb hr (nar_b hz) (fun t ht hW => ⟨⟨r, (), rfl, rfl, by rw [ht]; exact hP⟩, hS.F ht⟩) hS.2.2 hdg)   hM _ _ _ hP hD hS hl
def rmX7_firstOf : Room := { frames := 0, cells := 0, slots := 0, locals := 0 }
theorem hdX7_firstOf : yX7_firstOf.cls ≠ "java/lang/invoke/MethodHandle" ∧ yX7_firstOf.cls ≠ "java/lang/invoke/VarHandle" ∧ (parseMethodDescriptor yX7_firstOf.desc).map (fun d => d.parameters.length) = some 2 := by decide +kernel
set_option maxHeartbeats 4000000 in
set_option maxRecDepth 100000 in
theorem wX7_firstOf_b4 {p : Program} {l : Launch} {e : Env} {s : State} {m : MethodId} {args : Array Value} {below : List Frame} {meth : Method} {c : Code} {Q : State → Prop} {G : va_G} {K : Nat → ClassId} {A : Nat → Prop} (C0 : CX p s m args c cX7_firstOf 4 RX7 G K E0 A) (arA1 : Nat) (ar1 : Nat → Int32) (p2 : Int32) (r : Int32)  (kr : ∀ (H : Heap) (locs : List Loc) (ls : Array Slot) (pc : Nat), decode cX7_firstOf pc = .ok (.ireturn, 1) → va_P G vwCl [aI K arA1 207 ar1] H → va_D A [aI K arA1 207 ar1] → va_S A s.heap H locs → W p l e rmX7_firstOf s m args below meth c H locs 0 0 Q (F0 m pc ls [.int r])) (n : Nat) : ∀ (x2 : Int32) (x3 : Int32), mX7_firstOf_b4 ar1 p2  n x2 x3 = some r → ∀ (H : Heap) (locs : List Loc) (ls : Array Slot), va_P G vwCl [aI K arA1 207 ar1] H → va_D A [aI K arA1 207 ar1] → va_S A s.heap H locs → lv_has ls 4 [(0, .ref arA1), (1, .int p2), (2, .int x2), (3, .int x3)] → W p l e rmX7_firstOf s m args below meth c H locs 0 0 Q (F0 m 4 ls []) := by
  obtain ⟨hx, hb, hml, hown, hts, hK, hA, hEo, hE⟩ := id C0
  induction n with
  | zero =>
    intro x2 x3 hM
    cases hM
  | succ n ih =>
    intro x2 x3 hM H locs ls hP hD hS hl
    rw [mX7_firstOf_b4] at hM
    refine lv_iload_n hx hb dX7_firstOf_4 rfl (lv_at hl 3 rfl) ?_
    refine lv_iload_n hx hb dX7_firstOf_5 rfl (lv_at hl 1 rfl) ?_
    refine lv_icmp_ge (tgt := 23) hx hb dX7_firstOf_6 (by decide) (fun c_1 => ?_) (fun c_1 => ?_)
    · rw [if_pos c_1] at hM
      refine lv_iload_n hx hb dX7_firstOf_23 rfl (lv_at hl 2 rfl) ?_
      cases hM
      exact kr _ _ _ _ dX7_firstOf_24 hP hD hS
    · rw [if_neg c_1] at hM
      refine lv_iload_n hx hb dX7_firstOf_9 rfl (lv_at hl 2 rfl) ?_
      refine lv_aload_n hx hb dX7_firstOf_10 rfl (lv_at hl 0 rfl) ?_
      refine lv_iconst (v := 3) hx hb dX7_firstOf_11 (by decide) ?_
      refine lv_iload_n hx hb dX7_firstOf_12 rfl (lv_at hl 3 rfl) ?_
      refine lv_iadd hx hb dX7_firstOf_13 ?_
      obtain ⟨g_2, hM⟩ := ng hM
      refine va_iald hx hb hK hP 0 0 rfl rfl g_2 dX7_firstOf_14 ?_
      refine lv_iadd hx hb dX7_firstOf_15 ?_
      refine lv_istore_n (lv' := [(2, .int (x2 + (ar1 ((3 : Int32) + x3).toNatClampNeg))), (0, .ref arA1), (1, .int p2), (3, .int x3)]) hx hb dX7_firstOf_16 rfl hl (by decide) rfl (fun ls hl => ?_)
      refine lv_iinc (v := (x3 + 1)) (lv' := [(3, .int (x3 + 1)), (2, .int (x2 + (ar1 ((3 : Int32) + x3).toNatClampNeg))), (0, .ref arA1), (1, .int p2)]) hx hb dX7_firstOf_17 hl (k := 3) rfl rfl (by decide) rfl (fun ls hl => ?_)
      refine lv_goto (tgt := 4) hx hb dX7_firstOf_20 (by decide) ?_
      exact ih (x2 + (ar1 ((3 : Int32) + x3).toNatClampNeg)) (x3 + 1) hM _ _ _ hP hD hS (lv_sub hl [2, 3, 1, 0] rfl)
set_option maxHeartbeats 4000000 in
set_option maxRecDepth 100000 in
theorem wX7_firstOf_b0 {p : Program} {l : Launch} {e : Env} {s : State} {m : MethodId} {args : Array Value} {below : List Frame} {meth : Method} {c : Code} {Q : State → Prop} {G : va_G} {K : Nat → ClassId} {A : Nat → Prop} (C0 : CX p s m args c cX7_firstOf 4 RX7 G K E0 A) (arA1 : Nat) (ar1 : Nat → Int32) (p2 : Int32) (r : Int32)  (kr : ∀ (H : Heap) (locs : List Loc) (ls : Array Slot) (pc : Nat), decode cX7_firstOf pc = .ok (.ireturn, 1) → va_P G vwCl [aI K arA1 207 ar1] H → va_D A [aI K arA1 207 ar1] → va_S A s.heap H locs → W p l e rmX7_firstOf s m args below meth c H locs 0 0 Q (F0 m pc ls [.int r]))  (hM : mX7_firstOf_b0 ar1 p2   = some r) : ∀ (H : Heap) (locs : List Loc) (ls : Array Slot), va_P G vwCl [aI K arA1 207 ar1] H → va_D A [aI K arA1 207 ar1] → va_S A s.heap H locs → lv_has ls 4 [(0, .ref arA1), (1, .int p2)] → W p l e rmX7_firstOf s m args below meth c H locs 0 0 Q (F0 m 0 ls []) := by
  obtain ⟨hx, hb, hml, hown, hts, hK, hA, hEo, hE⟩ := id C0
  intro H locs ls hP hD hS hl
  unfold mX7_firstOf_b0 at hM
  refine lv_iconst (v := 0) hx hb dX7_firstOf_0 (by decide) ?_
  refine lv_istore_n (lv' := [(2, .int (0 : Int32)), (0, .ref arA1), (1, .int p2)]) hx hb dX7_firstOf_1 rfl hl (by decide) rfl (fun ls hl => ?_)
  refine lv_iconst (v := 0) hx hb dX7_firstOf_2 (by decide) ?_
  refine lv_istore_n (lv' := [(3, .int (0 : Int32)), (2, .int (0 : Int32)), (0, .ref arA1), (1, .int p2)]) hx hb dX7_firstOf_3 rfl hl (by decide) rfl (fun ls hl => ?_)
  exact wX7_firstOf_b4 C0 arA1 ar1 p2 r kr  FU (0 : Int32) (0 : Int32) hM _ _ _ hP hD hS (lv_sub hl [2, 3, 1, 0] rfl)
set_option maxHeartbeats 4000000 in
set_option maxRecDepth 100000 in
theorem kX7_firstOf (l : Launch) (G : va_G) (K : Nat → ClassId) (arA1 : Nat) (ar1 : Nat → Int32) (p2 : Int32) (sz : Nat) (r : Int32)  (hM : mX7_firstOf ar1 p2 = some r) : Met l yX7_firstOf (mC yX7_firstOf cX7_firstOf 4 (some .int)) rmX7_firstOf (va_Pc [.ref arA1, .int p2] (PCe G K E0 [aI K arA1 207 ar1] sz)) (va_Qi (fun (x : Int32) (_ : Unit) => x = r) (fun _ t => va_P G vwCl [aI K arA1 207 ar1] t.heap) (va_A [aI K arA1 207 ar1] sz)) rmX7_firstOf.cells rmX7_firstOf.slots (va_A [aI K arA1 207 ar1] sz) := by
  refine Met.ofW (cc := cX7_firstOf) (maxL := 4) (ret := (some .int)) (by decide) rfl ?_
  intro p e s m args below meth c s₁ B hml hv
  obtain ⟨rfl, hsz, hP, hK, hD0, hE⟩ := hv
  have hx := B.exec
  have hb := B.bytes
  have hr := B.returns
  have hts0 := atoms_spec (ws := mC yX7_firstOf cX7_firstOf 4 (some .int)) B.pre
  have hts : ∀ w ∈ tbG, w.before _ s = true := fun w h => hts0 w (List.mem_cons_of_mem _ h)
  have hown : s.vm.findClass RX7 = some m.cls := findClass_of_methodNamed B.named
  subst hsz
  have hD := hD0.self (sz := s.heap.size)
  generalize hAe : va_A [aI K arA1 207 ar1] s.heap.size = A at hD hE ⊢
  have hA : ∀ q : Nat, s.heap.size ≤ q → A q := fun q h => by rw [← hAe]; exact Or.inr h
  have hS : va_S A s.heap s.heap [] := va_S.rf
  have hl := lv_entry ([.ref arA1, .int p2]) (n := 4) (Nat.le_of_ble_eq_true rfl)
  rw [lg_entry_eq]
  generalize (lg_sl ([.ref arA1, .int p2]) ++ List.replicate (4 - (lg_sl ([.ref arA1, .int p2])).length) Slot.unset).toArray = ls at hl ⊢
  have hl : lv_has ls 4 [(0, .ref arA1), (1, .int p2)] := hl
  exact wX7_firstOf_b0 ⟨hx, hb, hml, hown, hts, hK, hA, E0_ok, hE⟩ arA1 ar1 p2 r (fun H locs ls pc hdg hP hD hS => W.iret (v := r) hx hb hr (fun t ht hW => ⟨⟨r, (), rfl, rfl, by rw [ht]; exact hP⟩, hS.F ht⟩) hS.2.2 hdg)   hM _ _ _ hP hD hS hl
def rmX7_lineOf : Room := { frames := 0, cells := 0, slots := 0, locals := 0 }
theorem hdX7_lineOf : yX7_lineOf.cls ≠ "java/lang/invoke/MethodHandle" ∧ yX7_lineOf.cls ≠ "java/lang/invoke/VarHandle" ∧ (parseMethodDescriptor yX7_lineOf.desc).map (fun d => d.parameters.length) = some 2 := by decide +kernel
set_option maxHeartbeats 4000000 in
set_option maxRecDepth 100000 in
theorem wX7_lineOf_b4 {p : Program} {l : Launch} {e : Env} {s : State} {m : MethodId} {args : Array Value} {below : List Frame} {meth : Method} {c : Code} {Q : State → Prop} {G : va_G} {K : Nat → ClassId} {A : Nat → Prop} (C0 : CX p s m args c cX7_lineOf 4 RX7 G K E0 A) (arA1 : Nat) (ar1 : Nat → Int32) (p2 : Int32) (r : Int32)  (kr : ∀ (H : Heap) (locs : List Loc) (ls : Array Slot) (pc : Nat), decode cX7_lineOf pc = .ok (.ireturn, 1) → va_P G vwCl [aI K arA1 207 ar1] H → va_D A [aI K arA1 207 ar1] → va_S A s.heap H locs → W p l e rmX7_lineOf s m args below meth c H locs 0 0 Q (F0 m pc ls [.int r])) (n : Nat) : ∀ (x2 : Int32) (x3 : Int32), mX7_lineOf_b4 ar1 p2  n x2 x3 = some r → ∀ (H : Heap) (locs : List Loc) (ls : Array Slot), va_P G vwCl [aI K arA1 207 ar1] H → va_D A [aI K arA1 207 ar1] → va_S A s.heap H locs → lv_has ls 4 [(0, .ref arA1), (2, .int x2), (3, .int x3)] → W p l e rmX7_lineOf s m args below meth c H locs 0 0 Q (F0 m 4 ls []) := by
  obtain ⟨hx, hb, hml, hown, hts, hK, hA, hEo, hE⟩ := id C0
  induction n with
  | zero =>
    intro x2 x3 hM
    cases hM
  | succ n ih =>
    intro x2 x3 hM H locs ls hP hD hS hl
    rw [mX7_lineOf_b4] at hM
    refine lv_iload_n hx hb dX7_lineOf_4 rfl (lv_at hl 2 rfl) ?_
    refine lv_aload_n hx hb dX7_lineOf_5 rfl (lv_at hl 0 rfl) ?_
    refine lv_iconst (v := 3) hx hb dX7_lineOf_6 (by decide) ?_
    refine lv_iload_n hx hb dX7_lineOf_7 rfl (lv_at hl 1 rfl) ?_
    refine lv_iadd hx hb dX7_lineOf_8 ?_
    obtain ⟨g_1, hM⟩ := ng hM
    refine va_iald hx hb hK hP 0 0 rfl rfl g_1 dX7_lineOf_9 ?_
    refine lv_icmp_lt (tgt := 27) hx hb dX7_lineOf_10 (by decide) (fun c_2 => ?_) (fun c_2 => ?_)
    · rw [if_pos c_2] at hM
      refine lv_iload_n hx hb dX7_lineOf_27 rfl (lv_at hl 1 rfl) ?_
      cases hM
      exact kr _ _ _ _ dX7_lineOf_28 hP hD hS
    · rw [if_neg c_2] at hM
      refine lv_iload_n hx hb dX7_lineOf_13 rfl (lv_at hl 2 rfl) ?_
      refine lv_aload_n hx hb dX7_lineOf_14 rfl (lv_at hl 0 rfl) ?_
      refine lv_iconst (v := 3) hx hb dX7_lineOf_15 (by decide) ?_
      refine lv_iload_n hx hb dX7_lineOf_16 rfl (lv_at hl 1 rfl) ?_
      refine lv_iadd hx hb dX7_lineOf_17 ?_
      obtain ⟨g_3, hM⟩ := ng hM
      refine va_iald hx hb hK hP 0 0 rfl rfl g_3 dX7_lineOf_18 ?_
      refine lv_isub hx hb dX7_lineOf_19 ?_
      refine lv_istore_n (lv' := [(3, .int (x3 - (ar1 ((3 : Int32) + x2).toNatClampNeg))), (0, .ref arA1), (2, .int x2)]) hx hb dX7_lineOf_20 rfl hl (by decide) rfl (fun ls hl => ?_)
      refine lv_iinc (v := (x2 + 1)) (lv' := [(2, .int (x2 + 1)), (3, .int (x3 - (ar1 ((3 : Int32) + x2).toNatClampNeg))), (0, .ref arA1)]) hx hb dX7_lineOf_21 hl (k := 2) rfl rfl (by decide) rfl (fun ls hl => ?_)
      refine lv_goto (tgt := 4) hx hb dX7_lineOf_24 (by decide) ?_
      exact ih (x2 + 1) (x3 - (ar1 ((3 : Int32) + x2).toNatClampNeg)) hM _ _ _ hP hD hS (lv_sub hl [2, 0, 1] rfl)
set_option maxHeartbeats 4000000 in
set_option maxRecDepth 100000 in
theorem wX7_lineOf_b0 {p : Program} {l : Launch} {e : Env} {s : State} {m : MethodId} {args : Array Value} {below : List Frame} {meth : Method} {c : Code} {Q : State → Prop} {G : va_G} {K : Nat → ClassId} {A : Nat → Prop} (C0 : CX p s m args c cX7_lineOf 4 RX7 G K E0 A) (arA1 : Nat) (ar1 : Nat → Int32) (p2 : Int32) (r : Int32)  (kr : ∀ (H : Heap) (locs : List Loc) (ls : Array Slot) (pc : Nat), decode cX7_lineOf pc = .ok (.ireturn, 1) → va_P G vwCl [aI K arA1 207 ar1] H → va_D A [aI K arA1 207 ar1] → va_S A s.heap H locs → W p l e rmX7_lineOf s m args below meth c H locs 0 0 Q (F0 m pc ls [.int r]))  (hM : mX7_lineOf_b0 ar1 p2   = some r) : ∀ (H : Heap) (locs : List Loc) (ls : Array Slot), va_P G vwCl [aI K arA1 207 ar1] H → va_D A [aI K arA1 207 ar1] → va_S A s.heap H locs → lv_has ls 4 [(0, .ref arA1), (1, .int p2)] → W p l e rmX7_lineOf s m args below meth c H locs 0 0 Q (F0 m 0 ls []) := by
  obtain ⟨hx, hb, hml, hown, hts, hK, hA, hEo, hE⟩ := id C0
  intro H locs ls hP hD hS hl
  unfold mX7_lineOf_b0 at hM
  refine lv_iconst (v := 0) hx hb dX7_lineOf_0 (by decide) ?_
  refine lv_istore_n (lv' := [(2, .int (0 : Int32)), (0, .ref arA1), (1, .int p2)]) hx hb dX7_lineOf_1 rfl hl (by decide) rfl (fun ls hl => ?_)
  refine lv_iload_n hx hb dX7_lineOf_2 rfl (lv_at hl 2 rfl) ?_
  refine lv_istore_n (lv' := [(3, .int p2), (2, .int (0 : Int32)), (0, .ref arA1), (1, .int p2)]) hx hb dX7_lineOf_3 rfl hl (by decide) rfl (fun ls hl => ?_)
  exact wX7_lineOf_b4 C0 arA1 ar1 p2 r kr  FU (0 : Int32) p2 hM _ _ _ hP hD hS (lv_sub hl [2, 1, 0] rfl)
set_option maxHeartbeats 4000000 in
set_option maxRecDepth 100000 in
theorem kX7_lineOf (l : Launch) (G : va_G) (K : Nat → ClassId) (arA1 : Nat) (ar1 : Nat → Int32) (p2 : Int32) (sz : Nat) (r : Int32)  (hM : mX7_lineOf ar1 p2 = some r) : Met l yX7_lineOf (mC yX7_lineOf cX7_lineOf 4 (some .int)) rmX7_lineOf (va_Pc [.ref arA1, .int p2] (PCe G K E0 [aI K arA1 207 ar1] sz)) (va_Qi (fun (x : Int32) (_ : Unit) => x = r) (fun _ t => va_P G vwCl [aI K arA1 207 ar1] t.heap) (va_A [aI K arA1 207 ar1] sz)) rmX7_lineOf.cells rmX7_lineOf.slots (va_A [aI K arA1 207 ar1] sz) := by
  refine Met.ofW (cc := cX7_lineOf) (maxL := 4) (ret := (some .int)) (by decide) rfl ?_
  intro p e s m args below meth c s₁ B hml hv
  obtain ⟨rfl, hsz, hP, hK, hD0, hE⟩ := hv
  have hx := B.exec
  have hb := B.bytes
  have hr := B.returns
  have hts0 := atoms_spec (ws := mC yX7_lineOf cX7_lineOf 4 (some .int)) B.pre
  have hts : ∀ w ∈ tbG, w.before _ s = true := fun w h => hts0 w (List.mem_cons_of_mem _ h)
  have hown : s.vm.findClass RX7 = some m.cls := findClass_of_methodNamed B.named
  subst hsz
  have hD := hD0.self (sz := s.heap.size)
  generalize hAe : va_A [aI K arA1 207 ar1] s.heap.size = A at hD hE ⊢
  have hA : ∀ q : Nat, s.heap.size ≤ q → A q := fun q h => by rw [← hAe]; exact Or.inr h
  have hS : va_S A s.heap s.heap [] := va_S.rf
  have hl := lv_entry ([.ref arA1, .int p2]) (n := 4) (Nat.le_of_ble_eq_true rfl)
  rw [lg_entry_eq]
  generalize (lg_sl ([.ref arA1, .int p2]) ++ List.replicate (4 - (lg_sl ([.ref arA1, .int p2])).length) Slot.unset).toArray = ls at hl ⊢
  have hl : lv_has ls 4 [(0, .ref arA1), (1, .int p2)] := hl
  exact wX7_lineOf_b0 ⟨hx, hb, hml, hown, hts, hK, hA, E0_ok, hE⟩ arA1 ar1 p2 r (fun H locs ls pc hdg hP hD hS => W.iret (v := r) hx hb hr (fun t ht hW => ⟨⟨r, (), rfl, rfl, by rw [ht]; exact hP⟩, hS.F ht⟩) hS.2.2 hdg)   hM _ _ _ hP hD hS hl
def rmX7_kindOf : Room := { frames := 0, cells := 0, slots := 0, locals := 0 }
theorem hdX7_kindOf : yX7_kindOf.cls ≠ "java/lang/invoke/MethodHandle" ∧ yX7_kindOf.cls ≠ "java/lang/invoke/VarHandle" ∧ (parseMethodDescriptor yX7_kindOf.desc).map (fun d => d.parameters.length) = some 2 := by decide +kernel
set_option maxHeartbeats 4000000 in
set_option maxRecDepth 100000 in
theorem wX7_kindOf_b0 {p : Program} {l : Launch} {e : Env} {s : State} {m : MethodId} {args : Array Value} {below : List Frame} {meth : Method} {c : Code} {Q : State → Prop} {G : va_G} {K : Nat → ClassId} {A : Nat → Prop} (C0 : CX p s m args c cX7_kindOf 2 RX7 G K E0 A) (arA1 : Nat) (ar1 : Nat → Int32) (p2 : Int32) (r : Int32)  (kr : ∀ (H : Heap) (locs : List Loc) (ls : Array Slot) (pc : Nat), decode cX7_kindOf pc = .ok (.ireturn, 1) → va_P G vwCl [aI K arA1 207 ar1] H → va_D A [aI K arA1 207 ar1] → va_S A s.heap H locs → W p l e rmX7_kindOf s m args below meth c H locs 0 0 Q (F0 m pc ls [.int r]))  (hM : mX7_kindOf_b0 ar1 p2   = some r) : ∀ (H : Heap) (locs : List Loc) (ls : Array Slot), va_P G vwCl [aI K arA1 207 ar1] H → va_D A [aI K arA1 207 ar1] → va_S A s.heap H locs → lv_has ls 2 [(0, .ref arA1), (1, .int p2)] → W p l e rmX7_kindOf s m args below meth c H locs 0 0 Q (F0 m 0 ls []) := by
  obtain ⟨hx, hb, hml, hown, hts, hK, hA, hEo, hE⟩ := id C0
  intro H locs ls hP hD hS hl
  unfold mX7_kindOf_b0 at hM
  refine lv_aload_n hx hb dX7_kindOf_0 rfl (lv_at hl 0 rfl) ?_
  refine lv_bipush (v := 7) hx hb dX7_kindOf_1 (by decide) ?_
  refine lv_bipush (v := 10) hx hb dX7_kindOf_3 (by decide) ?_
  refine lv_iload_n hx hb dX7_kindOf_5 rfl (lv_at hl 1 rfl) ?_
  refine lv_imul hx hb dX7_kindOf_6 ?_
  refine lv_iadd hx hb dX7_kindOf_7 ?_
  obtain ⟨g_1, hM⟩ := ng hM
  refine va_iald hx hb hK hP 0 0 rfl rfl g_1 dX7_kindOf_8 ?_
  cases hM
  exact kr _ _ _ _ dX7_kindOf_9 hP hD hS
set_option maxHeartbeats 4000000 in
set_option maxRecDepth 100000 in
theorem kX7_kindOf (l : Launch) (G : va_G) (K : Nat → ClassId) (arA1 : Nat) (ar1 : Nat → Int32) (p2 : Int32) (sz : Nat) (r : Int32)  (hM : mX7_kindOf ar1 p2 = some r) : Met l yX7_kindOf (mC yX7_kindOf cX7_kindOf 2 (some .int)) rmX7_kindOf (va_Pc [.ref arA1, .int p2] (PCe G K E0 [aI K arA1 207 ar1] sz)) (va_Qi (fun (x : Int32) (_ : Unit) => x = r) (fun _ t => va_P G vwCl [aI K arA1 207 ar1] t.heap) (va_A [aI K arA1 207 ar1] sz)) rmX7_kindOf.cells rmX7_kindOf.slots (va_A [aI K arA1 207 ar1] sz) := by
  refine Met.ofW (cc := cX7_kindOf) (maxL := 2) (ret := (some .int)) (by decide) rfl ?_
  intro p e s m args below meth c s₁ B hml hv
  obtain ⟨rfl, hsz, hP, hK, hD0, hE⟩ := hv
  have hx := B.exec
  have hb := B.bytes
  have hr := B.returns
  have hts0 := atoms_spec (ws := mC yX7_kindOf cX7_kindOf 2 (some .int)) B.pre
  have hts : ∀ w ∈ tbG, w.before _ s = true := fun w h => hts0 w (List.mem_cons_of_mem _ h)
  have hown : s.vm.findClass RX7 = some m.cls := findClass_of_methodNamed B.named
  subst hsz
  have hD := hD0.self (sz := s.heap.size)
  generalize hAe : va_A [aI K arA1 207 ar1] s.heap.size = A at hD hE ⊢
  have hA : ∀ q : Nat, s.heap.size ≤ q → A q := fun q h => by rw [← hAe]; exact Or.inr h
  have hS : va_S A s.heap s.heap [] := va_S.rf
  have hl := lv_entry ([.ref arA1, .int p2]) (n := 2) (Nat.le_of_ble_eq_true rfl)
  rw [lg_entry_eq]
  generalize (lg_sl ([.ref arA1, .int p2]) ++ List.replicate (2 - (lg_sl ([.ref arA1, .int p2])).length) Slot.unset).toArray = ls at hl ⊢
  have hl : lv_has ls 2 [(0, .ref arA1), (1, .int p2)] := hl
  exact wX7_kindOf_b0 ⟨hx, hb, hml, hown, hts, hK, hA, E0_ok, hE⟩ arA1 ar1 p2 r (fun H locs ls pc hdg hP hD hS => W.iret (v := r) hx hb hr (fun t ht hW => ⟨⟨r, (), rfl, rfl, by rw [ht]; exact hP⟩, hS.F ht⟩) hS.2.2 hdg)   hM _ _ _ hP hD hS hl
def rmX7_sizeOfWord : Room := { frames := 0, cells := 0, slots := 0, locals := 0 }
theorem hdX7_sizeOfWord : yX7_sizeOfWord.cls ≠ "java/lang/invoke/MethodHandle" ∧ yX7_sizeOfWord.cls ≠ "java/lang/invoke/VarHandle" ∧ (parseMethodDescriptor yX7_sizeOfWord.desc).map (fun d => d.parameters.length) = some 2 := by decide +kernel
set_option maxHeartbeats 4000000 in
set_option maxRecDepth 100000 in
theorem wX7_sizeOfWord_b0 {p : Program} {l : Launch} {e : Env} {s : State} {m : MethodId} {args : Array Value} {below : List Frame} {meth : Method} {c : Code} {Q : State → Prop} {G : va_G} {K : Nat → ClassId} {A : Nat → Prop} (C0 : CX p s m args c cX7_sizeOfWord 2 RX7 G K E0 A) (arA1 : Nat) (ar1 : Nat → Int32) (p2 : Int32) (r : Int32)  (kr : ∀ (H : Heap) (locs : List Loc) (ls : Array Slot) (pc : Nat), decode cX7_sizeOfWord pc = .ok (.ireturn, 1) → va_P G vwCl [aI K arA1 207 ar1] H → va_D A [aI K arA1 207 ar1] → va_S A s.heap H locs → W p l e rmX7_sizeOfWord s m args below meth c H locs 0 0 Q (F0 m pc ls [.int r]))  (hM : mX7_sizeOfWord_b0 ar1 p2   = some r) : ∀ (H : Heap) (locs : List Loc) (ls : Array Slot), va_P G vwCl [aI K arA1 207 ar1] H → va_D A [aI K arA1 207 ar1] → va_S A s.heap H locs → lv_has ls 2 [(0, .ref arA1), (1, .int p2)] → W p l e rmX7_sizeOfWord s m args below meth c H locs 0 0 Q (F0 m 0 ls []) := by
  obtain ⟨hx, hb, hml, hown, hts, hK, hA, hEo, hE⟩ := id C0
  intro H locs ls hP hD hS hl
  unfold mX7_sizeOfWord_b0 at hM
  refine lv_aload_n hx hb dX7_sizeOfWord_0 rfl (lv_at hl 0 rfl) ?_
  refine lv_bipush (v := 7) hx hb dX7_sizeOfWord_1 (by decide) ?_
  refine lv_bipush (v := 10) hx hb dX7_sizeOfWord_3 (by decide) ?_
  refine lv_iload_n hx hb dX7_sizeOfWord_5 rfl (lv_at hl 1 rfl) ?_
  refine lv_imul hx hb dX7_sizeOfWord_6 ?_
  refine lv_iadd hx hb dX7_sizeOfWord_7 ?_
  refine lv_iconst (v := 1) hx hb dX7_sizeOfWord_8 (by decide) ?_
  refine lv_iadd hx hb dX7_sizeOfWord_9 ?_
  obtain ⟨g_1, hM⟩ := ng hM
  refine va_iald hx hb hK hP 0 0 rfl rfl g_1 dX7_sizeOfWord_10 ?_
  cases hM
  exact kr _ _ _ _ dX7_sizeOfWord_11 hP hD hS
set_option maxHeartbeats 4000000 in
set_option maxRecDepth 100000 in
theorem kX7_sizeOfWord (l : Launch) (G : va_G) (K : Nat → ClassId) (arA1 : Nat) (ar1 : Nat → Int32) (p2 : Int32) (sz : Nat) (r : Int32)  (hM : mX7_sizeOfWord ar1 p2 = some r) : Met l yX7_sizeOfWord (mC yX7_sizeOfWord cX7_sizeOfWord 2 (some .int)) rmX7_sizeOfWord (va_Pc [.ref arA1, .int p2] (PCe G K E0 [aI K arA1 207 ar1] sz)) (va_Qi (fun (x : Int32) (_ : Unit) => x = r) (fun _ t => va_P G vwCl [aI K arA1 207 ar1] t.heap) (va_A [aI K arA1 207 ar1] sz)) rmX7_sizeOfWord.cells rmX7_sizeOfWord.slots (va_A [aI K arA1 207 ar1] sz) := by
  refine Met.ofW (cc := cX7_sizeOfWord) (maxL := 2) (ret := (some .int)) (by decide) rfl ?_
  intro p e s m args below meth c s₁ B hml hv
  obtain ⟨rfl, hsz, hP, hK, hD0, hE⟩ := hv
  have hx := B.exec
  have hb := B.bytes
  have hr := B.returns
  have hts0 := atoms_spec (ws := mC yX7_sizeOfWord cX7_sizeOfWord 2 (some .int)) B.pre
  have hts : ∀ w ∈ tbG, w.before _ s = true := fun w h => hts0 w (List.mem_cons_of_mem _ h)
  have hown : s.vm.findClass RX7 = some m.cls := findClass_of_methodNamed B.named
  subst hsz
  have hD := hD0.self (sz := s.heap.size)
  generalize hAe : va_A [aI K arA1 207 ar1] s.heap.size = A at hD hE ⊢
  have hA : ∀ q : Nat, s.heap.size ≤ q → A q := fun q h => by rw [← hAe]; exact Or.inr h
  have hS : va_S A s.heap s.heap [] := va_S.rf
  have hl := lv_entry ([.ref arA1, .int p2]) (n := 2) (Nat.le_of_ble_eq_true rfl)
  rw [lg_entry_eq]
  generalize (lg_sl ([.ref arA1, .int p2]) ++ List.replicate (2 - (lg_sl ([.ref arA1, .int p2])).length) Slot.unset).toArray = ls at hl ⊢
  have hl : lv_has ls 2 [(0, .ref arA1), (1, .int p2)] := hl
  exact wX7_sizeOfWord_b0 ⟨hx, hb, hml, hown, hts, hK, hA, E0_ok, hE⟩ arA1 ar1 p2 r (fun H locs ls pc hdg hP hD hS => W.iret (v := r) hx hb hr (fun t ht hW => ⟨⟨r, (), rfl, rfl, by rw [ht]; exact hP⟩, hS.F ht⟩) hS.2.2 hdg)   hM _ _ _ hP hD hS hl
def rmX7_letterOf : Room := { frames := 0, cells := 0, slots := 0, locals := 0 }
theorem hdX7_letterOf : yX7_letterOf.cls ≠ "java/lang/invoke/MethodHandle" ∧ yX7_letterOf.cls ≠ "java/lang/invoke/VarHandle" ∧ (parseMethodDescriptor yX7_letterOf.desc).map (fun d => d.parameters.length) = some 3 := by decide +kernel
set_option maxHeartbeats 4000000 in
set_option maxRecDepth 100000 in
theorem wX7_letterOf_b0 {p : Program} {l : Launch} {e : Env} {s : State} {m : MethodId} {args : Array Value} {below : List Frame} {meth : Method} {c : Code} {Q : State → Prop} {G : va_G} {K : Nat → ClassId} {A : Nat → Prop} (C0 : CX p s m args c cX7_letterOf 3 RX7 G K E0 A) (arA1 : Nat) (ar1 : Nat → Int32) (p2 : Int32) (p3 : Int32) (r : Int32)  (kr : ∀ (H : Heap) (locs : List Loc) (ls : Array Slot) (pc : Nat), decode cX7_letterOf pc = .ok (.ireturn, 1) → va_P G vwCl [aI K arA1 207 ar1] H → va_D A [aI K arA1 207 ar1] → va_S A s.heap H locs → W p l e rmX7_letterOf s m args below meth c H locs 0 0 Q (F0 m pc ls [.int r]))  (hM : mX7_letterOf_b0 ar1 p2 p3   = some r) : ∀ (H : Heap) (locs : List Loc) (ls : Array Slot), va_P G vwCl [aI K arA1 207 ar1] H → va_D A [aI K arA1 207 ar1] → va_S A s.heap H locs → lv_has ls 3 [(0, .ref arA1), (1, .int p2), (2, .int p3)] → W p l e rmX7_letterOf s m args below meth c H locs 0 0 Q (F0 m 0 ls []) := by
  obtain ⟨hx, hb, hml, hown, hts, hK, hA, hEo, hE⟩ := id C0
  intro H locs ls hP hD hS hl
  unfold mX7_letterOf_b0 at hM
  refine lv_aload_n hx hb dX7_letterOf_0 rfl (lv_at hl 0 rfl) ?_
  refine lv_bipush (v := 7) hx hb dX7_letterOf_1 (by decide) ?_
  refine lv_bipush (v := 10) hx hb dX7_letterOf_3 (by decide) ?_
  refine lv_iload_n hx hb dX7_letterOf_5 rfl (lv_at hl 1 rfl) ?_
  refine lv_imul hx hb dX7_letterOf_6 ?_
  refine lv_iadd hx hb dX7_letterOf_7 ?_
  refine lv_iconst (v := 2) hx hb dX7_letterOf_8 (by decide) ?_
  refine lv_iadd hx hb dX7_letterOf_9 ?_
  refine lv_iload_n hx hb dX7_letterOf_10 rfl (lv_at hl 2 rfl) ?_
  refine lv_iadd hx hb dX7_letterOf_11 ?_
  obtain ⟨g_1, hM⟩ := ng hM
  refine va_iald hx hb hK hP 0 0 rfl rfl g_1 dX7_letterOf_12 ?_
  cases hM
  exact kr _ _ _ _ dX7_letterOf_13 hP hD hS
set_option maxHeartbeats 4000000 in
set_option maxRecDepth 100000 in
theorem kX7_letterOf (l : Launch) (G : va_G) (K : Nat → ClassId) (arA1 : Nat) (ar1 : Nat → Int32) (p2 : Int32) (p3 : Int32) (sz : Nat) (r : Int32)  (hM : mX7_letterOf ar1 p2 p3 = some r) : Met l yX7_letterOf (mC yX7_letterOf cX7_letterOf 3 (some .int)) rmX7_letterOf (va_Pc [.ref arA1, .int p2, .int p3] (PCe G K E0 [aI K arA1 207 ar1] sz)) (va_Qi (fun (x : Int32) (_ : Unit) => x = r) (fun _ t => va_P G vwCl [aI K arA1 207 ar1] t.heap) (va_A [aI K arA1 207 ar1] sz)) rmX7_letterOf.cells rmX7_letterOf.slots (va_A [aI K arA1 207 ar1] sz) := by
  refine Met.ofW (cc := cX7_letterOf) (maxL := 3) (ret := (some .int)) (by decide) rfl ?_
  intro p e s m args below meth c s₁ B hml hv
  obtain ⟨rfl, hsz, hP, hK, hD0, hE⟩ := hv
  have hx := B.exec
  have hb := B.bytes
  have hr := B.returns
  have hts0 := atoms_spec (ws := mC yX7_letterOf cX7_letterOf 3 (some .int)) B.pre
  have hts : ∀ w ∈ tbG, w.before _ s = true := fun w h => hts0 w (List.mem_cons_of_mem _ h)
  have hown : s.vm.findClass RX7 = some m.cls := findClass_of_methodNamed B.named
  subst hsz
  have hD := hD0.self (sz := s.heap.size)
  generalize hAe : va_A [aI K arA1 207 ar1] s.heap.size = A at hD hE ⊢
  have hA : ∀ q : Nat, s.heap.size ≤ q → A q := fun q h => by rw [← hAe]; exact Or.inr h
  have hS : va_S A s.heap s.heap [] := va_S.rf
  have hl := lv_entry ([.ref arA1, .int p2, .int p3]) (n := 3) (Nat.le_of_ble_eq_true rfl)
  rw [lg_entry_eq]
  generalize (lg_sl ([.ref arA1, .int p2, .int p3]) ++ List.replicate (3 - (lg_sl ([.ref arA1, .int p2, .int p3])).length) Slot.unset).toArray = ls at hl ⊢
  have hl : lv_has ls 3 [(0, .ref arA1), (1, .int p2), (2, .int p3)] := hl
  exact wX7_letterOf_b0 ⟨hx, hb, hml, hown, hts, hK, hA, E0_ok, hE⟩ arA1 ar1 p2 p3 r (fun H locs ls pc hdg hP hD hS => W.iret (v := r) hx hb hr (fun t ht hW => ⟨⟨r, (), rfl, rfl, by rw [ht]; exact hP⟩, hS.F ht⟩) hS.2.2 hdg)   hM _ _ _ hP hD hS hl
def rmX7_isRun : Room := { frames := 1, cells := 0, slots := 0, locals := 22 }
theorem hdX7_isRun : yX7_isRun.cls ≠ "java/lang/invoke/MethodHandle" ∧ yX7_isRun.cls ≠ "java/lang/invoke/VarHandle" ∧ (parseMethodDescriptor yX7_isRun.desc).map (fun d => d.parameters.length) = some 3 := by decide +kernel
set_option maxHeartbeats 4000000 in
set_option maxRecDepth 100000 in
theorem wX7_isRun_b0 {p : Program} {l : Launch} {e : Env} {s : State} {m : MethodId} {args : Array Value} {below : List Frame} {meth : Method} {c : Code} {Q : State → Prop} {G : va_G} {K : Nat → ClassId} {A : Nat → Prop} (C0 : CX p s m args c cX7_isRun 3 RX7 G K E0 A) (arA1 : Nat) (ar1 : Nat → Int32) (p2 : Int32) (p3 : Int32) (r : Int32)  (kr : ∀ (H : Heap) (locs : List Loc) (ls : Array Slot) (pc : Nat), decode cX7_isRun pc = .ok (.ireturn, 1) → (r = 0 ∨ r = 1) → va_P G vwCl [aI K arA1 207 ar1] H → va_D A [aI K arA1 207 ar1] → va_S A s.heap H locs → W p l e rmX7_isRun s m args below meth c H locs 0 0 Q (F0 m pc ls [.int r]))  (hM : mX7_isRun_b0 ar1 p2 p3   = some r) : ∀ (H : Heap) (locs : List Loc) (ls : Array Slot), va_P G vwCl [aI K arA1 207 ar1] H → va_D A [aI K arA1 207 ar1] → va_S A s.heap H locs → lv_has ls 3 [(0, .ref arA1), (1, .int p2), (2, .int p3)] → W p l e rmX7_isRun s m args below meth c H locs 0 0 Q (F0 m 0 ls []) := by
  obtain ⟨hx, hb, hml, hown, hts, hK, hA, hEo, hE⟩ := id C0
  intro H locs ls hP hD hS hl
  unfold mX7_isRun_b0 at hM
  refine lv_aload_n hx hb dX7_isRun_0 rfl (lv_at hl 0 rfl) ?_
  refine lv_iload_n hx hb dX7_isRun_1 rfl (lv_at hl 1 rfl) ?_
  refine lv_iload_n hx hb dX7_isRun_2 rfl (lv_at hl 2 rfl) ?_
  obtain ⟨r_1, hC, hM⟩ := oe1 hM
  refine cS_i (As := [.ref arA1, .int p2, .int p3]) (rest := []) C0 hP hD hS [0] (kX7_letterOf l G K arA1 ar1 p2 p3 H.size r_1 hC) rfl rfl rfl tb1037 tb1038 tb9 tb1039 hdX7_letterOf ⟨Nat.le_of_ble_eq_true rfl, Nat.le_of_ble_eq_true rfl⟩ rfl hl.1 (Nat.le_of_ble_eq_true rfl) rfl ⟨Nat.le_refl _, Nat.le_refl _⟩ dX7_isRun_3 (fun H locs hP hD hS => ?_)
  have hP : va_P G vwCl [aI K arA1 207 ar1] H := hP
  have hD : va_D A [aI K arA1 207 ar1] := hD
  obtain ⟨r_2, hC, hM⟩ := oe1 hM
  refine cS_i (As := [.int r_1]) (rest := []) C0 hP hD hS [] (kX7_isVowel l G K r_1 H.size r_2 hC) rfl rfl rfl tb958 tb959 tb9 tb960 hdX7_isVowel ⟨Nat.le_of_ble_eq_true rfl, Nat.le_of_ble_eq_true rfl⟩ rfl hl.1 (Nat.le_of_ble_eq_true rfl) rfl ⟨Nat.le_refl _, Nat.le_refl _⟩ dX7_isRun_6 (fun H locs hP hD hS => ?_)
  have hP : va_P G vwCl [aI K arA1 207 ar1] H := hP
  have hD : va_D A [aI K arA1 207 ar1] := hD
  refine lv_if_eq (tgt := 34) hx hb dX7_isRun_9 (by decide) (fun c_3 => ?_) (fun c_3 => ?_)
  · rw [if_pos c_3] at hM
    refine lv_iconst (v := 0) hx hb dX7_isRun_34 (by decide) ?_
    cases hM
    exact kr _ _ _ _ dX7_isRun_35 (by decide) hP hD hS
  · rw [if_neg c_3] at hM
    refine lv_iload_n hx hb dX7_isRun_12 rfl (lv_at hl 2 rfl) ?_
    refine lv_if_eq (tgt := 30) hx hb dX7_isRun_13 (by decide) (fun c_4 => ?_) (fun c_4 => ?_)
    · rw [if_pos c_4] at hM
      refine lv_iconst (v := 1) hx hb dX7_isRun_30 (by decide) ?_
      refine lv_goto (tgt := 35) hx hb dX7_isRun_31 (by decide) ?_
      cases hM
      exact kr _ _ _ _ dX7_isRun_35 (by decide) hP hD hS
    · rw [if_neg c_4] at hM
      refine lv_aload_n hx hb dX7_isRun_16 rfl (lv_at hl 0 rfl) ?_
      refine lv_iload_n hx hb dX7_isRun_17 rfl (lv_at hl 1 rfl) ?_
      refine lv_iload_n hx hb dX7_isRun_18 rfl (lv_at hl 2 rfl) ?_
      refine lv_iconst (v := 1) hx hb dX7_isRun_19 (by decide) ?_
      refine lv_isub hx hb dX7_isRun_20 ?_
      obtain ⟨r_5, hC, hM⟩ := oe1 hM
      refine cS_i (As := [.ref arA1, .int p2, .int (p3 - (1 : Int32))]) (rest := []) C0 hP hD hS [0] (kX7_letterOf l G K arA1 ar1 p2 (p3 - (1 : Int32)) H.size r_5 hC) rfl rfl rfl tb1037 tb1038 tb9 tb1039 hdX7_letterOf ⟨Nat.le_of_ble_eq_true rfl, Nat.le_of_ble_eq_true rfl⟩ rfl hl.1 (Nat.le_of_ble_eq_true rfl) rfl ⟨Nat.le_refl _, Nat.le_refl _⟩ dX7_isRun_21 (fun H locs hP hD hS => ?_)
      have hP : va_P G vwCl [aI K arA1 207 ar1] H := hP
      have hD : va_D A [aI K arA1 207 ar1] := hD
      obtain ⟨r_6, hC, hM⟩ := oe1 hM
      refine cS_i (As := [.int r_5]) (rest := []) C0 hP hD hS [] (kX7_isVowel l G K r_5 H.size r_6 hC) rfl rfl rfl tb958 tb959 tb9 tb960 hdX7_isVowel ⟨Nat.le_of_ble_eq_true rfl, Nat.le_of_ble_eq_true rfl⟩ rfl hl.1 (Nat.le_of_ble_eq_true rfl) rfl ⟨Nat.le_refl _, Nat.le_refl _⟩ dX7_isRun_24 (fun H locs hP hD hS => ?_)
      have hP : va_P G vwCl [aI K arA1 207 ar1] H := hP
      have hD : va_D A [aI K arA1 207 ar1] := hD
      refine lv_if_ne (tgt := 34) hx hb dX7_isRun_27 (by decide) (fun c_7 => ?_) (fun c_7 => ?_)
      · rw [if_pos c_7] at hM
        refine lv_iconst (v := 0) hx hb dX7_isRun_34 (by decide) ?_
        cases hM
        exact kr _ _ _ _ dX7_isRun_35 (by decide) hP hD hS
      · rw [if_neg c_7] at hM
        refine lv_iconst (v := 1) hx hb dX7_isRun_30 (by decide) ?_
        refine lv_goto (tgt := 35) hx hb dX7_isRun_31 (by decide) ?_
        cases hM
        exact kr _ _ _ _ dX7_isRun_35 (by decide) hP hD hS
set_option maxHeartbeats 4000000 in
set_option maxRecDepth 100000 in
theorem kX7_isRun (l : Launch) (G : va_G) (K : Nat → ClassId) (arA1 : Nat) (ar1 : Nat → Int32) (p2 : Int32) (p3 : Int32) (sz : Nat) (r : Int32)  (hM : mX7_isRun ar1 p2 p3 = some r) : Met l yX7_isRun (mC yX7_isRun cX7_isRun 3 (some .boolean)) rmX7_isRun (va_Pc [.ref arA1, .int p2, .int p3] (PCe G K E0 [aI K arA1 207 ar1] sz)) (va_Qi (fun (x : Int32) (_ : Unit) => x = r) (fun _ t => va_P G vwCl [aI K arA1 207 ar1] t.heap) (va_A [aI K arA1 207 ar1] sz)) rmX7_isRun.cells rmX7_isRun.slots (va_A [aI K arA1 207 ar1] sz) := by
  refine Met.ofW (cc := cX7_isRun) (maxL := 3) (ret := (some .boolean)) (by decide) rfl ?_
  intro p e s m args below meth c s₁ B hml hv
  obtain ⟨rfl, hsz, hP, hK, hD0, hE⟩ := hv
  have hx := B.exec
  have hb := B.bytes
  have hr := B.returns
  have hts0 := atoms_spec (ws := mC yX7_isRun cX7_isRun 3 (some .boolean)) B.pre
  have hts : ∀ w ∈ tbG, w.before _ s = true := fun w h => hts0 w (List.mem_cons_of_mem _ h)
  have hown : s.vm.findClass RX7 = some m.cls := findClass_of_methodNamed B.named
  subst hsz
  have hD := hD0.self (sz := s.heap.size)
  generalize hAe : va_A [aI K arA1 207 ar1] s.heap.size = A at hD hE ⊢
  have hA : ∀ q : Nat, s.heap.size ≤ q → A q := fun q h => by rw [← hAe]; exact Or.inr h
  have hS : va_S A s.heap s.heap [] := va_S.rf
  have hl := lv_entry ([.ref arA1, .int p2, .int p3]) (n := 3) (Nat.le_of_ble_eq_true rfl)
  rw [lg_entry_eq]
  generalize (lg_sl ([.ref arA1, .int p2, .int p3]) ++ List.replicate (3 - (lg_sl ([.ref arA1, .int p2, .int p3])).length) Slot.unset).toArray = ls at hl ⊢
  have hl : lv_has ls 3 [(0, .ref arA1), (1, .int p2), (2, .int p3)] := hl
  exact wX7_isRun_b0 ⟨hx, hb, hml, hown, hts, hK, hA, E0_ok, hE⟩ arA1 ar1 p2 p3 r (fun H locs ls pc hdg hz hP hD hS => W.zret (v := r) (ty := .boolean) hx hb hr (nar_b hz) (fun t ht hW => ⟨⟨r, (), rfl, rfl, by rw [ht]; exact hP⟩, hS.F ht⟩) hS.2.2 hdg)   hM _ _ _ hP hD hS hl
def rmX7_runs : Room := { frames := 2, cells := 0, slots := 0, locals := 44 }
theorem hdX7_runs : yX7_runs.cls ≠ "java/lang/invoke/MethodHandle" ∧ yX7_runs.cls ≠ "java/lang/invoke/VarHandle" ∧ (parseMethodDescriptor yX7_runs.desc).map (fun d => d.parameters.length) = some 2 := by decide +kernel
set_option maxHeartbeats 4000000 in
set_option maxRecDepth 100000 in
theorem wX7_runs_b4 {p : Program} {l : Launch} {e : Env} {s : State} {m : MethodId} {args : Array Value} {below : List Frame} {meth : Method} {c : Code} {Q : State → Prop} {G : va_G} {K : Nat → ClassId} {A : Nat → Prop} (C0 : CX p s m args c cX7_runs 4 RX7 G K E0 A) (arA1 : Nat) (ar1 : Nat → Int32) (p2 : Int32) (r : Int32)  (kr : ∀ (H : Heap) (locs : List Loc) (ls : Array Slot) (pc : Nat), decode cX7_runs pc = .ok (.ireturn, 1) → va_P G vwCl [aI K arA1 207 ar1] H → va_D A [aI K arA1 207 ar1] → va_S A s.heap H locs → W p l e rmX7_runs s m args below meth c H locs 0 0 Q (F0 m pc ls [.int r])) (n : Nat) : ∀ (x2 : Int32) (x3 : Int32), mX7_runs_b4 ar1 p2  n x2 x3 = some r → ∀ (H : Heap) (locs : List Loc) (ls : Array Slot), va_P G vwCl [aI K arA1 207 ar1] H → va_D A [aI K arA1 207 ar1] → va_S A s.heap H locs → lv_has ls 4 [(0, .ref arA1), (1, .int p2), (2, .int x2), (3, .int x3)] → W p l e rmX7_runs s m args below meth c H locs 0 0 Q (F0 m 4 ls []) := by
  obtain ⟨hx, hb, hml, hown, hts, hK, hA, hEo, hE⟩ := id C0
  induction n with
  | zero =>
    intro x2 x3 hM
    cases hM
  | succ n ih =>
    intro x2 x3 hM H locs ls hP hD hS hl
    rw [mX7_runs_b4] at hM
    refine lv_iload_n hx hb dX7_runs_4 rfl (lv_at hl 3 rfl) ?_
    refine lv_aload_n hx hb dX7_runs_5 rfl (lv_at hl 0 rfl) ?_
    refine lv_iload_n hx hb dX7_runs_6 rfl (lv_at hl 1 rfl) ?_
    obtain ⟨r_1, hC, hM⟩ := oe1 hM
    refine cS_i (As := [.ref arA1, .int p2]) (rest := [.int x3]) C0 hP hD hS [0] (kX7_sizeOfWord l G K arA1 ar1 p2 H.size r_1 hC) rfl rfl rfl tb1034 tb1035 tb9 tb1036 hdX7_sizeOfWord ⟨Nat.le_of_ble_eq_true rfl, Nat.le_of_ble_eq_true rfl⟩ rfl hl.1 (Nat.le_of_ble_eq_true rfl) rfl ⟨Nat.le_refl _, Nat.le_refl _⟩ dX7_runs_7 (fun H locs hP hD hS => ?_)
    have hP : va_P G vwCl [aI K arA1 207 ar1] H := hP
    have hD : va_D A [aI K arA1 207 ar1] := hD
    refine lv_icmp_ge (tgt := 36) hx hb dX7_runs_10 (by decide) (fun c_2 => ?_) (fun c_2 => ?_)
    · rw [if_pos c_2] at hM
      refine lv_iload_n hx hb dX7_runs_36 rfl (lv_at hl 2 rfl) ?_
      cases hM
      exact kr _ _ _ _ dX7_runs_37 hP hD hS
    · rw [if_neg c_2] at hM
      refine lv_iload_n hx hb dX7_runs_13 rfl (lv_at hl 2 rfl) ?_
      refine lv_aload_n hx hb dX7_runs_14 rfl (lv_at hl 0 rfl) ?_
      refine lv_iload_n hx hb dX7_runs_15 rfl (lv_at hl 1 rfl) ?_
      refine lv_iload_n hx hb dX7_runs_16 rfl (lv_at hl 3 rfl) ?_
      obtain ⟨r_3, hC, hM⟩ := oe1 hM
      refine cS_i (As := [.ref arA1, .int p2, .int x3]) (rest := [.int x2]) C0 hP hD hS [0] (kX7_isRun l G K arA1 ar1 p2 x3 H.size r_3 hC) rfl rfl rfl tb1046 tb1047 tb9 tb1048 hdX7_isRun ⟨Nat.le_of_ble_eq_true rfl, Nat.le_of_ble_eq_true rfl⟩ rfl hl.1 (Nat.le_of_ble_eq_true rfl) rfl ⟨Nat.le_refl _, Nat.le_refl _⟩ dX7_runs_17 (fun H locs hP hD hS => ?_)
      have hP : va_P G vwCl [aI K arA1 207 ar1] H := hP
      have hD : va_D A [aI K arA1 207 ar1] := hD
      refine lv_if_eq (tgt := 27) hx hb dX7_runs_20 (by decide) (fun c_4 => ?_) (fun c_4 => ?_)
      · rw [if_pos c_4] at hM
        refine lv_iconst (v := 0) hx hb dX7_runs_27 (by decide) ?_
        refine lv_iadd hx hb dX7_runs_28 ?_
        refine lv_istore_n (lv' := [(2, .int (x2 + (0 : Int32))), (0, .ref arA1), (1, .int p2), (3, .int x3)]) hx hb dX7_runs_29 rfl hl (by decide) rfl (fun ls hl => ?_)
        refine lv_iinc (v := (x3 + 1)) (lv' := [(3, .int (x3 + 1)), (2, .int (x2 + (0 : Int32))), (0, .ref arA1), (1, .int p2)]) hx hb dX7_runs_30 hl (k := 3) rfl rfl (by decide) rfl (fun ls hl => ?_)
        refine lv_goto (tgt := 4) hx hb dX7_runs_33 (by decide) ?_
        exact ih (x2 + (0 : Int32)) (x3 + 1) hM _ _ _ hP hD hS (lv_sub hl [2, 3, 1, 0] rfl)
      · rw [if_neg c_4] at hM
        refine lv_iconst (v := 1) hx hb dX7_runs_23 (by decide) ?_
        refine lv_goto (tgt := 28) hx hb dX7_runs_24 (by decide) ?_
        refine lv_iadd hx hb dX7_runs_28 ?_
        refine lv_istore_n (lv' := [(2, .int (x2 + (1 : Int32))), (0, .ref arA1), (1, .int p2), (3, .int x3)]) hx hb dX7_runs_29 rfl hl (by decide) rfl (fun ls hl => ?_)
        refine lv_iinc (v := (x3 + 1)) (lv' := [(3, .int (x3 + 1)), (2, .int (x2 + (1 : Int32))), (0, .ref arA1), (1, .int p2)]) hx hb dX7_runs_30 hl (k := 3) rfl rfl (by decide) rfl (fun ls hl => ?_)
        refine lv_goto (tgt := 4) hx hb dX7_runs_33 (by decide) ?_
        exact ih (x2 + (1 : Int32)) (x3 + 1) hM _ _ _ hP hD hS (lv_sub hl [2, 3, 1, 0] rfl)
set_option maxHeartbeats 4000000 in
set_option maxRecDepth 100000 in
theorem wX7_runs_b0 {p : Program} {l : Launch} {e : Env} {s : State} {m : MethodId} {args : Array Value} {below : List Frame} {meth : Method} {c : Code} {Q : State → Prop} {G : va_G} {K : Nat → ClassId} {A : Nat → Prop} (C0 : CX p s m args c cX7_runs 4 RX7 G K E0 A) (arA1 : Nat) (ar1 : Nat → Int32) (p2 : Int32) (r : Int32)  (kr : ∀ (H : Heap) (locs : List Loc) (ls : Array Slot) (pc : Nat), decode cX7_runs pc = .ok (.ireturn, 1) → va_P G vwCl [aI K arA1 207 ar1] H → va_D A [aI K arA1 207 ar1] → va_S A s.heap H locs → W p l e rmX7_runs s m args below meth c H locs 0 0 Q (F0 m pc ls [.int r]))  (hM : mX7_runs_b0 ar1 p2   = some r) : ∀ (H : Heap) (locs : List Loc) (ls : Array Slot), va_P G vwCl [aI K arA1 207 ar1] H → va_D A [aI K arA1 207 ar1] → va_S A s.heap H locs → lv_has ls 4 [(0, .ref arA1), (1, .int p2)] → W p l e rmX7_runs s m args below meth c H locs 0 0 Q (F0 m 0 ls []) := by
  obtain ⟨hx, hb, hml, hown, hts, hK, hA, hEo, hE⟩ := id C0
  intro H locs ls hP hD hS hl
  unfold mX7_runs_b0 at hM
  refine lv_iconst (v := 0) hx hb dX7_runs_0 (by decide) ?_
  refine lv_istore_n (lv' := [(2, .int (0 : Int32)), (0, .ref arA1), (1, .int p2)]) hx hb dX7_runs_1 rfl hl (by decide) rfl (fun ls hl => ?_)
  refine lv_iconst (v := 0) hx hb dX7_runs_2 (by decide) ?_
  refine lv_istore_n (lv' := [(3, .int (0 : Int32)), (2, .int (0 : Int32)), (0, .ref arA1), (1, .int p2)]) hx hb dX7_runs_3 rfl hl (by decide) rfl (fun ls hl => ?_)
  exact wX7_runs_b4 C0 arA1 ar1 p2 r kr  FU (0 : Int32) (0 : Int32) hM _ _ _ hP hD hS (lv_sub hl [2, 3, 1, 0] rfl)
set_option maxHeartbeats 4000000 in
set_option maxRecDepth 100000 in
theorem kX7_runs (l : Launch) (G : va_G) (K : Nat → ClassId) (arA1 : Nat) (ar1 : Nat → Int32) (p2 : Int32) (sz : Nat) (r : Int32)  (hM : mX7_runs ar1 p2 = some r) : Met l yX7_runs (mC yX7_runs cX7_runs 4 (some .int)) rmX7_runs (va_Pc [.ref arA1, .int p2] (PCe G K E0 [aI K arA1 207 ar1] sz)) (va_Qi (fun (x : Int32) (_ : Unit) => x = r) (fun _ t => va_P G vwCl [aI K arA1 207 ar1] t.heap) (va_A [aI K arA1 207 ar1] sz)) rmX7_runs.cells rmX7_runs.slots (va_A [aI K arA1 207 ar1] sz) := by
  refine Met.ofW (cc := cX7_runs) (maxL := 4) (ret := (some .int)) (by decide) rfl ?_
  intro p e s m args below meth c s₁ B hml hv
  obtain ⟨rfl, hsz, hP, hK, hD0, hE⟩ := hv
  have hx := B.exec
  have hb := B.bytes
  have hr := B.returns
  have hts0 := atoms_spec (ws := mC yX7_runs cX7_runs 4 (some .int)) B.pre
  have hts : ∀ w ∈ tbG, w.before _ s = true := fun w h => hts0 w (List.mem_cons_of_mem _ h)
  have hown : s.vm.findClass RX7 = some m.cls := findClass_of_methodNamed B.named
  subst hsz
  have hD := hD0.self (sz := s.heap.size)
  generalize hAe : va_A [aI K arA1 207 ar1] s.heap.size = A at hD hE ⊢
  have hA : ∀ q : Nat, s.heap.size ≤ q → A q := fun q h => by rw [← hAe]; exact Or.inr h
  have hS : va_S A s.heap s.heap [] := va_S.rf
  have hl := lv_entry ([.ref arA1, .int p2]) (n := 4) (Nat.le_of_ble_eq_true rfl)
  rw [lg_entry_eq]
  generalize (lg_sl ([.ref arA1, .int p2]) ++ List.replicate (4 - (lg_sl ([.ref arA1, .int p2])).length) Slot.unset).toArray = ls at hl ⊢
  have hl : lv_has ls 4 [(0, .ref arA1), (1, .int p2)] := hl
  exact wX7_runs_b0 ⟨hx, hb, hml, hown, hts, hK, hA, E0_ok, hE⟩ arA1 ar1 p2 r (fun H locs ls pc hdg hP hD hS => W.iret (v := r) hx hb hr (fun t ht hW => ⟨⟨r, (), rfl, rfl, by rw [ht]; exact hP⟩, hS.F ht⟩) hS.2.2 hdg)   hM _ _ _ hP hD hS hl
def rmX7_isMuteEnd : Room := { frames := 3, cells := 0, slots := 0, locals := 67 }
theorem hdX7_isMuteEnd : yX7_isMuteEnd.cls ≠ "java/lang/invoke/MethodHandle" ∧ yX7_isMuteEnd.cls ≠ "java/lang/invoke/VarHandle" ∧ (parseMethodDescriptor yX7_isMuteEnd.desc).map (fun d => d.parameters.length) = some 2 := by decide +kernel
set_option maxHeartbeats 4000000 in
set_option maxRecDepth 100000 in
theorem wX7_isMuteEnd_b0 {p : Program} {l : Launch} {e : Env} {s : State} {m : MethodId} {args : Array Value} {below : List Frame} {meth : Method} {c : Code} {Q : State → Prop} {G : va_G} {K : Nat → ClassId} {A : Nat → Prop} (C0 : CX p s m args c cX7_isMuteEnd 3 RX7 G K E0 A) (arA1 : Nat) (ar1 : Nat → Int32) (p2 : Int32) (r : Int32)  (kr : ∀ (H : Heap) (locs : List Loc) (ls : Array Slot) (pc : Nat), decode cX7_isMuteEnd pc = .ok (.ireturn, 1) → (r = 0 ∨ r = 1) → va_P G vwCl [aI K arA1 207 ar1] H → va_D A [aI K arA1 207 ar1] → va_S A s.heap H locs → W p l e rmX7_isMuteEnd s m args below meth c H locs 0 0 Q (F0 m pc ls [.int r]))  (hM : mX7_isMuteEnd_b0 ar1 p2   = some r) : ∀ (H : Heap) (locs : List Loc) (ls : Array Slot), va_P G vwCl [aI K arA1 207 ar1] H → va_D A [aI K arA1 207 ar1] → va_S A s.heap H locs → lv_has ls 3 [(0, .ref arA1), (1, .int p2)] → W p l e rmX7_isMuteEnd s m args below meth c H locs 0 0 Q (F0 m 0 ls []) := by
  obtain ⟨hx, hb, hml, hown, hts, hK, hA, hEo, hE⟩ := id C0
  intro H locs ls hP hD hS hl
  unfold mX7_isMuteEnd_b0 at hM
  refine lv_aload_n hx hb dX7_isMuteEnd_0 rfl (lv_at hl 0 rfl) ?_
  refine lv_iload_n hx hb dX7_isMuteEnd_1 rfl (lv_at hl 1 rfl) ?_
  obtain ⟨r_1, hC, hM⟩ := oe1 hM
  refine cS_i (As := [.ref arA1, .int p2]) (rest := []) C0 hP hD hS [0] (kX7_sizeOfWord l G K arA1 ar1 p2 H.size r_1 hC) rfl rfl rfl tb1034 tb1035 tb9 tb1036 hdX7_sizeOfWord ⟨Nat.le_of_ble_eq_true rfl, Nat.le_of_ble_eq_true rfl⟩ rfl hl.1 (Nat.le_of_ble_eq_true rfl) rfl ⟨Nat.le_refl _, Nat.le_refl _⟩ dX7_isMuteEnd_2 (fun H locs hP hD hS => ?_)
  have hP : va_P G vwCl [aI K arA1 207 ar1] H := hP
  have hD : va_D A [aI K arA1 207 ar1] := hD
  refine lv_iconst (v := 1) hx hb dX7_isMuteEnd_5 (by decide) ?_
  refine lv_isub hx hb dX7_isMuteEnd_6 ?_
  refine lv_istore_n (lv' := [(2, .int (r_1 - (1 : Int32))), (0, .ref arA1), (1, .int p2)]) hx hb dX7_isMuteEnd_7 rfl hl (by decide) rfl (fun ls hl => ?_)
  refine lv_aload_n hx hb dX7_isMuteEnd_8 rfl (lv_at hl 1 rfl) ?_
  refine lv_iload_n hx hb dX7_isMuteEnd_9 rfl (lv_at hl 2 rfl) ?_
  refine lv_iload_n hx hb dX7_isMuteEnd_10 rfl (lv_at hl 0 rfl) ?_
  obtain ⟨r_2, hC, hM⟩ := oe1 hM
  refine cS_i (As := [.ref arA1, .int p2, .int (r_1 - (1 : Int32))]) (rest := []) C0 hP hD hS [0] (kX7_letterOf l G K arA1 ar1 p2 (r_1 - (1 : Int32)) H.size r_2 hC) rfl rfl rfl tb1037 tb1038 tb9 tb1039 hdX7_letterOf ⟨Nat.le_of_ble_eq_true rfl, Nat.le_of_ble_eq_true rfl⟩ rfl hl.1 (Nat.le_of_ble_eq_true rfl) rfl ⟨Nat.le_refl _, Nat.le_refl _⟩ dX7_isMuteEnd_11 (fun H locs hP hD hS => ?_)
  have hP : va_P G vwCl [aI K arA1 207 ar1] H := hP
  have hD : va_D A [aI K arA1 207 ar1] := hD
  refine lv_iconst (v := 4) hx hb dX7_isMuteEnd_14 (by decide) ?_
  refine lv_icmp_ne (tgt := 40) hx hb dX7_isMuteEnd_15 (by decide) (fun c_3 => ?_) (fun c_3 => ?_)
  · rw [if_pos c_3] at hM
    refine lv_iconst (v := 0) hx hb dX7_isMuteEnd_40 (by decide) ?_
    cases hM
    exact kr _ _ _ _ dX7_isMuteEnd_41 (by decide) hP hD hS
  · rw [if_neg c_3] at hM
    refine lv_aload_n hx hb dX7_isMuteEnd_18 rfl (lv_at hl 1 rfl) ?_
    refine lv_iload_n hx hb dX7_isMuteEnd_19 rfl (lv_at hl 2 rfl) ?_
    refine lv_iload_n hx hb dX7_isMuteEnd_20 rfl (lv_at hl 0 rfl) ?_
    obtain ⟨r_4, hC, hM⟩ := oe1 hM
    refine cS_i (As := [.ref arA1, .int p2, .int (r_1 - (1 : Int32))]) (rest := []) C0 hP hD hS [0] (kX7_isRun l G K arA1 ar1 p2 (r_1 - (1 : Int32)) H.size r_4 hC) rfl rfl rfl tb1046 tb1047 tb9 tb1048 hdX7_isRun ⟨Nat.le_of_ble_eq_true rfl, Nat.le_of_ble_eq_true rfl⟩ rfl hl.1 (Nat.le_of_ble_eq_true rfl) rfl ⟨Nat.le_refl _, Nat.le_refl _⟩ dX7_isMuteEnd_21 (fun H locs hP hD hS => ?_)
    have hP : va_P G vwCl [aI K arA1 207 ar1] H := hP
    have hD : va_D A [aI K arA1 207 ar1] := hD
    refine lv_if_eq (tgt := 40) hx hb dX7_isMuteEnd_24 (by decide) (fun c_5 => ?_) (fun c_5 => ?_)
    · rw [if_pos c_5] at hM
      refine lv_iconst (v := 0) hx hb dX7_isMuteEnd_40 (by decide) ?_
      cases hM
      exact kr _ _ _ _ dX7_isMuteEnd_41 (by decide) hP hD hS
    · rw [if_neg c_5] at hM
      refine lv_aload_n hx hb dX7_isMuteEnd_27 rfl (lv_at hl 1 rfl) ?_
      refine lv_iload_n hx hb dX7_isMuteEnd_28 rfl (lv_at hl 2 rfl) ?_
      obtain ⟨r_6, hC, hM⟩ := oe1 hM
      refine cS_i (As := [.ref arA1, .int p2]) (rest := []) C0 hP hD hS [0] (kX7_runs l G K arA1 ar1 p2 H.size r_6 hC) rfl rfl rfl tb1043 tb1044 tb9 tb1045 hdX7_runs ⟨Nat.le_of_ble_eq_true rfl, Nat.le_of_ble_eq_true rfl⟩ rfl hl.1 (Nat.le_of_ble_eq_true rfl) rfl ⟨Nat.le_refl _, Nat.le_refl _⟩ dX7_isMuteEnd_29 (fun H locs hP hD hS => ?_)
      have hP : va_P G vwCl [aI K arA1 207 ar1] H := hP
      have hD : va_D A [aI K arA1 207 ar1] := hD
      refine lv_iconst (v := 1) hx hb dX7_isMuteEnd_32 (by decide) ?_
      refine lv_icmp_le (tgt := 40) hx hb dX7_isMuteEnd_33 (by decide) (fun c_7 => ?_) (fun c_7 => ?_)
      · rw [if_pos c_7] at hM
        refine lv_iconst (v := 0) hx hb dX7_isMuteEnd_40 (by decide) ?_
        cases hM
        exact kr _ _ _ _ dX7_isMuteEnd_41 (by decide) hP hD hS
      · rw [if_neg c_7] at hM
        refine lv_iconst (v := 1) hx hb dX7_isMuteEnd_36 (by decide) ?_
        refine lv_goto (tgt := 41) hx hb dX7_isMuteEnd_37 (by decide) ?_
        cases hM
        exact kr _ _ _ _ dX7_isMuteEnd_41 (by decide) hP hD hS
set_option maxHeartbeats 4000000 in
set_option maxRecDepth 100000 in
theorem kX7_isMuteEnd (l : Launch) (G : va_G) (K : Nat → ClassId) (arA1 : Nat) (ar1 : Nat → Int32) (p2 : Int32) (sz : Nat) (r : Int32)  (hM : mX7_isMuteEnd ar1 p2 = some r) : Met l yX7_isMuteEnd (mC yX7_isMuteEnd cX7_isMuteEnd 3 (some .boolean)) rmX7_isMuteEnd (va_Pc [.ref arA1, .int p2] (PCe G K E0 [aI K arA1 207 ar1] sz)) (va_Qi (fun (x : Int32) (_ : Unit) => x = r) (fun _ t => va_P G vwCl [aI K arA1 207 ar1] t.heap) (va_A [aI K arA1 207 ar1] sz)) rmX7_isMuteEnd.cells rmX7_isMuteEnd.slots (va_A [aI K arA1 207 ar1] sz) := by
  refine Met.ofW (cc := cX7_isMuteEnd) (maxL := 3) (ret := (some .boolean)) (by decide) rfl ?_
  intro p e s m args below meth c s₁ B hml hv
  obtain ⟨rfl, hsz, hP, hK, hD0, hE⟩ := hv
  have hx := B.exec
  have hb := B.bytes
  have hr := B.returns
  have hts0 := atoms_spec (ws := mC yX7_isMuteEnd cX7_isMuteEnd 3 (some .boolean)) B.pre
  have hts : ∀ w ∈ tbG, w.before _ s = true := fun w h => hts0 w (List.mem_cons_of_mem _ h)
  have hown : s.vm.findClass RX7 = some m.cls := findClass_of_methodNamed B.named
  subst hsz
  have hD := hD0.self (sz := s.heap.size)
  generalize hAe : va_A [aI K arA1 207 ar1] s.heap.size = A at hD hE ⊢
  have hA : ∀ q : Nat, s.heap.size ≤ q → A q := fun q h => by rw [← hAe]; exact Or.inr h
  have hS : va_S A s.heap s.heap [] := va_S.rf
  have hl := lv_entry ([.ref arA1, .int p2]) (n := 3) (Nat.le_of_ble_eq_true rfl)
  rw [lg_entry_eq]
  generalize (lg_sl ([.ref arA1, .int p2]) ++ List.replicate (3 - (lg_sl ([.ref arA1, .int p2])).length) Slot.unset).toArray = ls at hl ⊢
  have hl : lv_has ls 3 [(0, .ref arA1), (1, .int p2)] := hl
  exact wX7_isMuteEnd_b0 ⟨hx, hb, hml, hown, hts, hK, hA, E0_ok, hE⟩ arA1 ar1 p2 r (fun H locs ls pc hdg hz hP hD hS => W.zret (v := r) (ty := .boolean) hx hb hr (nar_b hz) (fun t ht hW => ⟨⟨r, (), rfl, rfl, by rw [ht]; exact hP⟩, hS.F ht⟩) hS.2.2 hdg)   hM _ _ _ hP hD hS hl
def rmX7_syllables : Room := { frames := 4, cells := 0, slots := 0, locals := 89 }
theorem hdX7_syllables : yX7_syllables.cls ≠ "java/lang/invoke/MethodHandle" ∧ yX7_syllables.cls ≠ "java/lang/invoke/VarHandle" ∧ (parseMethodDescriptor yX7_syllables.desc).map (fun d => d.parameters.length) = some 2 := by decide +kernel
set_option maxHeartbeats 4000000 in
set_option maxRecDepth 100000 in
theorem wX7_syllables_b0 {p : Program} {l : Launch} {e : Env} {s : State} {m : MethodId} {args : Array Value} {below : List Frame} {meth : Method} {c : Code} {Q : State → Prop} {G : va_G} {K : Nat → ClassId} {A : Nat → Prop} (C0 : CX p s m args c cX7_syllables 2 RX7 G K E0 A) (arA1 : Nat) (ar1 : Nat → Int32) (p2 : Int32) (r : Int32)  (kr : ∀ (H : Heap) (locs : List Loc) (ls : Array Slot) (pc : Nat), decode cX7_syllables pc = .ok (.ireturn, 1) → va_P G vwCl [aI K arA1 207 ar1] H → va_D A [aI K arA1 207 ar1] → va_S A s.heap H locs → W p l e rmX7_syllables s m args below meth c H locs 0 0 Q (F0 m pc ls [.int r]))  (hM : mX7_syllables_b0 ar1 p2   = some r) : ∀ (H : Heap) (locs : List Loc) (ls : Array Slot), va_P G vwCl [aI K arA1 207 ar1] H → va_D A [aI K arA1 207 ar1] → va_S A s.heap H locs → lv_has ls 2 [(0, .ref arA1), (1, .int p2)] → W p l e rmX7_syllables s m args below meth c H locs 0 0 Q (F0 m 0 ls []) := by
  obtain ⟨hx, hb, hml, hown, hts, hK, hA, hEo, hE⟩ := id C0
  intro H locs ls hP hD hS hl
  unfold mX7_syllables_b0 at hM
  refine lv_aload_n hx hb dX7_syllables_0 rfl (lv_at hl 0 rfl) ?_
  refine lv_iload_n hx hb dX7_syllables_1 rfl (lv_at hl 1 rfl) ?_
  obtain ⟨r_1, hC, hM⟩ := oe1 hM
  refine cS_i (As := [.ref arA1, .int p2]) (rest := []) C0 hP hD hS [0] (kX7_runs l G K arA1 ar1 p2 H.size r_1 hC) rfl rfl rfl tb1043 tb1044 tb9 tb1045 hdX7_runs ⟨Nat.le_of_ble_eq_true rfl, Nat.le_of_ble_eq_true rfl⟩ rfl hl.1 (Nat.le_of_ble_eq_true rfl) rfl ⟨Nat.le_refl _, Nat.le_refl _⟩ dX7_syllables_2 (fun H locs hP hD hS => ?_)
  have hP : va_P G vwCl [aI K arA1 207 ar1] H := hP
  have hD : va_D A [aI K arA1 207 ar1] := hD
  refine lv_aload_n hx hb dX7_syllables_5 rfl (lv_at hl 0 rfl) ?_
  refine lv_iload_n hx hb dX7_syllables_6 rfl (lv_at hl 1 rfl) ?_
  obtain ⟨r_2, hC, hM⟩ := oe1 hM
  refine cS_i (As := [.ref arA1, .int p2]) (rest := [.int r_1]) C0 hP hD hS [0] (kX7_isMuteEnd l G K arA1 ar1 p2 H.size r_2 hC) rfl rfl rfl tb1049 tb1050 tb9 tb1051 hdX7_isMuteEnd ⟨Nat.le_of_ble_eq_true rfl, Nat.le_of_ble_eq_true rfl⟩ rfl hl.1 (Nat.le_of_ble_eq_true rfl) rfl ⟨Nat.le_refl _, Nat.le_refl _⟩ dX7_syllables_7 (fun H locs hP hD hS => ?_)
  have hP : va_P G vwCl [aI K arA1 207 ar1] H := hP
  have hD : va_D A [aI K arA1 207 ar1] := hD
  refine lv_if_eq (tgt := 17) hx hb dX7_syllables_10 (by decide) (fun c_3 => ?_) (fun c_3 => ?_)
  · rw [if_pos c_3] at hM
    refine lv_iconst (v := 0) hx hb dX7_syllables_17 (by decide) ?_
    refine lv_isub hx hb dX7_syllables_18 ?_
    cases hM
    exact kr _ _ _ _ dX7_syllables_19 hP hD hS
  · rw [if_neg c_3] at hM
    refine lv_iconst (v := 1) hx hb dX7_syllables_13 (by decide) ?_
    refine lv_goto (tgt := 18) hx hb dX7_syllables_14 (by decide) ?_
    refine lv_isub hx hb dX7_syllables_18 ?_
    cases hM
    exact kr _ _ _ _ dX7_syllables_19 hP hD hS
set_option maxHeartbeats 4000000 in
set_option maxRecDepth 100000 in
theorem kX7_syllables (l : Launch) (G : va_G) (K : Nat → ClassId) (arA1 : Nat) (ar1 : Nat → Int32) (p2 : Int32) (sz : Nat) (r : Int32)  (hM : mX7_syllables ar1 p2 = some r) : Met l yX7_syllables (mC yX7_syllables cX7_syllables 2 (some .int)) rmX7_syllables (va_Pc [.ref arA1, .int p2] (PCe G K E0 [aI K arA1 207 ar1] sz)) (va_Qi (fun (x : Int32) (_ : Unit) => x = r) (fun _ t => va_P G vwCl [aI K arA1 207 ar1] t.heap) (va_A [aI K arA1 207 ar1] sz)) rmX7_syllables.cells rmX7_syllables.slots (va_A [aI K arA1 207 ar1] sz) := by
  refine Met.ofW (cc := cX7_syllables) (maxL := 2) (ret := (some .int)) (by decide) rfl ?_
  intro p e s m args below meth c s₁ B hml hv
  obtain ⟨rfl, hsz, hP, hK, hD0, hE⟩ := hv
  have hx := B.exec
  have hb := B.bytes
  have hr := B.returns
  have hts0 := atoms_spec (ws := mC yX7_syllables cX7_syllables 2 (some .int)) B.pre
  have hts : ∀ w ∈ tbG, w.before _ s = true := fun w h => hts0 w (List.mem_cons_of_mem _ h)
  have hown : s.vm.findClass RX7 = some m.cls := findClass_of_methodNamed B.named
  subst hsz
  have hD := hD0.self (sz := s.heap.size)
  generalize hAe : va_A [aI K arA1 207 ar1] s.heap.size = A at hD hE ⊢
  have hA : ∀ q : Nat, s.heap.size ≤ q → A q := fun q h => by rw [← hAe]; exact Or.inr h
  have hS : va_S A s.heap s.heap [] := va_S.rf
  have hl := lv_entry ([.ref arA1, .int p2]) (n := 2) (Nat.le_of_ble_eq_true rfl)
  rw [lg_entry_eq]
  generalize (lg_sl ([.ref arA1, .int p2]) ++ List.replicate (2 - (lg_sl ([.ref arA1, .int p2])).length) Slot.unset).toArray = ls at hl ⊢
  have hl : lv_has ls 2 [(0, .ref arA1), (1, .int p2)] := hl
  exact wX7_syllables_b0 ⟨hx, hb, hml, hown, hts, hK, hA, E0_ok, hE⟩ arA1 ar1 p2 r (fun H locs ls pc hdg hP hD hS => W.iret (v := r) hx hb hr (fun t ht hW => ⟨⟨r, (), rfl, rfl, by rw [ht]; exact hP⟩, hS.F ht⟩) hS.2.2 hdg)   hM _ _ _ hP hD hS hl
