abbrev WX7_begin (K : Nat → ClassId) (m_a mA_lane mA_many mA_item mA_poem mA_fresh mA_then mA_was mA_tape mA_strengths mA_sounds mA_stand mA_scheme mA_isKept mA_kept mA_trace : Nat) (m_thrown : Int32) (m_status : Int32) (m_acts : Int32) (m_taped : Int32) (m_cursor : Int32) (m_start : Int32) (m_token : Int32) (m_value : Int32) (m_fault : Int32) (m_faultAt : Int32) (m_latest : Int32) (m_stands : Int32) (m_least : Int32) (m_ways : Int32) (m_nearFoot : Int32) (m_nearFeet : Int32) (m_nearCost : Int32) (m_traced : Int32) (m_tape : Nat → Int32) : va_W := [(m_a, .inr (7, [.int m_thrown, .int m_status, .ref mA_lane, .ref mA_many, .ref mA_item, .ref mA_poem, .ref mA_fresh, .ref mA_then, .ref mA_was, .int m_acts, .ref mA_tape, .int m_taped, .int m_cursor, .int m_start, .int m_token, .int m_value, .int m_fault, .int m_faultAt, .int m_latest, .ref mA_strengths, .ref mA_sounds, .ref mA_stand, .int m_stands, .int m_least, .int m_ways, .ref mA_scheme, .int m_nearFoot, .int m_nearFeet, .int m_nearCost, .ref mA_isKept, .ref mA_kept, .ref mA_trace, .int m_traced])), aI K mA_tape 130 m_tape]
def rmX7_begin : Room := { frames := 2, cells := 0, slots := 0, locals := 45 }
theorem hdX7_begin : yX7_begin.cls = RX7 ∧ yX7_begin.cls ≠ "java/lang/invoke/MethodHandle" ∧ yX7_begin.cls ≠ "java/lang/invoke/VarHandle" ∧ (parseMethodDescriptor yX7_begin.desc).map (fun d => d.parameters.length) = some 0 := by decide +kernel
set_option maxHeartbeats 4000000 in
set_option maxRecDepth 100000 in
theorem wX7_begin_b0 {p : Program} {l : Launch} {e : Env} {s : State} {m : MethodId} {args : Array Value} {below : List Frame} {meth : Method} {c : Code} {Q : State → Prop} {G : va_G} {K : Nat → ClassId} {A : Nat → Prop} (C0 : CX p s m args c cX7_begin 1 RX7 G K E0 A) (m_a mA_lane mA_many mA_item mA_poem mA_fresh mA_then mA_was mA_tape mA_strengths mA_sounds mA_stand mA_scheme mA_isKept mA_kept mA_trace : Nat) (m_thrown : Int32) (m_status : Int32) (m_acts : Int32) (m_taped : Int32) (m_faultAt : Int32) (m_latest : Int32) (m_stands : Int32) (m_least : Int32) (m_ways : Int32) (m_nearFoot : Int32) (m_nearFeet : Int32) (m_nearCost : Int32) (m_traced : Int32) (m_tape : Nat → Int32)  (o_m_cursor : Int32) (o_m_start : Int32) (o_m_token : Int32) (o_m_value : Int32) (o_m_fault : Int32) (kr : ∀ (H : Heap) (locs : List Loc) (ls : Array Slot) (pc : Nat), decode cX7_begin pc = .ok (.return_, 1) → va_P G vwCl (WX7_begin K m_a mA_lane mA_many mA_item mA_poem mA_fresh mA_then mA_was mA_tape mA_strengths mA_sounds mA_stand mA_scheme mA_isKept mA_kept mA_trace m_thrown m_status m_acts m_taped o_m_cursor o_m_start o_m_token o_m_value o_m_fault m_faultAt m_latest m_stands m_least m_ways m_nearFoot m_nearFeet m_nearCost m_traced m_tape) H → va_D A (WX7_begin K m_a mA_lane mA_many mA_item mA_poem mA_fresh mA_then mA_was mA_tape mA_strengths mA_sounds mA_stand mA_scheme mA_isKept mA_kept mA_trace m_thrown m_status m_acts m_taped o_m_cursor o_m_start o_m_token o_m_value o_m_fault m_faultAt m_latest m_stands m_least m_ways m_nearFoot m_nearFeet m_nearCost m_traced m_tape) → va_S A s.heap H locs → W p l e rmX7_begin s m args below meth c H locs 0 0 Q (F0 m pc ls [])) (m_cursor : Int32) (m_start : Int32) (m_token : Int32) (m_value : Int32) (m_fault : Int32) (hM : mX7_begin_b0 m_taped m_tape  m_cursor m_start m_token m_value m_fault = some (o_m_cursor, o_m_start, o_m_token, o_m_value, o_m_fault)) : ∀ (H : Heap) (locs : List Loc) (ls : Array Slot), va_P G vwCl (WX7_begin K m_a mA_lane mA_many mA_item mA_poem mA_fresh mA_then mA_was mA_tape mA_strengths mA_sounds mA_stand mA_scheme mA_isKept mA_kept mA_trace m_thrown m_status m_acts m_taped m_cursor m_start m_token m_value m_fault m_faultAt m_latest m_stands m_least m_ways m_nearFoot m_nearFeet m_nearCost m_traced m_tape) H → va_D A (WX7_begin K m_a mA_lane mA_many mA_item mA_poem mA_fresh mA_then mA_was mA_tape mA_strengths mA_sounds mA_stand mA_scheme mA_isKept mA_kept mA_trace m_thrown m_status m_acts m_taped m_cursor m_start m_token m_value m_fault m_faultAt m_latest m_stands m_least m_ways m_nearFoot m_nearFeet m_nearCost m_traced m_tape) → va_S A s.heap H locs → lv_has ls 1 [(0, .ref m_a)] → W p l e rmX7_begin s m args below meth c H locs 0 0 Q (F0 m 0 ls []) := by
  obtain ⟨hx, hb, hml, hown, hts, hK, hA, hEo, hE⟩ := id C0
  intro H locs ls hP hD hS hl
  unfold mX7_begin_b0 at hM
  refine lv_aload_n hx hb dX7_begin_0 rfl (lv_at hl 0 rfl) ?_
  refine lv_iconst (v := 0) hx hb dX7_begin_1 (by decide) ?_
  refine va_put (D := G) (ci := 7) (v := .int (0 : Int32)) (ty := .int) (C := RX7) (T := TX7) (N := 33) hx hb hts inX7 tyX7 tyX7_ok nmX7 hown hK hP hD hS 0 rfl rfl 12 (by decide) (hts _ tb776) (fun _ h9 => h9) rfl (tyX7_ok 12 (by decide)) rfl rfl (Nat.le_of_ble_eq_true rfl) dX7_begin_2 (fun H locs hP hD hS => ?_)
  have hP : va_P G vwCl (WX7_begin K m_a mA_lane mA_many mA_item mA_poem mA_fresh mA_then mA_was mA_tape mA_strengths mA_sounds mA_stand mA_scheme mA_isKept mA_kept mA_trace m_thrown m_status m_acts m_taped (0 : Int32) m_start m_token m_value m_fault m_faultAt m_latest m_stands m_least m_ways m_nearFoot m_nearFeet m_nearCost m_traced m_tape) H := hP
  have hD : va_D A (WX7_begin K m_a mA_lane mA_many mA_item mA_poem mA_fresh mA_then mA_was mA_tape mA_strengths mA_sounds mA_stand mA_scheme mA_isKept mA_kept mA_trace m_thrown m_status m_acts m_taped (0 : Int32) m_start m_token m_value m_fault m_faultAt m_latest m_stands m_least m_ways m_nearFoot m_nearFeet m_nearCost m_traced m_tape) := hD
  refine lv_aload_n hx hb dX7_begin_5 rfl (lv_at hl 0 rfl) ?_
  refine lv_iconst (v := 0) hx hb dX7_begin_6 (by decide) ?_
  refine va_put (D := G) (ci := 7) (v := .int (0 : Int32)) (ty := .int) (C := RX7) (T := TX7) (N := 33) hx hb hts inX7 tyX7 tyX7_ok nmX7 hown hK hP hD hS 0 rfl rfl 16 (by decide) (hts _ tb780) (fun _ h9 => h9) rfl (tyX7_ok 16 (by decide)) rfl rfl (Nat.le_of_ble_eq_true rfl) dX7_begin_7 (fun H locs hP hD hS => ?_)
  have hP : va_P G vwCl (WX7_begin K m_a mA_lane mA_many mA_item mA_poem mA_fresh mA_then mA_was mA_tape mA_strengths mA_sounds mA_stand mA_scheme mA_isKept mA_kept mA_trace m_thrown m_status m_acts m_taped (0 : Int32) m_start m_token m_value (0 : Int32) m_faultAt m_latest m_stands m_least m_ways m_nearFoot m_nearFeet m_nearCost m_traced m_tape) H := hP
  have hD : va_D A (WX7_begin K m_a mA_lane mA_many mA_item mA_poem mA_fresh mA_then mA_was mA_tape mA_strengths mA_sounds mA_stand mA_scheme mA_isKept mA_kept mA_trace m_thrown m_status m_acts m_taped (0 : Int32) m_start m_token m_value (0 : Int32) m_faultAt m_latest m_stands m_least m_ways m_nearFoot m_nearFeet m_nearCost m_traced m_tape) := hD
  refine lv_aload_n hx hb dX7_begin_10 rfl (lv_at hl 0 rfl) ?_
  obtain ⟨u0_1, u1_1, u2_1, u3_1, hC, hM⟩ := oe4 hM
  refine cV_v (As := []) (rest := []) C0 hP hD hS [0, 1] (kX7_nextToken l G K m_a mA_lane mA_many mA_item mA_poem mA_fresh mA_then mA_was mA_tape mA_strengths mA_sounds mA_stand mA_scheme mA_isKept mA_kept mA_trace m_thrown m_status m_acts m_taped (0 : Int32) m_start m_token m_value (0 : Int32) m_faultAt m_latest m_stands m_least m_ways m_nearFoot m_nearFeet m_nearCost m_traced m_tape H.size u0_1 u1_1 u2_1 u3_1 hC) rfl rfl rfl tb913 tb915 tp15 tb9 tb916 hdX7_nextToken (va_recv hK hP (ci := 7) (q0 := 0) rfl rfl) ⟨Nat.le_of_ble_eq_true rfl, Nat.le_of_ble_eq_true rfl⟩ rfl hl.1 (Nat.le_of_ble_eq_true rfl) rfl ⟨Nat.le_refl _, Nat.le_refl _⟩ dX7_begin_11 (fun H locs hP hD hS => ?_)
  have hP : va_P G vwCl (WX7_begin K m_a mA_lane mA_many mA_item mA_poem mA_fresh mA_then mA_was mA_tape mA_strengths mA_sounds mA_stand mA_scheme mA_isKept mA_kept mA_trace m_thrown m_status m_acts m_taped u0_1 u1_1 u2_1 u3_1 (0 : Int32) m_faultAt m_latest m_stands m_least m_ways m_nearFoot m_nearFeet m_nearCost m_traced m_tape) H := hP
  have hD : va_D A (WX7_begin K m_a mA_lane mA_many mA_item mA_poem mA_fresh mA_then mA_was mA_tape mA_strengths mA_sounds mA_stand mA_scheme mA_isKept mA_kept mA_trace m_thrown m_status m_acts m_taped u0_1 u1_1 u2_1 u3_1 (0 : Int32) m_faultAt m_latest m_stands m_least m_ways m_nearFoot m_nearFeet m_nearCost m_traced m_tape) := hD
  have t0 := Option.some.inj hM
  obtain ⟨q1, t1⟩ := Prod.mk.inj t0
  obtain ⟨q2, t2⟩ := Prod.mk.inj t1
  obtain ⟨q3, t3⟩ := Prod.mk.inj t2
  obtain ⟨q4, t4⟩ := Prod.mk.inj t3
  subst q1
  subst q2
  subst q3
  subst q4
  subst t4
  exact kr _ _ _ _ dX7_begin_14 hP hD hS
set_option maxHeartbeats 4000000 in
set_option maxRecDepth 100000 in
theorem kX7_begin (l : Launch) (G : va_G) (K : Nat → ClassId) (m_a mA_lane mA_many mA_item mA_poem mA_fresh mA_then mA_was mA_tape mA_strengths mA_sounds mA_stand mA_scheme mA_isKept mA_kept mA_trace : Nat) (m_thrown : Int32) (m_status : Int32) (m_acts : Int32) (m_taped : Int32) (m_cursor : Int32) (m_start : Int32) (m_token : Int32) (m_value : Int32) (m_fault : Int32) (m_faultAt : Int32) (m_latest : Int32) (m_stands : Int32) (m_least : Int32) (m_ways : Int32) (m_nearFoot : Int32) (m_nearFeet : Int32) (m_nearCost : Int32) (m_traced : Int32) (m_tape : Nat → Int32)  (sz : Nat) (o_m_cursor : Int32) (o_m_start : Int32) (o_m_token : Int32) (o_m_value : Int32) (o_m_fault : Int32) (hM : mX7_begin m_taped m_tape m_cursor m_start m_token m_value m_fault = some (o_m_cursor, o_m_start, o_m_token, o_m_value, o_m_fault)) : Met l yX7_begin (mC yX7_begin cX7_begin 1 none) rmX7_begin (va_Pc [.ref m_a] (PCe G K E0 (WX7_begin K m_a mA_lane mA_many mA_item mA_poem mA_fresh mA_then mA_was mA_tape mA_strengths mA_sounds mA_stand mA_scheme mA_isKept mA_kept mA_trace m_thrown m_status m_acts m_taped m_cursor m_start m_token m_value m_fault m_faultAt m_latest m_stands m_least m_ways m_nearFoot m_nearFeet m_nearCost m_traced m_tape) sz)) (va_Qv (fun (_ : Unit) => True) (fun _ t => va_P G vwCl (WX7_begin K m_a mA_lane mA_many mA_item mA_poem mA_fresh mA_then mA_was mA_tape mA_strengths mA_sounds mA_stand mA_scheme mA_isKept mA_kept mA_trace m_thrown m_status m_acts m_taped o_m_cursor o_m_start o_m_token o_m_value o_m_fault m_faultAt m_latest m_stands m_least m_ways m_nearFoot m_nearFeet m_nearCost m_traced m_tape) t.heap) (va_A (WX7_begin K m_a mA_lane mA_many mA_item mA_poem mA_fresh mA_then mA_was mA_tape mA_strengths mA_sounds mA_stand mA_scheme mA_isKept mA_kept mA_trace m_thrown m_status m_acts m_taped m_cursor m_start m_token m_value m_fault m_faultAt m_latest m_stands m_least m_ways m_nearFoot m_nearFeet m_nearCost m_traced m_tape) sz)) rmX7_begin.cells rmX7_begin.slots (va_A (WX7_begin K m_a mA_lane mA_many mA_item mA_poem mA_fresh mA_then mA_was mA_tape mA_strengths mA_sounds mA_stand mA_scheme mA_isKept mA_kept mA_trace m_thrown m_status m_acts m_taped m_cursor m_start m_token m_value m_fault m_faultAt m_latest m_stands m_least m_ways m_nearFoot m_nearFeet m_nearCost m_traced m_tape) sz) := by
  refine Met.ofW (cc := cX7_begin) (maxL := 1) (ret := none) (by decide) rfl ?_
  intro p e s m args below meth c s₁ B hml hv
  obtain ⟨rfl, hsz, hP, hK, hD0, hE⟩ := hv
  have hx := B.exec
  have hb := B.bytes
  have hr := B.returns
  have hts0 := atoms_spec (ws := mC yX7_begin cX7_begin 1 none) B.pre
  have hts : ∀ w ∈ tbG, w.before _ s = true := fun w h => hts0 w (List.mem_cons_of_mem _ h)
  have hown : s.vm.findClass RX7 = some m.cls := findClass_of_methodNamed B.named
  subst hsz
  have hD := hD0.self (sz := s.heap.size)
  generalize hAe : va_A (WX7_begin K m_a mA_lane mA_many mA_item mA_poem mA_fresh mA_then mA_was mA_tape mA_strengths mA_sounds mA_stand mA_scheme mA_isKept mA_kept mA_trace m_thrown m_status m_acts m_taped m_cursor m_start m_token m_value m_fault m_faultAt m_latest m_stands m_least m_ways m_nearFoot m_nearFeet m_nearCost m_traced m_tape) s.heap.size = A at hD hE ⊢
  have hA : ∀ q : Nat, s.heap.size ≤ q → A q := fun q h => by rw [← hAe]; exact Or.inr h
  have hS : va_S A s.heap s.heap [] := va_S.rf
  have hl := lv_entry ([.ref m_a]) (n := 1) (Nat.le_of_ble_eq_true rfl)
  rw [lg_entry_eq]
  generalize (lg_sl ([.ref m_a]) ++ List.replicate (1 - (lg_sl ([.ref m_a])).length) Slot.unset).toArray = ls at hl ⊢
  have hl : lv_has ls 1 [(0, .ref m_a)] := hl
  exact wX7_begin_b0 ⟨hx, hb, hml, hown, hts, hK, hA, E0_ok, hE⟩ m_a mA_lane mA_many mA_item mA_poem mA_fresh mA_then mA_was mA_tape mA_strengths mA_sounds mA_stand mA_scheme mA_isKept mA_kept mA_trace m_thrown m_status m_acts m_taped m_faultAt m_latest m_stands m_least m_ways m_nearFoot m_nearFeet m_nearCost m_traced m_tape o_m_cursor o_m_start o_m_token o_m_value o_m_fault (fun H locs ls pc hdg hP hD hS => W.vret hx hb hr (fun t ht hW => ⟨⟨(), rfl, trivial, (show va_P G vwCl _ t.heap by rw [ht]; exact hP)⟩, hS.F ht⟩) hS.2.2 hdg) m_cursor m_start m_token m_value m_fault  hM _ _ _ hP hD hS hl
abbrev WX7_failed (K : Nat → ClassId) (m_a mA_lane mA_many mA_item mA_poem mA_fresh mA_then mA_was mA_tape mA_strengths mA_sounds mA_stand mA_scheme mA_isKept mA_kept mA_trace : Nat) (m_thrown : Int32) (m_status : Int32) (m_acts : Int32) (m_taped : Int32) (m_cursor : Int32) (m_start : Int32) (m_token : Int32) (m_value : Int32) (m_fault : Int32) (m_faultAt : Int32) (m_latest : Int32) (m_stands : Int32) (m_least : Int32) (m_ways : Int32) (m_nearFoot : Int32) (m_nearFeet : Int32) (m_nearCost : Int32) (m_traced : Int32) : va_W := [(m_a, .inr (7, [.int m_thrown, .int m_status, .ref mA_lane, .ref mA_many, .ref mA_item, .ref mA_poem, .ref mA_fresh, .ref mA_then, .ref mA_was, .int m_acts, .ref mA_tape, .int m_taped, .int m_cursor, .int m_start, .int m_token, .int m_value, .int m_fault, .int m_faultAt, .int m_latest, .ref mA_strengths, .ref mA_sounds, .ref mA_stand, .int m_stands, .int m_least, .int m_ways, .ref mA_scheme, .int m_nearFoot, .int m_nearFeet, .int m_nearCost, .ref mA_isKept, .ref mA_kept, .ref mA_trace, .int m_traced]))]
def rmX7_failed : Room := { frames := 1, cells := 0, slots := 0, locals := 21 }
theorem hdX7_failed : yX7_failed.cls = RX7 ∧ yX7_failed.cls ≠ "java/lang/invoke/MethodHandle" ∧ yX7_failed.cls ≠ "java/lang/invoke/VarHandle" ∧ (parseMethodDescriptor yX7_failed.desc).map (fun d => d.parameters.length) = some 0 := by decide +kernel
set_option maxHeartbeats 4000000 in
set_option maxRecDepth 100000 in
theorem wX7_failed_b44 {p : Program} {l : Launch} {e : Env} {s : State} {m : MethodId} {args : Array Value} {below : List Frame} {meth : Method} {c : Code} {Q : State → Prop} {G : va_G} {K : Nat → ClassId} {A : Nat → Prop} (C0 : CX p s m args c cX7_failed 1 RX7 G K E0 A) (m_a mA_lane mA_many mA_item mA_poem mA_fresh mA_then mA_was mA_tape mA_strengths mA_sounds mA_stand mA_scheme mA_isKept mA_kept mA_trace : Nat) (m_thrown : Int32) (m_status : Int32) (m_acts : Int32) (m_cursor : Int32) (m_start : Int32) (m_token : Int32) (m_value : Int32) (m_stands : Int32) (m_least : Int32) (m_ways : Int32) (m_nearFoot : Int32) (m_nearFeet : Int32) (m_nearCost : Int32) (m_traced : Int32)  (r : Int32) (o_m_taped : Int32) (o_m_fault : Int32) (o_m_faultAt : Int32) (o_m_latest : Int32) (kr : ∀ (H : Heap) (locs : List Loc) (ls : Array Slot) (pc : Nat), decode cX7_failed pc = .ok (.ireturn, 1) → (r = 0 ∨ r = 1) → va_P G vwCl (WX7_failed K m_a mA_lane mA_many mA_item mA_poem mA_fresh mA_then mA_was mA_tape mA_strengths mA_sounds mA_stand mA_scheme mA_isKept mA_kept mA_trace m_thrown m_status m_acts o_m_taped m_cursor m_start m_token m_value o_m_fault o_m_faultAt o_m_latest m_stands m_least m_ways m_nearFoot m_nearFeet m_nearCost m_traced) H → va_D A (WX7_failed K m_a mA_lane mA_many mA_item mA_poem mA_fresh mA_then mA_was mA_tape mA_strengths mA_sounds mA_stand mA_scheme mA_isKept mA_kept mA_trace m_thrown m_status m_acts o_m_taped m_cursor m_start m_token m_value o_m_fault o_m_faultAt o_m_latest m_stands m_least m_ways m_nearFoot m_nearFeet m_nearCost m_traced) → va_S A s.heap H locs → W p l e rmX7_failed s m args below meth c H locs 0 0 Q (F0 m pc ls [.int r])) (m_taped : Int32) (m_fault : Int32) (m_faultAt : Int32) (m_latest : Int32) (s1 : Int32) (hM : mX7_failed_b44 m_start m_token  m_taped m_fault m_faultAt m_latest s1 = some (r, o_m_taped, o_m_fault, o_m_faultAt, o_m_latest)) : ∀ (H : Heap) (locs : List Loc) (ls : Array Slot), va_P G vwCl (WX7_failed K m_a mA_lane mA_many mA_item mA_poem mA_fresh mA_then mA_was mA_tape mA_strengths mA_sounds mA_stand mA_scheme mA_isKept mA_kept mA_trace m_thrown m_status m_acts m_taped m_cursor m_start m_token m_value m_fault m_faultAt m_latest m_stands m_least m_ways m_nearFoot m_nearFeet m_nearCost m_traced) H → va_D A (WX7_failed K m_a mA_lane mA_many mA_item mA_poem mA_fresh mA_then mA_was mA_tape mA_strengths mA_sounds mA_stand mA_scheme mA_isKept mA_kept mA_trace m_thrown m_status m_acts m_taped m_cursor m_start m_token m_value m_fault m_faultAt m_latest m_stands m_least m_ways m_nearFoot m_nearFeet m_nearCost m_traced) → va_S A s.heap H locs → lv_has ls 1 [(0, .ref m_a)] → W p l e rmX7_failed s m args below meth c H locs 0 0 Q (F0 m 44 ls [.int s1, .ref m_a]) := by
  obtain ⟨hx, hb, hml, hown, hts, hK, hA, hEo, hE⟩ := id C0
  intro H locs ls hP hD hS hl
  unfold mX7_failed_b44 at hM
  refine va_put (D := G) (ci := 7) (v := .int s1) (ty := .int) (C := RX7) (T := TX7) (N := 33) hx hb hts inX7 tyX7 tyX7_ok nmX7 hown hK hP hD hS 0 rfl rfl 18 (by decide) (hts _ tb782) (fun _ h9 => h9) rfl (tyX7_ok 18 (by decide)) rfl rfl (Nat.le_of_ble_eq_true rfl) dX7_failed_44 (fun H locs hP hD hS => ?_)
  have hP : va_P G vwCl (WX7_failed K m_a mA_lane mA_many mA_item mA_poem mA_fresh mA_then mA_was mA_tape mA_strengths mA_sounds mA_stand mA_scheme mA_isKept mA_kept mA_trace m_thrown m_status m_acts m_taped m_cursor m_start m_token m_value m_fault m_faultAt s1 m_stands m_least m_ways m_nearFoot m_nearFeet m_nearCost m_traced) H := hP
  have hD : va_D A (WX7_failed K m_a mA_lane mA_many mA_item mA_poem mA_fresh mA_then mA_was mA_tape mA_strengths mA_sounds mA_stand mA_scheme mA_isKept mA_kept mA_trace m_thrown m_status m_acts m_taped m_cursor m_start m_token m_value m_fault m_faultAt s1 m_stands m_least m_ways m_nearFoot m_nearFeet m_nearCost m_traced) := hD
  refine lv_aload_n hx hb dX7_failed_47 rfl (lv_at hl 0 rfl) ?_
  refine va_get (D := G) (ci := 7) (v := .int m_fault) (C := RX7) (T := TX7) (N := 33) hx hb hts inX7 hown hK hP 0 rfl rfl 16 (by decide) (hts _ tb780) (fun _ h9 => h9) rfl dX7_failed_48 ?_
  refine lv_if_le (tgt := 58) hx hb dX7_failed_51 (by decide) (fun c_1 => ?_) (fun c_1 => ?_)
  · rw [if_pos c_1] at hM
    refine lv_iconst (v := 0) hx hb dX7_failed_58 (by decide) ?_
    have t0 := Option.some.inj hM
    obtain ⟨q1, t1⟩ := Prod.mk.inj t0
    obtain ⟨q2, t2⟩ := Prod.mk.inj t1
    obtain ⟨q3, t3⟩ := Prod.mk.inj t2
    obtain ⟨q4, t4⟩ := Prod.mk.inj t3
    subst q1
    subst q2
    subst q3
    subst q4
    subst t4
    exact kr _ _ _ _ dX7_failed_59 (by decide) hP hD hS
  · rw [if_neg c_1] at hM
    refine lv_iconst (v := 1) hx hb dX7_failed_54 (by decide) ?_
    refine lv_goto (tgt := 59) hx hb dX7_failed_55 (by decide) ?_
    have t0 := Option.some.inj hM
    obtain ⟨q1, t1⟩ := Prod.mk.inj t0
    obtain ⟨q2, t2⟩ := Prod.mk.inj t1
    obtain ⟨q3, t3⟩ := Prod.mk.inj t2
    obtain ⟨q4, t4⟩ := Prod.mk.inj t3
    subst q1
    subst q2
    subst q3
    subst q4
    subst t4
    exact kr _ _ _ _ dX7_failed_59 (by decide) hP hD hS
set_option maxHeartbeats 4000000 in
set_option maxRecDepth 100000 in
theorem wX7_failed_b20 {p : Program} {l : Launch} {e : Env} {s : State} {m : MethodId} {args : Array Value} {below : List Frame} {meth : Method} {c : Code} {Q : State → Prop} {G : va_G} {K : Nat → ClassId} {A : Nat → Prop} (C0 : CX p s m args c cX7_failed 1 RX7 G K E0 A) (m_a mA_lane mA_many mA_item mA_poem mA_fresh mA_then mA_was mA_tape mA_strengths mA_sounds mA_stand mA_scheme mA_isKept mA_kept mA_trace : Nat) (m_thrown : Int32) (m_status : Int32) (m_acts : Int32) (m_cursor : Int32) (m_start : Int32) (m_token : Int32) (m_value : Int32) (m_stands : Int32) (m_least : Int32) (m_ways : Int32) (m_nearFoot : Int32) (m_nearFeet : Int32) (m_nearCost : Int32) (m_traced : Int32)  (r : Int32) (o_m_taped : Int32) (o_m_fault : Int32) (o_m_faultAt : Int32) (o_m_latest : Int32) (kr : ∀ (H : Heap) (locs : List Loc) (ls : Array Slot) (pc : Nat), decode cX7_failed pc = .ok (.ireturn, 1) → (r = 0 ∨ r = 1) → va_P G vwCl (WX7_failed K m_a mA_lane mA_many mA_item mA_poem mA_fresh mA_then mA_was mA_tape mA_strengths mA_sounds mA_stand mA_scheme mA_isKept mA_kept mA_trace m_thrown m_status m_acts o_m_taped m_cursor m_start m_token m_value o_m_fault o_m_faultAt o_m_latest m_stands m_least m_ways m_nearFoot m_nearFeet m_nearCost m_traced) H → va_D A (WX7_failed K m_a mA_lane mA_many mA_item mA_poem mA_fresh mA_then mA_was mA_tape mA_strengths mA_sounds mA_stand mA_scheme mA_isKept mA_kept mA_trace m_thrown m_status m_acts o_m_taped m_cursor m_start m_token m_value o_m_fault o_m_faultAt o_m_latest m_stands m_least m_ways m_nearFoot m_nearFeet m_nearCost m_traced) → va_S A s.heap H locs → W p l e rmX7_failed s m args below meth c H locs 0 0 Q (F0 m pc ls [.int r])) (m_taped : Int32) (m_fault : Int32) (m_faultAt : Int32) (m_latest : Int32) (hM : mX7_failed_b20 m_start m_token  m_taped m_fault m_faultAt m_latest = some (r, o_m_taped, o_m_fault, o_m_faultAt, o_m_latest)) : ∀ (H : Heap) (locs : List Loc) (ls : Array Slot), va_P G vwCl (WX7_failed K m_a mA_lane mA_many mA_item mA_poem mA_fresh mA_then mA_was mA_tape mA_strengths mA_sounds mA_stand mA_scheme mA_isKept mA_kept mA_trace m_thrown m_status m_acts m_taped m_cursor m_start m_token m_value m_fault m_faultAt m_latest m_stands m_least m_ways m_nearFoot m_nearFeet m_nearCost m_traced) H → va_D A (WX7_failed K m_a mA_lane mA_many mA_item mA_poem mA_fresh mA_then mA_was mA_tape mA_strengths mA_sounds mA_stand mA_scheme mA_isKept mA_kept mA_trace m_thrown m_status m_acts m_taped m_cursor m_start m_token m_value m_fault m_faultAt m_latest m_stands m_least m_ways m_nearFoot m_nearFeet m_nearCost m_traced) → va_S A s.heap H locs → lv_has ls 1 [(0, .ref m_a)] → W p l e rmX7_failed s m args below meth c H locs 0 0 Q (F0 m 20 ls []) := by
  obtain ⟨hx, hb, hml, hown, hts, hK, hA, hEo, hE⟩ := id C0
  intro H locs ls hP hD hS hl
  unfold mX7_failed_b20 at hM
  refine lv_aload_n hx hb dX7_failed_20 rfl (lv_at hl 0 rfl) ?_
  refine lv_iconst (v := 0) hx hb dX7_failed_21 (by decide) ?_
  refine va_put (D := G) (ci := 7) (v := .int (0 : Int32)) (ty := .int) (C := RX7) (T := TX7) (N := 33) hx hb hts inX7 tyX7 tyX7_ok nmX7 hown hK hP hD hS 0 rfl rfl 11 (by decide) (hts _ tb775) (fun _ h9 => h9) rfl (tyX7_ok 11 (by decide)) rfl rfl (Nat.le_of_ble_eq_true rfl) dX7_failed_22 (fun H locs hP hD hS => ?_)
  have hP : va_P G vwCl (WX7_failed K m_a mA_lane mA_many mA_item mA_poem mA_fresh mA_then mA_was mA_tape mA_strengths mA_sounds mA_stand mA_scheme mA_isKept mA_kept mA_trace m_thrown m_status m_acts (0 : Int32) m_cursor m_start m_token m_value m_fault m_faultAt m_latest m_stands m_least m_ways m_nearFoot m_nearFeet m_nearCost m_traced) H := hP
  have hD : va_D A (WX7_failed K m_a mA_lane mA_many mA_item mA_poem mA_fresh mA_then mA_was mA_tape mA_strengths mA_sounds mA_stand mA_scheme mA_isKept mA_kept mA_trace m_thrown m_status m_acts (0 : Int32) m_cursor m_start m_token m_value m_fault m_faultAt m_latest m_stands m_least m_ways m_nearFoot m_nearFeet m_nearCost m_traced) := hD
  refine lv_aload_n hx hb dX7_failed_25 rfl (lv_at hl 0 rfl) ?_
  refine lv_aload_n hx hb dX7_failed_26 rfl (lv_at hl 0 rfl) ?_
  refine va_get (D := G) (ci := 7) (v := .int m_fault) (C := RX7) (T := TX7) (N := 33) hx hb hts inX7 hown hK hP 0 rfl rfl 16 (by decide) (hts _ tb780) (fun _ h9 => h9) rfl dX7_failed_27 ?_
  refine lv_if_le (tgt := 40) hx hb dX7_failed_30 (by decide) (fun c_2 => ?_) (fun c_2 => ?_)
  · rw [if_pos c_2] at hM
    refine lv_aload_n hx hb dX7_failed_40 rfl (lv_at hl 0 rfl) ?_
    refine va_get (D := G) (ci := 7) (v := .int m_latest) (C := RX7) (T := TX7) (N := 33) hx hb hts inX7 hown hK hP 0 rfl rfl 18 (by decide) (hts _ tb782) (fun _ h9 => h9) rfl dX7_failed_41 ?_
    exact wX7_failed_b44 C0 m_a mA_lane mA_many mA_item mA_poem mA_fresh mA_then mA_was mA_tape mA_strengths mA_sounds mA_stand mA_scheme mA_isKept mA_kept mA_trace m_thrown m_status m_acts m_cursor m_start m_token m_value m_stands m_least m_ways m_nearFoot m_nearFeet m_nearCost m_traced r o_m_taped o_m_fault o_m_faultAt o_m_latest kr  (0 : Int32) m_fault m_faultAt m_latest m_latest hM _ _ _ hP hD hS (lv_sub hl [0] rfl)
  · rw [if_neg c_2] at hM
    refine lv_aload_n hx hb dX7_failed_33 rfl (lv_at hl 0 rfl) ?_
    refine va_get (D := G) (ci := 7) (v := .int m_fault) (C := RX7) (T := TX7) (N := 33) hx hb hts inX7 hown hK hP 0 rfl rfl 16 (by decide) (hts _ tb780) (fun _ h9 => h9) rfl dX7_failed_34 ?_
    refine lv_goto (tgt := 44) hx hb dX7_failed_37 (by decide) ?_
    exact wX7_failed_b44 C0 m_a mA_lane mA_many mA_item mA_poem mA_fresh mA_then mA_was mA_tape mA_strengths mA_sounds mA_stand mA_scheme mA_isKept mA_kept mA_trace m_thrown m_status m_acts m_cursor m_start m_token m_value m_stands m_least m_ways m_nearFoot m_nearFeet m_nearCost m_traced r o_m_taped o_m_fault o_m_faultAt o_m_latest kr  (0 : Int32) m_fault m_faultAt m_latest m_fault hM _ _ _ hP hD hS (lv_sub hl [0] rfl)
set_option maxHeartbeats 4000000 in
set_option maxRecDepth 100000 in
theorem wX7_failed_b0 {p : Program} {l : Launch} {e : Env} {s : State} {m : MethodId} {args : Array Value} {below : List Frame} {meth : Method} {c : Code} {Q : State → Prop} {G : va_G} {K : Nat → ClassId} {A : Nat → Prop} (C0 : CX p s m args c cX7_failed 1 RX7 G K E0 A) (m_a mA_lane mA_many mA_item mA_poem mA_fresh mA_then mA_was mA_tape mA_strengths mA_sounds mA_stand mA_scheme mA_isKept mA_kept mA_trace : Nat) (m_thrown : Int32) (m_status : Int32) (m_acts : Int32) (m_cursor : Int32) (m_start : Int32) (m_token : Int32) (m_value : Int32) (m_stands : Int32) (m_least : Int32) (m_ways : Int32) (m_nearFoot : Int32) (m_nearFeet : Int32) (m_nearCost : Int32) (m_traced : Int32)  (r : Int32) (o_m_taped : Int32) (o_m_fault : Int32) (o_m_faultAt : Int32) (o_m_latest : Int32) (kr : ∀ (H : Heap) (locs : List Loc) (ls : Array Slot) (pc : Nat), decode cX7_failed pc = .ok (.ireturn, 1) → (r = 0 ∨ r = 1) → va_P G vwCl (WX7_failed K m_a mA_lane mA_many mA_item mA_poem mA_fresh mA_then mA_was mA_tape mA_strengths mA_sounds mA_stand mA_scheme mA_isKept mA_kept mA_trace m_thrown m_status m_acts o_m_taped m_cursor m_start m_token m_value o_m_fault o_m_faultAt o_m_latest m_stands m_least m_ways m_nearFoot m_nearFeet m_nearCost m_traced) H → va_D A (WX7_failed K m_a mA_lane mA_many mA_item mA_poem mA_fresh mA_then mA_was mA_tape mA_strengths mA_sounds mA_stand mA_scheme mA_isKept mA_kept mA_trace m_thrown m_status m_acts o_m_taped m_cursor m_start m_token m_value o_m_fault o_m_faultAt o_m_latest m_stands m_least m_ways m_nearFoot m_nearFeet m_nearCost m_traced) → va_S A s.heap H locs → W p l e rmX7_failed s m args below meth c H locs 0 0 Q (F0 m pc ls [.int r])) (m_taped : Int32) (m_fault : Int32) (m_faultAt : Int32) (m_latest : Int32) (hM : mX7_failed_b0 m_start m_token  m_taped m_fault m_faultAt m_latest = some (r, o_m_taped, o_m_fault, o_m_faultAt, o_m_latest)) : ∀ (H : Heap) (locs : List Loc) (ls : Array Slot), va_P G vwCl (WX7_failed K m_a mA_lane mA_many mA_item mA_poem mA_fresh mA_then mA_was mA_tape mA_strengths mA_sounds mA_stand mA_scheme mA_isKept mA_kept mA_trace m_thrown m_status m_acts m_taped m_cursor m_start m_token m_value m_fault m_faultAt m_latest m_stands m_least m_ways m_nearFoot m_nearFeet m_nearCost m_traced) H → va_D A (WX7_failed K m_a mA_lane mA_many mA_item mA_poem mA_fresh mA_then mA_was mA_tape mA_strengths mA_sounds mA_stand mA_scheme mA_isKept mA_kept mA_trace m_thrown m_status m_acts m_taped m_cursor m_start m_token m_value m_fault m_faultAt m_latest m_stands m_least m_ways m_nearFoot m_nearFeet m_nearCost m_traced) → va_S A s.heap H locs → lv_has ls 1 [(0, .ref m_a)] → W p l e rmX7_failed s m args below meth c H locs 0 0 Q (F0 m 0 ls []) := by
  obtain ⟨hx, hb, hml, hown, hts, hK, hA, hEo, hE⟩ := id C0
  intro H locs ls hP hD hS hl
  unfold mX7_failed_b0 at hM
  refine lv_aload_n hx hb dX7_failed_0 rfl (lv_at hl 0 rfl) ?_
  refine va_get (D := G) (ci := 7) (v := .int m_fault) (C := RX7) (T := TX7) (N := 33) hx hb hts inX7 hown hK hP 0 rfl rfl 16 (by decide) (hts _ tb780) (fun _ h9 => h9) rfl dX7_failed_1 ?_
  refine lv_if_ne (tgt := 20) hx hb dX7_failed_4 (by decide) (fun c_3 => ?_) (fun c_3 => ?_)
  · rw [if_neg c_3] at hM
    exact wX7_failed_b20 C0 m_a mA_lane mA_many mA_item mA_poem mA_fresh mA_then mA_was mA_tape mA_strengths mA_sounds mA_stand mA_scheme mA_isKept mA_kept mA_trace m_thrown m_status m_acts m_cursor m_start m_token m_value m_stands m_least m_ways m_nearFoot m_nearFeet m_nearCost m_traced r o_m_taped o_m_fault o_m_faultAt o_m_latest kr  m_taped m_fault m_faultAt m_latest hM _ _ _ hP hD hS (lv_sub hl [0] rfl)
  · rw [if_pos c_3] at hM
    refine lv_aload_n hx hb dX7_failed_7 rfl (lv_at hl 0 rfl) ?_
    refine va_get (D := G) (ci := 7) (v := .int m_token) (C := RX7) (T := TX7) (N := 33) hx hb hts inX7 hown hK hP 0 rfl rfl 14 (by decide) (hts _ tb778) (fun _ h9 => h9) rfl dX7_failed_8 ?_
    refine lv_iconst (v := 1) hx hb dX7_failed_11 (by decide) ?_
    refine lv_icmp_eq (tgt := 20) hx hb dX7_failed_12 (by decide) (fun c_4 => ?_) (fun c_4 => ?_)
    · rw [if_pos c_4] at hM
      exact wX7_failed_b20 C0 m_a mA_lane mA_many mA_item mA_poem mA_fresh mA_then mA_was mA_tape mA_strengths mA_sounds mA_stand mA_scheme mA_isKept mA_kept mA_trace m_thrown m_status m_acts m_cursor m_start m_token m_value m_stands m_least m_ways m_nearFoot m_nearFeet m_nearCost m_traced r o_m_taped o_m_fault o_m_faultAt o_m_latest kr  m_taped m_fault m_faultAt m_latest hM _ _ _ hP hD hS (lv_sub hl [0] rfl)
    · rw [if_neg c_4] at hM
      refine lv_aload_n hx hb dX7_failed_15 rfl (lv_at hl 0 rfl) ?_
      refine lv_iconst (v := 1) hx hb dX7_failed_16 (by decide) ?_
      obtain ⟨u0_5, u1_5, hC, hM⟩ := oe2 hM
      refine cV_v (As := [.int (1 : Int32)]) (rest := []) C0 hP hD hS [0] (kX7_bad l G K m_a mA_lane mA_many mA_item mA_poem mA_fresh mA_then mA_was mA_tape mA_strengths mA_sounds mA_stand mA_scheme mA_isKept mA_kept mA_trace m_thrown m_status m_acts m_taped m_cursor m_start m_token m_value m_fault m_faultAt m_latest m_stands m_least m_ways m_nearFoot m_nearFeet m_nearCost m_traced (1 : Int32) H.size u0_5 u1_5 hC) rfl rfl rfl tb930 tb932 tp18 tb9 tb933 hdX7_bad (va_recv hK hP (ci := 7) (q0 := 0) rfl rfl) ⟨Nat.le_of_ble_eq_true rfl, Nat.le_of_ble_eq_true rfl⟩ rfl hl.1 (Nat.le_of_ble_eq_true rfl) rfl ⟨Nat.le_refl _, Nat.le_refl _⟩ dX7_failed_17 (fun H locs hP hD hS => ?_)
      have hP : va_P G vwCl (WX7_failed K m_a mA_lane mA_many mA_item mA_poem mA_fresh mA_then mA_was mA_tape mA_strengths mA_sounds mA_stand mA_scheme mA_isKept mA_kept mA_trace m_thrown m_status m_acts m_taped m_cursor m_start m_token m_value u0_5 u1_5 m_latest m_stands m_least m_ways m_nearFoot m_nearFeet m_nearCost m_traced) H := hP
      have hD : va_D A (WX7_failed K m_a mA_lane mA_many mA_item mA_poem mA_fresh mA_then mA_was mA_tape mA_strengths mA_sounds mA_stand mA_scheme mA_isKept mA_kept mA_trace m_thrown m_status m_acts m_taped m_cursor m_start m_token m_value u0_5 u1_5 m_latest m_stands m_least m_ways m_nearFoot m_nearFeet m_nearCost m_traced) := hD
      exact wX7_failed_b20 C0 m_a mA_lane mA_many mA_item mA_poem mA_fresh mA_then mA_was mA_tape mA_strengths mA_sounds mA_stand mA_scheme mA_isKept mA_kept mA_trace m_thrown m_status m_acts m_cursor m_start m_token m_value m_stands m_least m_ways m_nearFoot m_nearFeet m_nearCost m_traced r o_m_taped o_m_fault o_m_faultAt o_m_latest kr  m_taped u0_5 u1_5 m_latest hM _ _ _ hP hD hS (lv_sub hl [0] rfl)
set_option maxHeartbeats 4000000 in
set_option maxRecDepth 100000 in
theorem kX7_failed (l : Launch) (G : va_G) (K : Nat → ClassId) (m_a mA_lane mA_many mA_item mA_poem mA_fresh mA_then mA_was mA_tape mA_strengths mA_sounds mA_stand mA_scheme mA_isKept mA_kept mA_trace : Nat) (m_thrown : Int32) (m_status : Int32) (m_acts : Int32) (m_taped : Int32) (m_cursor : Int32) (m_start : Int32) (m_token : Int32) (m_value : Int32) (m_fault : Int32) (m_faultAt : Int32) (m_latest : Int32) (m_stands : Int32) (m_least : Int32) (m_ways : Int32) (m_nearFoot : Int32) (m_nearFeet : Int32) (m_nearCost : Int32) (m_traced : Int32)  (sz : Nat) (r : Int32) (o_m_taped : Int32) (o_m_fault : Int32) (o_m_faultAt : Int32) (o_m_latest : Int32) (hM : mX7_failed m_start m_token m_taped m_fault m_faultAt m_latest = some (r, o_m_taped, o_m_fault, o_m_faultAt, o_m_latest)) : Met l yX7_failed (mC yX7_failed cX7_failed 1 (some .boolean)) rmX7_failed (va_Pc [.ref m_a] (PCe G K E0 (WX7_failed K m_a mA_lane mA_many mA_item mA_poem mA_fresh mA_then mA_was mA_tape mA_strengths mA_sounds mA_stand mA_scheme mA_isKept mA_kept mA_trace m_thrown m_status m_acts m_taped m_cursor m_start m_token m_value m_fault m_faultAt m_latest m_stands m_least m_ways m_nearFoot m_nearFeet m_nearCost m_traced) sz)) (va_Qi (fun (x : Int32) (_ : Unit) => x = r) (fun _ t => va_P G vwCl (WX7_failed K m_a mA_lane mA_many mA_item mA_poem mA_fresh mA_then mA_was mA_tape mA_strengths mA_sounds mA_stand mA_scheme mA_isKept mA_kept mA_trace m_thrown m_status m_acts o_m_taped m_cursor m_start m_token m_value o_m_fault o_m_faultAt o_m_latest m_stands m_least m_ways m_nearFoot m_nearFeet m_nearCost m_traced) t.heap) (va_A (WX7_failed K m_a mA_lane mA_many mA_item mA_poem mA_fresh mA_then mA_was mA_tape mA_strengths mA_sounds mA_stand mA_scheme mA_isKept mA_kept mA_trace m_thrown m_status m_acts m_taped m_cursor m_start m_token m_value m_fault m_faultAt m_latest m_stands m_least m_ways m_nearFoot m_nearFeet m_nearCost m_traced) sz)) rmX7_failed.cells rmX7_failed.slots (va_A (WX7_failed K m_a mA_lane mA_many mA_item mA_poem mA_fresh mA_then mA_was mA_tape mA_strengths mA_sounds mA_stand mA_scheme mA_isKept mA_kept mA_trace m_thrown m_status m_acts m_taped m_cursor m_start m_token m_value m_fault m_faultAt m_latest m_stands m_least m_ways m_nearFoot m_nearFeet m_nearCost m_traced) sz) := by
  refine Met.ofW (cc := cX7_failed) (maxL := 1) (ret := (some .boolean)) (by decide) rfl ?_
  intro p e s m args below meth c s₁ B hml hv
  obtain ⟨rfl, hsz, hP, hK, hD0, hE⟩ := hv
  have hx := B.exec
  have hb := B.bytes
  have hr := B.returns
  have hts0 := atoms_spec (ws := mC yX7_failed cX7_failed 1 (some .boolean)) B.pre
  have hts : ∀ w ∈ tbG, w.before _ s = true := fun w h => hts0 w (List.mem_cons_of_mem _ h)
  have hown : s.vm.findClass RX7 = some m.cls := findClass_of_methodNamed B.named
  subst hsz
  have hD := hD0.self (sz := s.heap.size)
  generalize hAe : va_A (WX7_failed K m_a mA_lane mA_many mA_item mA_poem mA_fresh mA_then mA_was mA_tape mA_strengths mA_sounds mA_stand mA_scheme mA_isKept mA_kept mA_trace m_thrown m_status m_acts m_taped m_cursor m_start m_token m_value m_fault m_faultAt m_latest m_stands m_least m_ways m_nearFoot m_nearFeet m_nearCost m_traced) s.heap.size = A at hD hE ⊢
  have hA : ∀ q : Nat, s.heap.size ≤ q → A q := fun q h => by rw [← hAe]; exact Or.inr h
  have hS : va_S A s.heap s.heap [] := va_S.rf
  have hl := lv_entry ([.ref m_a]) (n := 1) (Nat.le_of_ble_eq_true rfl)
  rw [lg_entry_eq]
  generalize (lg_sl ([.ref m_a]) ++ List.replicate (1 - (lg_sl ([.ref m_a])).length) Slot.unset).toArray = ls at hl ⊢
  have hl : lv_has ls 1 [(0, .ref m_a)] := hl
  exact wX7_failed_b0 ⟨hx, hb, hml, hown, hts, hK, hA, E0_ok, hE⟩ m_a mA_lane mA_many mA_item mA_poem mA_fresh mA_then mA_was mA_tape mA_strengths mA_sounds mA_stand mA_scheme mA_isKept mA_kept mA_trace m_thrown m_status m_acts m_cursor m_start m_token m_value m_stands m_least m_ways m_nearFoot m_nearFeet m_nearCost m_traced r o_m_taped o_m_fault o_m_faultAt o_m_latest (fun H locs ls pc hdg hz hP hD hS => W.zret (v := r) (ty := .boolean) hx hb hr (nar_b hz) (fun t ht hW => ⟨⟨r, (), rfl, rfl, (show va_P G vwCl _ t.heap by rw [ht]; exact hP)⟩, hS.F ht⟩) hS.2.2 hdg) m_taped m_fault m_faultAt m_latest  hM _ _ _ hP hD hS hl
abbrev WX7_fault (K : Nat → ClassId) (m_a mA_lane mA_many mA_item mA_poem mA_fresh mA_then mA_was mA_tape mA_strengths mA_sounds mA_stand mA_scheme mA_isKept mA_kept mA_trace : Nat) (m_thrown : Int32) (m_status : Int32) (m_acts : Int32) (m_taped : Int32) (m_cursor : Int32) (m_start : Int32) (m_token : Int32) (m_value : Int32) (m_fault : Int32) (m_faultAt : Int32) (m_latest : Int32) (m_stands : Int32) (m_least : Int32) (m_ways : Int32) (m_nearFoot : Int32) (m_nearFeet : Int32) (m_nearCost : Int32) (m_traced : Int32) : va_W := [(m_a, .inr (7, [.int m_thrown, .int m_status, .ref mA_lane, .ref mA_many, .ref mA_item, .ref mA_poem, .ref mA_fresh, .ref mA_then, .ref mA_was, .int m_acts, .ref mA_tape, .int m_taped, .int m_cursor, .int m_start, .int m_token, .int m_value, .int m_fault, .int m_faultAt, .int m_latest, .ref mA_strengths, .ref mA_sounds, .ref mA_stand, .int m_stands, .int m_least, .int m_ways, .ref mA_scheme, .int m_nearFoot, .int m_nearFeet, .int m_nearCost, .ref mA_isKept, .ref mA_kept, .ref mA_trace, .int m_traced]))]
def rmX7_fault : Room := { frames := 0, cells := 0, slots := 0, locals := 0 }
theorem hdX7_fault : yX7_fault.cls = RX7 ∧ yX7_fault.cls ≠ "java/lang/invoke/MethodHandle" ∧ yX7_fault.cls ≠ "java/lang/invoke/VarHandle" ∧ (parseMethodDescriptor yX7_fault.desc).map (fun d => d.parameters.length) = some 0 := by decide +kernel
set_option maxHeartbeats 4000000 in
set_option maxRecDepth 100000 in
theorem wX7_fault_b0 {p : Program} {l : Launch} {e : Env} {s : State} {m : MethodId} {args : Array Value} {below : List Frame} {meth : Method} {c : Code} {Q : State → Prop} {G : va_G} {K : Nat → ClassId} {A : Nat → Prop} (C0 : CX p s m args c cX7_fault 1 RX7 G K E0 A) (m_a mA_lane mA_many mA_item mA_poem mA_fresh mA_then mA_was mA_tape mA_strengths mA_sounds mA_stand mA_scheme mA_isKept mA_kept mA_trace : Nat) (m_status : Int32) (m_acts : Int32) (m_taped : Int32) (m_cursor : Int32) (m_start : Int32) (m_token : Int32) (m_value : Int32) (m_fault : Int32) (m_faultAt : Int32) (m_latest : Int32) (m_stands : Int32) (m_least : Int32) (m_ways : Int32) (m_nearFoot : Int32) (m_nearFeet : Int32) (m_nearCost : Int32) (m_traced : Int32)  (r : Int32) (o_m_thrown : Int32) (kr : ∀ (H : Heap) (locs : List Loc) (ls : Array Slot) (pc : Nat), decode cX7_fault pc = .ok (.ireturn, 1) → va_P G vwCl (WX7_fault K m_a mA_lane mA_many mA_item mA_poem mA_fresh mA_then mA_was mA_tape mA_strengths mA_sounds mA_stand mA_scheme mA_isKept mA_kept mA_trace o_m_thrown m_status m_acts m_taped m_cursor m_start m_token m_value m_fault m_faultAt m_latest m_stands m_least m_ways m_nearFoot m_nearFeet m_nearCost m_traced) H → va_D A (WX7_fault K m_a mA_lane mA_many mA_item mA_poem mA_fresh mA_then mA_was mA_tape mA_strengths mA_sounds mA_stand mA_scheme mA_isKept mA_kept mA_trace o_m_thrown m_status m_acts m_taped m_cursor m_start m_token m_value m_fault m_faultAt m_latest m_stands m_least m_ways m_nearFoot m_nearFeet m_nearCost m_traced) → va_S A s.heap H locs → W p l e rmX7_fault s m args below meth c H locs 0 0 Q (F0 m pc ls [.int r])) (m_thrown : Int32) (hM : mX7_fault_b0 m_latest  m_thrown = some (r, o_m_thrown)) : ∀ (H : Heap) (locs : List Loc) (ls : Array Slot), va_P G vwCl (WX7_fault K m_a mA_lane mA_many mA_item mA_poem mA_fresh mA_then mA_was mA_tape mA_strengths mA_sounds mA_stand mA_scheme mA_isKept mA_kept mA_trace m_thrown m_status m_acts m_taped m_cursor m_start m_token m_value m_fault m_faultAt m_latest m_stands m_least m_ways m_nearFoot m_nearFeet m_nearCost m_traced) H → va_D A (WX7_fault K m_a mA_lane mA_many mA_item mA_poem mA_fresh mA_then mA_was mA_tape mA_strengths mA_sounds mA_stand mA_scheme mA_isKept mA_kept mA_trace m_thrown m_status m_acts m_taped m_cursor m_start m_token m_value m_fault m_faultAt m_latest m_stands m_least m_ways m_nearFoot m_nearFeet m_nearCost m_traced) → va_S A s.heap H locs → lv_has ls 1 [(0, .ref m_a)] → W p l e rmX7_fault s m args below meth c H locs 0 0 Q (F0 m 0 ls []) := by
  obtain ⟨hx, hb, hml, hown, hts, hK, hA, hEo, hE⟩ := id C0
  intro H locs ls hP hD hS hl
  unfold mX7_fault_b0 at hM
  refine lv_aload_n hx hb dX7_fault_0 rfl (lv_at hl 0 rfl) ?_
  refine lv_iconst (v := 0) hx hb dX7_fault_1 (by decide) ?_
  refine va_put (D := G) (ci := 7) (v := .int (0 : Int32)) (ty := .int) (C := RX7) (T := TX7) (N := 33) hx hb hts inX7 tyX7 tyX7_ok nmX7 hown hK hP hD hS 0 rfl rfl 0 (by decide) (hts _ tb764) (fun _ h9 => h9) rfl (tyX7_ok 0 (by decide)) rfl rfl (Nat.le_of_ble_eq_true rfl) dX7_fault_2 (fun H locs hP hD hS => ?_)
  have hP : va_P G vwCl (WX7_fault K m_a mA_lane mA_many mA_item mA_poem mA_fresh mA_then mA_was mA_tape mA_strengths mA_sounds mA_stand mA_scheme mA_isKept mA_kept mA_trace (0 : Int32) m_status m_acts m_taped m_cursor m_start m_token m_value m_fault m_faultAt m_latest m_stands m_least m_ways m_nearFoot m_nearFeet m_nearCost m_traced) H := hP
  have hD : va_D A (WX7_fault K m_a mA_lane mA_many mA_item mA_poem mA_fresh mA_then mA_was mA_tape mA_strengths mA_sounds mA_stand mA_scheme mA_isKept mA_kept mA_trace (0 : Int32) m_status m_acts m_taped m_cursor m_start m_token m_value m_fault m_faultAt m_latest m_stands m_least m_ways m_nearFoot m_nearFeet m_nearCost m_traced) := hD
  refine lv_aload_n hx hb dX7_fault_5 rfl (lv_at hl 0 rfl) ?_
  refine va_get (D := G) (ci := 7) (v := .int m_latest) (C := RX7) (T := TX7) (N := 33) hx hb hts inX7 hown hK hP 0 rfl rfl 18 (by decide) (hts _ tb782) (fun _ h9 => h9) rfl dX7_fault_6 ?_
  have t0 := Option.some.inj hM
  obtain ⟨q1, t1⟩ := Prod.mk.inj t0
  subst q1
  subst t1
  exact kr _ _ _ _ dX7_fault_9 hP hD hS
set_option maxHeartbeats 4000000 in
set_option maxRecDepth 100000 in
theorem kX7_fault (l : Launch) (G : va_G) (K : Nat → ClassId) (m_a mA_lane mA_many mA_item mA_poem mA_fresh mA_then mA_was mA_tape mA_strengths mA_sounds mA_stand mA_scheme mA_isKept mA_kept mA_trace : Nat) (m_thrown : Int32) (m_status : Int32) (m_acts : Int32) (m_taped : Int32) (m_cursor : Int32) (m_start : Int32) (m_token : Int32) (m_value : Int32) (m_fault : Int32) (m_faultAt : Int32) (m_latest : Int32) (m_stands : Int32) (m_least : Int32) (m_ways : Int32) (m_nearFoot : Int32) (m_nearFeet : Int32) (m_nearCost : Int32) (m_traced : Int32)  (sz : Nat) (r : Int32) (o_m_thrown : Int32) (hM : mX7_fault m_latest m_thrown = some (r, o_m_thrown)) : Met l yX7_fault (mC yX7_fault cX7_fault 1 (some .int)) rmX7_fault (va_Pc [.ref m_a] (PCe G K E0 (WX7_fault K m_a mA_lane mA_many mA_item mA_poem mA_fresh mA_then mA_was mA_tape mA_strengths mA_sounds mA_stand mA_scheme mA_isKept mA_kept mA_trace m_thrown m_status m_acts m_taped m_cursor m_start m_token m_value m_fault m_faultAt m_latest m_stands m_least m_ways m_nearFoot m_nearFeet m_nearCost m_traced) sz)) (va_Qi (fun (x : Int32) (_ : Unit) => x = r) (fun _ t => va_P G vwCl (WX7_fault K m_a mA_lane mA_many mA_item mA_poem mA_fresh mA_then mA_was mA_tape mA_strengths mA_sounds mA_stand mA_scheme mA_isKept mA_kept mA_trace o_m_thrown m_status m_acts m_taped m_cursor m_start m_token m_value m_fault m_faultAt m_latest m_stands m_least m_ways m_nearFoot m_nearFeet m_nearCost m_traced) t.heap) (va_A (WX7_fault K m_a mA_lane mA_many mA_item mA_poem mA_fresh mA_then mA_was mA_tape mA_strengths mA_sounds mA_stand mA_scheme mA_isKept mA_kept mA_trace m_thrown m_status m_acts m_taped m_cursor m_start m_token m_value m_fault m_faultAt m_latest m_stands m_least m_ways m_nearFoot m_nearFeet m_nearCost m_traced) sz)) rmX7_fault.cells rmX7_fault.slots (va_A (WX7_fault K m_a mA_lane mA_many mA_item mA_poem mA_fresh mA_then mA_was mA_tape mA_strengths mA_sounds mA_stand mA_scheme mA_isKept mA_kept mA_trace m_thrown m_status m_acts m_taped m_cursor m_start m_token m_value m_fault m_faultAt m_latest m_stands m_least m_ways m_nearFoot m_nearFeet m_nearCost m_traced) sz) := by
  refine Met.ofW (cc := cX7_fault) (maxL := 1) (ret := (some .int)) (by decide) rfl ?_
  intro p e s m args below meth c s₁ B hml hv
  obtain ⟨rfl, hsz, hP, hK, hD0, hE⟩ := hv
  have hx := B.exec
  have hb := B.bytes
  have hr := B.returns
  have hts0 := atoms_spec (ws := mC yX7_fault cX7_fault 1 (some .int)) B.pre
  have hts : ∀ w ∈ tbG, w.before _ s = true := fun w h => hts0 w (List.mem_cons_of_mem _ h)
  have hown : s.vm.findClass RX7 = some m.cls := findClass_of_methodNamed B.named
  subst hsz
  have hD := hD0.self (sz := s.heap.size)
  generalize hAe : va_A (WX7_fault K m_a mA_lane mA_many mA_item mA_poem mA_fresh mA_then mA_was mA_tape mA_strengths mA_sounds mA_stand mA_scheme mA_isKept mA_kept mA_trace m_thrown m_status m_acts m_taped m_cursor m_start m_token m_value m_fault m_faultAt m_latest m_stands m_least m_ways m_nearFoot m_nearFeet m_nearCost m_traced) s.heap.size = A at hD hE ⊢
  have hA : ∀ q : Nat, s.heap.size ≤ q → A q := fun q h => by rw [← hAe]; exact Or.inr h
  have hS : va_S A s.heap s.heap [] := va_S.rf
  have hl := lv_entry ([.ref m_a]) (n := 1) (Nat.le_of_ble_eq_true rfl)
  rw [lg_entry_eq]
  generalize (lg_sl ([.ref m_a]) ++ List.replicate (1 - (lg_sl ([.ref m_a])).length) Slot.unset).toArray = ls at hl ⊢
  have hl : lv_has ls 1 [(0, .ref m_a)] := hl
  exact wX7_fault_b0 ⟨hx, hb, hml, hown, hts, hK, hA, E0_ok, hE⟩ m_a mA_lane mA_many mA_item mA_poem mA_fresh mA_then mA_was mA_tape mA_strengths mA_sounds mA_stand mA_scheme mA_isKept mA_kept mA_trace m_status m_acts m_taped m_cursor m_start m_token m_value m_fault m_faultAt m_latest m_stands m_least m_ways m_nearFoot m_nearFeet m_nearCost m_traced r o_m_thrown (fun H locs ls pc hdg hP hD hS => W.iret (v := r) hx hb hr (fun t ht hW => ⟨⟨r, (), rfl, rfl, (show va_P G vwCl _ t.heap by rw [ht]; exact hP)⟩, hS.F ht⟩) hS.2.2 hdg) m_thrown  hM _ _ _ hP hD hS hl
def rmX7_isVowel : Room := { frames := 0, cells := 0, slots := 0, locals := 0 }
theorem hdX7_isVowel : yX7_isVowel.cls ≠ "java/lang/invoke/MethodHandle" ∧ yX7_isVowel.cls ≠ "java/lang/invoke/VarHandle" ∧ (parseMethodDescriptor yX7_isVowel.desc).map (fun d => d.parameters.length) = some 1 := by decide +kernel
set_option maxHeartbeats 4000000 in
set_option maxRecDepth 100000 in
theorem wX7_isVowel_b0 {p : Program} {l : Launch} {e : Env} {s : State} {m : MethodId} {args : Array Value} {below : List Frame} {meth : Method} {c : Code} {Q : State → Prop} {G : va_G} {K : Nat → ClassId} {A : Nat → Prop} (C0 : CX p s m args c cX7_isVowel 1 RX7 G K E0 A)  (p1 : Int32) (r : Int32)  (kr : ∀ (H : Heap) (locs : List Loc) (ls : Array Slot) (pc : Nat), decode cX7_isVowel pc = .ok (.ireturn, 1) → (r = 0 ∨ r = 1) → va_P G vwCl [] H → va_D A [] → va_S A s.heap H locs → W p l e rmX7_isVowel s m args below meth c H locs 0 0 Q (F0 m pc ls [.int r]))  (hM : mX7_isVowel_b0 p1   = some r) : ∀ (H : Heap) (locs : List Loc) (ls : Array Slot), va_P G vwCl [] H → va_D A [] → va_S A s.heap H locs → lv_has ls 1 [(0, .int p1)] → W p l e rmX7_isVowel s m args below meth c H locs 0 0 Q (F0 m 0 ls []) := by
  obtain ⟨hx, hb, hml, hown, hts, hK, hA, hEo, hE⟩ := id C0
  intro H locs ls hP hD hS hl
  unfold mX7_isVowel_b0 at hM
  refine lv_iload_n hx hb dX7_isVowel_0 rfl (lv_at hl 0 rfl) ?_
  refine lv_if_eq (tgt := 27) hx hb dX7_isVowel_1 (by decide) (fun c_1 => ?_) (fun c_1 => ?_)
  · rw [if_pos c_1] at hM
    refine lv_iconst (v := 1) hx hb dX7_isVowel_27 (by decide) ?_
    refine lv_goto (tgt := 32) hx hb dX7_isVowel_28 (by decide) ?_
    have q1 := Option.some.inj hM
    subst q1
    exact kr _ _ _ _ dX7_isVowel_32 (by decide) hP hD hS
  · rw [if_neg c_1] at hM
    refine lv_iload_n hx hb dX7_isVowel_4 rfl (lv_at hl 0 rfl) ?_
    refine lv_iconst (v := 4) hx hb dX7_isVowel_5 (by decide) ?_
    refine lv_icmp_eq (tgt := 27) hx hb dX7_isVowel_6 (by decide) (fun c_2 => ?_) (fun c_2 => ?_)
    · rw [if_pos c_2] at hM
      refine lv_iconst (v := 1) hx hb dX7_isVowel_27 (by decide) ?_
      refine lv_goto (tgt := 32) hx hb dX7_isVowel_28 (by decide) ?_
      have q1 := Option.some.inj hM
      subst q1
      exact kr _ _ _ _ dX7_isVowel_32 (by decide) hP hD hS
    · rw [if_neg c_2] at hM
      refine lv_iload_n hx hb dX7_isVowel_9 rfl (lv_at hl 0 rfl) ?_
      refine lv_bipush (v := 8) hx hb dX7_isVowel_10 (by decide) ?_
      refine lv_icmp_eq (tgt := 27) hx hb dX7_isVowel_12 (by decide) (fun c_3 => ?_) (fun c_3 => ?_)
      · rw [if_pos c_3] at hM
        refine lv_iconst (v := 1) hx hb dX7_isVowel_27 (by decide) ?_
        refine lv_goto (tgt := 32) hx hb dX7_isVowel_28 (by decide) ?_
        have q1 := Option.some.inj hM
        subst q1
        exact kr _ _ _ _ dX7_isVowel_32 (by decide) hP hD hS
      · rw [if_neg c_3] at hM
        refine lv_iload_n hx hb dX7_isVowel_15 rfl (lv_at hl 0 rfl) ?_
        refine lv_bipush (v := 14) hx hb dX7_isVowel_16 (by decide) ?_
        refine lv_icmp_eq (tgt := 27) hx hb dX7_isVowel_18 (by decide) (fun c_4 => ?_) (fun c_4 => ?_)
        · rw [if_pos c_4] at hM
          refine lv_iconst (v := 1) hx hb dX7_isVowel_27 (by decide) ?_
          refine lv_goto (tgt := 32) hx hb dX7_isVowel_28 (by decide) ?_
          have q1 := Option.some.inj hM
          subst q1
          exact kr _ _ _ _ dX7_isVowel_32 (by decide) hP hD hS
        · rw [if_neg c_4] at hM
          refine lv_iload_n hx hb dX7_isVowel_21 rfl (lv_at hl 0 rfl) ?_
          refine lv_bipush (v := 20) hx hb dX7_isVowel_22 (by decide) ?_
          refine lv_icmp_ne (tgt := 31) hx hb dX7_isVowel_24 (by decide) (fun c_5 => ?_) (fun c_5 => ?_)
          · rw [if_neg c_5] at hM
            refine lv_iconst (v := 0) hx hb dX7_isVowel_31 (by decide) ?_
            have q1 := Option.some.inj hM
            subst q1
            exact kr _ _ _ _ dX7_isVowel_32 (by decide) hP hD hS
          · rw [if_pos c_5] at hM
            refine lv_iconst (v := 1) hx hb dX7_isVowel_27 (by decide) ?_
            refine lv_goto (tgt := 32) hx hb dX7_isVowel_28 (by decide) ?_
            have q1 := Option.some.inj hM
            subst q1
            exact kr _ _ _ _ dX7_isVowel_32 (by decide) hP hD hS
set_option maxHeartbeats 4000000 in
set_option maxRecDepth 100000 in
theorem kX7_isVowel (l : Launch) (G : va_G) (K : Nat → ClassId)  (p1 : Int32) (sz : Nat) (r : Int32)  (hM : mX7_isVowel p1 = some r) : Met l yX7_isVowel (mC yX7_isVowel cX7_isVowel 1 (some .boolean)) rmX7_isVowel (va_Pc [.int p1] (PCe G K E0 [] sz)) (va_Qi (fun (x : Int32) (_ : Unit) => x = r) (fun _ t => va_P G vwCl [] t.heap) (va_A [] sz)) rmX7_isVowel.cells rmX7_isVowel.slots (va_A [] sz) := by
  refine Met.ofW (cc := cX7_isVowel) (maxL := 1) (ret := (some .boolean)) (by decide) rfl ?_
  intro p e s m args below meth c s₁ B hml hv
  obtain ⟨rfl, hsz, hP, hK, hD0, hE⟩ := hv
  have hx := B.exec
  have hb := B.bytes
  have hr := B.returns
  have hts0 := atoms_spec (ws := mC yX7_isVowel cX7_isVowel 1 (some .boolean)) B.pre
  have hts : ∀ w ∈ tbG, w.before _ s = true := fun w h => hts0 w (List.mem_cons_of_mem _ h)
  have hown : s.vm.findClass RX7 = some m.cls := findClass_of_methodNamed B.named
  subst hsz
  have hD := hD0.self (sz := s.heap.size)
  generalize hAe : va_A [] s.heap.size = A at hD hE ⊢
  have hA : ∀ q : Nat, s.heap.size ≤ q → A q := fun q h => by rw [← hAe]; exact Or.inr h
  have hS : va_S A s.heap s.heap [] := va_S.rf
  have hl := lv_entry ([.int p1]) (n := 1) (Nat.le_of_ble_eq_true rfl)
  rw [lg_entry_eq]
  generalize (lg_sl ([.int p1]) ++ List.replicate (1 - (lg_sl ([.int p1])).length) Slot.unset).toArray = ls at hl ⊢
  have hl : lv_has ls 1 [(0, .int p1)] := hl
  exact wX7_isVowel_b0 ⟨hx, hb, hml, hown, hts, hK, hA, E0_ok, hE⟩ p1 r (fun H locs ls pc hdg hz hP hD hS => W.zret (v := r) (ty := .boolean) hx hb hr (nar_b hz) (fun t ht hW => ⟨⟨r, (), rfl, rfl, (show va_P G vwCl _ t.heap by rw [ht]; exact hP)⟩, hS.F ht⟩) hS.2.2 hdg)   hM _ _ _ hP hD hS hl
abbrev WX7_wordsOf (K : Nat → ClassId) (arA1 : Nat) (ar1 : Nat → Int32) : va_W := [aI K arA1 207 ar1]
def rmX7_wordsOf : Room := { frames := 0, cells := 0, slots := 0, locals := 0 }
theorem hdX7_wordsOf : yX7_wordsOf.cls ≠ "java/lang/invoke/MethodHandle" ∧ yX7_wordsOf.cls ≠ "java/lang/invoke/VarHandle" ∧ (parseMethodDescriptor yX7_wordsOf.desc).map (fun d => d.parameters.length) = some 1 := by decide +kernel
set_option maxHeartbeats 4000000 in
set_option maxRecDepth 100000 in
theorem wX7_wordsOf_b0 {p : Program} {l : Launch} {e : Env} {s : State} {m : MethodId} {args : Array Value} {below : List Frame} {meth : Method} {c : Code} {Q : State → Prop} {G : va_G} {K : Nat → ClassId} {A : Nat → Prop} (C0 : CX p s m args c cX7_wordsOf 1 RX7 G K E0 A) (arA1 : Nat) (ar1 : Nat → Int32)  (r : Int32)  (kr : ∀ (H : Heap) (locs : List Loc) (ls : Array Slot) (pc : Nat), decode cX7_wordsOf pc = .ok (.ireturn, 1) → va_P G vwCl (WX7_wordsOf K arA1 ar1) H → va_D A (WX7_wordsOf K arA1 ar1) → va_S A s.heap H locs → W p l e rmX7_wordsOf s m args below meth c H locs 0 0 Q (F0 m pc ls [.int r]))  (hM : mX7_wordsOf_b0 ar1   = some r) : ∀ (H : Heap) (locs : List Loc) (ls : Array Slot), va_P G vwCl (WX7_wordsOf K arA1 ar1) H → va_D A (WX7_wordsOf K arA1 ar1) → va_S A s.heap H locs → lv_has ls 1 [(0, .ref arA1)] → W p l e rmX7_wordsOf s m args below meth c H locs 0 0 Q (F0 m 0 ls []) := by
  obtain ⟨hx, hb, hml, hown, hts, hK, hA, hEo, hE⟩ := id C0
  intro H locs ls hP hD hS hl
  unfold mX7_wordsOf_b0 at hM
  refine lv_aload_n hx hb dX7_wordsOf_0 rfl (lv_at hl 0 rfl) ?_
  refine lv_iconst (v := 3) hx hb dX7_wordsOf_1 (by decide) ?_
  refine va_iald hx hb hK hP 0 0 rfl rfl (show ¬ ((3 : Int32) < 0 ∨ 207 ≤ ((3 : Int32)).toNatClampNeg) by decide) dX7_wordsOf_2 ?_
  refine lv_aload_n hx hb dX7_wordsOf_3 rfl (lv_at hl 0 rfl) ?_
  refine lv_iconst (v := 4) hx hb dX7_wordsOf_4 (by decide) ?_
  refine va_iald hx hb hK hP 0 0 rfl rfl (show ¬ ((4 : Int32) < 0 ∨ 207 ≤ ((4 : Int32)).toNatClampNeg) by decide) dX7_wordsOf_5 ?_
  refine lv_iadd hx hb dX7_wordsOf_6 ?_
  refine lv_aload_n hx hb dX7_wordsOf_7 rfl (lv_at hl 0 rfl) ?_
  refine lv_iconst (v := 5) hx hb dX7_wordsOf_8 (by decide) ?_
  refine va_iald hx hb hK hP 0 0 rfl rfl (show ¬ ((5 : Int32) < 0 ∨ 207 ≤ ((5 : Int32)).toNatClampNeg) by decide) dX7_wordsOf_9 ?_
  refine lv_iadd hx hb dX7_wordsOf_10 ?_
  refine lv_aload_n hx hb dX7_wordsOf_11 rfl (lv_at hl 0 rfl) ?_
  refine lv_bipush (v := 6) hx hb dX7_wordsOf_12 (by decide) ?_
  refine va_iald hx hb hK hP 0 0 rfl rfl (show ¬ ((6 : Int32) < 0 ∨ 207 ≤ ((6 : Int32)).toNatClampNeg) by decide) dX7_wordsOf_14 ?_
  refine lv_iadd hx hb dX7_wordsOf_15 ?_
  have q1 := Option.some.inj hM
  subst q1
  exact kr _ _ _ _ dX7_wordsOf_16 hP hD hS
set_option maxHeartbeats 4000000 in
set_option maxRecDepth 100000 in
theorem kX7_wordsOf (l : Launch) (G : va_G) (K : Nat → ClassId) (arA1 : Nat) (ar1 : Nat → Int32)  (sz : Nat) (r : Int32)  (hM : mX7_wordsOf ar1 = some r) : Met l yX7_wordsOf (mC yX7_wordsOf cX7_wordsOf 1 (some .int)) rmX7_wordsOf (va_Pc [.ref arA1] (PCe G K E0 (WX7_wordsOf K arA1 ar1) sz)) (va_Qi (fun (x : Int32) (_ : Unit) => x = r) (fun _ t => va_P G vwCl (WX7_wordsOf K arA1 ar1) t.heap) (va_A (WX7_wordsOf K arA1 ar1) sz)) rmX7_wordsOf.cells rmX7_wordsOf.slots (va_A (WX7_wordsOf K arA1 ar1) sz) := by
  refine Met.ofW (cc := cX7_wordsOf) (maxL := 1) (ret := (some .int)) (by decide) rfl ?_
  intro p e s m args below meth c s₁ B hml hv
  obtain ⟨rfl, hsz, hP, hK, hD0, hE⟩ := hv
  have hx := B.exec
  have hb := B.bytes
  have hr := B.returns
  have hts0 := atoms_spec (ws := mC yX7_wordsOf cX7_wordsOf 1 (some .int)) B.pre
  have hts : ∀ w ∈ tbG, w.before _ s = true := fun w h => hts0 w (List.mem_cons_of_mem _ h)
  have hown : s.vm.findClass RX7 = some m.cls := findClass_of_methodNamed B.named
  subst hsz
  have hD := hD0.self (sz := s.heap.size)
  generalize hAe : va_A (WX7_wordsOf K arA1 ar1) s.heap.size = A at hD hE ⊢
  have hA : ∀ q : Nat, s.heap.size ≤ q → A q := fun q h => by rw [← hAe]; exact Or.inr h
  have hS : va_S A s.heap s.heap [] := va_S.rf
  have hl := lv_entry ([.ref arA1]) (n := 1) (Nat.le_of_ble_eq_true rfl)
  rw [lg_entry_eq]
  generalize (lg_sl ([.ref arA1]) ++ List.replicate (1 - (lg_sl ([.ref arA1])).length) Slot.unset).toArray = ls at hl ⊢
  have hl : lv_has ls 1 [(0, .ref arA1)] := hl
  exact wX7_wordsOf_b0 ⟨hx, hb, hml, hown, hts, hK, hA, E0_ok, hE⟩ arA1 ar1 r (fun H locs ls pc hdg hP hD hS => W.iret (v := r) hx hb hr (fun t ht hW => ⟨⟨r, (), rfl, rfl, (show va_P G vwCl _ t.heap by rw [ht]; exact hP)⟩, hS.F ht⟩) hS.2.2 hdg)   hM _ _ _ hP hD hS hl
abbrev WX7_badAt (K : Nat → ClassId) (m_a mA_lane mA_many mA_item mA_poem mA_fresh mA_then mA_was mA_tape mA_strengths mA_sounds mA_stand mA_scheme mA_isKept mA_kept mA_trace : Nat) (m_thrown : Int32) (m_status : Int32) (m_acts : Int32) (m_taped : Int32) (m_cursor : Int32) (m_start : Int32) (m_token : Int32) (m_value : Int32) (m_fault : Int32) (m_faultAt : Int32) (m_latest : Int32) (m_stands : Int32) (m_least : Int32) (m_ways : Int32) (m_nearFoot : Int32) (m_nearFeet : Int32) (m_nearCost : Int32) (m_traced : Int32) : va_W := [(m_a, .inr (7, [.int m_thrown, .int m_status, .ref mA_lane, .ref mA_many, .ref mA_item, .ref mA_poem, .ref mA_fresh, .ref mA_then, .ref mA_was, .int m_acts, .ref mA_tape, .int m_taped, .int m_cursor, .int m_start, .int m_token, .int m_value, .int m_fault, .int m_faultAt, .int m_latest, .ref mA_strengths, .ref mA_sounds, .ref mA_stand, .int m_stands, .int m_least, .int m_ways, .ref mA_scheme, .int m_nearFoot, .int m_nearFeet, .int m_nearCost, .ref mA_isKept, .ref mA_kept, .ref mA_trace, .int m_traced]))]
def rmX7_badAt : Room := { frames := 0, cells := 0, slots := 0, locals := 0 }
theorem hdX7_badAt : yX7_badAt.cls = RX7 ∧ yX7_badAt.cls ≠ "java/lang/invoke/MethodHandle" ∧ yX7_badAt.cls ≠ "java/lang/invoke/VarHandle" ∧ (parseMethodDescriptor yX7_badAt.desc).map (fun d => d.parameters.length) = some 2 := by decide +kernel
set_option maxHeartbeats 4000000 in
set_option maxRecDepth 100000 in
theorem wX7_badAt_b15 {p : Program} {l : Launch} {e : Env} {s : State} {m : MethodId} {args : Array Value} {below : List Frame} {meth : Method} {c : Code} {Q : State → Prop} {G : va_G} {K : Nat → ClassId} {A : Nat → Prop} (C0 : CX p s m args c cX7_badAt 3 RX7 G K E0 A) (m_a mA_lane mA_many mA_item mA_poem mA_fresh mA_then mA_was mA_tape mA_strengths mA_sounds mA_stand mA_scheme mA_isKept mA_kept mA_trace : Nat) (m_thrown : Int32) (m_status : Int32) (m_acts : Int32) (m_taped : Int32) (m_cursor : Int32) (m_start : Int32) (m_token : Int32) (m_value : Int32) (m_latest : Int32) (m_stands : Int32) (m_least : Int32) (m_ways : Int32) (m_nearFoot : Int32) (m_nearFeet : Int32) (m_nearCost : Int32) (m_traced : Int32) (p1 : Int32) (p2 : Int32) (o_m_fault : Int32) (o_m_faultAt : Int32) (kr : ∀ (H : Heap) (locs : List Loc) (ls : Array Slot) (pc : Nat), decode cX7_badAt pc = .ok (.return_, 1) → va_P G vwCl (WX7_badAt K m_a mA_lane mA_many mA_item mA_poem mA_fresh mA_then mA_was mA_tape mA_strengths mA_sounds mA_stand mA_scheme mA_isKept mA_kept mA_trace m_thrown m_status m_acts m_taped m_cursor m_start m_token m_value o_m_fault o_m_faultAt m_latest m_stands m_least m_ways m_nearFoot m_nearFeet m_nearCost m_traced) H → va_D A (WX7_badAt K m_a mA_lane mA_many mA_item mA_poem mA_fresh mA_then mA_was mA_tape mA_strengths mA_sounds mA_stand mA_scheme mA_isKept mA_kept mA_trace m_thrown m_status m_acts m_taped m_cursor m_start m_token m_value o_m_fault o_m_faultAt m_latest m_stands m_least m_ways m_nearFoot m_nearFeet m_nearCost m_traced) → va_S A s.heap H locs → W p l e rmX7_badAt s m args below meth c H locs 0 0 Q (F0 m pc ls [])) (m_fault : Int32) (m_faultAt : Int32) (hM : mX7_badAt_b15 p1 p2  m_fault m_faultAt = some (o_m_fault, o_m_faultAt)) : ∀ (H : Heap) (locs : List Loc) (ls : Array Slot), va_P G vwCl (WX7_badAt K m_a mA_lane mA_many mA_item mA_poem mA_fresh mA_then mA_was mA_tape mA_strengths mA_sounds mA_stand mA_scheme mA_isKept mA_kept mA_trace m_thrown m_status m_acts m_taped m_cursor m_start m_token m_value m_fault m_faultAt m_latest m_stands m_least m_ways m_nearFoot m_nearFeet m_nearCost m_traced) H → va_D A (WX7_badAt K m_a mA_lane mA_many mA_item mA_poem mA_fresh mA_then mA_was mA_tape mA_strengths mA_sounds mA_stand mA_scheme mA_isKept mA_kept mA_trace m_thrown m_status m_acts m_taped m_cursor m_start m_token m_value m_fault m_faultAt m_latest m_stands m_least m_ways m_nearFoot m_nearFeet m_nearCost m_traced) → va_S A s.heap H locs → lv_has ls 3 [(0, .ref m_a), (1, .int p1), (2, .int p2)] → W p l e rmX7_badAt s m args below meth c H locs 0 0 Q (F0 m 15 ls []) := by
  obtain ⟨hx, hb, hml, hown, hts, hK, hA, hEo, hE⟩ := id C0
  intro H locs ls hP hD hS hl
  unfold mX7_badAt_b15 at hM
  refine lv_aload_n hx hb dX7_badAt_15 rfl (lv_at hl 0 rfl) ?_
  refine lv_iload_n hx hb dX7_badAt_16 rfl (lv_at hl 1 rfl) ?_
  refine va_put (D := G) (ci := 7) (v := .int p1) (ty := .int) (C := RX7) (T := TX7) (N := 33) hx hb hts inX7 tyX7 tyX7_ok nmX7 hown hK hP hD hS 0 rfl rfl 16 (by decide) (hts _ tb780) (fun _ h9 => h9) rfl (tyX7_ok 16 (by decide)) rfl rfl (Nat.le_of_ble_eq_true rfl) dX7_badAt_17 (fun H locs hP hD hS => ?_)
  have hP : va_P G vwCl (WX7_badAt K m_a mA_lane mA_many mA_item mA_poem mA_fresh mA_then mA_was mA_tape mA_strengths mA_sounds mA_stand mA_scheme mA_isKept mA_kept mA_trace m_thrown m_status m_acts m_taped m_cursor m_start m_token m_value p1 m_faultAt m_latest m_stands m_least m_ways m_nearFoot m_nearFeet m_nearCost m_traced) H := hP
  have hD : va_D A (WX7_badAt K m_a mA_lane mA_many mA_item mA_poem mA_fresh mA_then mA_was mA_tape mA_strengths mA_sounds mA_stand mA_scheme mA_isKept mA_kept mA_trace m_thrown m_status m_acts m_taped m_cursor m_start m_token m_value p1 m_faultAt m_latest m_stands m_least m_ways m_nearFoot m_nearFeet m_nearCost m_traced) := hD
  refine lv_aload_n hx hb dX7_badAt_20 rfl (lv_at hl 0 rfl) ?_
  refine lv_iload_n hx hb dX7_badAt_21 rfl (lv_at hl 2 rfl) ?_
  refine va_put (D := G) (ci := 7) (v := .int p2) (ty := .int) (C := RX7) (T := TX7) (N := 33) hx hb hts inX7 tyX7 tyX7_ok nmX7 hown hK hP hD hS 0 rfl rfl 17 (by decide) (hts _ tb781) (fun _ h9 => h9) rfl (tyX7_ok 17 (by decide)) rfl rfl (Nat.le_of_ble_eq_true rfl) dX7_badAt_22 (fun H locs hP hD hS => ?_)
  have hP : va_P G vwCl (WX7_badAt K m_a mA_lane mA_many mA_item mA_poem mA_fresh mA_then mA_was mA_tape mA_strengths mA_sounds mA_stand mA_scheme mA_isKept mA_kept mA_trace m_thrown m_status m_acts m_taped m_cursor m_start m_token m_value p1 p2 m_latest m_stands m_least m_ways m_nearFoot m_nearFeet m_nearCost m_traced) H := hP
  have hD : va_D A (WX7_badAt K m_a mA_lane mA_many mA_item mA_poem mA_fresh mA_then mA_was mA_tape mA_strengths mA_sounds mA_stand mA_scheme mA_isKept mA_kept mA_trace m_thrown m_status m_acts m_taped m_cursor m_start m_token m_value p1 p2 m_latest m_stands m_least m_ways m_nearFoot m_nearFeet m_nearCost m_traced) := hD
  have t0 := Option.some.inj hM
  obtain ⟨q1, t1⟩ := Prod.mk.inj t0
  subst q1
  subst t1
  exact kr _ _ _ _ dX7_badAt_25 hP hD hS
set_option maxHeartbeats 4000000 in
set_option maxRecDepth 100000 in
theorem wX7_badAt_b0 {p : Program} {l : Launch} {e : Env} {s : State} {m : MethodId} {args : Array Value} {below : List Frame} {meth : Method} {c : Code} {Q : State → Prop} {G : va_G} {K : Nat → ClassId} {A : Nat → Prop} (C0 : CX p s m args c cX7_badAt 3 RX7 G K E0 A) (m_a mA_lane mA_many mA_item mA_poem mA_fresh mA_then mA_was mA_tape mA_strengths mA_sounds mA_stand mA_scheme mA_isKept mA_kept mA_trace : Nat) (m_thrown : Int32) (m_status : Int32) (m_acts : Int32) (m_taped : Int32) (m_cursor : Int32) (m_start : Int32) (m_token : Int32) (m_value : Int32) (m_latest : Int32) (m_stands : Int32) (m_least : Int32) (m_ways : Int32) (m_nearFoot : Int32) (m_nearFeet : Int32) (m_nearCost : Int32) (m_traced : Int32) (p1 : Int32) (p2 : Int32) (o_m_fault : Int32) (o_m_faultAt : Int32) (kr : ∀ (H : Heap) (locs : List Loc) (ls : Array Slot) (pc : Nat), decode cX7_badAt pc = .ok (.return_, 1) → va_P G vwCl (WX7_badAt K m_a mA_lane mA_many mA_item mA_poem mA_fresh mA_then mA_was mA_tape mA_strengths mA_sounds mA_stand mA_scheme mA_isKept mA_kept mA_trace m_thrown m_status m_acts m_taped m_cursor m_start m_token m_value o_m_fault o_m_faultAt m_latest m_stands m_least m_ways m_nearFoot m_nearFeet m_nearCost m_traced) H → va_D A (WX7_badAt K m_a mA_lane mA_many mA_item mA_poem mA_fresh mA_then mA_was mA_tape mA_strengths mA_sounds mA_stand mA_scheme mA_isKept mA_kept mA_trace m_thrown m_status m_acts m_taped m_cursor m_start m_token m_value o_m_fault o_m_faultAt m_latest m_stands m_least m_ways m_nearFoot m_nearFeet m_nearCost m_traced) → va_S A s.heap H locs → W p l e rmX7_badAt s m args below meth c H locs 0 0 Q (F0 m pc ls [])) (m_fault : Int32) (m_faultAt : Int32) (hM : mX7_badAt_b0 p1 p2  m_fault m_faultAt = some (o_m_fault, o_m_faultAt)) : ∀ (H : Heap) (locs : List Loc) (ls : Array Slot), va_P G vwCl (WX7_badAt K m_a mA_lane mA_many mA_item mA_poem mA_fresh mA_then mA_was mA_tape mA_strengths mA_sounds mA_stand mA_scheme mA_isKept mA_kept mA_trace m_thrown m_status m_acts m_taped m_cursor m_start m_token m_value m_fault m_faultAt m_latest m_stands m_least m_ways m_nearFoot m_nearFeet m_nearCost m_traced) H → va_D A (WX7_badAt K m_a mA_lane mA_many mA_item mA_poem mA_fresh mA_then mA_was mA_tape mA_strengths mA_sounds mA_stand mA_scheme mA_isKept mA_kept mA_trace m_thrown m_status m_acts m_taped m_cursor m_start m_token m_value m_fault m_faultAt m_latest m_stands m_least m_ways m_nearFoot m_nearFeet m_nearCost m_traced) → va_S A s.heap H locs → lv_has ls 3 [(0, .ref m_a), (1, .int p1), (2, .int p2)] → W p l e rmX7_badAt s m args below meth c H locs 0 0 Q (F0 m 0 ls []) := by
  obtain ⟨hx, hb, hml, hown, hts, hK, hA, hEo, hE⟩ := id C0
  intro H locs ls hP hD hS hl
  unfold mX7_badAt_b0 at hM
  refine lv_aload_n hx hb dX7_badAt_0 rfl (lv_at hl 0 rfl) ?_
  refine va_get (D := G) (ci := 7) (v := .int m_fault) (C := RX7) (T := TX7) (N := 33) hx hb hts inX7 hown hK hP 0 rfl rfl 16 (by decide) (hts _ tb780) (fun _ h9 => h9) rfl dX7_badAt_1 ?_
  refine lv_if_eq (tgt := 15) hx hb dX7_badAt_4 (by decide) (fun c_1 => ?_) (fun c_1 => ?_)
  · rw [if_pos c_1] at hM
    exact wX7_badAt_b15 C0 m_a mA_lane mA_many mA_item mA_poem mA_fresh mA_then mA_was mA_tape mA_strengths mA_sounds mA_stand mA_scheme mA_isKept mA_kept mA_trace m_thrown m_status m_acts m_taped m_cursor m_start m_token m_value m_latest m_stands m_least m_ways m_nearFoot m_nearFeet m_nearCost m_traced p1 p2 o_m_fault o_m_faultAt kr  m_fault m_faultAt hM _ _ _ hP hD hS (lv_sub hl [0, 1, 2] rfl)
  · rw [if_neg c_1] at hM
    refine lv_aload_n hx hb dX7_badAt_7 rfl (lv_at hl 0 rfl) ?_
    refine va_get (D := G) (ci := 7) (v := .int m_faultAt) (C := RX7) (T := TX7) (N := 33) hx hb hts inX7 hown hK hP 0 rfl rfl 17 (by decide) (hts _ tb781) (fun _ h9 => h9) rfl dX7_badAt_8 ?_
    refine lv_iload_n hx hb dX7_badAt_11 rfl (lv_at hl 2 rfl) ?_
    refine lv_icmp_le (tgt := 25) hx hb dX7_badAt_12 (by decide) (fun c_2 => ?_) (fun c_2 => ?_)
    · rw [if_pos c_2] at hM
      have t0 := Option.some.inj hM
      obtain ⟨q1, t1⟩ := Prod.mk.inj t0
      subst q1
      subst t1
      exact kr _ _ _ _ dX7_badAt_25 hP hD hS
    · rw [if_neg c_2] at hM
      exact wX7_badAt_b15 C0 m_a mA_lane mA_many mA_item mA_poem mA_fresh mA_then mA_was mA_tape mA_strengths mA_sounds mA_stand mA_scheme mA_isKept mA_kept mA_trace m_thrown m_status m_acts m_taped m_cursor m_start m_token m_value m_latest m_stands m_least m_ways m_nearFoot m_nearFeet m_nearCost m_traced p1 p2 o_m_fault o_m_faultAt kr  m_fault m_faultAt hM _ _ _ hP hD hS (lv_sub hl [0, 1, 2] rfl)
set_option maxHeartbeats 4000000 in
set_option maxRecDepth 100000 in
theorem kX7_badAt (l : Launch) (G : va_G) (K : Nat → ClassId) (m_a mA_lane mA_many mA_item mA_poem mA_fresh mA_then mA_was mA_tape mA_strengths mA_sounds mA_stand mA_scheme mA_isKept mA_kept mA_trace : Nat) (m_thrown : Int32) (m_status : Int32) (m_acts : Int32) (m_taped : Int32) (m_cursor : Int32) (m_start : Int32) (m_token : Int32) (m_value : Int32) (m_fault : Int32) (m_faultAt : Int32) (m_latest : Int32) (m_stands : Int32) (m_least : Int32) (m_ways : Int32) (m_nearFoot : Int32) (m_nearFeet : Int32) (m_nearCost : Int32) (m_traced : Int32) (p1 : Int32) (p2 : Int32) (sz : Nat) (o_m_fault : Int32) (o_m_faultAt : Int32) (hM : mX7_badAt m_fault m_faultAt p1 p2 = some (o_m_fault, o_m_faultAt)) : Met l yX7_badAt (mC yX7_badAt cX7_badAt 3 none) rmX7_badAt (va_Pc [.ref m_a, .int p1, .int p2] (PCe G K E0 (WX7_badAt K m_a mA_lane mA_many mA_item mA_poem mA_fresh mA_then mA_was mA_tape mA_strengths mA_sounds mA_stand mA_scheme mA_isKept mA_kept mA_trace m_thrown m_status m_acts m_taped m_cursor m_start m_token m_value m_fault m_faultAt m_latest m_stands m_least m_ways m_nearFoot m_nearFeet m_nearCost m_traced) sz)) (va_Qv (fun (_ : Unit) => True) (fun _ t => va_P G vwCl (WX7_badAt K m_a mA_lane mA_many mA_item mA_poem mA_fresh mA_then mA_was mA_tape mA_strengths mA_sounds mA_stand mA_scheme mA_isKept mA_kept mA_trace m_thrown m_status m_acts m_taped m_cursor m_start m_token m_value o_m_fault o_m_faultAt m_latest m_stands m_least m_ways m_nearFoot m_nearFeet m_nearCost m_traced) t.heap) (va_A (WX7_badAt K m_a mA_lane mA_many mA_item mA_poem mA_fresh mA_then mA_was mA_tape mA_strengths mA_sounds mA_stand mA_scheme mA_isKept mA_kept mA_trace m_thrown m_status m_acts m_taped m_cursor m_start m_token m_value m_fault m_faultAt m_latest m_stands m_least m_ways m_nearFoot m_nearFeet m_nearCost m_traced) sz)) rmX7_badAt.cells rmX7_badAt.slots (va_A (WX7_badAt K m_a mA_lane mA_many mA_item mA_poem mA_fresh mA_then mA_was mA_tape mA_strengths mA_sounds mA_stand mA_scheme mA_isKept mA_kept mA_trace m_thrown m_status m_acts m_taped m_cursor m_start m_token m_value m_fault m_faultAt m_latest m_stands m_least m_ways m_nearFoot m_nearFeet m_nearCost m_traced) sz) := by
  refine Met.ofW (cc := cX7_badAt) (maxL := 3) (ret := none) (by decide) rfl ?_
  intro p e s m args below meth c s₁ B hml hv
  obtain ⟨rfl, hsz, hP, hK, hD0, hE⟩ := hv
  have hx := B.exec
  have hb := B.bytes
  have hr := B.returns
  have hts0 := atoms_spec (ws := mC yX7_badAt cX7_badAt 3 none) B.pre
  have hts : ∀ w ∈ tbG, w.before _ s = true := fun w h => hts0 w (List.mem_cons_of_mem _ h)
  have hown : s.vm.findClass RX7 = some m.cls := findClass_of_methodNamed B.named
  subst hsz
  have hD := hD0.self (sz := s.heap.size)
  generalize hAe : va_A (WX7_badAt K m_a mA_lane mA_many mA_item mA_poem mA_fresh mA_then mA_was mA_tape mA_strengths mA_sounds mA_stand mA_scheme mA_isKept mA_kept mA_trace m_thrown m_status m_acts m_taped m_cursor m_start m_token m_value m_fault m_faultAt m_latest m_stands m_least m_ways m_nearFoot m_nearFeet m_nearCost m_traced) s.heap.size = A at hD hE ⊢
  have hA : ∀ q : Nat, s.heap.size ≤ q → A q := fun q h => by rw [← hAe]; exact Or.inr h
  have hS : va_S A s.heap s.heap [] := va_S.rf
  have hl := lv_entry ([.ref m_a, .int p1, .int p2]) (n := 3) (Nat.le_of_ble_eq_true rfl)
  rw [lg_entry_eq]
  generalize (lg_sl ([.ref m_a, .int p1, .int p2]) ++ List.replicate (3 - (lg_sl ([.ref m_a, .int p1, .int p2])).length) Slot.unset).toArray = ls at hl ⊢
  have hl : lv_has ls 3 [(0, .ref m_a), (1, .int p1), (2, .int p2)] := hl
  exact wX7_badAt_b0 ⟨hx, hb, hml, hown, hts, hK, hA, E0_ok, hE⟩ m_a mA_lane mA_many mA_item mA_poem mA_fresh mA_then mA_was mA_tape mA_strengths mA_sounds mA_stand mA_scheme mA_isKept mA_kept mA_trace m_thrown m_status m_acts m_taped m_cursor m_start m_token m_value m_latest m_stands m_least m_ways m_nearFoot m_nearFeet m_nearCost m_traced p1 p2 o_m_fault o_m_faultAt (fun H locs ls pc hdg hP hD hS => W.vret hx hb hr (fun t ht hW => ⟨⟨(), rfl, trivial, (show va_P G vwCl _ t.heap by rw [ht]; exact hP)⟩, hS.F ht⟩) hS.2.2 hdg) m_fault m_faultAt  hM _ _ _ hP hD hS hl
abbrev WX7_readWord (K : Nat → ClassId) (m_a mA_lane mA_many mA_item mA_poem mA_fresh mA_then mA_was mA_tape mA_strengths mA_sounds mA_stand mA_scheme mA_isKept mA_kept mA_trace : Nat) (m_thrown : Int32) (m_status : Int32) (m_acts : Int32) (m_taped : Int32) (m_cursor : Int32) (m_start : Int32) (m_token : Int32) (m_value : Int32) (m_fault : Int32) (m_faultAt : Int32) (m_latest : Int32) (m_stands : Int32) (m_least : Int32) (m_ways : Int32) (m_nearFoot : Int32) (m_nearFeet : Int32) (m_nearCost : Int32) (m_traced : Int32) (m_fresh : Nat → Int32) (m_tape : Nat → Int32) : va_W := [(m_a, .inr (7, [.int m_thrown, .int m_status, .ref mA_lane, .ref mA_many, .ref mA_item, .ref mA_poem, .ref mA_fresh, .ref mA_then, .ref mA_was, .int m_acts, .ref mA_tape, .int m_taped, .int m_cursor, .int m_start, .int m_token, .int m_value, .int m_fault, .int m_faultAt, .int m_latest, .ref mA_strengths, .ref mA_sounds, .ref mA_stand, .int m_stands, .int m_least, .int m_ways, .ref mA_scheme, .int m_nearFoot, .int m_nearFeet, .int m_nearCost, .ref mA_isKept, .ref mA_kept, .ref mA_trace, .int m_traced])), aI K mA_fresh 207 m_fresh, aI K mA_tape 130 m_tape]
def rmX7_readWord : Room := { frames := 4, cells := 0, slots := 0, locals := 89 }
theorem hdX7_readWord : yX7_readWord.cls = RX7 ∧ yX7_readWord.cls ≠ "java/lang/invoke/MethodHandle" ∧ yX7_readWord.cls ≠ "java/lang/invoke/VarHandle" ∧ (parseMethodDescriptor yX7_readWord.desc).map (fun d => d.parameters.length) = some 1 := by decide +kernel
set_option maxHeartbeats 4000000 in
set_option maxRecDepth 100000 in
theorem wX7_readWord_b128 {p : Program} {l : Launch} {e : Env} {s : State} {m : MethodId} {args : Array Value} {below : List Frame} {meth : Method} {c : Code} {Q : State → Prop} {G : va_G} {K : Nat → ClassId} {A : Nat → Prop} (C0 : CX p s m args c cX7_readWord 6 RX7 G K E0 A) (m_a mA_lane mA_many mA_item mA_poem mA_fresh mA_then mA_was mA_tape mA_strengths mA_sounds mA_stand mA_scheme mA_isKept mA_kept mA_trace : Nat) (m_thrown : Int32) (m_status : Int32) (m_acts : Int32) (m_taped : Int32) (m_latest : Int32) (m_stands : Int32) (m_least : Int32) (m_ways : Int32) (m_nearFoot : Int32) (m_nearFeet : Int32) (m_nearCost : Int32) (m_traced : Int32) (m_tape : Nat → Int32) (p1 : Int32) (o_m_cursor : Int32) (o_m_start : Int32) (o_m_token : Int32) (o_m_value : Int32) (o_m_fault : Int32) (o_m_faultAt : Int32) (o_m_fresh : Nat → Int32) (kr : ∀ (H : Heap) (locs : List Loc) (ls : Array Slot) (pc : Nat), decode cX7_readWord pc = .ok (.return_, 1) → va_P G vwCl (WX7_readWord K m_a mA_lane mA_many mA_item mA_poem mA_fresh mA_then mA_was mA_tape mA_strengths mA_sounds mA_stand mA_scheme mA_isKept mA_kept mA_trace m_thrown m_status m_acts m_taped o_m_cursor o_m_start o_m_token o_m_value o_m_fault o_m_faultAt m_latest m_stands m_least m_ways m_nearFoot m_nearFeet m_nearCost m_traced o_m_fresh m_tape) H → va_D A (WX7_readWord K m_a mA_lane mA_many mA_item mA_poem mA_fresh mA_then mA_was mA_tape mA_strengths mA_sounds mA_stand mA_scheme mA_isKept mA_kept mA_trace m_thrown m_status m_acts m_taped o_m_cursor o_m_start o_m_token o_m_value o_m_fault o_m_faultAt m_latest m_stands m_least m_ways m_nearFoot m_nearFeet m_nearCost m_traced o_m_fresh m_tape) → va_S A s.heap H locs → W p l e rmX7_readWord s m args below meth c H locs 0 0 Q (F0 m pc ls [])) (k65 : Int32 → Int32 → Int32 → Int32 → Int32 → Int32 → (Nat → Int32) → Int32 → Int32 → Int32 → Int32 → Option ((Int32) × (Int32) × (Int32) × (Int32) × (Int32) × (Int32) × (Nat → Int32))) (hk65 : ∀ (m_cursor : Int32) (m_start : Int32) (m_token : Int32) (m_value : Int32) (m_fault : Int32) (m_faultAt : Int32) (m_fresh : Nat → Int32) (x2 : Int32) (x3 : Int32) (x4 : Int32) (x5 : Int32), k65 m_cursor m_start m_token m_value m_fault m_faultAt m_fresh x2 x3 x4 x5 = some (o_m_cursor, o_m_start, o_m_token, o_m_value, o_m_fault, o_m_faultAt, o_m_fresh) → ∀ (H : Heap) (locs : List Loc) (ls : Array Slot), va_P G vwCl (WX7_readWord K m_a mA_lane mA_many mA_item mA_poem mA_fresh mA_then mA_was mA_tape mA_strengths mA_sounds mA_stand mA_scheme mA_isKept mA_kept mA_trace m_thrown m_status m_acts m_taped m_cursor m_start m_token m_value m_fault m_faultAt m_latest m_stands m_least m_ways m_nearFoot m_nearFeet m_nearCost m_traced m_fresh m_tape) H → va_D A (WX7_readWord K m_a mA_lane mA_many mA_item mA_poem mA_fresh mA_then mA_was mA_tape mA_strengths mA_sounds mA_stand mA_scheme mA_isKept mA_kept mA_trace m_thrown m_status m_acts m_taped m_cursor m_start m_token m_value m_fault m_faultAt m_latest m_stands m_least m_ways m_nearFoot m_nearFeet m_nearCost m_traced m_fresh m_tape) → va_S A s.heap H locs → lv_has ls 6 [(0, .ref m_a), (1, .int p1), (2, .int x2), (3, .int x3), (4, .int x4), (5, .int x5)] → W p l e rmX7_readWord s m args below meth c H locs 0 0 Q (F0 m 65 ls [])) (m_cursor : Int32) (m_start : Int32) (m_token : Int32) (m_value : Int32) (m_fault : Int32) (m_faultAt : Int32) (m_fresh : Nat → Int32) (x2 : Int32) (x3 : Int32) (x4 : Int32) (s0 : Int32) (hM : mX7_readWord_b128 m_taped m_tape p1 k65 m_cursor m_start m_token m_value m_fault m_faultAt m_fresh x2 x3 x4 s0 = some (o_m_cursor, o_m_start, o_m_token, o_m_value, o_m_fault, o_m_faultAt, o_m_fresh)) : ∀ (H : Heap) (locs : List Loc) (ls : Array Slot), va_P G vwCl (WX7_readWord K m_a mA_lane mA_many mA_item mA_poem mA_fresh mA_then mA_was mA_tape mA_strengths mA_sounds mA_stand mA_scheme mA_isKept mA_kept mA_trace m_thrown m_status m_acts m_taped m_cursor m_start m_token m_value m_fault m_faultAt m_latest m_stands m_least m_ways m_nearFoot m_nearFeet m_nearCost m_traced m_fresh m_tape) H → va_D A (WX7_readWord K m_a mA_lane mA_many mA_item mA_poem mA_fresh mA_then mA_was mA_tape mA_strengths mA_sounds mA_stand mA_scheme mA_isKept mA_kept mA_trace m_thrown m_status m_acts m_taped m_cursor m_start m_token m_value m_fault m_faultAt m_latest m_stands m_least m_ways m_nearFoot m_nearFeet m_nearCost m_traced m_fresh m_tape) → va_S A s.heap H locs → lv_has ls 6 [(0, .ref m_a), (1, .int p1), (2, .int x2), (3, .int x3), (4, .int x4)] → W p l e rmX7_readWord s m args below meth c H locs 0 0 Q (F0 m 128 ls [.int s0]) := by
  obtain ⟨hx, hb, hml, hown, hts, hK, hA, hEo, hE⟩ := id C0
  intro H locs ls hP hD hS hl
  unfold mX7_readWord_b128 at hM
  refine lv_istore (lv' := [(5, .int s0), (0, .ref m_a), (1, .int p1), (2, .int x2), (3, .int x3), (4, .int x4)]) hx hb dX7_readWord_128 hl (by decide) rfl (fun ls hl => ?_)
  refine lv_iinc (v := (x4 + 1)) (lv' := [(4, .int (x4 + 1)), (5, .int s0), (0, .ref m_a), (1, .int p1), (2, .int x2), (3, .int x3)]) hx hb dX7_readWord_130 hl (k := 5) rfl rfl (by decide) rfl (fun ls hl => ?_)
  refine lv_aload_n hx hb dX7_readWord_133 rfl (lv_at hl 2 rfl) ?_
  obtain ⟨u0_1, u1_1, u2_1, u3_1, hC, hM⟩ := oe4 hM
  refine cV_v (As := []) (rest := []) C0 hP hD hS [0, 2] (kX7_nextToken l G K m_a mA_lane mA_many mA_item mA_poem mA_fresh mA_then mA_was mA_tape mA_strengths mA_sounds mA_stand mA_scheme mA_isKept mA_kept mA_trace m_thrown m_status m_acts m_taped m_cursor m_start m_token m_value m_fault m_faultAt m_latest m_stands m_least m_ways m_nearFoot m_nearFeet m_nearCost m_traced m_tape H.size u0_1 u1_1 u2_1 u3_1 hC) rfl rfl rfl tb913 tb915 tp15 tb9 tb916 hdX7_nextToken (va_recv hK hP (ci := 7) (q0 := 0) rfl rfl) ⟨Nat.le_of_ble_eq_true rfl, Nat.le_of_ble_eq_true rfl⟩ rfl hl.1 (Nat.le_of_ble_eq_true rfl) rfl ⟨Nat.le_refl _, Nat.le_refl _⟩ dX7_readWord_134 (fun H locs hP hD hS => ?_)
  have hP : va_P G vwCl (WX7_readWord K m_a mA_lane mA_many mA_item mA_poem mA_fresh mA_then mA_was mA_tape mA_strengths mA_sounds mA_stand mA_scheme mA_isKept mA_kept mA_trace m_thrown m_status m_acts m_taped u0_1 u1_1 u2_1 u3_1 m_fault m_faultAt m_latest m_stands m_least m_ways m_nearFoot m_nearFeet m_nearCost m_traced m_fresh m_tape) H := hP
  have hD : va_D A (WX7_readWord K m_a mA_lane mA_many mA_item mA_poem mA_fresh mA_then mA_was mA_tape mA_strengths mA_sounds mA_stand mA_scheme mA_isKept mA_kept mA_trace m_thrown m_status m_acts m_taped u0_1 u1_1 u2_1 u3_1 m_fault m_faultAt m_latest m_stands m_least m_ways m_nearFoot m_nearFeet m_nearCost m_traced m_fresh m_tape) := hD
  refine lv_goto (tgt := 65) hx hb dX7_readWord_137 (by decide) ?_
  exact hk65 u0_1 u1_1 u2_1 u3_1 m_fault m_faultAt m_fresh x2 x3 (x4 + 1) s0 hM _ _ _ hP hD hS (lv_sub hl [2, 3, 4, 5, 0, 1] rfl)
set_option maxHeartbeats 4000000 in
set_option maxRecDepth 100000 in
theorem wX7_readWord_b123 {p : Program} {l : Launch} {e : Env} {s : State} {m : MethodId} {args : Array Value} {below : List Frame} {meth : Method} {c : Code} {Q : State → Prop} {G : va_G} {K : Nat → ClassId} {A : Nat → Prop} (C0 : CX p s m args c cX7_readWord 6 RX7 G K E0 A) (m_a mA_lane mA_many mA_item mA_poem mA_fresh mA_then mA_was mA_tape mA_strengths mA_sounds mA_stand mA_scheme mA_isKept mA_kept mA_trace : Nat) (m_thrown : Int32) (m_status : Int32) (m_acts : Int32) (m_taped : Int32) (m_latest : Int32) (m_stands : Int32) (m_least : Int32) (m_ways : Int32) (m_nearFoot : Int32) (m_nearFeet : Int32) (m_nearCost : Int32) (m_traced : Int32) (m_tape : Nat → Int32) (p1 : Int32) (o_m_cursor : Int32) (o_m_start : Int32) (o_m_token : Int32) (o_m_value : Int32) (o_m_fault : Int32) (o_m_faultAt : Int32) (o_m_fresh : Nat → Int32) (kr : ∀ (H : Heap) (locs : List Loc) (ls : Array Slot) (pc : Nat), decode cX7_readWord pc = .ok (.return_, 1) → va_P G vwCl (WX7_readWord K m_a mA_lane mA_many mA_item mA_poem mA_fresh mA_then mA_was mA_tape mA_strengths mA_sounds mA_stand mA_scheme mA_isKept mA_kept mA_trace m_thrown m_status m_acts m_taped o_m_cursor o_m_start o_m_token o_m_value o_m_fault o_m_faultAt m_latest m_stands m_least m_ways m_nearFoot m_nearFeet m_nearCost m_traced o_m_fresh m_tape) H → va_D A (WX7_readWord K m_a mA_lane mA_many mA_item mA_poem mA_fresh mA_then mA_was mA_tape mA_strengths mA_sounds mA_stand mA_scheme mA_isKept mA_kept mA_trace m_thrown m_status m_acts m_taped o_m_cursor o_m_start o_m_token o_m_value o_m_fault o_m_faultAt m_latest m_stands m_least m_ways m_nearFoot m_nearFeet m_nearCost m_traced o_m_fresh m_tape) → va_S A s.heap H locs → W p l e rmX7_readWord s m args below meth c H locs 0 0 Q (F0 m pc ls [])) (k65 : Int32 → Int32 → Int32 → Int32 → Int32 → Int32 → (Nat → Int32) → Int32 → Int32 → Int32 → Int32 → Option ((Int32) × (Int32) × (Int32) × (Int32) × (Int32) × (Int32) × (Nat → Int32))) (hk65 : ∀ (m_cursor : Int32) (m_start : Int32) (m_token : Int32) (m_value : Int32) (m_fault : Int32) (m_faultAt : Int32) (m_fresh : Nat → Int32) (x2 : Int32) (x3 : Int32) (x4 : Int32) (x5 : Int32), k65 m_cursor m_start m_token m_value m_fault m_faultAt m_fresh x2 x3 x4 x5 = some (o_m_cursor, o_m_start, o_m_token, o_m_value, o_m_fault, o_m_faultAt, o_m_fresh) → ∀ (H : Heap) (locs : List Loc) (ls : Array Slot), va_P G vwCl (WX7_readWord K m_a mA_lane mA_many mA_item mA_poem mA_fresh mA_then mA_was mA_tape mA_strengths mA_sounds mA_stand mA_scheme mA_isKept mA_kept mA_trace m_thrown m_status m_acts m_taped m_cursor m_start m_token m_value m_fault m_faultAt m_latest m_stands m_least m_ways m_nearFoot m_nearFeet m_nearCost m_traced m_fresh m_tape) H → va_D A (WX7_readWord K m_a mA_lane mA_many mA_item mA_poem mA_fresh mA_then mA_was mA_tape mA_strengths mA_sounds mA_stand mA_scheme mA_isKept mA_kept mA_trace m_thrown m_status m_acts m_taped m_cursor m_start m_token m_value m_fault m_faultAt m_latest m_stands m_least m_ways m_nearFoot m_nearFeet m_nearCost m_traced m_fresh m_tape) → va_S A s.heap H locs → lv_has ls 6 [(0, .ref m_a), (1, .int p1), (2, .int x2), (3, .int x3), (4, .int x4), (5, .int x5)] → W p l e rmX7_readWord s m args below meth c H locs 0 0 Q (F0 m 65 ls [])) (m_cursor : Int32) (m_start : Int32) (m_token : Int32) (m_value : Int32) (m_fault : Int32) (m_faultAt : Int32) (m_fresh : Nat → Int32) (x2 : Int32) (x3 : Int32) (x4 : Int32) (hM : mX7_readWord_b123 m_taped m_tape p1 k65 m_cursor m_start m_token m_value m_fault m_faultAt m_fresh x2 x3 x4 = some (o_m_cursor, o_m_start, o_m_token, o_m_value, o_m_fault, o_m_faultAt, o_m_fresh)) : ∀ (H : Heap) (locs : List Loc) (ls : Array Slot), va_P G vwCl (WX7_readWord K m_a mA_lane mA_many mA_item mA_poem mA_fresh mA_then mA_was mA_tape mA_strengths mA_sounds mA_stand mA_scheme mA_isKept mA_kept mA_trace m_thrown m_status m_acts m_taped m_cursor m_start m_token m_value m_fault m_faultAt m_latest m_stands m_least m_ways m_nearFoot m_nearFeet m_nearCost m_traced m_fresh m_tape) H → va_D A (WX7_readWord K m_a mA_lane mA_many mA_item mA_poem mA_fresh mA_then mA_was mA_tape mA_strengths mA_sounds mA_stand mA_scheme mA_isKept mA_kept mA_trace m_thrown m_status m_acts m_taped m_cursor m_start m_token m_value m_fault m_faultAt m_latest m_stands m_least m_ways m_nearFoot m_nearFeet m_nearCost m_traced m_fresh m_tape) → va_S A s.heap H locs → lv_has ls 6 [(0, .ref m_a), (1, .int p1), (2, .int x2), (3, .int x3), (4, .int x4)] → W p l e rmX7_readWord s m args below meth c H locs 0 0 Q (F0 m 123 ls []) := by
  obtain ⟨hx, hb, hml, hown, hts, hK, hA, hEo, hE⟩ := id C0
  intro H locs ls hP hD hS hl
  unfold mX7_readWord_b123 at hM
  refine lv_iconst (v := 1) hx hb dX7_readWord_123 (by decide) ?_
  refine lv_goto (tgt := 128) hx hb dX7_readWord_124 (by decide) ?_
  exact wX7_readWord_b128 C0 m_a mA_lane mA_many mA_item mA_poem mA_fresh mA_then mA_was mA_tape mA_strengths mA_sounds mA_stand mA_scheme mA_isKept mA_kept mA_trace m_thrown m_status m_acts m_taped m_latest m_stands m_least m_ways m_nearFoot m_nearFeet m_nearCost m_traced m_tape p1 o_m_cursor o_m_start o_m_token o_m_value o_m_fault o_m_faultAt o_m_fresh kr k65 hk65 m_cursor m_start m_token m_value m_fault m_faultAt m_fresh x2 x3 x4 (1 : Int32) hM _ _ _ hP hD hS (lv_sub hl [0, 1, 2, 3, 4] rfl)
set_option maxHeartbeats 4000000 in
set_option maxRecDepth 100000 in
theorem wX7_readWord_b156 {p : Program} {l : Launch} {e : Env} {s : State} {m : MethodId} {args : Array Value} {below : List Frame} {meth : Method} {c : Code} {Q : State → Prop} {G : va_G} {K : Nat → ClassId} {A : Nat → Prop} (C0 : CX p s m args c cX7_readWord 6 RX7 G K E0 A) (m_a mA_lane mA_many mA_item mA_poem mA_fresh mA_then mA_was mA_tape mA_strengths mA_sounds mA_stand mA_scheme mA_isKept mA_kept mA_trace : Nat) (m_thrown : Int32) (m_status : Int32) (m_acts : Int32) (m_taped : Int32) (m_latest : Int32) (m_stands : Int32) (m_least : Int32) (m_ways : Int32) (m_nearFoot : Int32) (m_nearFeet : Int32) (m_nearCost : Int32) (m_traced : Int32) (m_tape : Nat → Int32) (p1 : Int32) (o_m_cursor : Int32) (o_m_start : Int32) (o_m_token : Int32) (o_m_value : Int32) (o_m_fault : Int32) (o_m_faultAt : Int32) (o_m_fresh : Nat → Int32) (kr : ∀ (H : Heap) (locs : List Loc) (ls : Array Slot) (pc : Nat), decode cX7_readWord pc = .ok (.return_, 1) → va_P G vwCl (WX7_readWord K m_a mA_lane mA_many mA_item mA_poem mA_fresh mA_then mA_was mA_tape mA_strengths mA_sounds mA_stand mA_scheme mA_isKept mA_kept mA_trace m_thrown m_status m_acts m_taped o_m_cursor o_m_start o_m_token o_m_value o_m_fault o_m_faultAt m_latest m_stands m_least m_ways m_nearFoot m_nearFeet m_nearCost m_traced o_m_fresh m_tape) H → va_D A (WX7_readWord K m_a mA_lane mA_many mA_item mA_poem mA_fresh mA_then mA_was mA_tape mA_strengths mA_sounds mA_stand mA_scheme mA_isKept mA_kept mA_trace m_thrown m_status m_acts m_taped o_m_cursor o_m_start o_m_token o_m_value o_m_fault o_m_faultAt m_latest m_stands m_least m_ways m_nearFoot m_nearFeet m_nearCost m_traced o_m_fresh m_tape) → va_S A s.heap H locs → W p l e rmX7_readWord s m args below meth c H locs 0 0 Q (F0 m pc ls [])) (m_cursor : Int32) (m_start : Int32) (m_token : Int32) (m_value : Int32) (m_fault : Int32) (m_faultAt : Int32) (m_fresh : Nat → Int32) (x2 : Int32) (x4 : Int32) (hM : mX7_readWord_b156 m_taped m_tape p1  m_cursor m_start m_token m_value m_fault m_faultAt m_fresh x2 x4 = some (o_m_cursor, o_m_start, o_m_token, o_m_value, o_m_fault, o_m_faultAt, o_m_fresh)) : ∀ (H : Heap) (locs : List Loc) (ls : Array Slot), va_P G vwCl (WX7_readWord K m_a mA_lane mA_many mA_item mA_poem mA_fresh mA_then mA_was mA_tape mA_strengths mA_sounds mA_stand mA_scheme mA_isKept mA_kept mA_trace m_thrown m_status m_acts m_taped m_cursor m_start m_token m_value m_fault m_faultAt m_latest m_stands m_least m_ways m_nearFoot m_nearFeet m_nearCost m_traced m_fresh m_tape) H → va_D A (WX7_readWord K m_a mA_lane mA_many mA_item mA_poem mA_fresh mA_then mA_was mA_tape mA_strengths mA_sounds mA_stand mA_scheme mA_isKept mA_kept mA_trace m_thrown m_status m_acts m_taped m_cursor m_start m_token m_value m_fault m_faultAt m_latest m_stands m_least m_ways m_nearFoot m_nearFeet m_nearCost m_traced m_fresh m_tape) → va_S A s.heap H locs → lv_has ls 6 [(0, .ref m_a), (1, .int p1), (2, .int x2), (4, .int x4)] → W p l e rmX7_readWord s m args below meth c H locs 0 0 Q (F0 m 156 ls []) := by
  obtain ⟨hx, hb, hml, hown, hts, hK, hA, hEo, hE⟩ := id C0
  intro H locs ls hP hD hS hl
  unfold mX7_readWord_b156 at hM
  refine lv_aload_n hx hb dX7_readWord_156 rfl (lv_at hl 0 rfl) ?_
  refine va_get (D := G) (ci := 7) (v := .ref mA_fresh) (C := RX7) (T := TX7) (N := 33) hx hb hts inX7 hown hK hP 0 rfl rfl 6 (by decide) (hts _ tb770) (fun _ h9 => h9) rfl dX7_readWord_157 ?_
  refine lv_iload_n hx hb dX7_readWord_160 rfl (lv_at hl 2 rfl) ?_
  refine lv_iconst (v := 1) hx hb dX7_readWord_161 (by decide) ?_
  refine lv_iadd hx hb dX7_readWord_162 ?_
  refine lv_iload hx hb dX7_readWord_163 (lv_at hl 3 rfl) ?_
  obtain ⟨g_2, hM⟩ := ng hM
  refine va_iast hx hb hK hP hD hS 1 0 rfl rfl g_2 dX7_readWord_165 (fun H locs hP hD hS => ?_)
  have hP : va_P G vwCl (WX7_readWord K m_a mA_lane mA_many mA_item mA_poem mA_fresh mA_then mA_was mA_tape mA_strengths mA_sounds mA_stand mA_scheme mA_isKept mA_kept mA_trace m_thrown m_status m_acts m_taped m_cursor m_start m_token m_value m_fault m_faultAt m_latest m_stands m_least m_ways m_nearFoot m_nearFeet m_nearCost m_traced (upd m_fresh (x2 + (1 : Int32)).toNatClampNeg x4) m_tape) H := hP
  have hD : va_D A (WX7_readWord K m_a mA_lane mA_many mA_item mA_poem mA_fresh mA_then mA_was mA_tape mA_strengths mA_sounds mA_stand mA_scheme mA_isKept mA_kept mA_trace m_thrown m_status m_acts m_taped m_cursor m_start m_token m_value m_fault m_faultAt m_latest m_stands m_least m_ways m_nearFoot m_nearFeet m_nearCost m_traced (upd m_fresh (x2 + (1 : Int32)).toNatClampNeg x4) m_tape) := hD
  refine lv_aload_n hx hb dX7_readWord_166 rfl (lv_at hl 0 rfl) ?_
  refine va_get (D := G) (ci := 7) (v := .ref mA_fresh) (C := RX7) (T := TX7) (N := 33) hx hb hts inX7 hown hK hP 0 rfl rfl 6 (by decide) (hts _ tb770) (fun _ h9 => h9) rfl dX7_readWord_167 ?_
  refine lv_iconst (v := 3) hx hb dX7_readWord_170 (by decide) ?_
  refine lv_iload_n hx hb dX7_readWord_171 rfl (lv_at hl 1 rfl) ?_
  refine lv_iadd hx hb dX7_readWord_172 ?_
  refine lv_dup2_11 hx hb dX7_readWord_173 rfl rfl ?_
  obtain ⟨g_3, hM⟩ := ng hM
  refine va_iald hx hb hK hP 1 0 rfl rfl g_3 dX7_readWord_174 ?_
  refine lv_iconst (v := 1) hx hb dX7_readWord_175 (by decide) ?_
  refine lv_iadd hx hb dX7_readWord_176 ?_
  obtain ⟨g_4, hM⟩ := ng hM
  refine va_iast hx hb hK hP hD hS 1 0 rfl rfl g_4 dX7_readWord_177 (fun H locs hP hD hS => ?_)
  have hP : va_P G vwCl (WX7_readWord K m_a mA_lane mA_many mA_item mA_poem mA_fresh mA_then mA_was mA_tape mA_strengths mA_sounds mA_stand mA_scheme mA_isKept mA_kept mA_trace m_thrown m_status m_acts m_taped m_cursor m_start m_token m_value m_fault m_faultAt m_latest m_stands m_least m_ways m_nearFoot m_nearFeet m_nearCost m_traced (upd (upd m_fresh (x2 + (1 : Int32)).toNatClampNeg x4) ((3 : Int32) + p1).toNatClampNeg (((upd m_fresh (x2 + (1 : Int32)).toNatClampNeg x4) ((3 : Int32) + p1).toNatClampNeg) + (1 : Int32))) m_tape) H := hP
  have hD : va_D A (WX7_readWord K m_a mA_lane mA_many mA_item mA_poem mA_fresh mA_then mA_was mA_tape mA_strengths mA_sounds mA_stand mA_scheme mA_isKept mA_kept mA_trace m_thrown m_status m_acts m_taped m_cursor m_start m_token m_value m_fault m_faultAt m_latest m_stands m_least m_ways m_nearFoot m_nearFeet m_nearCost m_traced (upd (upd m_fresh (x2 + (1 : Int32)).toNatClampNeg x4) ((3 : Int32) + p1).toNatClampNeg (((upd m_fresh (x2 + (1 : Int32)).toNatClampNeg x4) ((3 : Int32) + p1).toNatClampNeg) + (1 : Int32))) m_tape) := hD
  have t0 := Option.some.inj hM
  obtain ⟨q1, t1⟩ := Prod.mk.inj t0
  obtain ⟨q2, t2⟩ := Prod.mk.inj t1
  obtain ⟨q3, t3⟩ := Prod.mk.inj t2
  obtain ⟨q4, t4⟩ := Prod.mk.inj t3
  obtain ⟨q5, t5⟩ := Prod.mk.inj t4
  obtain ⟨q6, t6⟩ := Prod.mk.inj t5
  subst q1
  subst q2
  subst q3
  subst q4
  subst q5
  subst q6
  subst t6
  exact kr _ _ _ _ dX7_readWord_178 hP hD hS
set_option maxHeartbeats 4000000 in
set_option maxRecDepth 100000 in
theorem wX7_readWord_b140 {p : Program} {l : Launch} {e : Env} {s : State} {m : MethodId} {args : Array Value} {below : List Frame} {meth : Method} {c : Code} {Q : State → Prop} {G : va_G} {K : Nat → ClassId} {A : Nat → Prop} (C0 : CX p s m args c cX7_readWord 6 RX7 G K E0 A) (m_a mA_lane mA_many mA_item mA_poem mA_fresh mA_then mA_was mA_tape mA_strengths mA_sounds mA_stand mA_scheme mA_isKept mA_kept mA_trace : Nat) (m_thrown : Int32) (m_status : Int32) (m_acts : Int32) (m_taped : Int32) (m_latest : Int32) (m_stands : Int32) (m_least : Int32) (m_ways : Int32) (m_nearFoot : Int32) (m_nearFeet : Int32) (m_nearCost : Int32) (m_traced : Int32) (m_tape : Nat → Int32) (p1 : Int32) (o_m_cursor : Int32) (o_m_start : Int32) (o_m_token : Int32) (o_m_value : Int32) (o_m_fault : Int32) (o_m_faultAt : Int32) (o_m_fresh : Nat → Int32) (kr : ∀ (H : Heap) (locs : List Loc) (ls : Array Slot) (pc : Nat), decode cX7_readWord pc = .ok (.return_, 1) → va_P G vwCl (WX7_readWord K m_a mA_lane mA_many mA_item mA_poem mA_fresh mA_then mA_was mA_tape mA_strengths mA_sounds mA_stand mA_scheme mA_isKept mA_kept mA_trace m_thrown m_status m_acts m_taped o_m_cursor o_m_start o_m_token o_m_value o_m_fault o_m_faultAt m_latest m_stands m_least m_ways m_nearFoot m_nearFeet m_nearCost m_traced o_m_fresh m_tape) H → va_D A (WX7_readWord K m_a mA_lane mA_many mA_item mA_poem mA_fresh mA_then mA_was mA_tape mA_strengths mA_sounds mA_stand mA_scheme mA_isKept mA_kept mA_trace m_thrown m_status m_acts m_taped o_m_cursor o_m_start o_m_token o_m_value o_m_fault o_m_faultAt m_latest m_stands m_least m_ways m_nearFoot m_nearFeet m_nearCost m_traced o_m_fresh m_tape) → va_S A s.heap H locs → W p l e rmX7_readWord s m args below meth c H locs 0 0 Q (F0 m pc ls [])) (m_cursor : Int32) (m_start : Int32) (m_token : Int32) (m_value : Int32) (m_fault : Int32) (m_faultAt : Int32) (m_fresh : Nat → Int32) (x2 : Int32) (x3 : Int32) (x4 : Int32) (x5 : Int32) (hM : mX7_readWord_b140 m_taped m_tape p1  m_cursor m_start m_token m_value m_fault m_faultAt m_fresh x2 x3 x4 x5 = some (o_m_cursor, o_m_start, o_m_token, o_m_value, o_m_fault, o_m_faultAt, o_m_fresh)) : ∀ (H : Heap) (locs : List Loc) (ls : Array Slot), va_P G vwCl (WX7_readWord K m_a mA_lane mA_many mA_item mA_poem mA_fresh mA_then mA_was mA_tape mA_strengths mA_sounds mA_stand mA_scheme mA_isKept mA_kept mA_trace m_thrown m_status m_acts m_taped m_cursor m_start m_token m_value m_fault m_faultAt m_latest m_stands m_least m_ways m_nearFoot m_nearFeet m_nearCost m_traced m_fresh m_tape) H → va_D A (WX7_readWord K m_a mA_lane mA_many mA_item mA_poem mA_fresh mA_then mA_was mA_tape mA_strengths mA_sounds mA_stand mA_scheme mA_isKept mA_kept mA_trace m_thrown m_status m_acts m_taped m_cursor m_start m_token m_value m_fault m_faultAt m_latest m_stands m_least m_ways m_nearFoot m_nearFeet m_nearCost m_traced m_fresh m_tape) → va_S A s.heap H locs → lv_has ls 6 [(0, .ref m_a), (1, .int p1), (2, .int x2), (3, .int x3), (4, .int x4), (5, .int x5)] → W p l e rmX7_readWord s m args below meth c H locs 0 0 Q (F0 m 140 ls []) := by
  obtain ⟨hx, hb, hml, hown, hts, hK, hA, hEo, hE⟩ := id C0
  intro H locs ls hP hD hS hl
  unfold mX7_readWord_b140 at hM
  refine lv_iload hx hb dX7_readWord_140 (lv_at hl 4 rfl) ?_
  refine lv_if_le (tgt := 156) hx hb dX7_readWord_142 (by decide) (fun c_5 => ?_) (fun c_5 => ?_)
  · rw [if_pos c_5] at hM
    exact wX7_readWord_b156 C0 m_a mA_lane mA_many mA_item mA_poem mA_fresh mA_then mA_was mA_tape mA_strengths mA_sounds mA_stand mA_scheme mA_isKept mA_kept mA_trace m_thrown m_status m_acts m_taped m_latest m_stands m_least m_ways m_nearFoot m_nearFeet m_nearCost m_traced m_tape p1 o_m_cursor o_m_start o_m_token o_m_value o_m_fault o_m_faultAt o_m_fresh kr  m_cursor m_start m_token m_value m_fault m_faultAt m_fresh x2 x4 hM _ _ _ hP hD hS (lv_sub hl [0, 1, 2, 4] rfl)
  · rw [if_neg c_5] at hM
    refine lv_iload hx hb dX7_readWord_145 (lv_at hl 5 rfl) ?_
    refine lv_if_ne (tgt := 156) hx hb dX7_readWord_147 (by decide) (fun c_6 => ?_) (fun c_6 => ?_)
    · rw [if_neg c_6] at hM
      exact wX7_readWord_b156 C0 m_a mA_lane mA_many mA_item mA_poem mA_fresh mA_then mA_was mA_tape mA_strengths mA_sounds mA_stand mA_scheme mA_isKept mA_kept mA_trace m_thrown m_status m_acts m_taped m_latest m_stands m_least m_ways m_nearFoot m_nearFeet m_nearCost m_traced m_tape p1 o_m_cursor o_m_start o_m_token o_m_value o_m_fault o_m_faultAt o_m_fresh kr  m_cursor m_start m_token m_value m_fault m_faultAt m_fresh x2 x4 hM _ _ _ hP hD hS (lv_sub hl [0, 1, 2, 4] rfl)
    · rw [if_pos c_6] at hM
      refine lv_aload_n hx hb dX7_readWord_150 rfl (lv_at hl 0 rfl) ?_
      refine lv_iconst (v := 4) hx hb dX7_readWord_151 (by decide) ?_
      refine lv_iload_n hx hb dX7_readWord_152 rfl (lv_at hl 3 rfl) ?_
      obtain ⟨u0_7, u1_7, hC, hM⟩ := oe2 hM
      refine cV_v (As := [.int (4 : Int32), .int x3]) (rest := []) C0 hP hD hS [0] (kX7_badAt l G K m_a mA_lane mA_many mA_item mA_poem mA_fresh mA_then mA_was mA_tape mA_strengths mA_sounds mA_stand mA_scheme mA_isKept mA_kept mA_trace m_thrown m_status m_acts m_taped m_cursor m_start m_token m_value m_fault m_faultAt m_latest m_stands m_least m_ways m_nearFoot m_nearFeet m_nearCost m_traced (4 : Int32) x3 H.size u0_7 u1_7 hC) rfl rfl rfl tb957 tb959 tp23 tb9 tb960 hdX7_badAt (va_recv hK hP (ci := 7) (q0 := 0) rfl rfl) ⟨Nat.le_of_ble_eq_true rfl, Nat.le_of_ble_eq_true rfl⟩ rfl hl.1 (Nat.le_of_ble_eq_true rfl) rfl ⟨Nat.le_refl _, Nat.le_refl _⟩ dX7_readWord_153 (fun H locs hP hD hS => ?_)
      have hP : va_P G vwCl (WX7_readWord K m_a mA_lane mA_many mA_item mA_poem mA_fresh mA_then mA_was mA_tape mA_strengths mA_sounds mA_stand mA_scheme mA_isKept mA_kept mA_trace m_thrown m_status m_acts m_taped m_cursor m_start m_token m_value u0_7 u1_7 m_latest m_stands m_least m_ways m_nearFoot m_nearFeet m_nearCost m_traced m_fresh m_tape) H := hP
      have hD : va_D A (WX7_readWord K m_a mA_lane mA_many mA_item mA_poem mA_fresh mA_then mA_was mA_tape mA_strengths mA_sounds mA_stand mA_scheme mA_isKept mA_kept mA_trace m_thrown m_status m_acts m_taped m_cursor m_start m_token m_value u0_7 u1_7 m_latest m_stands m_least m_ways m_nearFoot m_nearFeet m_nearCost m_traced m_fresh m_tape) := hD
      exact wX7_readWord_b156 C0 m_a mA_lane mA_many mA_item mA_poem mA_fresh mA_then mA_was mA_tape mA_strengths mA_sounds mA_stand mA_scheme mA_isKept mA_kept mA_trace m_thrown m_status m_acts m_taped m_latest m_stands m_least m_ways m_nearFoot m_nearFeet m_nearCost m_traced m_tape p1 o_m_cursor o_m_start o_m_token o_m_value o_m_fault o_m_faultAt o_m_fresh kr  m_cursor m_start m_token m_value u0_7 u1_7 m_fresh x2 x4 hM _ _ _ hP hD hS (lv_sub hl [0, 1, 2, 4] rfl)
set_option maxHeartbeats 4000000 in
set_option maxRecDepth 100000 in
theorem wX7_readWord_b65 {p : Program} {l : Launch} {e : Env} {s : State} {m : MethodId} {args : Array Value} {below : List Frame} {meth : Method} {c : Code} {Q : State → Prop} {G : va_G} {K : Nat → ClassId} {A : Nat → Prop} (C0 : CX p s m args c cX7_readWord 6 RX7 G K E0 A) (m_a mA_lane mA_many mA_item mA_poem mA_fresh mA_then mA_was mA_tape mA_strengths mA_sounds mA_stand mA_scheme mA_isKept mA_kept mA_trace : Nat) (m_thrown : Int32) (m_status : Int32) (m_acts : Int32) (m_taped : Int32) (m_latest : Int32) (m_stands : Int32) (m_least : Int32) (m_ways : Int32) (m_nearFoot : Int32) (m_nearFeet : Int32) (m_nearCost : Int32) (m_traced : Int32) (m_tape : Nat → Int32) (p1 : Int32) (o_m_cursor : Int32) (o_m_start : Int32) (o_m_token : Int32) (o_m_value : Int32) (o_m_fault : Int32) (o_m_faultAt : Int32) (o_m_fresh : Nat → Int32) (kr : ∀ (H : Heap) (locs : List Loc) (ls : Array Slot) (pc : Nat), decode cX7_readWord pc = .ok (.return_, 1) → va_P G vwCl (WX7_readWord K m_a mA_lane mA_many mA_item mA_poem mA_fresh mA_then mA_was mA_tape mA_strengths mA_sounds mA_stand mA_scheme mA_isKept mA_kept mA_trace m_thrown m_status m_acts m_taped o_m_cursor o_m_start o_m_token o_m_value o_m_fault o_m_faultAt m_latest m_stands m_least m_ways m_nearFoot m_nearFeet m_nearCost m_traced o_m_fresh m_tape) H → va_D A (WX7_readWord K m_a mA_lane mA_many mA_item mA_poem mA_fresh mA_then mA_was mA_tape mA_strengths mA_sounds mA_stand mA_scheme mA_isKept mA_kept mA_trace m_thrown m_status m_acts m_taped o_m_cursor o_m_start o_m_token o_m_value o_m_fault o_m_faultAt m_latest m_stands m_least m_ways m_nearFoot m_nearFeet m_nearCost m_traced o_m_fresh m_tape) → va_S A s.heap H locs → W p l e rmX7_readWord s m args below meth c H locs 0 0 Q (F0 m pc ls [])) (n : Nat) : ∀ (m_cursor : Int32) (m_start : Int32) (m_token : Int32) (m_value : Int32) (m_fault : Int32) (m_faultAt : Int32) (m_fresh : Nat → Int32) (x2 : Int32) (x3 : Int32) (x4 : Int32) (x5 : Int32), mX7_readWord_b65 m_taped m_tape p1  n m_cursor m_start m_token m_value m_fault m_faultAt m_fresh x2 x3 x4 x5 = some (o_m_cursor, o_m_start, o_m_token, o_m_value, o_m_fault, o_m_faultAt, o_m_fresh) → ∀ (H : Heap) (locs : List Loc) (ls : Array Slot), va_P G vwCl (WX7_readWord K m_a mA_lane mA_many mA_item mA_poem mA_fresh mA_then mA_was mA_tape mA_strengths mA_sounds mA_stand mA_scheme mA_isKept mA_kept mA_trace m_thrown m_status m_acts m_taped m_cursor m_start m_token m_value m_fault m_faultAt m_latest m_stands m_least m_ways m_nearFoot m_nearFeet m_nearCost m_traced m_fresh m_tape) H → va_D A (WX7_readWord K m_a mA_lane mA_many mA_item mA_poem mA_fresh mA_then mA_was mA_tape mA_strengths mA_sounds mA_stand mA_scheme mA_isKept mA_kept mA_trace m_thrown m_status m_acts m_taped m_cursor m_start m_token m_value m_fault m_faultAt m_latest m_stands m_least m_ways m_nearFoot m_nearFeet m_nearCost m_traced m_fresh m_tape) → va_S A s.heap H locs → lv_has ls 6 [(0, .ref m_a), (1, .int p1), (2, .int x2), (3, .int x3), (4, .int x4), (5, .int x5)] → W p l e rmX7_readWord s m args below meth c H locs 0 0 Q (F0 m 65 ls []) := by
  obtain ⟨hx, hb, hml, hown, hts, hK, hA, hEo, hE⟩ := id C0
  induction n with
  | zero =>
    intro m_cursor m_start m_token m_value m_fault m_faultAt m_fresh x2 x3 x4 x5 hM
    cases hM
  | succ n ih =>
    intro m_cursor m_start m_token m_value m_fault m_faultAt m_fresh x2 x3 x4 x5 hM H locs ls hP hD hS hl
    rw [mX7_readWord_b65] at hM
    refine lv_aload_n hx hb dX7_readWord_65 rfl (lv_at hl 0 rfl) ?_
    refine va_get (D := G) (ci := 7) (v := .int m_fault) (C := RX7) (T := TX7) (N := 33) hx hb hts inX7 hown hK hP 0 rfl rfl 16 (by decide) (hts _ tb780) (fun _ h9 => h9) rfl dX7_readWord_66 ?_
    refine lv_if_ne (tgt := 140) hx hb dX7_readWord_69 (by decide) (fun c_8 => ?_) (fun c_8 => ?_)
    · rw [if_neg c_8] at hM
      exact wX7_readWord_b140 C0 m_a mA_lane mA_many mA_item mA_poem mA_fresh mA_then mA_was mA_tape mA_strengths mA_sounds mA_stand mA_scheme mA_isKept mA_kept mA_trace m_thrown m_status m_acts m_taped m_latest m_stands m_least m_ways m_nearFoot m_nearFeet m_nearCost m_traced m_tape p1 o_m_cursor o_m_start o_m_token o_m_value o_m_fault o_m_faultAt o_m_fresh kr  m_cursor m_start m_token m_value m_fault m_faultAt m_fresh x2 x3 x4 x5 hM _ _ _ hP hD hS (lv_sub hl [0, 1, 2, 3, 4, 5] rfl)
    · rw [if_pos c_8] at hM
      refine lv_aload_n hx hb dX7_readWord_72 rfl (lv_at hl 0 rfl) ?_
      refine va_get (D := G) (ci := 7) (v := .int m_token) (C := RX7) (T := TX7) (N := 33) hx hb hts inX7 hown hK hP 0 rfl rfl 14 (by decide) (hts _ tb778) (fun _ h9 => h9) rfl dX7_readWord_73 ?_
      refine lv_iconst (v := 2) hx hb dX7_readWord_76 (by decide) ?_
      refine lv_icmp_ne (tgt := 140) hx hb dX7_readWord_77 (by decide) (fun c_9 => ?_) (fun c_9 => ?_)
      · rw [if_neg c_9] at hM
        exact wX7_readWord_b140 C0 m_a mA_lane mA_many mA_item mA_poem mA_fresh mA_then mA_was mA_tape mA_strengths mA_sounds mA_stand mA_scheme mA_isKept mA_kept mA_trace m_thrown m_status m_acts m_taped m_latest m_stands m_least m_ways m_nearFoot m_nearFeet m_nearCost m_traced m_tape p1 o_m_cursor o_m_start o_m_token o_m_value o_m_fault o_m_faultAt o_m_fresh kr  m_cursor m_start m_token m_value m_fault m_faultAt m_fresh x2 x3 x4 x5 hM _ _ _ hP hD hS (lv_sub hl [0, 1, 2, 3, 4, 5] rfl)
      · rw [if_pos c_9] at hM
        refine lv_iload hx hb dX7_readWord_80 (lv_at hl 4 rfl) ?_
        refine lv_bipush (v := 8) hx hb dX7_readWord_82 (by decide) ?_
        refine lv_icmp_ge (tgt := 140) hx hb dX7_readWord_84 (by decide) (fun c_10 => ?_) (fun c_10 => ?_)
        · rw [if_pos c_10] at hM
          exact wX7_readWord_b140 C0 m_a mA_lane mA_many mA_item mA_poem mA_fresh mA_then mA_was mA_tape mA_strengths mA_sounds mA_stand mA_scheme mA_isKept mA_kept mA_trace m_thrown m_status m_acts m_taped m_latest m_stands m_least m_ways m_nearFoot m_nearFeet m_nearCost m_traced m_tape p1 o_m_cursor o_m_start o_m_token o_m_value o_m_fault o_m_faultAt o_m_fresh kr  m_cursor m_start m_token m_value m_fault m_faultAt m_fresh x2 x3 x4 x5 hM _ _ _ hP hD hS (lv_sub hl [0, 1, 2, 3, 4, 5] rfl)
        · rw [if_neg c_10] at hM
          refine lv_aload_n hx hb dX7_readWord_87 rfl (lv_at hl 0 rfl) ?_
          refine va_get (D := G) (ci := 7) (v := .ref mA_fresh) (C := RX7) (T := TX7) (N := 33) hx hb hts inX7 hown hK hP 0 rfl rfl 6 (by decide) (hts _ tb770) (fun _ h9 => h9) rfl dX7_readWord_88 ?_
          refine lv_iload_n hx hb dX7_readWord_91 rfl (lv_at hl 2 rfl) ?_
          refine lv_iconst (v := 2) hx hb dX7_readWord_92 (by decide) ?_
          refine lv_iadd hx hb dX7_readWord_93 ?_
          refine lv_iload hx hb dX7_readWord_94 (lv_at hl 4 rfl) ?_
          refine lv_iadd hx hb dX7_readWord_96 ?_
          refine lv_aload_n hx hb dX7_readWord_97 rfl (lv_at hl 0 rfl) ?_
          refine va_get (D := G) (ci := 7) (v := .int m_value) (C := RX7) (T := TX7) (N := 33) hx hb hts inX7 hown hK hP 0 rfl rfl 15 (by decide) (hts _ tb779) (fun _ h9 => h9) rfl dX7_readWord_98 ?_
          refine lv_bipush (v := 97) hx hb dX7_readWord_101 (by decide) ?_
          refine lv_isub hx hb dX7_readWord_103 ?_
          obtain ⟨g_11, hM⟩ := ng hM
          refine va_iast hx hb hK hP hD hS 1 0 rfl rfl g_11 dX7_readWord_104 (fun H locs hP hD hS => ?_)
          have hP : va_P G vwCl (WX7_readWord K m_a mA_lane mA_many mA_item mA_poem mA_fresh mA_then mA_was mA_tape mA_strengths mA_sounds mA_stand mA_scheme mA_isKept mA_kept mA_trace m_thrown m_status m_acts m_taped m_cursor m_start m_token m_value m_fault m_faultAt m_latest m_stands m_least m_ways m_nearFoot m_nearFeet m_nearCost m_traced (upd m_fresh ((x2 + (2 : Int32)) + x4).toNatClampNeg (m_value - (97 : Int32))) m_tape) H := hP
          have hD : va_D A (WX7_readWord K m_a mA_lane mA_many mA_item mA_poem mA_fresh mA_then mA_was mA_tape mA_strengths mA_sounds mA_stand mA_scheme mA_isKept mA_kept mA_trace m_thrown m_status m_acts m_taped m_cursor m_start m_token m_value m_fault m_faultAt m_latest m_stands m_least m_ways m_nearFoot m_nearFeet m_nearCost m_traced (upd m_fresh ((x2 + (2 : Int32)) + x4).toNatClampNeg (m_value - (97 : Int32))) m_tape) := hD
          refine lv_iload hx hb dX7_readWord_105 (lv_at hl 5 rfl) ?_
          refine lv_if_ne (tgt := 123) hx hb dX7_readWord_107 (by decide) (fun c_12 => ?_) (fun c_12 => ?_)
          · rw [if_neg c_12] at hM
            exact wX7_readWord_b123 C0 m_a mA_lane mA_many mA_item mA_poem mA_fresh mA_then mA_was mA_tape mA_strengths mA_sounds mA_stand mA_scheme mA_isKept mA_kept mA_trace m_thrown m_status m_acts m_taped m_latest m_stands m_least m_ways m_nearFoot m_nearFeet m_nearCost m_traced m_tape p1 o_m_cursor o_m_start o_m_token o_m_value o_m_fault o_m_faultAt o_m_fresh kr (mX7_readWord_b65 m_taped m_tape p1  n) ih m_cursor m_start m_token m_value m_fault m_faultAt (upd m_fresh ((x2 + (2 : Int32)) + x4).toNatClampNeg (m_value - (97 : Int32))) x2 x3 x4 hM _ _ _ hP hD hS (lv_sub hl [0, 1, 2, 3, 4] rfl)
          · rw [if_pos c_12] at hM
            refine lv_aload_n hx hb dX7_readWord_110 rfl (lv_at hl 0 rfl) ?_
            refine va_get (D := G) (ci := 7) (v := .int m_value) (C := RX7) (T := TX7) (N := 33) hx hb hts inX7 hown hK hP 0 rfl rfl 15 (by decide) (hts _ tb779) (fun _ h9 => h9) rfl dX7_readWord_111 ?_
            refine lv_bipush (v := 97) hx hb dX7_readWord_114 (by decide) ?_
            refine lv_isub hx hb dX7_readWord_116 ?_
            obtain ⟨r_13, hC, hM⟩ := oe1 hM
            refine cS_i (As := [.int (m_value - (97 : Int32))]) (rest := []) C0 hP hD hS [] (kX7_isVowel l G K (m_value - (97 : Int32)) H.size r_13 hC) rfl rfl rfl tb954 tb955 tb9 tb956 hdX7_isVowel ⟨Nat.le_of_ble_eq_true rfl, Nat.le_of_ble_eq_true rfl⟩ rfl hl.1 (Nat.le_of_ble_eq_true rfl) rfl ⟨Nat.le_refl _, Nat.le_refl _⟩ dX7_readWord_117 (fun H locs hP hD hS => ?_)
            have hP : va_P G vwCl (WX7_readWord K m_a mA_lane mA_many mA_item mA_poem mA_fresh mA_then mA_was mA_tape mA_strengths mA_sounds mA_stand mA_scheme mA_isKept mA_kept mA_trace m_thrown m_status m_acts m_taped m_cursor m_start m_token m_value m_fault m_faultAt m_latest m_stands m_least m_ways m_nearFoot m_nearFeet m_nearCost m_traced (upd m_fresh ((x2 + (2 : Int32)) + x4).toNatClampNeg (m_value - (97 : Int32))) m_tape) H := hP
            have hD : va_D A (WX7_readWord K m_a mA_lane mA_many mA_item mA_poem mA_fresh mA_then mA_was mA_tape mA_strengths mA_sounds mA_stand mA_scheme mA_isKept mA_kept mA_trace m_thrown m_status m_acts m_taped m_cursor m_start m_token m_value m_fault m_faultAt m_latest m_stands m_least m_ways m_nearFoot m_nearFeet m_nearCost m_traced (upd m_fresh ((x2 + (2 : Int32)) + x4).toNatClampNeg (m_value - (97 : Int32))) m_tape) := hD
            refine lv_if_eq (tgt := 127) hx hb dX7_readWord_120 (by decide) (fun c_14 => ?_) (fun c_14 => ?_)
            · rw [if_pos c_14] at hM
              refine lv_iconst (v := 0) hx hb dX7_readWord_127 (by decide) ?_
              exact wX7_readWord_b128 C0 m_a mA_lane mA_many mA_item mA_poem mA_fresh mA_then mA_was mA_tape mA_strengths mA_sounds mA_stand mA_scheme mA_isKept mA_kept mA_trace m_thrown m_status m_acts m_taped m_latest m_stands m_least m_ways m_nearFoot m_nearFeet m_nearCost m_traced m_tape p1 o_m_cursor o_m_start o_m_token o_m_value o_m_fault o_m_faultAt o_m_fresh kr (mX7_readWord_b65 m_taped m_tape p1  n) ih m_cursor m_start m_token m_value m_fault m_faultAt (upd m_fresh ((x2 + (2 : Int32)) + x4).toNatClampNeg (m_value - (97 : Int32))) x2 x3 x4 (0 : Int32) hM _ _ _ hP hD hS (lv_sub hl [0, 1, 2, 3, 4] rfl)
            · rw [if_neg c_14] at hM
              exact wX7_readWord_b123 C0 m_a mA_lane mA_many mA_item mA_poem mA_fresh mA_then mA_was mA_tape mA_strengths mA_sounds mA_stand mA_scheme mA_isKept mA_kept mA_trace m_thrown m_status m_acts m_taped m_latest m_stands m_least m_ways m_nearFoot m_nearFeet m_nearCost m_traced m_tape p1 o_m_cursor o_m_start o_m_token o_m_value o_m_fault o_m_faultAt o_m_fresh kr (mX7_readWord_b65 m_taped m_tape p1  n) ih m_cursor m_start m_token m_value m_fault m_faultAt (upd m_fresh ((x2 + (2 : Int32)) + x4).toNatClampNeg (m_value - (97 : Int32))) x2 x3 x4 hM _ _ _ hP hD hS (lv_sub hl [0, 1, 2, 3, 4] rfl)
set_option maxHeartbeats 4000000 in
set_option maxRecDepth 100000 in
theorem wX7_readWord_b0 {p : Program} {l : Launch} {e : Env} {s : State} {m : MethodId} {args : Array Value} {below : List Frame} {meth : Method} {c : Code} {Q : State → Prop} {G : va_G} {K : Nat → ClassId} {A : Nat → Prop} (C0 : CX p s m args c cX7_readWord 6 RX7 G K E0 A) (m_a mA_lane mA_many mA_item mA_poem mA_fresh mA_then mA_was mA_tape mA_strengths mA_sounds mA_stand mA_scheme mA_isKept mA_kept mA_trace : Nat) (m_thrown : Int32) (m_status : Int32) (m_acts : Int32) (m_taped : Int32) (m_latest : Int32) (m_stands : Int32) (m_least : Int32) (m_ways : Int32) (m_nearFoot : Int32) (m_nearFeet : Int32) (m_nearCost : Int32) (m_traced : Int32) (m_tape : Nat → Int32) (p1 : Int32) (o_m_cursor : Int32) (o_m_start : Int32) (o_m_token : Int32) (o_m_value : Int32) (o_m_fault : Int32) (o_m_faultAt : Int32) (o_m_fresh : Nat → Int32) (kr : ∀ (H : Heap) (locs : List Loc) (ls : Array Slot) (pc : Nat), decode cX7_readWord pc = .ok (.return_, 1) → va_P G vwCl (WX7_readWord K m_a mA_lane mA_many mA_item mA_poem mA_fresh mA_then mA_was mA_tape mA_strengths mA_sounds mA_stand mA_scheme mA_isKept mA_kept mA_trace m_thrown m_status m_acts m_taped o_m_cursor o_m_start o_m_token o_m_value o_m_fault o_m_faultAt m_latest m_stands m_least m_ways m_nearFoot m_nearFeet m_nearCost m_traced o_m_fresh m_tape) H → va_D A (WX7_readWord K m_a mA_lane mA_many mA_item mA_poem mA_fresh mA_then mA_was mA_tape mA_strengths mA_sounds mA_stand mA_scheme mA_isKept mA_kept mA_trace m_thrown m_status m_acts m_taped o_m_cursor o_m_start o_m_token o_m_value o_m_fault o_m_faultAt m_latest m_stands m_least m_ways m_nearFoot m_nearFeet m_nearCost m_traced o_m_fresh m_tape) → va_S A s.heap H locs → W p l e rmX7_readWord s m args below meth c H locs 0 0 Q (F0 m pc ls [])) (m_cursor : Int32) (m_start : Int32) (m_token : Int32) (m_value : Int32) (m_fault : Int32) (m_faultAt : Int32) (m_fresh : Nat → Int32) (hM : mX7_readWord_b0 m_taped m_tape p1  m_cursor m_start m_token m_value m_fault m_faultAt m_fresh = some (o_m_cursor, o_m_start, o_m_token, o_m_value, o_m_fault, o_m_faultAt, o_m_fresh)) : ∀ (H : Heap) (locs : List Loc) (ls : Array Slot), va_P G vwCl (WX7_readWord K m_a mA_lane mA_many mA_item mA_poem mA_fresh mA_then mA_was mA_tape mA_strengths mA_sounds mA_stand mA_scheme mA_isKept mA_kept mA_trace m_thrown m_status m_acts m_taped m_cursor m_start m_token m_value m_fault m_faultAt m_latest m_stands m_least m_ways m_nearFoot m_nearFeet m_nearCost m_traced m_fresh m_tape) H → va_D A (WX7_readWord K m_a mA_lane mA_many mA_item mA_poem mA_fresh mA_then mA_was mA_tape mA_strengths mA_sounds mA_stand mA_scheme mA_isKept mA_kept mA_trace m_thrown m_status m_acts m_taped m_cursor m_start m_token m_value m_fault m_faultAt m_latest m_stands m_least m_ways m_nearFoot m_nearFeet m_nearCost m_traced m_fresh m_tape) → va_S A s.heap H locs → lv_has ls 6 [(0, .ref m_a), (1, .int p1)] → W p l e rmX7_readWord s m args below meth c H locs 0 0 Q (F0 m 0 ls []) := by
  obtain ⟨hx, hb, hml, hown, hts, hK, hA, hEo, hE⟩ := id C0
  intro H locs ls hP hD hS hl
  unfold mX7_readWord_b0 at hM
  refine lv_aload_n hx hb dX7_readWord_0 rfl (lv_at hl 0 rfl) ?_
  refine va_get (D := G) (ci := 7) (v := .int m_fault) (C := RX7) (T := TX7) (N := 33) hx hb hts inX7 hown hK hP 0 rfl rfl 16 (by decide) (hts _ tb780) (fun _ h9 => h9) rfl dX7_readWord_1 ?_
  refine lv_if_le (tgt := 8) hx hb dX7_readWord_4 (by decide) (fun c_15 => ?_) (fun c_15 => ?_)
  · rw [if_pos c_15] at hM
    refine lv_bipush (v := 7) hx hb dX7_readWord_8 (by decide) ?_
    refine lv_bipush (v := 10) hx hb dX7_readWord_10 (by decide) ?_
    refine lv_aload_n hx hb dX7_readWord_12 rfl (lv_at hl 0 rfl) ?_
    refine va_get (D := G) (ci := 7) (v := .ref mA_fresh) (C := RX7) (T := TX7) (N := 33) hx hb hts inX7 hown hK hP 0 rfl rfl 6 (by decide) (hts _ tb770) (fun _ h9 => h9) rfl dX7_readWord_13 ?_
    obtain ⟨r_16, hC, hM⟩ := oe1 hM
    refine cS_i (As := [.ref mA_fresh]) (rest := [.int (10 : Int32), .int (7 : Int32)]) C0 hP hD hS [1] (kX7_wordsOf l G K mA_fresh m_fresh H.size r_16 hC) rfl rfl rfl tb951 tb952 tb9 tb953 hdX7_wordsOf ⟨Nat.le_of_ble_eq_true rfl, Nat.le_of_ble_eq_true rfl⟩ rfl hl.1 (Nat.le_of_ble_eq_true rfl) rfl ⟨Nat.le_refl _, Nat.le_refl _⟩ dX7_readWord_16 (fun H locs hP hD hS => ?_)
    have hP : va_P G vwCl (WX7_readWord K m_a mA_lane mA_many mA_item mA_poem mA_fresh mA_then mA_was mA_tape mA_strengths mA_sounds mA_stand mA_scheme mA_isKept mA_kept mA_trace m_thrown m_status m_acts m_taped m_cursor m_start m_token m_value m_fault m_faultAt m_latest m_stands m_least m_ways m_nearFoot m_nearFeet m_nearCost m_traced m_fresh m_tape) H := hP
    have hD : va_D A (WX7_readWord K m_a mA_lane mA_many mA_item mA_poem mA_fresh mA_then mA_was mA_tape mA_strengths mA_sounds mA_stand mA_scheme mA_isKept mA_kept mA_trace m_thrown m_status m_acts m_taped m_cursor m_start m_token m_value m_fault m_faultAt m_latest m_stands m_least m_ways m_nearFoot m_nearFeet m_nearCost m_traced m_fresh m_tape) := hD
    refine lv_imul hx hb dX7_readWord_19 ?_
    refine lv_iadd hx hb dX7_readWord_20 ?_
    refine lv_istore_n (lv' := [(2, .int ((7 : Int32) + ((10 : Int32) * r_16))), (0, .ref m_a), (1, .int p1)]) hx hb dX7_readWord_21 rfl hl (by decide) rfl (fun ls hl => ?_)
    refine lv_aload_n hx hb dX7_readWord_22 rfl (lv_at hl 1 rfl) ?_
    refine va_get (D := G) (ci := 7) (v := .ref mA_fresh) (C := RX7) (T := TX7) (N := 33) hx hb hts inX7 hown hK hP 0 rfl rfl 6 (by decide) (hts _ tb770) (fun _ h9 => h9) rfl dX7_readWord_23 ?_
    refine lv_iload_n hx hb dX7_readWord_26 rfl (lv_at hl 0 rfl) ?_
    refine lv_aload_n hx hb dX7_readWord_27 rfl (lv_at hl 1 rfl) ?_
    refine lv_iconst (v := 1) hx hb dX7_readWord_28 (by decide) ?_
    refine lv_iconst (v := 5) hx hb dX7_readWord_29 (by decide) ?_
    obtain ⟨r_17, u0_17, u1_17, u2_17, u3_17, u4_17, u5_17, hC, hM⟩ := oe7 hM
    refine cV_i (As := [.int (1 : Int32), .int (5 : Int32)]) (rest := [.int ((7 : Int32) + ((10 : Int32) * r_16)), .ref mA_fresh]) C0 hP hD hS [0, 2] (kX7_number l G K m_a mA_lane mA_many mA_item mA_poem mA_fresh mA_then mA_was mA_tape mA_strengths mA_sounds mA_stand mA_scheme mA_isKept mA_kept mA_trace m_thrown m_status m_acts m_taped m_cursor m_start m_token m_value m_fault m_faultAt m_latest m_stands m_least m_ways m_nearFoot m_nearFeet m_nearCost m_traced m_tape (1 : Int32) (5 : Int32) H.size r_17 u0_17 u1_17 u2_17 u3_17 u4_17 u5_17 hC) rfl rfl rfl tb934 tb936 tp19 tb9 tb937 hdX7_number (va_recv hK hP (ci := 7) (q0 := 0) rfl rfl) ⟨Nat.le_of_ble_eq_true rfl, Nat.le_of_ble_eq_true rfl⟩ rfl hl.1 (Nat.le_of_ble_eq_true rfl) rfl ⟨Nat.le_refl _, Nat.le_refl _⟩ dX7_readWord_30 (fun H locs hP hD hS => ?_)
    have hP : va_P G vwCl (WX7_readWord K m_a mA_lane mA_many mA_item mA_poem mA_fresh mA_then mA_was mA_tape mA_strengths mA_sounds mA_stand mA_scheme mA_isKept mA_kept mA_trace m_thrown m_status m_acts m_taped u0_17 u1_17 u2_17 u3_17 u4_17 u5_17 m_latest m_stands m_least m_ways m_nearFoot m_nearFeet m_nearCost m_traced m_fresh m_tape) H := hP
    have hD : va_D A (WX7_readWord K m_a mA_lane mA_many mA_item mA_poem mA_fresh mA_then mA_was mA_tape mA_strengths mA_sounds mA_stand mA_scheme mA_isKept mA_kept mA_trace m_thrown m_status m_acts m_taped u0_17 u1_17 u2_17 u3_17 u4_17 u5_17 m_latest m_stands m_least m_ways m_nearFoot m_nearFeet m_nearCost m_traced m_fresh m_tape) := hD
    obtain ⟨g_18, hM⟩ := ng hM
    refine va_iast hx hb hK hP hD hS 1 0 rfl rfl g_18 dX7_readWord_33 (fun H locs hP hD hS => ?_)
    have hP : va_P G vwCl (WX7_readWord K m_a mA_lane mA_many mA_item mA_poem mA_fresh mA_then mA_was mA_tape mA_strengths mA_sounds mA_stand mA_scheme mA_isKept mA_kept mA_trace m_thrown m_status m_acts m_taped u0_17 u1_17 u2_17 u3_17 u4_17 u5_17 m_latest m_stands m_least m_ways m_nearFoot m_nearFeet m_nearCost m_traced (upd m_fresh ((7 : Int32) + ((10 : Int32) * r_16)).toNatClampNeg r_17) m_tape) H := hP
    have hD : va_D A (WX7_readWord K m_a mA_lane mA_many mA_item mA_poem mA_fresh mA_then mA_was mA_tape mA_strengths mA_sounds mA_stand mA_scheme mA_isKept mA_kept mA_trace m_thrown m_status m_acts m_taped u0_17 u1_17 u2_17 u3_17 u4_17 u5_17 m_latest m_stands m_least m_ways m_nearFoot m_nearFeet m_nearCost m_traced (upd m_fresh ((7 : Int32) + ((10 : Int32) * r_16)).toNatClampNeg r_17) m_tape) := hD
    refine lv_aload_n hx hb dX7_readWord_34 rfl (lv_at hl 1 rfl) ?_
    refine va_get (D := G) (ci := 7) (v := .int u1_17) (C := RX7) (T := TX7) (N := 33) hx hb hts inX7 hown hK hP 0 rfl rfl 13 (by decide) (hts _ tb777) (fun _ h9 => h9) rfl dX7_readWord_35 ?_
    refine lv_istore_n (lv' := [(3, .int u1_17), (2, .int ((7 : Int32) + ((10 : Int32) * r_16))), (0, .ref m_a), (1, .int p1)]) hx hb dX7_readWord_38 rfl hl (by decide) rfl (fun ls hl => ?_)
    refine lv_iconst (v := 0) hx hb dX7_readWord_39 (by decide) ?_
    refine lv_istore (lv' := [(4, .int (0 : Int32)), (3, .int u1_17), (2, .int ((7 : Int32) + ((10 : Int32) * r_16))), (0, .ref m_a), (1, .int p1)]) hx hb dX7_readWord_40 hl (by decide) rfl (fun ls hl => ?_)
    refine lv_iconst (v := 0) hx hb dX7_readWord_42 (by decide) ?_
    refine lv_istore (lv' := [(5, .int (0 : Int32)), (4, .int (0 : Int32)), (3, .int u1_17), (2, .int ((7 : Int32) + ((10 : Int32) * r_16))), (0, .ref m_a), (1, .int p1)]) hx hb dX7_readWord_43 hl (by decide) rfl (fun ls hl => ?_)
    refine lv_aload_n hx hb dX7_readWord_45 rfl (lv_at hl 4 rfl) ?_
    refine va_get (D := G) (ci := 7) (v := .int u4_17) (C := RX7) (T := TX7) (N := 33) hx hb hts inX7 hown hK hP 0 rfl rfl 16 (by decide) (hts _ tb780) (fun _ h9 => h9) rfl dX7_readWord_46 ?_
    refine lv_if_ne (tgt := 65) hx hb dX7_readWord_49 (by decide) (fun c_19 => ?_) (fun c_19 => ?_)
    · rw [if_neg c_19] at hM
      exact wX7_readWord_b65 C0 m_a mA_lane mA_many mA_item mA_poem mA_fresh mA_then mA_was mA_tape mA_strengths mA_sounds mA_stand mA_scheme mA_isKept mA_kept mA_trace m_thrown m_status m_acts m_taped m_latest m_stands m_least m_ways m_nearFoot m_nearFeet m_nearCost m_traced m_tape p1 o_m_cursor o_m_start o_m_token o_m_value o_m_fault o_m_faultAt o_m_fresh kr  FU u0_17 u1_17 u2_17 u3_17 u4_17 u5_17 (upd m_fresh ((7 : Int32) + ((10 : Int32) * r_16)).toNatClampNeg r_17) ((7 : Int32) + ((10 : Int32) * r_16)) u1_17 (0 : Int32) (0 : Int32) hM _ _ _ hP hD hS (lv_sub hl [4, 5, 3, 2, 1, 0] rfl)
    · rw [if_pos c_19] at hM
      refine lv_aload_n hx hb dX7_readWord_52 rfl (lv_at hl 4 rfl) ?_
      refine va_get (D := G) (ci := 7) (v := .int u2_17) (C := RX7) (T := TX7) (N := 33) hx hb hts inX7 hown hK hP 0 rfl rfl 14 (by decide) (hts _ tb778) (fun _ h9 => h9) rfl dX7_readWord_53 ?_
      refine lv_iconst (v := 2) hx hb dX7_readWord_56 (by decide) ?_
      refine lv_icmp_eq (tgt := 65) hx hb dX7_readWord_57 (by decide) (fun c_20 => ?_) (fun c_20 => ?_)
      · rw [if_pos c_20] at hM
        exact wX7_readWord_b65 C0 m_a mA_lane mA_many mA_item mA_poem mA_fresh mA_then mA_was mA_tape mA_strengths mA_sounds mA_stand mA_scheme mA_isKept mA_kept mA_trace m_thrown m_status m_acts m_taped m_latest m_stands m_least m_ways m_nearFoot m_nearFeet m_nearCost m_traced m_tape p1 o_m_cursor o_m_start o_m_token o_m_value o_m_fault o_m_faultAt o_m_fresh kr  FU u0_17 u1_17 u2_17 u3_17 u4_17 u5_17 (upd m_fresh ((7 : Int32) + ((10 : Int32) * r_16)).toNatClampNeg r_17) ((7 : Int32) + ((10 : Int32) * r_16)) u1_17 (0 : Int32) (0 : Int32) hM _ _ _ hP hD hS (lv_sub hl [4, 5, 3, 2, 1, 0] rfl)
      · rw [if_neg c_20] at hM
        refine lv_aload_n hx hb dX7_readWord_60 rfl (lv_at hl 4 rfl) ?_
        refine lv_iconst (v := 1) hx hb dX7_readWord_61 (by decide) ?_
        obtain ⟨u0_21, u1_21, hC, hM⟩ := oe2 hM
        refine cV_v (As := [.int (1 : Int32)]) (rest := []) C0 hP hD hS [0] (kX7_bad l G K m_a mA_lane mA_many mA_item mA_poem mA_fresh mA_then mA_was mA_tape mA_strengths mA_sounds mA_stand mA_scheme mA_isKept mA_kept mA_trace m_thrown m_status m_acts m_taped u0_17 u1_17 u2_17 u3_17 u4_17 u5_17 m_latest m_stands m_least m_ways m_nearFoot m_nearFeet m_nearCost m_traced (1 : Int32) H.size u0_21 u1_21 hC) rfl rfl rfl tb930 tb932 tp18 tb9 tb933 hdX7_bad (va_recv hK hP (ci := 7) (q0 := 0) rfl rfl) ⟨Nat.le_of_ble_eq_true rfl, Nat.le_of_ble_eq_true rfl⟩ rfl hl.1 (Nat.le_of_ble_eq_true rfl) rfl ⟨Nat.le_refl _, Nat.le_refl _⟩ dX7_readWord_62 (fun H locs hP hD hS => ?_)
        have hP : va_P G vwCl (WX7_readWord K m_a mA_lane mA_many mA_item mA_poem mA_fresh mA_then mA_was mA_tape mA_strengths mA_sounds mA_stand mA_scheme mA_isKept mA_kept mA_trace m_thrown m_status m_acts m_taped u0_17 u1_17 u2_17 u3_17 u0_21 u1_21 m_latest m_stands m_least m_ways m_nearFoot m_nearFeet m_nearCost m_traced (upd m_fresh ((7 : Int32) + ((10 : Int32) * r_16)).toNatClampNeg r_17) m_tape) H := hP
        have hD : va_D A (WX7_readWord K m_a mA_lane mA_many mA_item mA_poem mA_fresh mA_then mA_was mA_tape mA_strengths mA_sounds mA_stand mA_scheme mA_isKept mA_kept mA_trace m_thrown m_status m_acts m_taped u0_17 u1_17 u2_17 u3_17 u0_21 u1_21 m_latest m_stands m_least m_ways m_nearFoot m_nearFeet m_nearCost m_traced (upd m_fresh ((7 : Int32) + ((10 : Int32) * r_16)).toNatClampNeg r_17) m_tape) := hD
        exact wX7_readWord_b65 C0 m_a mA_lane mA_many mA_item mA_poem mA_fresh mA_then mA_was mA_tape mA_strengths mA_sounds mA_stand mA_scheme mA_isKept mA_kept mA_trace m_thrown m_status m_acts m_taped m_latest m_stands m_least m_ways m_nearFoot m_nearFeet m_nearCost m_traced m_tape p1 o_m_cursor o_m_start o_m_token o_m_value o_m_fault o_m_faultAt o_m_fresh kr  FU u0_17 u1_17 u2_17 u3_17 u0_21 u1_21 (upd m_fresh ((7 : Int32) + ((10 : Int32) * r_16)).toNatClampNeg r_17) ((7 : Int32) + ((10 : Int32) * r_16)) u1_17 (0 : Int32) (0 : Int32) hM _ _ _ hP hD hS (lv_sub hl [4, 5, 3, 2, 1, 0] rfl)
  · rw [if_neg c_15] at hM
    have t0 := Option.some.inj hM
    obtain ⟨q1, t1⟩ := Prod.mk.inj t0
    obtain ⟨q2, t2⟩ := Prod.mk.inj t1
    obtain ⟨q3, t3⟩ := Prod.mk.inj t2
    obtain ⟨q4, t4⟩ := Prod.mk.inj t3
    obtain ⟨q5, t5⟩ := Prod.mk.inj t4
    obtain ⟨q6, t6⟩ := Prod.mk.inj t5
    subst q1
    subst q2
    subst q3
    subst q4
    subst q5
    subst q6
    subst t6
    exact kr _ _ _ _ dX7_readWord_7 hP hD hS
set_option maxHeartbeats 4000000 in
set_option maxRecDepth 100000 in
theorem kX7_readWord (l : Launch) (G : va_G) (K : Nat → ClassId) (m_a mA_lane mA_many mA_item mA_poem mA_fresh mA_then mA_was mA_tape mA_strengths mA_sounds mA_stand mA_scheme mA_isKept mA_kept mA_trace : Nat) (m_thrown : Int32) (m_status : Int32) (m_acts : Int32) (m_taped : Int32) (m_cursor : Int32) (m_start : Int32) (m_token : Int32) (m_value : Int32) (m_fault : Int32) (m_faultAt : Int32) (m_latest : Int32) (m_stands : Int32) (m_least : Int32) (m_ways : Int32) (m_nearFoot : Int32) (m_nearFeet : Int32) (m_nearCost : Int32) (m_traced : Int32) (m_fresh : Nat → Int32) (m_tape : Nat → Int32) (p1 : Int32) (sz : Nat) (o_m_cursor : Int32) (o_m_start : Int32) (o_m_token : Int32) (o_m_value : Int32) (o_m_fault : Int32) (o_m_faultAt : Int32) (o_m_fresh : Nat → Int32) (hM : mX7_readWord m_taped m_tape m_cursor m_start m_token m_value m_fault m_faultAt m_fresh p1 = some (o_m_cursor, o_m_start, o_m_token, o_m_value, o_m_fault, o_m_faultAt, o_m_fresh)) : Met l yX7_readWord (mC yX7_readWord cX7_readWord 6 none) rmX7_readWord (va_Pc [.ref m_a, .int p1] (PCe G K E0 (WX7_readWord K m_a mA_lane mA_many mA_item mA_poem mA_fresh mA_then mA_was mA_tape mA_strengths mA_sounds mA_stand mA_scheme mA_isKept mA_kept mA_trace m_thrown m_status m_acts m_taped m_cursor m_start m_token m_value m_fault m_faultAt m_latest m_stands m_least m_ways m_nearFoot m_nearFeet m_nearCost m_traced m_fresh m_tape) sz)) (va_Qv (fun (_ : Unit) => True) (fun _ t => va_P G vwCl (WX7_readWord K m_a mA_lane mA_many mA_item mA_poem mA_fresh mA_then mA_was mA_tape mA_strengths mA_sounds mA_stand mA_scheme mA_isKept mA_kept mA_trace m_thrown m_status m_acts m_taped o_m_cursor o_m_start o_m_token o_m_value o_m_fault o_m_faultAt m_latest m_stands m_least m_ways m_nearFoot m_nearFeet m_nearCost m_traced o_m_fresh m_tape) t.heap) (va_A (WX7_readWord K m_a mA_lane mA_many mA_item mA_poem mA_fresh mA_then mA_was mA_tape mA_strengths mA_sounds mA_stand mA_scheme mA_isKept mA_kept mA_trace m_thrown m_status m_acts m_taped m_cursor m_start m_token m_value m_fault m_faultAt m_latest m_stands m_least m_ways m_nearFoot m_nearFeet m_nearCost m_traced m_fresh m_tape) sz)) rmX7_readWord.cells rmX7_readWord.slots (va_A (WX7_readWord K m_a mA_lane mA_many mA_item mA_poem mA_fresh mA_then mA_was mA_tape mA_strengths mA_sounds mA_stand mA_scheme mA_isKept mA_kept mA_trace m_thrown m_status m_acts m_taped m_cursor m_start m_token m_value m_fault m_faultAt m_latest m_stands m_least m_ways m_nearFoot m_nearFeet m_nearCost m_traced m_fresh m_tape) sz) := by
  refine Met.ofW (cc := cX7_readWord) (maxL := 6) (ret := none) (by decide) rfl ?_
  intro p e s m args below meth c s₁ B hml hv
  obtain ⟨rfl, hsz, hP, hK, hD0, hE⟩ := hv
  have hx := B.exec
  have hb := B.bytes
  have hr := B.returns
  have hts0 := atoms_spec (ws := mC yX7_readWord cX7_readWord 6 none) B.pre
  have hts : ∀ w ∈ tbG, w.before _ s = true := fun w h => hts0 w (List.mem_cons_of_mem _ h)
  have hown : s.vm.findClass RX7 = some m.cls := findClass_of_methodNamed B.named
  subst hsz
  have hD := hD0.self (sz := s.heap.size)
  generalize hAe : va_A (WX7_readWord K m_a mA_lane mA_many mA_item mA_poem mA_fresh mA_then mA_was mA_tape mA_strengths mA_sounds mA_stand mA_scheme mA_isKept mA_kept mA_trace m_thrown m_status m_acts m_taped m_cursor m_start m_token m_value m_fault m_faultAt m_latest m_stands m_least m_ways m_nearFoot m_nearFeet m_nearCost m_traced m_fresh m_tape) s.heap.size = A at hD hE ⊢
  have hA : ∀ q : Nat, s.heap.size ≤ q → A q := fun q h => by rw [← hAe]; exact Or.inr h
  have hS : va_S A s.heap s.heap [] := va_S.rf
  have hl := lv_entry ([.ref m_a, .int p1]) (n := 6) (Nat.le_of_ble_eq_true rfl)
  rw [lg_entry_eq]
  generalize (lg_sl ([.ref m_a, .int p1]) ++ List.replicate (6 - (lg_sl ([.ref m_a, .int p1])).length) Slot.unset).toArray = ls at hl ⊢
  have hl : lv_has ls 6 [(0, .ref m_a), (1, .int p1)] := hl
  exact wX7_readWord_b0 ⟨hx, hb, hml, hown, hts, hK, hA, E0_ok, hE⟩ m_a mA_lane mA_many mA_item mA_poem mA_fresh mA_then mA_was mA_tape mA_strengths mA_sounds mA_stand mA_scheme mA_isKept mA_kept mA_trace m_thrown m_status m_acts m_taped m_latest m_stands m_least m_ways m_nearFoot m_nearFeet m_nearCost m_traced m_tape p1 o_m_cursor o_m_start o_m_token o_m_value o_m_fault o_m_faultAt o_m_fresh (fun H locs ls pc hdg hP hD hS => W.vret hx hb hr (fun t ht hW => ⟨⟨(), rfl, trivial, (show va_P G vwCl _ t.heap by rw [ht]; exact hP)⟩, hS.F ht⟩) hS.2.2 hdg) m_cursor m_start m_token m_value m_fault m_faultAt m_fresh  hM _ _ _ hP hD hS hl
