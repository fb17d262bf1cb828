abbrev WX6_trace (K : Nat → ClassId) (x_a xA_rows rd_a v_a d_a xA_images ac_a er_a xA_hits xA_bodies : Nat) (x_begun : Int32) (x_latestFault : Int32) (x_latestFinding : Int32) (x_bodies : Nat → Int32) : va_W := [(x_a, .inr (6, [.ref xA_rows, .ref rd_a, .ref v_a, .ref d_a, .ref xA_images, .ref ac_a, .ref er_a, .ref xA_hits, .ref xA_bodies, .int x_begun, .int x_latestFault, .int x_latestFinding])), aI K xA_bodies 16 x_bodies]
def rmX6_trace : Room := { frames := 0, cells := 0, slots := 0, locals := 0 }
theorem hdX6_trace : yX6_trace.cls = RX6 ∧ yX6_trace.cls ≠ "java/lang/invoke/MethodHandle" ∧ yX6_trace.cls ≠ "java/lang/invoke/VarHandle" ∧ (parseMethodDescriptor yX6_trace.desc).map (fun d => d.parameters.length) = some 1 := by decide +kernel
set_option maxHeartbeats 4000000 in
set_option maxRecDepth 100000 in
theorem wX6_trace_b0 {p : Program} {l : Launch} {e : Env} {s : State} {m : MethodId} {args : Array Value} {below : List Frame} {meth : Method} {c : Code} {Q : State → Prop} {G : va_G} {K : Nat → ClassId} {A : Nat → Prop} {tt : Nat → Nat} {L : List Nat} {la : Nat → Nat} {sa : Nat → Nat} {ln : Nat → Int32} {sy : Nat → Int32} {sn : Nat → Int32} {lt : Nat → Nat → Int32} {st : Nat → Nat → Int32} (C0 : CX p s m args c cX6_trace 2 RX6 G K (EC G K tt L la sa ln sy sn lt st) A) (x_a xA_rows rd_a v_a d_a xA_images ac_a er_a xA_hits xA_bodies : Nat) (x_begun : Int32) (x_latestFault : Int32) (x_latestFinding : Int32) (x_bodies : Nat → Int32) (p1 : Int32) (r : Int32)  (kr : ∀ (H : Heap) (locs : List Loc) (ls : Array Slot) (pc : Nat), decode cX6_trace pc = .ok (.ireturn, 1) → va_P G vwCl (WX6_trace K x_a xA_rows rd_a v_a d_a xA_images ac_a er_a xA_hits xA_bodies x_begun x_latestFault x_latestFinding x_bodies) H → va_D A (WX6_trace K x_a xA_rows rd_a v_a d_a xA_images ac_a er_a xA_hits xA_bodies x_begun x_latestFault x_latestFinding x_bodies) → va_S A s.heap H locs → W p l e rmX6_trace s m args below meth c H locs 0 0 Q (F0 m pc ls [.int r]))  (hM : mX6_trace_b0 x_begun x_bodies p1   = some r) : ∀ (H : Heap) (locs : List Loc) (ls : Array Slot), va_P G vwCl (WX6_trace K x_a xA_rows rd_a v_a d_a xA_images ac_a er_a xA_hits xA_bodies x_begun x_latestFault x_latestFinding x_bodies) H → va_D A (WX6_trace K x_a xA_rows rd_a v_a d_a xA_images ac_a er_a xA_hits xA_bodies x_begun x_latestFault x_latestFinding x_bodies) → va_S A s.heap H locs → lv_has ls 2 [(0, .ref x_a), (1, .int p1)] → W p l e rmX6_trace s m args below meth c H locs 0 0 Q (F0 m 0 ls []) := by
  obtain ⟨hx, hb, hml, hown, hts, hK, hA, hEo, hE⟩ := id C0
  intro H locs ls hP hD hS hl
  unfold mX6_trace_b0 at hM
  refine lv_iload_n hx hb dX6_trace_0 rfl (lv_at hl 1 rfl) ?_
  refine lv_if_lt (tgt := 21) hx hb dX6_trace_1 (by decide) (fun c_1 => ?_) (fun c_1 => ?_)
  · rw [if_pos c_1] at hM
    refine lv_ldc (v := -1000000) hx hb hown (hts _ tb489) dX6_trace_21 ?_
    have q1 := Option.some.inj hM
    subst q1
    exact kr _ _ _ _ dX6_trace_23 hP hD hS
  · rw [if_neg c_1] at hM
    refine lv_iload_n hx hb dX6_trace_4 rfl (lv_at hl 1 rfl) ?_
    refine lv_aload_n hx hb dX6_trace_5 rfl (lv_at hl 0 rfl) ?_
    refine va_get (D := G) (ci := 6) (v := .int x_begun) (C := RX6) (T := TX6) (N := 12) hx hb hts inX6 hown hK hP 0 rfl rfl 9 (by decide) (hts _ tb254) (fun _ h9 => h9) rfl dX6_trace_6 ?_
    refine lv_icmp_ge (tgt := 21) hx hb dX6_trace_9 (by decide) (fun c_2 => ?_) (fun c_2 => ?_)
    · rw [if_pos c_2] at hM
      refine lv_ldc (v := -1000000) hx hb hown (hts _ tb489) dX6_trace_21 ?_
      have q1 := Option.some.inj hM
      subst q1
      exact kr _ _ _ _ dX6_trace_23 hP hD hS
    · rw [if_neg c_2] at hM
      refine lv_aload_n hx hb dX6_trace_12 rfl (lv_at hl 0 rfl) ?_
      refine va_get (D := G) (ci := 6) (v := .ref xA_bodies) (C := RX6) (T := TX6) (N := 12) hx hb hts inX6 hown hK hP 0 rfl rfl 8 (by decide) (hts _ tb253) (fun _ h9 => h9) rfl dX6_trace_13 ?_
      refine lv_iload_n hx hb dX6_trace_16 rfl (lv_at hl 1 rfl) ?_
      obtain ⟨g_3, hM⟩ := ng hM
      refine va_iald hx hb hK hP 1 0 rfl rfl g_3 dX6_trace_17 ?_
      refine lv_goto (tgt := 23) hx hb dX6_trace_18 (by decide) ?_
      have q1 := Option.some.inj hM
      subst q1
      exact kr _ _ _ _ dX6_trace_23 hP hD hS
set_option maxHeartbeats 4000000 in
set_option maxRecDepth 100000 in
theorem kX6_trace (l : Launch) (G : va_G) (K : Nat → ClassId) (tt : Nat → Nat) (L : List Nat) (la : Nat → Nat) (sa : Nat → Nat) (ln : Nat → Int32) (sy : Nat → Int32) (sn : Nat → Int32) (lt : Nat → Nat → Int32) (st : Nat → Nat → Int32) (x_a xA_rows rd_a v_a d_a xA_images ac_a er_a xA_hits xA_bodies : Nat) (x_begun : Int32) (x_latestFault : Int32) (x_latestFinding : Int32) (x_bodies : Nat → Int32) (p1 : Int32) (sz : Nat) (r : Int32)  (hM : mX6_trace x_begun x_bodies p1 = some r) : Met l yX6_trace (mC yX6_trace cX6_trace 2 (some .int)) rmX6_trace (va_Pc [.ref x_a, .int p1] (PCe G K (EC G K tt L la sa ln sy sn lt st) (WX6_trace K x_a xA_rows rd_a v_a d_a xA_images ac_a er_a xA_hits xA_bodies x_begun x_latestFault x_latestFinding x_bodies) sz)) (va_Qi (fun (x : Int32) (_ : Unit) => x = r) (fun _ t => va_P G vwCl (WX6_trace K x_a xA_rows rd_a v_a d_a xA_images ac_a er_a xA_hits xA_bodies x_begun x_latestFault x_latestFinding x_bodies) t.heap) (va_A (WX6_trace K x_a xA_rows rd_a v_a d_a xA_images ac_a er_a xA_hits xA_bodies x_begun x_latestFault x_latestFinding x_bodies) sz)) rmX6_trace.cells rmX6_trace.slots (va_A (WX6_trace K x_a xA_rows rd_a v_a d_a xA_images ac_a er_a xA_hits xA_bodies x_begun x_latestFault x_latestFinding x_bodies) sz) := by
  refine Met.ofW (cc := cX6_trace) (maxL := 2) (ret := (some .int)) (by decide) rfl ?_
  intro p e s m args below meth c s₁ B hml hv
  obtain ⟨rfl, hsz, hP, hK, hD0, hE⟩ := hv
  have hx := B.exec
  have hb := B.bytes
  have hr := B.returns
  have hts0 := atoms_spec (ws := mC yX6_trace cX6_trace 2 (some .int)) B.pre
  have hts : ∀ w ∈ tbG, w.before _ s = true := fun w h => hts0 w (List.mem_cons_of_mem _ h)
  have hown : s.vm.findClass RX6 = some m.cls := findClass_of_methodNamed B.named
  subst hsz
  have hD := hD0.self (sz := s.heap.size)
  generalize hAe : va_A (WX6_trace K x_a xA_rows rd_a v_a d_a xA_images ac_a er_a xA_hits xA_bodies x_begun x_latestFault x_latestFinding x_bodies) s.heap.size = A at hD hE ⊢
  have hA : ∀ q : Nat, s.heap.size ≤ q → A q := fun q h => by rw [← hAe]; exact Or.inr h
  have hS : va_S A s.heap s.heap [] := va_S.rf
  have hl := lv_entry ([.ref x_a, .int p1]) (n := 2) (Nat.le_of_ble_eq_true rfl)
  rw [lg_entry_eq]
  generalize (lg_sl ([.ref x_a, .int p1]) ++ List.replicate (2 - (lg_sl ([.ref x_a, .int p1])).length) Slot.unset).toArray = ls at hl ⊢
  have hl : lv_has ls 2 [(0, .ref x_a), (1, .int p1)] := hl
  exact wX6_trace_b0 ⟨hx, hb, hml, hown, hts, hK, hA, EC_ok _ _ _ _ _ _ _ _ _ _ _, hE⟩ x_a xA_rows rd_a v_a d_a xA_images ac_a er_a xA_hits xA_bodies x_begun x_latestFault x_latestFinding x_bodies p1 r (fun H locs ls pc hdg hP hD hS => W.iret (v := r) hx hb hr (fun t ht hW => ⟨⟨r, (), rfl, rfl, (show va_P G vwCl _ t.heap by rw [ht]; exact hP)⟩, hS.F ht⟩) hS.2.2 hdg)   hM _ _ _ hP hD hS hl
abbrev WX6_status (K : Nat → ClassId) (x_a xA_rows rd_a v_a d_a xA_images ac_a er_a xA_hits xA_bodies : Nat) (x_begun : Int32) (x_latestFault : Int32) (x_latestFinding : Int32) : va_W := [(x_a, .inr (6, [.ref xA_rows, .ref rd_a, .ref v_a, .ref d_a, .ref xA_images, .ref ac_a, .ref er_a, .ref xA_hits, .ref xA_bodies, .int x_begun, .int x_latestFault, .int x_latestFinding]))]
def rmX6_status : Room := { frames := 0, cells := 0, slots := 0, locals := 0 }
theorem hdX6_status : yX6_status.cls = RX6 ∧ yX6_status.cls ≠ "java/lang/invoke/MethodHandle" ∧ yX6_status.cls ≠ "java/lang/invoke/VarHandle" ∧ (parseMethodDescriptor yX6_status.desc).map (fun d => d.parameters.length) = some 0 := by decide +kernel
set_option maxHeartbeats 4000000 in
set_option maxRecDepth 100000 in
theorem wX6_status_b0 {p : Program} {l : Launch} {e : Env} {s : State} {m : MethodId} {args : Array Value} {below : List Frame} {meth : Method} {c : Code} {Q : State → Prop} {G : va_G} {K : Nat → ClassId} {A : Nat → Prop} {tt : Nat → Nat} {L : List Nat} {la : Nat → Nat} {sa : Nat → Nat} {ln : Nat → Int32} {sy : Nat → Int32} {sn : Nat → Int32} {lt : Nat → Nat → Int32} {st : Nat → Nat → Int32} (C0 : CX p s m args c cX6_status 1 RX6 G K (EC G K tt L la sa ln sy sn lt st) A) (x_a xA_rows rd_a v_a d_a xA_images ac_a er_a xA_hits xA_bodies : Nat) (x_begun : Int32) (x_latestFault : Int32) (x_latestFinding : Int32)  (r : Int32)  (kr : ∀ (H : Heap) (locs : List Loc) (ls : Array Slot) (pc : Nat), decode cX6_status pc = .ok (.ireturn, 1) → va_P G vwCl (WX6_status K x_a xA_rows rd_a v_a d_a xA_images ac_a er_a xA_hits xA_bodies x_begun x_latestFault x_latestFinding) H → va_D A (WX6_status K x_a xA_rows rd_a v_a d_a xA_images ac_a er_a xA_hits xA_bodies x_begun x_latestFault x_latestFinding) → va_S A s.heap H locs → W p l e rmX6_status s m args below meth c H locs 0 0 Q (F0 m pc ls [.int r]))  (hM : mX6_status_b0 x_latestFinding   = some r) : ∀ (H : Heap) (locs : List Loc) (ls : Array Slot), va_P G vwCl (WX6_status K x_a xA_rows rd_a v_a d_a xA_images ac_a er_a xA_hits xA_bodies x_begun x_latestFault x_latestFinding) H → va_D A (WX6_status K x_a xA_rows rd_a v_a d_a xA_images ac_a er_a xA_hits xA_bodies x_begun x_latestFault x_latestFinding) → va_S A s.heap H locs → lv_has ls 1 [(0, .ref x_a)] → W p l e rmX6_status s m args below meth c H locs 0 0 Q (F0 m 0 ls []) := by
  obtain ⟨hx, hb, hml, hown, hts, hK, hA, hEo, hE⟩ := id C0
  intro H locs ls hP hD hS hl
  unfold mX6_status_b0 at hM
  refine lv_aload_n hx hb dX6_status_0 rfl (lv_at hl 0 rfl) ?_
  refine va_get (D := G) (ci := 6) (v := .int x_latestFinding) (C := RX6) (T := TX6) (N := 12) hx hb hts inX6 hown hK hP 0 rfl rfl 11 (by decide) (hts _ tb256) (fun _ h9 => h9) rfl dX6_status_1 ?_
  have q1 := Option.some.inj hM
  subst q1
  exact kr _ _ _ _ dX6_status_4 hP hD hS
set_option maxHeartbeats 4000000 in
set_option maxRecDepth 100000 in
theorem kX6_status (l : Launch) (G : va_G) (K : Nat → ClassId) (tt : Nat → Nat) (L : List Nat) (la : Nat → Nat) (sa : Nat → Nat) (ln : Nat → Int32) (sy : Nat → Int32) (sn : Nat → Int32) (lt : Nat → Nat → Int32) (st : Nat → Nat → Int32) (x_a xA_rows rd_a v_a d_a xA_images ac_a er_a xA_hits xA_bodies : Nat) (x_begun : Int32) (x_latestFault : Int32) (x_latestFinding : Int32)  (sz : Nat) (r : Int32)  (hM : mX6_status x_latestFinding = some r) : Met l yX6_status (mC yX6_status cX6_status 1 (some .int)) rmX6_status (va_Pc [.ref x_a] (PCe G K (EC G K tt L la sa ln sy sn lt st) (WX6_status K x_a xA_rows rd_a v_a d_a xA_images ac_a er_a xA_hits xA_bodies x_begun x_latestFault x_latestFinding) sz)) (va_Qi (fun (x : Int32) (_ : Unit) => x = r) (fun _ t => va_P G vwCl (WX6_status K x_a xA_rows rd_a v_a d_a xA_images ac_a er_a xA_hits xA_bodies x_begun x_latestFault x_latestFinding) t.heap) (va_A (WX6_status K x_a xA_rows rd_a v_a d_a xA_images ac_a er_a xA_hits xA_bodies x_begun x_latestFault x_latestFinding) sz)) rmX6_status.cells rmX6_status.slots (va_A (WX6_status K x_a xA_rows rd_a v_a d_a xA_images ac_a er_a xA_hits xA_bodies x_begun x_latestFault x_latestFinding) sz) := by
  refine Met.ofW (cc := cX6_status) (maxL := 1) (ret := (some .int)) (by decide) rfl ?_
  intro p e s m args below meth c s₁ B hml hv
  obtain ⟨rfl, hsz, hP, hK, hD0, hE⟩ := hv
  have hx := B.exec
  have hb := B.bytes
  have hr := B.returns
  have hts0 := atoms_spec (ws := mC yX6_status cX6_status 1 (some .int)) B.pre
  have hts : ∀ w ∈ tbG, w.before _ s = true := fun w h => hts0 w (List.mem_cons_of_mem _ h)
  have hown : s.vm.findClass RX6 = some m.cls := findClass_of_methodNamed B.named
  subst hsz
  have hD := hD0.self (sz := s.heap.size)
  generalize hAe : va_A (WX6_status K x_a xA_rows rd_a v_a d_a xA_images ac_a er_a xA_hits xA_bodies x_begun x_latestFault x_latestFinding) s.heap.size = A at hD hE ⊢
  have hA : ∀ q : Nat, s.heap.size ≤ q → A q := fun q h => by rw [← hAe]; exact Or.inr h
  have hS : va_S A s.heap s.heap [] := va_S.rf
  have hl := lv_entry ([.ref x_a]) (n := 1) (Nat.le_of_ble_eq_true rfl)
  rw [lg_entry_eq]
  generalize (lg_sl ([.ref x_a]) ++ List.replicate (1 - (lg_sl ([.ref x_a])).length) Slot.unset).toArray = ls at hl ⊢
  have hl : lv_has ls 1 [(0, .ref x_a)] := hl
  exact wX6_status_b0 ⟨hx, hb, hml, hown, hts, hK, hA, EC_ok _ _ _ _ _ _ _ _ _ _ _, hE⟩ x_a xA_rows rd_a v_a d_a xA_images ac_a er_a xA_hits xA_bodies x_begun x_latestFault x_latestFinding r (fun H locs ls pc hdg hP hD hS => W.iret (v := r) hx hb hr (fun t ht hW => ⟨⟨r, (), rfl, rfl, (show va_P G vwCl _ t.heap by rw [ht]; exact hP)⟩, hS.F ht⟩) hS.2.2 hdg)   hM _ _ _ hP hD hS hl
abbrev WX2_allLetters (K : Nat → ClassId) (po_a poA_sizes poA_kinds poA_spelled poA_scheme : Nat) (po_foot : Int32) (po_feet : Int32) (po_lines : Int32) (po_words : Int32) (po_sizes : Nat → Int32) (po_kinds : Nat → Int32) (po_spelled : Nat → Nat) (po_scheme : Nat → Int32) : va_W := [(po_a, .inr (2, [.int po_foot, .int po_feet, .int po_lines, .int po_words, .ref poA_sizes, .ref poA_kinds, .ref poA_spelled, .ref poA_scheme])), aI K poA_sizes 4 po_sizes, aI K poA_kinds 20 po_kinds, aS K poA_spelled 20 po_spelled, aI K poA_scheme 4 po_scheme]
def rmX2_allLetters : Room := { frames := 0, cells := 0, slots := 0, locals := 0 }
theorem hdX2_allLetters : yX2_allLetters.cls = RX2 ∧ yX2_allLetters.cls ≠ "java/lang/invoke/MethodHandle" ∧ yX2_allLetters.cls ≠ "java/lang/invoke/VarHandle" ∧ (parseMethodDescriptor yX2_allLetters.desc).map (fun d => d.parameters.length) = some 0 := by decide +kernel
set_option maxHeartbeats 4000000 in
set_option maxRecDepth 100000 in
theorem wX2_allLetters_b4 {p : Program} {l : Launch} {e : Env} {s : State} {m : MethodId} {args : Array Value} {below : List Frame} {meth : Method} {c : Code} {Q : State → Prop} {G : va_G} {K : Nat → ClassId} {A : Nat → Prop} {tt : Nat → Nat} {L : List Nat} {la : Nat → Nat} {sa : Nat → Nat} {ln : Nat → Int32} {sy : Nat → Int32} {sn : Nat → Int32} {lt : Nat → Nat → Int32} {st : Nat → Nat → Int32} (C0 : CX p s m args c cX2_allLetters 3 RX2 G K (EC G K tt L la sa ln sy sn lt st) A) (po_a poA_sizes poA_kinds poA_spelled poA_scheme : Nat) (po_foot : Int32) (po_feet : Int32) (po_lines : Int32) (po_words : Int32) (po_sizes : Nat → Int32) (po_kinds : Nat → Int32) (po_spelled : Nat → Nat) (po_scheme : Nat → Int32)  (r : Int32)  (kr : ∀ (H : Heap) (locs : List Loc) (ls : Array Slot) (pc : Nat), decode cX2_allLetters pc = .ok (.ireturn, 1) → va_P G vwCl (WX2_allLetters K po_a poA_sizes poA_kinds poA_spelled poA_scheme po_foot po_feet po_lines po_words po_sizes po_kinds po_spelled po_scheme) H → va_D A (WX2_allLetters K po_a poA_sizes poA_kinds poA_spelled poA_scheme po_foot po_feet po_lines po_words po_sizes po_kinds po_spelled po_scheme) → va_S A s.heap H locs → W p l e rmX2_allLetters s m args below meth c H locs 0 0 Q (F0 m pc ls [.int r])) (n : Nat) : ∀ (x1 : Int32) (x2 : Int32), mX2_allLetters_b4 L ln po_words po_spelled  n x1 x2 = some r → ∀ (H : Heap) (locs : List Loc) (ls : Array Slot), va_P G vwCl (WX2_allLetters K po_a poA_sizes poA_kinds poA_spelled poA_scheme po_foot po_feet po_lines po_words po_sizes po_kinds po_spelled po_scheme) H → va_D A (WX2_allLetters K po_a poA_sizes poA_kinds poA_spelled poA_scheme po_foot po_feet po_lines po_words po_sizes po_kinds po_spelled po_scheme) → va_S A s.heap H locs → lv_has ls 3 [(0, .ref po_a), (1, .int x1), (2, .int x2)] → W p l e rmX2_allLetters s m args below meth c H locs 0 0 Q (F0 m 4 ls []) := by
  obtain ⟨hx, hb, hml, hown, hts, hK, hA, hEo, hE⟩ := id C0
  induction n with
  | zero =>
    intro x1 x2 hM
    cases hM
  | succ n ih =>
    intro x1 x2 hM H locs ls hP hD hS hl
    rw [mX2_allLetters_b4] at hM
    refine lv_iload_n hx hb dX2_allLetters_4 rfl (lv_at hl 2 rfl) ?_
    refine lv_aload_n hx hb dX2_allLetters_5 rfl (lv_at hl 0 rfl) ?_
    refine va_get (D := G) (ci := 2) (v := .int po_words) (C := RX2) (T := TX2) (N := 8) hx hb hts inX2 hown hK hP 0 rfl rfl 3 (by decide) (hts _ tb184) (fun _ h9 => h9) rfl dX2_allLetters_6 ?_
    refine lv_icmp_ge (tgt := 30) hx hb dX2_allLetters_9 (by decide) (fun c_1 => ?_) (fun c_1 => ?_)
    · rw [if_pos c_1] at hM
      refine lv_iload_n hx hb dX2_allLetters_30 rfl (lv_at hl 1 rfl) ?_
      have q1 := Option.some.inj hM
      subst q1
      exact kr _ _ _ _ dX2_allLetters_31 hP hD hS
    · rw [if_neg c_1] at hM
      refine lv_iload_n hx hb dX2_allLetters_12 rfl (lv_at hl 1 rfl) ?_
      refine lv_aload_n hx hb dX2_allLetters_13 rfl (lv_at hl 0 rfl) ?_
      refine va_get (D := G) (ci := 2) (v := .ref poA_spelled) (C := RX2) (T := TX2) (N := 8) hx hb hts inX2 hown hK hP 0 rfl rfl 6 (by decide) (hts _ tb193) (fun _ h9 => h9) rfl dX2_allLetters_14 ?_
      refine lv_iload_n hx hb dX2_allLetters_17 rfl (lv_at hl 2 rfl) ?_
      obtain ⟨g_2, hM⟩ := ng hM
      refine va_aldq hx hb hK hP 3 2 rfl rfl g_2 dX2_allLetters_18 ?_
      show W p l e rmX2_allLetters s m args below meth c H locs 0 0 Q (F0 m 19 ls [.ref (po_spelled x2.toNatClampNeg), .int x1])
      obtain ⟨g_3, hM⟩ := ng hM
      refine va_get (D := G) (ci := 5) (v := .int (ln (po_spelled x2.toNatClampNeg))) (C := RX5) (T := TX5) (N := 5) hx hb hts inX5 hown hK (sp_at hE hS (Decidable.not_not.mp g_3)) 0 rfl rfl 0 (by decide) (hts _ tb125) (fun _ h9 => h9) rfl dX2_allLetters_19 ?_
      refine lv_iadd hx hb dX2_allLetters_22 ?_
      refine lv_istore_n (lv' := [(1, .int (x1 + (ln (po_spelled x2.toNatClampNeg)))), (0, .ref po_a), (2, .int x2)]) hx hb dX2_allLetters_23 rfl hl (by decide) rfl (fun ls hl => ?_)
      refine lv_iinc (v := (x2 + 1)) (lv' := [(2, .int (x2 + 1)), (1, .int (x1 + (ln (po_spelled x2.toNatClampNeg)))), (0, .ref po_a)]) hx hb dX2_allLetters_24 hl (k := 2) rfl rfl (by decide) rfl (fun ls hl => ?_)
      refine lv_goto (tgt := 4) hx hb dX2_allLetters_27 (by decide) ?_
      exact ih (x1 + (ln (po_spelled x2.toNatClampNeg))) (x2 + 1) hM _ _ _ hP hD hS (lv_sub hl [2, 1, 0] rfl)
set_option maxHeartbeats 4000000 in
set_option maxRecDepth 100000 in
theorem wX2_allLetters_b0 {p : Program} {l : Launch} {e : Env} {s : State} {m : MethodId} {args : Array Value} {below : List Frame} {meth : Method} {c : Code} {Q : State → Prop} {G : va_G} {K : Nat → ClassId} {A : Nat → Prop} {tt : Nat → Nat} {L : List Nat} {la : Nat → Nat} {sa : Nat → Nat} {ln : Nat → Int32} {sy : Nat → Int32} {sn : Nat → Int32} {lt : Nat → Nat → Int32} {st : Nat → Nat → Int32} (C0 : CX p s m args c cX2_allLetters 3 RX2 G K (EC G K tt L la sa ln sy sn lt st) A) (po_a poA_sizes poA_kinds poA_spelled poA_scheme : Nat) (po_foot : Int32) (po_feet : Int32) (po_lines : Int32) (po_words : Int32) (po_sizes : Nat → Int32) (po_kinds : Nat → Int32) (po_spelled : Nat → Nat) (po_scheme : Nat → Int32)  (r : Int32)  (kr : ∀ (H : Heap) (locs : List Loc) (ls : Array Slot) (pc : Nat), decode cX2_allLetters pc = .ok (.ireturn, 1) → va_P G vwCl (WX2_allLetters K po_a poA_sizes poA_kinds poA_spelled poA_scheme po_foot po_feet po_lines po_words po_sizes po_kinds po_spelled po_scheme) H → va_D A (WX2_allLetters K po_a poA_sizes poA_kinds poA_spelled poA_scheme po_foot po_feet po_lines po_words po_sizes po_kinds po_spelled po_scheme) → va_S A s.heap H locs → W p l e rmX2_allLetters s m args below meth c H locs 0 0 Q (F0 m pc ls [.int r]))  (hM : mX2_allLetters_b0 L ln po_words po_spelled   = some r) : ∀ (H : Heap) (locs : List Loc) (ls : Array Slot), va_P G vwCl (WX2_allLetters K po_a poA_sizes poA_kinds poA_spelled poA_scheme po_foot po_feet po_lines po_words po_sizes po_kinds po_spelled po_scheme) H → va_D A (WX2_allLetters K po_a poA_sizes poA_kinds poA_spelled poA_scheme po_foot po_feet po_lines po_words po_sizes po_kinds po_spelled po_scheme) → va_S A s.heap H locs → lv_has ls 3 [(0, .ref po_a)] → W p l e rmX2_allLetters s m args below meth c H locs 0 0 Q (F0 m 0 ls []) := by
  obtain ⟨hx, hb, hml, hown, hts, hK, hA, hEo, hE⟩ := id C0
  intro H locs ls hP hD hS hl
  unfold mX2_allLetters_b0 at hM
  refine lv_iconst (v := 0) hx hb dX2_allLetters_0 (by decide) ?_
  refine lv_istore_n (lv' := [(1, .int (0 : Int32)), (0, .ref po_a)]) hx hb dX2_allLetters_1 rfl hl (by decide) rfl (fun ls hl => ?_)
  refine lv_iconst (v := 0) hx hb dX2_allLetters_2 (by decide) ?_
  refine lv_istore_n (lv' := [(2, .int (0 : Int32)), (1, .int (0 : Int32)), (0, .ref po_a)]) hx hb dX2_allLetters_3 rfl hl (by decide) rfl (fun ls hl => ?_)
  exact wX2_allLetters_b4 C0 po_a poA_sizes poA_kinds poA_spelled poA_scheme po_foot po_feet po_lines po_words po_sizes po_kinds po_spelled po_scheme r kr  FU (0 : Int32) (0 : Int32) hM _ _ _ hP hD hS (lv_sub hl [2, 1, 0] rfl)
set_option maxHeartbeats 4000000 in
set_option maxRecDepth 100000 in
theorem kX2_allLetters (l : Launch) (G : va_G) (K : Nat → ClassId) (tt : Nat → Nat) (L : List Nat) (la : Nat → Nat) (sa : Nat → Nat) (ln : Nat → Int32) (sy : Nat → Int32) (sn : Nat → Int32) (lt : Nat → Nat → Int32) (st : Nat → Nat → Int32) (po_a poA_sizes poA_kinds poA_spelled poA_scheme : Nat) (po_foot : Int32) (po_feet : Int32) (po_lines : Int32) (po_words : Int32) (po_sizes : Nat → Int32) (po_kinds : Nat → Int32) (po_spelled : Nat → Nat) (po_scheme : Nat → Int32)  (sz : Nat) (r : Int32)  (hM : mX2_allLetters L ln po_words po_spelled = some r) : Met l yX2_allLetters (mC yX2_allLetters cX2_allLetters 3 (some .int)) rmX2_allLetters (va_Pc [.ref po_a] (PCe G K (EC G K tt L la sa ln sy sn lt st) (WX2_allLetters K po_a poA_sizes poA_kinds poA_spelled poA_scheme po_foot po_feet po_lines po_words po_sizes po_kinds po_spelled po_scheme) sz)) (va_Qi (fun (x : Int32) (_ : Unit) => x = r) (fun _ t => va_P G vwCl (WX2_allLetters K po_a poA_sizes poA_kinds poA_spelled poA_scheme po_foot po_feet po_lines po_words po_sizes po_kinds po_spelled po_scheme) t.heap) (va_A (WX2_allLetters K po_a poA_sizes poA_kinds poA_spelled poA_scheme po_foot po_feet po_lines po_words po_sizes po_kinds po_spelled po_scheme) sz)) rmX2_allLetters.cells rmX2_allLetters.slots (va_A (WX2_allLetters K po_a poA_sizes poA_kinds poA_spelled poA_scheme po_foot po_feet po_lines po_words po_sizes po_kinds po_spelled po_scheme) sz) := by
  refine Met.ofW (cc := cX2_allLetters) (maxL := 3) (ret := (some .int)) (by decide) rfl ?_
  intro p e s m args below meth c s₁ B hml hv
  obtain ⟨rfl, hsz, hP, hK, hD0, hE⟩ := hv
  have hx := B.exec
  have hb := B.bytes
  have hr := B.returns
  have hts0 := atoms_spec (ws := mC yX2_allLetters cX2_allLetters 3 (some .int)) B.pre
  have hts : ∀ w ∈ tbG, w.before _ s = true := fun w h => hts0 w (List.mem_cons_of_mem _ h)
  have hown : s.vm.findClass RX2 = some m.cls := findClass_of_methodNamed B.named
  subst hsz
  have hD := hD0.self (sz := s.heap.size)
  generalize hAe : va_A (WX2_allLetters K po_a poA_sizes poA_kinds poA_spelled poA_scheme po_foot po_feet po_lines po_words po_sizes po_kinds po_spelled po_scheme) s.heap.size = A at hD hE ⊢
  have hA : ∀ q : Nat, s.heap.size ≤ q → A q := fun q h => by rw [← hAe]; exact Or.inr h
  have hS : va_S A s.heap s.heap [] := va_S.rf
  have hl := lv_entry ([.ref po_a]) (n := 3) (Nat.le_of_ble_eq_true rfl)
  rw [lg_entry_eq]
  generalize (lg_sl ([.ref po_a]) ++ List.replicate (3 - (lg_sl ([.ref po_a])).length) Slot.unset).toArray = ls at hl ⊢
  have hl : lv_has ls 3 [(0, .ref po_a)] := hl
  exact wX2_allLetters_b0 ⟨hx, hb, hml, hown, hts, hK, hA, EC_ok _ _ _ _ _ _ _ _ _ _ _, hE⟩ po_a poA_sizes poA_kinds poA_spelled poA_scheme po_foot po_feet po_lines po_words po_sizes po_kinds po_spelled po_scheme r (fun H locs ls pc hdg hP hD hS => W.iret (v := r) hx hb hr (fun t ht hW => ⟨⟨r, (), rfl, rfl, (show va_P G vwCl _ t.heap by rw [ht]; exact hP)⟩, hS.F ht⟩) hS.2.2 hdg)   hM _ _ _ hP hD hS hl
abbrev WX2_allSyllables (K : Nat → ClassId) (po_a poA_sizes poA_kinds poA_spelled poA_scheme : Nat) (po_foot : Int32) (po_feet : Int32) (po_lines : Int32) (po_words : Int32) (po_sizes : Nat → Int32) (po_kinds : Nat → Int32) (po_spelled : Nat → Nat) (po_scheme : Nat → Int32) : va_W := [(po_a, .inr (2, [.int po_foot, .int po_feet, .int po_lines, .int po_words, .ref poA_sizes, .ref poA_kinds, .ref poA_spelled, .ref poA_scheme])), aI K poA_sizes 4 po_sizes, aI K poA_kinds 20 po_kinds, aS K poA_spelled 20 po_spelled, aI K poA_scheme 4 po_scheme]
def rmX2_allSyllables : Room := { frames := 0, cells := 0, slots := 0, locals := 0 }
theorem hdX2_allSyllables : yX2_allSyllables.cls = RX2 ∧ yX2_allSyllables.cls ≠ "java/lang/invoke/MethodHandle" ∧ yX2_allSyllables.cls ≠ "java/lang/invoke/VarHandle" ∧ (parseMethodDescriptor yX2_allSyllables.desc).map (fun d => d.parameters.length) = some 0 := by decide +kernel
set_option maxHeartbeats 4000000 in
set_option maxRecDepth 100000 in
theorem wX2_allSyllables_b4 {p : Program} {l : Launch} {e : Env} {s : State} {m : MethodId} {args : Array Value} {below : List Frame} {meth : Method} {c : Code} {Q : State → Prop} {G : va_G} {K : Nat → ClassId} {A : Nat → Prop} {tt : Nat → Nat} {L : List Nat} {la : Nat → Nat} {sa : Nat → Nat} {ln : Nat → Int32} {sy : Nat → Int32} {sn : Nat → Int32} {lt : Nat → Nat → Int32} {st : Nat → Nat → Int32} (C0 : CX p s m args c cX2_allSyllables 3 RX2 G K (EC G K tt L la sa ln sy sn lt st) A) (po_a poA_sizes poA_kinds poA_spelled poA_scheme : Nat) (po_foot : Int32) (po_feet : Int32) (po_lines : Int32) (po_words : Int32) (po_sizes : Nat → Int32) (po_kinds : Nat → Int32) (po_spelled : Nat → Nat) (po_scheme : Nat → Int32)  (r : Int32)  (kr : ∀ (H : Heap) (locs : List Loc) (ls : Array Slot) (pc : Nat), decode cX2_allSyllables pc = .ok (.ireturn, 1) → va_P G vwCl (WX2_allSyllables K po_a poA_sizes poA_kinds poA_spelled poA_scheme po_foot po_feet po_lines po_words po_sizes po_kinds po_spelled po_scheme) H → va_D A (WX2_allSyllables K po_a poA_sizes poA_kinds poA_spelled poA_scheme po_foot po_feet po_lines po_words po_sizes po_kinds po_spelled po_scheme) → va_S A s.heap H locs → W p l e rmX2_allSyllables s m args below meth c H locs 0 0 Q (F0 m pc ls [.int r])) (n : Nat) : ∀ (x1 : Int32) (x2 : Int32), mX2_allSyllables_b4 L sy po_words po_spelled  n x1 x2 = some r → ∀ (H : Heap) (locs : List Loc) (ls : Array Slot), va_P G vwCl (WX2_allSyllables K po_a poA_sizes poA_kinds poA_spelled poA_scheme po_foot po_feet po_lines po_words po_sizes po_kinds po_spelled po_scheme) H → va_D A (WX2_allSyllables K po_a poA_sizes poA_kinds poA_spelled poA_scheme po_foot po_feet po_lines po_words po_sizes po_kinds po_spelled po_scheme) → va_S A s.heap H locs → lv_has ls 3 [(0, .ref po_a), (1, .int x1), (2, .int x2)] → W p l e rmX2_allSyllables s m args below meth c H locs 0 0 Q (F0 m 4 ls []) := by
  obtain ⟨hx, hb, hml, hown, hts, hK, hA, hEo, hE⟩ := id C0
  induction n with
  | zero =>
    intro x1 x2 hM
    cases hM
  | succ n ih =>
    intro x1 x2 hM H locs ls hP hD hS hl
    rw [mX2_allSyllables_b4] at hM
    refine lv_iload_n hx hb dX2_allSyllables_4 rfl (lv_at hl 2 rfl) ?_
    refine lv_aload_n hx hb dX2_allSyllables_5 rfl (lv_at hl 0 rfl) ?_
    refine va_get (D := G) (ci := 2) (v := .int po_words) (C := RX2) (T := TX2) (N := 8) hx hb hts inX2 hown hK hP 0 rfl rfl 3 (by decide) (hts _ tb184) (fun _ h9 => h9) rfl dX2_allSyllables_6 ?_
    refine lv_icmp_ge (tgt := 30) hx hb dX2_allSyllables_9 (by decide) (fun c_1 => ?_) (fun c_1 => ?_)
    · rw [if_pos c_1] at hM
      refine lv_iload_n hx hb dX2_allSyllables_30 rfl (lv_at hl 1 rfl) ?_
      have q1 := Option.some.inj hM
      subst q1
      exact kr _ _ _ _ dX2_allSyllables_31 hP hD hS
    · rw [if_neg c_1] at hM
      refine lv_iload_n hx hb dX2_allSyllables_12 rfl (lv_at hl 1 rfl) ?_
      refine lv_aload_n hx hb dX2_allSyllables_13 rfl (lv_at hl 0 rfl) ?_
      refine va_get (D := G) (ci := 2) (v := .ref poA_spelled) (C := RX2) (T := TX2) (N := 8) hx hb hts inX2 hown hK hP 0 rfl rfl 6 (by decide) (hts _ tb193) (fun _ h9 => h9) rfl dX2_allSyllables_14 ?_
      refine lv_iload_n hx hb dX2_allSyllables_17 rfl (lv_at hl 2 rfl) ?_
      obtain ⟨g_2, hM⟩ := ng hM
      refine va_aldq hx hb hK hP 3 2 rfl rfl g_2 dX2_allSyllables_18 ?_
      show W p l e rmX2_allSyllables s m args below meth c H locs 0 0 Q (F0 m 19 ls [.ref (po_spelled x2.toNatClampNeg), .int x1])
      obtain ⟨g_3, hM⟩ := ng hM
      refine va_get (D := G) (ci := 5) (v := .int (sy (po_spelled x2.toNatClampNeg))) (C := RX5) (T := TX5) (N := 5) hx hb hts inX5 hown hK (sp_at hE hS (Decidable.not_not.mp g_3)) 0 rfl rfl 2 (by decide) (hts _ tb131) (fun _ h9 => h9) rfl dX2_allSyllables_19 ?_
      refine lv_iadd hx hb dX2_allSyllables_22 ?_
      refine lv_istore_n (lv' := [(1, .int (x1 + (sy (po_spelled x2.toNatClampNeg)))), (0, .ref po_a), (2, .int x2)]) hx hb dX2_allSyllables_23 rfl hl (by decide) rfl (fun ls hl => ?_)
      refine lv_iinc (v := (x2 + 1)) (lv' := [(2, .int (x2 + 1)), (1, .int (x1 + (sy (po_spelled x2.toNatClampNeg)))), (0, .ref po_a)]) hx hb dX2_allSyllables_24 hl (k := 2) rfl rfl (by decide) rfl (fun ls hl => ?_)
      refine lv_goto (tgt := 4) hx hb dX2_allSyllables_27 (by decide) ?_
      exact ih (x1 + (sy (po_spelled x2.toNatClampNeg))) (x2 + 1) hM _ _ _ hP hD hS (lv_sub hl [2, 1, 0] rfl)
set_option maxHeartbeats 4000000 in
set_option maxRecDepth 100000 in
theorem wX2_allSyllables_b0 {p : Program} {l : Launch} {e : Env} {s : State} {m : MethodId} {args : Array Value} {below : List Frame} {meth : Method} {c : Code} {Q : State → Prop} {G : va_G} {K : Nat → ClassId} {A : Nat → Prop} {tt : Nat → Nat} {L : List Nat} {la : Nat → Nat} {sa : Nat → Nat} {ln : Nat → Int32} {sy : Nat → Int32} {sn : Nat → Int32} {lt : Nat → Nat → Int32} {st : Nat → Nat → Int32} (C0 : CX p s m args c cX2_allSyllables 3 RX2 G K (EC G K tt L la sa ln sy sn lt st) A) (po_a poA_sizes poA_kinds poA_spelled poA_scheme : Nat) (po_foot : Int32) (po_feet : Int32) (po_lines : Int32) (po_words : Int32) (po_sizes : Nat → Int32) (po_kinds : Nat → Int32) (po_spelled : Nat → Nat) (po_scheme : Nat → Int32)  (r : Int32)  (kr : ∀ (H : Heap) (locs : List Loc) (ls : Array Slot) (pc : Nat), decode cX2_allSyllables pc = .ok (.ireturn, 1) → va_P G vwCl (WX2_allSyllables K po_a poA_sizes poA_kinds poA_spelled poA_scheme po_foot po_feet po_lines po_words po_sizes po_kinds po_spelled po_scheme) H → va_D A (WX2_allSyllables K po_a poA_sizes poA_kinds poA_spelled poA_scheme po_foot po_feet po_lines po_words po_sizes po_kinds po_spelled po_scheme) → va_S A s.heap H locs → W p l e rmX2_allSyllables s m args below meth c H locs 0 0 Q (F0 m pc ls [.int r]))  (hM : mX2_allSyllables_b0 L sy po_words po_spelled   = some r) : ∀ (H : Heap) (locs : List Loc) (ls : Array Slot), va_P G vwCl (WX2_allSyllables K po_a poA_sizes poA_kinds poA_spelled poA_scheme po_foot po_feet po_lines po_words po_sizes po_kinds po_spelled po_scheme) H → va_D A (WX2_allSyllables K po_a poA_sizes poA_kinds poA_spelled poA_scheme po_foot po_feet po_lines po_words po_sizes po_kinds po_spelled po_scheme) → va_S A s.heap H locs → lv_has ls 3 [(0, .ref po_a)] → W p l e rmX2_allSyllables s m args below meth c H locs 0 0 Q (F0 m 0 ls []) := by
  obtain ⟨hx, hb, hml, hown, hts, hK, hA, hEo, hE⟩ := id C0
  intro H locs ls hP hD hS hl
  unfold mX2_allSyllables_b0 at hM
  refine lv_iconst (v := 0) hx hb dX2_allSyllables_0 (by decide) ?_
  refine lv_istore_n (lv' := [(1, .int (0 : Int32)), (0, .ref po_a)]) hx hb dX2_allSyllables_1 rfl hl (by decide) rfl (fun ls hl => ?_)
  refine lv_iconst (v := 0) hx hb dX2_allSyllables_2 (by decide) ?_
  refine lv_istore_n (lv' := [(2, .int (0 : Int32)), (1, .int (0 : Int32)), (0, .ref po_a)]) hx hb dX2_allSyllables_3 rfl hl (by decide) rfl (fun ls hl => ?_)
  exact wX2_allSyllables_b4 C0 po_a poA_sizes poA_kinds poA_spelled poA_scheme po_foot po_feet po_lines po_words po_sizes po_kinds po_spelled po_scheme r kr  FU (0 : Int32) (0 : Int32) hM _ _ _ hP hD hS (lv_sub hl [2, 1, 0] rfl)
set_option maxHeartbeats 4000000 in
set_option maxRecDepth 100000 in
theorem kX2_allSyllables (l : Launch) (G : va_G) (K : Nat → ClassId) (tt : Nat → Nat) (L : List Nat) (la : Nat → Nat) (sa : Nat → Nat) (ln : Nat → Int32) (sy : Nat → Int32) (sn : Nat → Int32) (lt : Nat → Nat → Int32) (st : Nat → Nat → Int32) (po_a poA_sizes poA_kinds poA_spelled poA_scheme : Nat) (po_foot : Int32) (po_feet : Int32) (po_lines : Int32) (po_words : Int32) (po_sizes : Nat → Int32) (po_kinds : Nat → Int32) (po_spelled : Nat → Nat) (po_scheme : Nat → Int32)  (sz : Nat) (r : Int32)  (hM : mX2_allSyllables L sy po_words po_spelled = some r) : Met l yX2_allSyllables (mC yX2_allSyllables cX2_allSyllables 3 (some .int)) rmX2_allSyllables (va_Pc [.ref po_a] (PCe G K (EC G K tt L la sa ln sy sn lt st) (WX2_allSyllables K po_a poA_sizes poA_kinds poA_spelled poA_scheme po_foot po_feet po_lines po_words po_sizes po_kinds po_spelled po_scheme) sz)) (va_Qi (fun (x : Int32) (_ : Unit) => x = r) (fun _ t => va_P G vwCl (WX2_allSyllables K po_a poA_sizes poA_kinds poA_spelled poA_scheme po_foot po_feet po_lines po_words po_sizes po_kinds po_spelled po_scheme) t.heap) (va_A (WX2_allSyllables K po_a poA_sizes poA_kinds poA_spelled poA_scheme po_foot po_feet po_lines po_words po_sizes po_kinds po_spelled po_scheme) sz)) rmX2_allSyllables.cells rmX2_allSyllables.slots (va_A (WX2_allSyllables K po_a poA_sizes poA_kinds poA_spelled poA_scheme po_foot po_feet po_lines po_words po_sizes po_kinds po_spelled po_scheme) sz) := by
  refine Met.ofW (cc := cX2_allSyllables) (maxL := 3) (ret := (some .int)) (by decide) rfl ?_
  intro p e s m args below meth c s₁ B hml hv
  obtain ⟨rfl, hsz, hP, hK, hD0, hE⟩ := hv
  have hx := B.exec
  have hb := B.bytes
  have hr := B.returns
  have hts0 := atoms_spec (ws := mC yX2_allSyllables cX2_allSyllables 3 (some .int)) B.pre
  have hts : ∀ w ∈ tbG, w.before _ s = true := fun w h => hts0 w (List.mem_cons_of_mem _ h)
  have hown : s.vm.findClass RX2 = some m.cls := findClass_of_methodNamed B.named
  subst hsz
  have hD := hD0.self (sz := s.heap.size)
  generalize hAe : va_A (WX2_allSyllables K po_a poA_sizes poA_kinds poA_spelled poA_scheme po_foot po_feet po_lines po_words po_sizes po_kinds po_spelled po_scheme) s.heap.size = A at hD hE ⊢
  have hA : ∀ q : Nat, s.heap.size ≤ q → A q := fun q h => by rw [← hAe]; exact Or.inr h
  have hS : va_S A s.heap s.heap [] := va_S.rf
  have hl := lv_entry ([.ref po_a]) (n := 3) (Nat.le_of_ble_eq_true rfl)
  rw [lg_entry_eq]
  generalize (lg_sl ([.ref po_a]) ++ List.replicate (3 - (lg_sl ([.ref po_a])).length) Slot.unset).toArray = ls at hl ⊢
  have hl : lv_has ls 3 [(0, .ref po_a)] := hl
  exact wX2_allSyllables_b0 ⟨hx, hb, hml, hown, hts, hK, hA, EC_ok _ _ _ _ _ _ _ _ _ _ _, hE⟩ po_a poA_sizes poA_kinds poA_spelled poA_scheme po_foot po_feet po_lines po_words po_sizes po_kinds po_spelled po_scheme r (fun H locs ls pc hdg hP hD hS => W.iret (v := r) hx hb hr (fun t ht hW => ⟨⟨r, (), rfl, rfl, (show va_P G vwCl _ t.heap by rw [ht]; exact hP)⟩, hS.F ht⟩) hS.2.2 hdg)   hM _ _ _ hP hD hS hl
