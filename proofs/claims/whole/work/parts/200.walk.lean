def rmX6_isRow : Room := { frames := 0, cells := 0, slots := 0, locals := 0 }
theorem hdX6_isRow : yX6_isRow.cls ≠ "java/lang/invoke/MethodHandle" ∧ yX6_isRow.cls ≠ "java/lang/invoke/VarHandle" ∧ (parseMethodDescriptor yX6_isRow.desc).map (fun d => d.parameters.length) = some 1 := by decide +kernel
set_option maxHeartbeats 4000000 in
set_option maxRecDepth 100000 in
theorem wX6_isRow_b0 {p : Program} {l : Launch} {e : Env} {s : State} {m : MethodId} {args : Array Value} {below : List Frame} {meth : Method} {c : Code} {Q : State → Prop} {G : va_G} {K : Nat → ClassId} {A : Nat → Prop} {tt : Nat → Nat} {L : List Nat} {la : Nat → Nat} {sa : Nat → Nat} {ln : Nat → Int32} {sy : Nat → Int32} {sn : Nat → Int32} {lt : Nat → Nat → Int32} {st : Nat → Nat → Int32} (C0 : CX p s m args c cX6_isRow 1 RX6 G K (EC G K tt L la sa ln sy sn lt st) A)  (p1 : Int32) (r : Int32)  (kr : ∀ (H : Heap) (locs : List Loc) (ls : Array Slot) (pc : Nat), decode cX6_isRow pc = .ok (.ireturn, 1) → (r = 0 ∨ r = 1) → va_P G vwCl [] H → va_D A [] → va_S A s.heap H locs → W p l e rmX6_isRow s m args below meth c H locs 0 0 Q (F0 m pc ls [.int r]))  (hM : mX6_isRow_b0 p1   = some r) : ∀ (H : Heap) (locs : List Loc) (ls : Array Slot), va_P G vwCl [] H → va_D A [] → va_S A s.heap H locs → lv_has ls 1 [(0, .int p1)] → W p l e rmX6_isRow s m args below meth c H locs 0 0 Q (F0 m 0 ls []) := by
  obtain ⟨hx, hb, hml, hown, hts, hK, hA, hEo, hE⟩ := id C0
  intro H locs ls hP hD hS hl
  unfold mX6_isRow_b0 at hM
  refine lv_iload_n hx hb dX6_isRow_0 rfl (lv_at hl 0 rfl) ?_
  refine lv_if_lt (tgt := 14) hx hb dX6_isRow_1 (by decide) (fun c_1 => ?_) (fun c_1 => ?_)
  · rw [if_pos c_1] at hM
    refine lv_iconst (v := 0) hx hb dX6_isRow_14 (by decide) ?_
    have q1 := Option.some.inj hM
    subst q1
    exact kr _ _ _ _ dX6_isRow_15 (by decide) hP hD hS
  · rw [if_neg c_1] at hM
    refine lv_iload_n hx hb dX6_isRow_4 rfl (lv_at hl 0 rfl) ?_
    refine lv_bipush (v := 8) hx hb dX6_isRow_5 (by decide) ?_
    refine lv_icmp_ge (tgt := 14) hx hb dX6_isRow_7 (by decide) (fun c_2 => ?_) (fun c_2 => ?_)
    · rw [if_pos c_2] at hM
      refine lv_iconst (v := 0) hx hb dX6_isRow_14 (by decide) ?_
      have q1 := Option.some.inj hM
      subst q1
      exact kr _ _ _ _ dX6_isRow_15 (by decide) hP hD hS
    · rw [if_neg c_2] at hM
      refine lv_iconst (v := 1) hx hb dX6_isRow_10 (by decide) ?_
      refine lv_goto (tgt := 15) hx hb dX6_isRow_11 (by decide) ?_
      have q1 := Option.some.inj hM
      subst q1
      exact kr _ _ _ _ dX6_isRow_15 (by decide) hP hD hS
set_option maxHeartbeats 4000000 in
set_option maxRecDepth 100000 in
theorem kX6_isRow (l : Launch) (G : va_G) (K : Nat → ClassId) (tt : Nat → Nat) (L : List Nat) (la : Nat → Nat) (sa : Nat → Nat) (ln : Nat → Int32) (sy : Nat → Int32) (sn : Nat → Int32) (lt : Nat → Nat → Int32) (st : Nat → Nat → Int32)  (p1 : Int32) (sz : Nat) (r : Int32)  (hM : mX6_isRow p1 = some r) : Met l yX6_isRow (mC yX6_isRow cX6_isRow 1 (some .boolean)) rmX6_isRow (va_Pc [.int p1] (PCe G K (EC G K tt L la sa ln sy sn lt st) [] sz)) (va_Qi (fun (x : Int32) (_ : Unit) => x = r) (fun _ t => va_P G vwCl [] t.heap) (va_A [] sz)) rmX6_isRow.cells rmX6_isRow.slots (va_A [] sz) := by
  refine Met.ofW (cc := cX6_isRow) (maxL := 1) (ret := (some .boolean)) (by decide) rfl ?_
  intro p e s m args below meth c s₁ B hml hv
  obtain ⟨rfl, hsz, hP, hK, hD0, hE⟩ := hv
  have hx := B.exec
  have hb := B.bytes
  have hr := B.returns
  have hts0 := atoms_spec (ws := mC yX6_isRow cX6_isRow 1 (some .boolean)) B.pre
  have hts : ∀ w ∈ tbG, w.before _ s = true := fun w h => hts0 w (List.mem_cons_of_mem _ h)
  have hown : s.vm.findClass RX6 = some m.cls := findClass_of_methodNamed B.named
  subst hsz
  have hD := hD0.self (sz := s.heap.size)
  generalize hAe : va_A [] s.heap.size = A at hD hE ⊢
  have hA : ∀ q : Nat, s.heap.size ≤ q → A q := fun q h => by rw [← hAe]; exact Or.inr h
  have hS : va_S A s.heap s.heap [] := va_S.rf
  have hl := lv_entry ([.int p1]) (n := 1) (Nat.le_of_ble_eq_true rfl)
  rw [lg_entry_eq]
  generalize (lg_sl ([.int p1]) ++ List.replicate (1 - (lg_sl ([.int p1])).length) Slot.unset).toArray = ls at hl ⊢
  have hl : lv_has ls 1 [(0, .int p1)] := hl
  exact wX6_isRow_b0 ⟨hx, hb, hml, hown, hts, hK, hA, EC_ok _ _ _ _ _ _ _ _ _ _ _, hE⟩ p1 r (fun H locs ls pc hdg hz hP hD hS => W.zret (v := r) (ty := .boolean) hx hb hr (nar_b hz) (fun t ht hW => ⟨⟨r, (), rfl, rfl, (show va_P G vwCl _ t.heap by rw [ht]; exact hP)⟩, hS.F ht⟩) hS.2.2 hdg)   hM _ _ _ hP hD hS hl
abbrev WX6_found (K : Nat → ClassId) (x_a xA_rows rd_a v_a d_a xA_images ac_a er_a xA_hits xA_bodies : Nat) (x_begun : Int32) (x_latestFault : Int32) (x_latestFinding : Int32) : va_W := [(x_a, .inr (6, [.ref xA_rows, .ref rd_a, .ref v_a, .ref d_a, .ref xA_images, .ref ac_a, .ref er_a, .ref xA_hits, .ref xA_bodies, .int x_begun, .int x_latestFault, .int x_latestFinding]))]
def rmX6_found : Room := { frames := 0, cells := 0, slots := 0, locals := 0 }
theorem hdX6_found : yX6_found.cls = RX6 ∧ yX6_found.cls ≠ "java/lang/invoke/MethodHandle" ∧ yX6_found.cls ≠ "java/lang/invoke/VarHandle" ∧ (parseMethodDescriptor yX6_found.desc).map (fun d => d.parameters.length) = some 1 := by decide +kernel
set_option maxHeartbeats 4000000 in
set_option maxRecDepth 100000 in
theorem wX6_found_b0 {p : Program} {l : Launch} {e : Env} {s : State} {m : MethodId} {args : Array Value} {below : List Frame} {meth : Method} {c : Code} {Q : State → Prop} {G : va_G} {K : Nat → ClassId} {A : Nat → Prop} {tt : Nat → Nat} {L : List Nat} {la : Nat → Nat} {sa : Nat → Nat} {ln : Nat → Int32} {sy : Nat → Int32} {sn : Nat → Int32} {lt : Nat → Nat → Int32} {st : Nat → Nat → Int32} (C0 : CX p s m args c cX6_found 2 RX6 G K (EC G K tt L la sa ln sy sn lt st) A) (x_a xA_rows rd_a v_a d_a xA_images ac_a er_a xA_hits xA_bodies : Nat) (x_begun : Int32) (x_latestFault : Int32) (p1 : Int32) (r : Int32) (o_x_latestFinding : Int32) (kr : ∀ (H : Heap) (locs : List Loc) (ls : Array Slot) (pc : Nat), decode cX6_found pc = .ok (.ireturn, 1) → va_P G vwCl (WX6_found K x_a xA_rows rd_a v_a d_a xA_images ac_a er_a xA_hits xA_bodies x_begun x_latestFault o_x_latestFinding) H → va_D A (WX6_found K x_a xA_rows rd_a v_a d_a xA_images ac_a er_a xA_hits xA_bodies x_begun x_latestFault o_x_latestFinding) → va_S A s.heap H locs → W p l e rmX6_found s m args below meth c H locs 0 0 Q (F0 m pc ls [.int r])) (x_latestFinding : Int32) (hM : mX6_found_b0 p1  x_latestFinding = some (r, o_x_latestFinding)) : ∀ (H : Heap) (locs : List Loc) (ls : Array Slot), va_P G vwCl (WX6_found K x_a xA_rows rd_a v_a d_a xA_images ac_a er_a xA_hits xA_bodies x_begun x_latestFault x_latestFinding) H → va_D A (WX6_found K x_a xA_rows rd_a v_a d_a xA_images ac_a er_a xA_hits xA_bodies x_begun x_latestFault x_latestFinding) → va_S A s.heap H locs → lv_has ls 2 [(0, .ref x_a), (1, .int p1)] → W p l e rmX6_found s m args below meth c H locs 0 0 Q (F0 m 0 ls []) := by
  obtain ⟨hx, hb, hml, hown, hts, hK, hA, hEo, hE⟩ := id C0
  intro H locs ls hP hD hS hl
  unfold mX6_found_b0 at hM
  refine lv_aload_n hx hb dX6_found_0 rfl (lv_at hl 0 rfl) ?_
  refine lv_iload_n hx hb dX6_found_1 rfl (lv_at hl 1 rfl) ?_
  refine va_put (D := G) (ci := 6) (v := .int p1) (ty := .int) (C := RX6) (T := TX6) (N := 12) hx hb hts inX6 tyX6 tyX6_ok nmX6 hown hK hP hD hS 0 rfl rfl 11 (by decide) (hts _ tb256) (fun _ h9 => h9) rfl (tyX6_ok 11 (by decide)) rfl rfl (Nat.le_of_ble_eq_true rfl) dX6_found_2 (fun H locs hP hD hS => ?_)
  have hP : va_P G vwCl (WX6_found K x_a xA_rows rd_a v_a d_a xA_images ac_a er_a xA_hits xA_bodies x_begun x_latestFault p1) H := hP
  have hD : va_D A (WX6_found K x_a xA_rows rd_a v_a d_a xA_images ac_a er_a xA_hits xA_bodies x_begun x_latestFault p1) := hD
  refine lv_ldcw (v := -1000010) hx hb hown (hts _ tb294) dX6_found_5 ?_
  refine lv_iload_n hx hb dX6_found_8 rfl (lv_at hl 1 rfl) ?_
  refine lv_isub hx hb dX6_found_9 ?_
  have t0 := Option.some.inj hM
  obtain ⟨q1, t1⟩ := Prod.mk.inj t0
  subst q1
  subst t1
  exact kr _ _ _ _ dX6_found_10 hP hD hS
set_option maxHeartbeats 4000000 in
set_option maxRecDepth 100000 in
theorem kX6_found (l : Launch) (G : va_G) (K : Nat → ClassId) (tt : Nat → Nat) (L : List Nat) (la : Nat → Nat) (sa : Nat → Nat) (ln : Nat → Int32) (sy : Nat → Int32) (sn : Nat → Int32) (lt : Nat → Nat → Int32) (st : Nat → Nat → Int32) (x_a xA_rows rd_a v_a d_a xA_images ac_a er_a xA_hits xA_bodies : Nat) (x_begun : Int32) (x_latestFault : Int32) (x_latestFinding : Int32) (p1 : Int32) (sz : Nat) (r : Int32) (o_x_latestFinding : Int32) (hM : mX6_found x_latestFinding p1 = some (r, o_x_latestFinding)) : Met l yX6_found (mC yX6_found cX6_found 2 (some .int)) rmX6_found (va_Pc [.ref x_a, .int p1] (PCe G K (EC G K tt L la sa ln sy sn lt st) (WX6_found K x_a xA_rows rd_a v_a d_a xA_images ac_a er_a xA_hits xA_bodies x_begun x_latestFault x_latestFinding) sz)) (va_Qi (fun (x : Int32) (_ : Unit) => x = r) (fun _ t => va_P G vwCl (WX6_found K x_a xA_rows rd_a v_a d_a xA_images ac_a er_a xA_hits xA_bodies x_begun x_latestFault o_x_latestFinding) t.heap) (va_A (WX6_found K x_a xA_rows rd_a v_a d_a xA_images ac_a er_a xA_hits xA_bodies x_begun x_latestFault x_latestFinding) sz)) rmX6_found.cells rmX6_found.slots (va_A (WX6_found K x_a xA_rows rd_a v_a d_a xA_images ac_a er_a xA_hits xA_bodies x_begun x_latestFault x_latestFinding) sz) := by
  refine Met.ofW (cc := cX6_found) (maxL := 2) (ret := (some .int)) (by decide) rfl ?_
  intro p e s m args below meth c s₁ B hml hv
  obtain ⟨rfl, hsz, hP, hK, hD0, hE⟩ := hv
  have hx := B.exec
  have hb := B.bytes
  have hr := B.returns
  have hts0 := atoms_spec (ws := mC yX6_found cX6_found 2 (some .int)) B.pre
  have hts : ∀ w ∈ tbG, w.before _ s = true := fun w h => hts0 w (List.mem_cons_of_mem _ h)
  have hown : s.vm.findClass RX6 = some m.cls := findClass_of_methodNamed B.named
  subst hsz
  have hD := hD0.self (sz := s.heap.size)
  generalize hAe : va_A (WX6_found K x_a xA_rows rd_a v_a d_a xA_images ac_a er_a xA_hits xA_bodies x_begun x_latestFault x_latestFinding) s.heap.size = A at hD hE ⊢
  have hA : ∀ q : Nat, s.heap.size ≤ q → A q := fun q h => by rw [← hAe]; exact Or.inr h
  have hS : va_S A s.heap s.heap [] := va_S.rf
  have hl := lv_entry ([.ref x_a, .int p1]) (n := 2) (Nat.le_of_ble_eq_true rfl)
  rw [lg_entry_eq]
  generalize (lg_sl ([.ref x_a, .int p1]) ++ List.replicate (2 - (lg_sl ([.ref x_a, .int p1])).length) Slot.unset).toArray = ls at hl ⊢
  have hl : lv_has ls 2 [(0, .ref x_a), (1, .int p1)] := hl
  exact wX6_found_b0 ⟨hx, hb, hml, hown, hts, hK, hA, EC_ok _ _ _ _ _ _ _ _ _ _ _, hE⟩ x_a xA_rows rd_a v_a d_a xA_images ac_a er_a xA_hits xA_bodies x_begun x_latestFault p1 r o_x_latestFinding (fun H locs ls pc hdg hP hD hS => W.iret (v := r) hx hb hr (fun t ht hW => ⟨⟨r, (), rfl, rfl, (show va_P G vwCl _ t.heap by rw [ht]; exact hP)⟩, hS.F ht⟩) hS.2.2 hdg) x_latestFinding  hM _ _ _ hP hD hS hl
abbrev WX4_begin (K : Nat → ClassId) (rw_a rwA_items : Nat) (rw_lane : Int32) (rw_size : Int32) (rw_items : Nat → Int32) : va_W := [(rw_a, .inr (4, [.ref rwA_items, .int rw_lane, .int rw_size])), aI K rwA_items 40 rw_items]
def rmX4_begin : Room := { frames := 0, cells := 0, slots := 0, locals := 0 }
theorem hdX4_begin : yX4_begin.cls = RX4 ∧ yX4_begin.cls ≠ "java/lang/invoke/MethodHandle" ∧ yX4_begin.cls ≠ "java/lang/invoke/VarHandle" ∧ (parseMethodDescriptor yX4_begin.desc).map (fun d => d.parameters.length) = some 2 := by decide +kernel
set_option maxHeartbeats 4000000 in
set_option maxRecDepth 100000 in
theorem wX4_begin_b12 {p : Program} {l : Launch} {e : Env} {s : State} {m : MethodId} {args : Array Value} {below : List Frame} {meth : Method} {c : Code} {Q : State → Prop} {G : va_G} {K : Nat → ClassId} {A : Nat → Prop} {tt : Nat → Nat} {L : List Nat} {la : Nat → Nat} {sa : Nat → Nat} {ln : Nat → Int32} {sy : Nat → Int32} {sn : Nat → Int32} {lt : Nat → Nat → Int32} {st : Nat → Nat → Int32} (C0 : CX p s m args c cX4_begin 4 RX4 G K (EC G K tt L la sa ln sy sn lt st) A) (rw_a rwA_items : Nat)  (p1 : Int32) (p2 : Int32) (o_rw_lane : Int32) (o_rw_size : Int32) (o_rw_items : Nat → Int32) (kr : ∀ (H : Heap) (locs : List Loc) (ls : Array Slot) (pc : Nat), decode cX4_begin pc = .ok (.return_, 1) → va_P G vwCl (WX4_begin K rw_a rwA_items o_rw_lane o_rw_size o_rw_items) H → va_D A (WX4_begin K rw_a rwA_items o_rw_lane o_rw_size o_rw_items) → va_S A s.heap H locs → W p l e rmX4_begin s m args below meth c H locs 0 0 Q (F0 m pc ls [])) (n : Nat) : ∀ (rw_lane : Int32) (rw_size : Int32) (rw_items : Nat → Int32) (x3 : Int32), mX4_begin_b12 p1 p2  n rw_lane rw_size rw_items x3 = some (o_rw_lane, o_rw_size, o_rw_items) → ∀ (H : Heap) (locs : List Loc) (ls : Array Slot), va_P G vwCl (WX4_begin K rw_a rwA_items rw_lane rw_size rw_items) H → va_D A (WX4_begin K rw_a rwA_items rw_lane rw_size rw_items) → va_S A s.heap H locs → lv_has ls 4 [(0, .ref rw_a), (3, .int x3)] → W p l e rmX4_begin s m args below meth c H locs 0 0 Q (F0 m 12 ls []) := by
  obtain ⟨hx, hb, hml, hown, hts, hK, hA, hEo, hE⟩ := id C0
  induction n with
  | zero =>
    intro rw_lane rw_size rw_items x3 hM
    cases hM
  | succ n ih =>
    intro rw_lane rw_size rw_items x3 hM H locs ls hP hD hS hl
    rw [mX4_begin_b12] at hM
    refine lv_iload_n hx hb dX4_begin_12 rfl (lv_at hl 1 rfl) ?_
    refine lv_bipush (v := 40) hx hb dX4_begin_13 (by decide) ?_
    refine lv_icmp_ge (tgt := 31) hx hb dX4_begin_15 (by decide) (fun c_1 => ?_) (fun c_1 => ?_)
    · rw [if_pos c_1] at hM
      have t0 := Option.some.inj hM
      obtain ⟨q1, t1⟩ := Prod.mk.inj t0
      obtain ⟨q2, t2⟩ := Prod.mk.inj t1
      subst q1
      subst q2
      subst t2
      exact kr _ _ _ _ dX4_begin_31 hP hD hS
    · rw [if_neg c_1] at hM
      refine lv_aload_n hx hb dX4_begin_18 rfl (lv_at hl 0 rfl) ?_
      refine va_get (D := G) (ci := 4) (v := .ref rwA_items) (C := RX4) (T := TX4) (N := 3) hx hb hts inX4 hown hK hP 0 rfl rfl 0 (by decide) (hts _ tb153) (fun _ h9 => h9) rfl dX4_begin_19 ?_
      refine lv_iload_n hx hb dX4_begin_22 rfl (lv_at hl 1 rfl) ?_
      refine lv_iconst (v := 0) hx hb dX4_begin_23 (by decide) ?_
      obtain ⟨g_2, hM⟩ := ng hM
      refine va_iast hx hb hK hP hD hS 1 0 rfl rfl g_2 dX4_begin_24 (fun H locs hP hD hS => ?_)
      have hP : va_P G vwCl (WX4_begin K rw_a rwA_items rw_lane rw_size (upd rw_items x3.toNatClampNeg (0 : Int32))) H := hP
      have hD : va_D A (WX4_begin K rw_a rwA_items rw_lane rw_size (upd rw_items x3.toNatClampNeg (0 : Int32))) := hD
      refine lv_iinc (v := (x3 + 1)) (lv' := [(3, .int (x3 + 1)), (0, .ref rw_a)]) hx hb dX4_begin_25 hl (k := 1) rfl rfl (by decide) rfl (fun ls hl => ?_)
      refine lv_goto (tgt := 12) hx hb dX4_begin_28 (by decide) ?_
      exact ih rw_lane rw_size (upd rw_items x3.toNatClampNeg (0 : Int32)) (x3 + 1) hM _ _ _ hP hD hS (lv_sub hl [1, 0] rfl)
set_option maxHeartbeats 4000000 in
set_option maxRecDepth 100000 in
theorem wX4_begin_b0 {p : Program} {l : Launch} {e : Env} {s : State} {m : MethodId} {args : Array Value} {below : List Frame} {meth : Method} {c : Code} {Q : State → Prop} {G : va_G} {K : Nat → ClassId} {A : Nat → Prop} {tt : Nat → Nat} {L : List Nat} {la : Nat → Nat} {sa : Nat → Nat} {ln : Nat → Int32} {sy : Nat → Int32} {sn : Nat → Int32} {lt : Nat → Nat → Int32} {st : Nat → Nat → Int32} (C0 : CX p s m args c cX4_begin 4 RX4 G K (EC G K tt L la sa ln sy sn lt st) A) (rw_a rwA_items : Nat)  (p1 : Int32) (p2 : Int32) (o_rw_lane : Int32) (o_rw_size : Int32) (o_rw_items : Nat → Int32) (kr : ∀ (H : Heap) (locs : List Loc) (ls : Array Slot) (pc : Nat), decode cX4_begin pc = .ok (.return_, 1) → va_P G vwCl (WX4_begin K rw_a rwA_items o_rw_lane o_rw_size o_rw_items) H → va_D A (WX4_begin K rw_a rwA_items o_rw_lane o_rw_size o_rw_items) → va_S A s.heap H locs → W p l e rmX4_begin s m args below meth c H locs 0 0 Q (F0 m pc ls [])) (rw_lane : Int32) (rw_size : Int32) (rw_items : Nat → Int32) (hM : mX4_begin_b0 p1 p2  rw_lane rw_size rw_items = some (o_rw_lane, o_rw_size, o_rw_items)) : ∀ (H : Heap) (locs : List Loc) (ls : Array Slot), va_P G vwCl (WX4_begin K rw_a rwA_items rw_lane rw_size rw_items) H → va_D A (WX4_begin K rw_a rwA_items rw_lane rw_size rw_items) → va_S A s.heap H locs → lv_has ls 4 [(0, .ref rw_a), (1, .int p1), (2, .int p2)] → W p l e rmX4_begin s m args below meth c H locs 0 0 Q (F0 m 0 ls []) := by
  obtain ⟨hx, hb, hml, hown, hts, hK, hA, hEo, hE⟩ := id C0
  intro H locs ls hP hD hS hl
  unfold mX4_begin_b0 at hM
  refine lv_aload_n hx hb dX4_begin_0 rfl (lv_at hl 0 rfl) ?_
  refine lv_iload_n hx hb dX4_begin_1 rfl (lv_at hl 1 rfl) ?_
  refine va_put (D := G) (ci := 4) (v := .int p1) (ty := .int) (C := RX4) (T := TX4) (N := 3) hx hb hts inX4 tyX4 tyX4_ok nmX4 hown hK hP hD hS 0 rfl rfl 1 (by decide) (hts _ tb155) (fun _ h9 => h9) rfl (tyX4_ok 1 (by decide)) rfl rfl (Nat.le_of_ble_eq_true rfl) dX4_begin_2 (fun H locs hP hD hS => ?_)
  have hP : va_P G vwCl (WX4_begin K rw_a rwA_items p1 rw_size rw_items) H := hP
  have hD : va_D A (WX4_begin K rw_a rwA_items p1 rw_size rw_items) := hD
  refine lv_aload_n hx hb dX4_begin_5 rfl (lv_at hl 0 rfl) ?_
  refine lv_iload_n hx hb dX4_begin_6 rfl (lv_at hl 2 rfl) ?_
  refine va_put (D := G) (ci := 4) (v := .int p2) (ty := .int) (C := RX4) (T := TX4) (N := 3) hx hb hts inX4 tyX4 tyX4_ok nmX4 hown hK hP hD hS 0 rfl rfl 2 (by decide) (hts _ tb157) (fun _ h9 => h9) rfl (tyX4_ok 2 (by decide)) rfl rfl (Nat.le_of_ble_eq_true rfl) dX4_begin_7 (fun H locs hP hD hS => ?_)
  have hP : va_P G vwCl (WX4_begin K rw_a rwA_items p1 p2 rw_items) H := hP
  have hD : va_D A (WX4_begin K rw_a rwA_items p1 p2 rw_items) := hD
  refine lv_iconst (v := 0) hx hb dX4_begin_10 (by decide) ?_
  refine lv_istore_n (lv' := [(3, .int (0 : Int32)), (0, .ref rw_a), (1, .int p1), (2, .int p2)]) hx hb dX4_begin_11 rfl hl (by decide) rfl (fun ls hl => ?_)
  exact wX4_begin_b12 C0 rw_a rwA_items p1 p2 o_rw_lane o_rw_size o_rw_items kr  FU p1 p2 rw_items (0 : Int32) hM _ _ _ hP hD hS (lv_sub hl [1, 0] rfl)
set_option maxHeartbeats 4000000 in
set_option maxRecDepth 100000 in
theorem kX4_begin (l : Launch) (G : va_G) (K : Nat → ClassId) (tt : Nat → Nat) (L : List Nat) (la : Nat → Nat) (sa : Nat → Nat) (ln : Nat → Int32) (sy : Nat → Int32) (sn : Nat → Int32) (lt : Nat → Nat → Int32) (st : Nat → Nat → Int32) (rw_a rwA_items : Nat) (rw_lane : Int32) (rw_size : Int32) (rw_items : Nat → Int32) (p1 : Int32) (p2 : Int32) (sz : Nat) (o_rw_lane : Int32) (o_rw_size : Int32) (o_rw_items : Nat → Int32) (hM : mX4_begin rw_lane rw_size rw_items p1 p2 = some (o_rw_lane, o_rw_size, o_rw_items)) : Met l yX4_begin (mC yX4_begin cX4_begin 4 none) rmX4_begin (va_Pc [.ref rw_a, .int p1, .int p2] (PCe G K (EC G K tt L la sa ln sy sn lt st) (WX4_begin K rw_a rwA_items rw_lane rw_size rw_items) sz)) (va_Qv (fun (_ : Unit) => True) (fun _ t => va_P G vwCl (WX4_begin K rw_a rwA_items o_rw_lane o_rw_size o_rw_items) t.heap) (va_A (WX4_begin K rw_a rwA_items rw_lane rw_size rw_items) sz)) rmX4_begin.cells rmX4_begin.slots (va_A (WX4_begin K rw_a rwA_items rw_lane rw_size rw_items) sz) := by
  refine Met.ofW (cc := cX4_begin) (maxL := 4) (ret := none) (by decide) rfl ?_
  intro p e s m args below meth c s₁ B hml hv
  obtain ⟨rfl, hsz, hP, hK, hD0, hE⟩ := hv
  have hx := B.exec
  have hb := B.bytes
  have hr := B.returns
  have hts0 := atoms_spec (ws := mC yX4_begin cX4_begin 4 none) B.pre
  have hts : ∀ w ∈ tbG, w.before _ s = true := fun w h => hts0 w (List.mem_cons_of_mem _ h)
  have hown : s.vm.findClass RX4 = some m.cls := findClass_of_methodNamed B.named
  subst hsz
  have hD := hD0.self (sz := s.heap.size)
  generalize hAe : va_A (WX4_begin K rw_a rwA_items rw_lane rw_size rw_items) s.heap.size = A at hD hE ⊢
  have hA : ∀ q : Nat, s.heap.size ≤ q → A q := fun q h => by rw [← hAe]; exact Or.inr h
  have hS : va_S A s.heap s.heap [] := va_S.rf
  have hl := lv_entry ([.ref rw_a, .int p1, .int p2]) (n := 4) (Nat.le_of_ble_eq_true rfl)
  rw [lg_entry_eq]
  generalize (lg_sl ([.ref rw_a, .int p1, .int p2]) ++ List.replicate (4 - (lg_sl ([.ref rw_a, .int p1, .int p2])).length) Slot.unset).toArray = ls at hl ⊢
  have hl : lv_has ls 4 [(0, .ref rw_a), (1, .int p1), (2, .int p2)] := hl
  exact wX4_begin_b0 ⟨hx, hb, hml, hown, hts, hK, hA, EC_ok _ _ _ _ _ _ _ _ _ _ _, hE⟩ rw_a rwA_items p1 p2 o_rw_lane o_rw_size o_rw_items (fun H locs ls pc hdg hP hD hS => W.vret hx hb hr (fun t ht hW => ⟨⟨(), rfl, trivial, (show va_P G vwCl _ t.heap by rw [ht]; exact hP)⟩, hS.F ht⟩) hS.2.2 hdg) rw_lane rw_size rw_items  hM _ _ _ hP hD hS hl
abbrev WX4_isMissing (K : Nat → ClassId) (rw_a rwA_items : Nat) (rw_lane : Int32) (rw_size : Int32) (rw_items : Nat → Int32) : va_W := [(rw_a, .inr (4, [.ref rwA_items, .int rw_lane, .int rw_size])), aI K rwA_items 40 rw_items]
def rmX4_isMissing : Room := { frames := 0, cells := 0, slots := 0, locals := 0 }
theorem hdX4_isMissing : yX4_isMissing.cls = RX4 ∧ yX4_isMissing.cls ≠ "java/lang/invoke/MethodHandle" ∧ yX4_isMissing.cls ≠ "java/lang/invoke/VarHandle" ∧ (parseMethodDescriptor yX4_isMissing.desc).map (fun d => d.parameters.length) = some 0 := by decide +kernel
set_option maxHeartbeats 4000000 in
set_option maxRecDepth 100000 in
theorem wX4_isMissing_b0 {p : Program} {l : Launch} {e : Env} {s : State} {m : MethodId} {args : Array Value} {below : List Frame} {meth : Method} {c : Code} {Q : State → Prop} {G : va_G} {K : Nat → ClassId} {A : Nat → Prop} {tt : Nat → Nat} {L : List Nat} {la : Nat → Nat} {sa : Nat → Nat} {ln : Nat → Int32} {sy : Nat → Int32} {sn : Nat → Int32} {lt : Nat → Nat → Int32} {st : Nat → Nat → Int32} (C0 : CX p s m args c cX4_isMissing 1 RX4 G K (EC G K tt L la sa ln sy sn lt st) A) (rw_a rwA_items : Nat) (rw_lane : Int32) (rw_size : Int32) (rw_items : Nat → Int32)  (r : Int32)  (kr : ∀ (H : Heap) (locs : List Loc) (ls : Array Slot) (pc : Nat), decode cX4_isMissing pc = .ok (.ireturn, 1) → (r = 0 ∨ r = 1) → va_P G vwCl (WX4_isMissing K rw_a rwA_items rw_lane rw_size rw_items) H → va_D A (WX4_isMissing K rw_a rwA_items rw_lane rw_size rw_items) → va_S A s.heap H locs → W p l e rmX4_isMissing s m args below meth c H locs 0 0 Q (F0 m pc ls [.int r]))  (hM : mX4_isMissing_b0 rw_lane   = some r) : ∀ (H : Heap) (locs : List Loc) (ls : Array Slot), va_P G vwCl (WX4_isMissing K rw_a rwA_items rw_lane rw_size rw_items) H → va_D A (WX4_isMissing K rw_a rwA_items rw_lane rw_size rw_items) → va_S A s.heap H locs → lv_has ls 1 [(0, .ref rw_a)] → W p l e rmX4_isMissing s m args below meth c H locs 0 0 Q (F0 m 0 ls []) := by
  obtain ⟨hx, hb, hml, hown, hts, hK, hA, hEo, hE⟩ := id C0
  intro H locs ls hP hD hS hl
  unfold mX4_isMissing_b0 at hM
  refine lv_aload_n hx hb dX4_isMissing_0 rfl (lv_at hl 0 rfl) ?_
  refine va_get (D := G) (ci := 4) (v := .int rw_lane) (C := RX4) (T := TX4) (N := 3) hx hb hts inX4 hown hK hP 0 rfl rfl 1 (by decide) (hts _ tb155) (fun _ h9 => h9) rfl dX4_isMissing_1 ?_
  refine lv_iconst (v := (-1)) hx hb dX4_isMissing_4 (by decide) ?_
  refine lv_icmp_ne (tgt := 12) hx hb dX4_isMissing_5 (by decide) (fun c_1 => ?_) (fun c_1 => ?_)
  · rw [if_neg c_1] at hM
    refine lv_iconst (v := 0) hx hb dX4_isMissing_12 (by decide) ?_
    have q1 := Option.some.inj hM
    subst q1
    exact kr _ _ _ _ dX4_isMissing_13 (by decide) hP hD hS
  · rw [if_pos c_1] at hM
    refine lv_iconst (v := 1) hx hb dX4_isMissing_8 (by decide) ?_
    refine lv_goto (tgt := 13) hx hb dX4_isMissing_9 (by decide) ?_
    have q1 := Option.some.inj hM
    subst q1
    exact kr _ _ _ _ dX4_isMissing_13 (by decide) hP hD hS
set_option maxHeartbeats 4000000 in
set_option maxRecDepth 100000 in
theorem kX4_isMissing (l : Launch) (G : va_G) (K : Nat → ClassId) (tt : Nat → Nat) (L : List Nat) (la : Nat → Nat) (sa : Nat → Nat) (ln : Nat → Int32) (sy : Nat → Int32) (sn : Nat → Int32) (lt : Nat → Nat → Int32) (st : Nat → Nat → Int32) (rw_a rwA_items : Nat) (rw_lane : Int32) (rw_size : Int32) (rw_items : Nat → Int32)  (sz : Nat) (r : Int32)  (hM : mX4_isMissing rw_lane = some r) : Met l yX4_isMissing (mC yX4_isMissing cX4_isMissing 1 (some .boolean)) rmX4_isMissing (va_Pc [.ref rw_a] (PCe G K (EC G K tt L la sa ln sy sn lt st) (WX4_isMissing K rw_a rwA_items rw_lane rw_size rw_items) sz)) (va_Qi (fun (x : Int32) (_ : Unit) => x = r) (fun _ t => va_P G vwCl (WX4_isMissing K rw_a rwA_items rw_lane rw_size rw_items) t.heap) (va_A (WX4_isMissing K rw_a rwA_items rw_lane rw_size rw_items) sz)) rmX4_isMissing.cells rmX4_isMissing.slots (va_A (WX4_isMissing K rw_a rwA_items rw_lane rw_size rw_items) sz) := by
  refine Met.ofW (cc := cX4_isMissing) (maxL := 1) (ret := (some .boolean)) (by decide) rfl ?_
  intro p e s m args below meth c s₁ B hml hv
  obtain ⟨rfl, hsz, hP, hK, hD0, hE⟩ := hv
  have hx := B.exec
  have hb := B.bytes
  have hr := B.returns
  have hts0 := atoms_spec (ws := mC yX4_isMissing cX4_isMissing 1 (some .boolean)) B.pre
  have hts : ∀ w ∈ tbG, w.before _ s = true := fun w h => hts0 w (List.mem_cons_of_mem _ h)
  have hown : s.vm.findClass RX4 = some m.cls := findClass_of_methodNamed B.named
  subst hsz
  have hD := hD0.self (sz := s.heap.size)
  generalize hAe : va_A (WX4_isMissing K rw_a rwA_items rw_lane rw_size rw_items) s.heap.size = A at hD hE ⊢
  have hA : ∀ q : Nat, s.heap.size ≤ q → A q := fun q h => by rw [← hAe]; exact Or.inr h
  have hS : va_S A s.heap s.heap [] := va_S.rf
  have hl := lv_entry ([.ref rw_a]) (n := 1) (Nat.le_of_ble_eq_true rfl)
  rw [lg_entry_eq]
  generalize (lg_sl ([.ref rw_a]) ++ List.replicate (1 - (lg_sl ([.ref rw_a])).length) Slot.unset).toArray = ls at hl ⊢
  have hl : lv_has ls 1 [(0, .ref rw_a)] := hl
  exact wX4_isMissing_b0 ⟨hx, hb, hml, hown, hts, hK, hA, EC_ok _ _ _ _ _ _ _ _ _ _ _, hE⟩ rw_a rwA_items rw_lane rw_size rw_items r (fun H locs ls pc hdg hz hP hD hS => W.zret (v := r) (ty := .boolean) hx hb hr (nar_b hz) (fun t ht hW => ⟨⟨r, (), rfl, rfl, (show va_P G vwCl _ t.heap by rw [ht]; exact hP)⟩, hS.F ht⟩) hS.2.2 hdg)   hM _ _ _ hP hD hS hl
abbrev WX4_holds (K : Nat → ClassId) (rw_a rwA_items : Nat) (rw_lane : Int32) (rw_size : Int32) (rw_items : Nat → Int32) : va_W := [(rw_a, .inr (4, [.ref rwA_items, .int rw_lane, .int rw_size])), aI K rwA_items 40 rw_items]
def rmX4_holds : Room := { frames := 0, cells := 0, slots := 0, locals := 0 }
theorem hdX4_holds : yX4_holds.cls = RX4 ∧ yX4_holds.cls ≠ "java/lang/invoke/MethodHandle" ∧ yX4_holds.cls ≠ "java/lang/invoke/VarHandle" ∧ (parseMethodDescriptor yX4_holds.desc).map (fun d => d.parameters.length) = some 2 := by decide +kernel
set_option maxHeartbeats 4000000 in
set_option maxRecDepth 100000 in
theorem wX4_holds_b0 {p : Program} {l : Launch} {e : Env} {s : State} {m : MethodId} {args : Array Value} {below : List Frame} {meth : Method} {c : Code} {Q : State → Prop} {G : va_G} {K : Nat → ClassId} {A : Nat → Prop} {tt : Nat → Nat} {L : List Nat} {la : Nat → Nat} {sa : Nat → Nat} {ln : Nat → Int32} {sy : Nat → Int32} {sn : Nat → Int32} {lt : Nat → Nat → Int32} {st : Nat → Nat → Int32} (C0 : CX p s m args c cX4_holds 3 RX4 G K (EC G K tt L la sa ln sy sn lt st) A) (rw_a rwA_items : Nat) (rw_lane : Int32) (rw_size : Int32) (rw_items : Nat → Int32) (p1 : Int32) (p2 : Int32) (r : Int32)  (kr : ∀ (H : Heap) (locs : List Loc) (ls : Array Slot) (pc : Nat), decode cX4_holds pc = .ok (.ireturn, 1) → (r = 0 ∨ r = 1) → va_P G vwCl (WX4_holds K rw_a rwA_items rw_lane rw_size rw_items) H → va_D A (WX4_holds K rw_a rwA_items rw_lane rw_size rw_items) → va_S A s.heap H locs → W p l e rmX4_holds s m args below meth c H locs 0 0 Q (F0 m pc ls [.int r]))  (hM : mX4_holds_b0 rw_size p1 p2   = some r) : ∀ (H : Heap) (locs : List Loc) (ls : Array Slot), va_P G vwCl (WX4_holds K rw_a rwA_items rw_lane rw_size rw_items) H → va_D A (WX4_holds K rw_a rwA_items rw_lane rw_size rw_items) → va_S A s.heap H locs → lv_has ls 3 [(0, .ref rw_a), (1, .int p1), (2, .int p2)] → W p l e rmX4_holds s m args below meth c H locs 0 0 Q (F0 m 0 ls []) := by
  obtain ⟨hx, hb, hml, hown, hts, hK, hA, hEo, hE⟩ := id C0
  intro H locs ls hP hD hS hl
  unfold mX4_holds_b0 at hM
  refine lv_iload_n hx hb dX4_holds_0 rfl (lv_at hl 1 rfl) ?_
  refine lv_if_lt (tgt := 30) hx hb dX4_holds_1 (by decide) (fun c_1 => ?_) (fun c_1 => ?_)
  · rw [if_pos c_1] at hM
    refine lv_iconst (v := 0) hx hb dX4_holds_30 (by decide) ?_
    have q1 := Option.some.inj hM
    subst q1
    exact kr _ _ _ _ dX4_holds_31 (by decide) hP hD hS
  · rw [if_neg c_1] at hM
    refine lv_iload_n hx hb dX4_holds_4 rfl (lv_at hl 2 rfl) ?_
    refine lv_if_lt (tgt := 30) hx hb dX4_holds_5 (by decide) (fun c_2 => ?_) (fun c_2 => ?_)
    · rw [if_pos c_2] at hM
      refine lv_iconst (v := 0) hx hb dX4_holds_30 (by decide) ?_
      have q1 := Option.some.inj hM
      subst q1
      exact kr _ _ _ _ dX4_holds_31 (by decide) hP hD hS
    · rw [if_neg c_2] at hM
      refine lv_iload_n hx hb dX4_holds_8 rfl (lv_at hl 1 rfl) ?_
      refine lv_aload_n hx hb dX4_holds_9 rfl (lv_at hl 0 rfl) ?_
      refine va_get (D := G) (ci := 4) (v := .int rw_size) (C := RX4) (T := TX4) (N := 3) hx hb hts inX4 hown hK hP 0 rfl rfl 2 (by decide) (hts _ tb157) (fun _ h9 => h9) rfl dX4_holds_10 ?_
      refine lv_icmp_gt (tgt := 30) hx hb dX4_holds_13 (by decide) (fun c_3 => ?_) (fun c_3 => ?_)
      · rw [if_pos c_3] at hM
        refine lv_iconst (v := 0) hx hb dX4_holds_30 (by decide) ?_
        have q1 := Option.some.inj hM
        subst q1
        exact kr _ _ _ _ dX4_holds_31 (by decide) hP hD hS
      · rw [if_neg c_3] at hM
        refine lv_iload_n hx hb dX4_holds_16 rfl (lv_at hl 2 rfl) ?_
        refine lv_aload_n hx hb dX4_holds_17 rfl (lv_at hl 0 rfl) ?_
        refine va_get (D := G) (ci := 4) (v := .int rw_size) (C := RX4) (T := TX4) (N := 3) hx hb hts inX4 hown hK hP 0 rfl rfl 2 (by decide) (hts _ tb157) (fun _ h9 => h9) rfl dX4_holds_18 ?_
        refine lv_iload_n hx hb dX4_holds_21 rfl (lv_at hl 1 rfl) ?_
        refine lv_isub hx hb dX4_holds_22 ?_
        refine lv_icmp_gt (tgt := 30) hx hb dX4_holds_23 (by decide) (fun c_4 => ?_) (fun c_4 => ?_)
        · rw [if_pos c_4] at hM
          refine lv_iconst (v := 0) hx hb dX4_holds_30 (by decide) ?_
          have q1 := Option.some.inj hM
          subst q1
          exact kr _ _ _ _ dX4_holds_31 (by decide) hP hD hS
        · rw [if_neg c_4] at hM
          refine lv_iconst (v := 1) hx hb dX4_holds_26 (by decide) ?_
          refine lv_goto (tgt := 31) hx hb dX4_holds_27 (by decide) ?_
          have q1 := Option.some.inj hM
          subst q1
          exact kr _ _ _ _ dX4_holds_31 (by decide) hP hD hS
set_option maxHeartbeats 4000000 in
set_option maxRecDepth 100000 in
theorem kX4_holds (l : Launch) (G : va_G) (K : Nat → ClassId) (tt : Nat → Nat) (L : List Nat) (la : Nat → Nat) (sa : Nat → Nat) (ln : Nat → Int32) (sy : Nat → Int32) (sn : Nat → Int32) (lt : Nat → Nat → Int32) (st : Nat → Nat → Int32) (rw_a rwA_items : Nat) (rw_lane : Int32) (rw_size : Int32) (rw_items : Nat → Int32) (p1 : Int32) (p2 : Int32) (sz : Nat) (r : Int32)  (hM : mX4_holds rw_size p1 p2 = some r) : Met l yX4_holds (mC yX4_holds cX4_holds 3 (some .boolean)) rmX4_holds (va_Pc [.ref rw_a, .int p1, .int p2] (PCe G K (EC G K tt L la sa ln sy sn lt st) (WX4_holds K rw_a rwA_items rw_lane rw_size rw_items) sz)) (va_Qi (fun (x : Int32) (_ : Unit) => x = r) (fun _ t => va_P G vwCl (WX4_holds K rw_a rwA_items rw_lane rw_size rw_items) t.heap) (va_A (WX4_holds K rw_a rwA_items rw_lane rw_size rw_items) sz)) rmX4_holds.cells rmX4_holds.slots (va_A (WX4_holds K rw_a rwA_items rw_lane rw_size rw_items) sz) := by
  refine Met.ofW (cc := cX4_holds) (maxL := 3) (ret := (some .boolean)) (by decide) rfl ?_
  intro p e s m args below meth c s₁ B hml hv
  obtain ⟨rfl, hsz, hP, hK, hD0, hE⟩ := hv
  have hx := B.exec
  have hb := B.bytes
  have hr := B.returns
  have hts0 := atoms_spec (ws := mC yX4_holds cX4_holds 3 (some .boolean)) B.pre
  have hts : ∀ w ∈ tbG, w.before _ s = true := fun w h => hts0 w (List.mem_cons_of_mem _ h)
  have hown : s.vm.findClass RX4 = some m.cls := findClass_of_methodNamed B.named
  subst hsz
  have hD := hD0.self (sz := s.heap.size)
  generalize hAe : va_A (WX4_holds K rw_a rwA_items rw_lane rw_size rw_items) s.heap.size = A at hD hE ⊢
  have hA : ∀ q : Nat, s.heap.size ≤ q → A q := fun q h => by rw [← hAe]; exact Or.inr h
  have hS : va_S A s.heap s.heap [] := va_S.rf
  have hl := lv_entry ([.ref rw_a, .int p1, .int p2]) (n := 3) (Nat.le_of_ble_eq_true rfl)
  rw [lg_entry_eq]
  generalize (lg_sl ([.ref rw_a, .int p1, .int p2]) ++ List.replicate (3 - (lg_sl ([.ref rw_a, .int p1, .int p2])).length) Slot.unset).toArray = ls at hl ⊢
  have hl : lv_has ls 3 [(0, .ref rw_a), (1, .int p1), (2, .int p2)] := hl
  exact wX4_holds_b0 ⟨hx, hb, hml, hown, hts, hK, hA, EC_ok _ _ _ _ _ _ _ _ _ _ _, hE⟩ rw_a rwA_items rw_lane rw_size rw_items p1 p2 r (fun H locs ls pc hdg hz hP hD hS => W.zret (v := r) (ty := .boolean) hx hb hr (nar_b hz) (fun t ht hW => ⟨⟨r, (), rfl, rfl, (show va_P G vwCl _ t.heap by rw [ht]; exact hP)⟩, hS.F ht⟩) hS.2.2 hdg)   hM _ _ _ hP hD hS hl
abbrev WX4_narrowed (K : Nat → ClassId) (rw_a rwA_items : Nat) (rw_lane : Int32) (rw_size : Int32) (rw_items : Nat → Int32) : va_W := [(rw_a, .inr (4, [.ref rwA_items, .int rw_lane, .int rw_size])), aI K rwA_items 40 rw_items]
def rmX4_narrowed : Room := { frames := 0, cells := 0, slots := 0, locals := 0 }
theorem hdX4_narrowed : yX4_narrowed.cls = RX4 ∧ yX4_narrowed.cls ≠ "java/lang/invoke/MethodHandle" ∧ yX4_narrowed.cls ≠ "java/lang/invoke/VarHandle" ∧ (parseMethodDescriptor yX4_narrowed.desc).map (fun d => d.parameters.length) = some 1 := by decide +kernel
set_option maxHeartbeats 4000000 in
set_option maxRecDepth 100000 in
theorem wX4_narrowed_b0 {p : Program} {l : Launch} {e : Env} {s : State} {m : MethodId} {args : Array Value} {below : List Frame} {meth : Method} {c : Code} {Q : State → Prop} {G : va_G} {K : Nat → ClassId} {A : Nat → Prop} {tt : Nat → Nat} {L : List Nat} {la : Nat → Nat} {sa : Nat → Nat} {ln : Nat → Int32} {sy : Nat → Int32} {sn : Nat → Int32} {lt : Nat → Nat → Int32} {st : Nat → Nat → Int32} (C0 : CX p s m args c cX4_narrowed 2 RX4 G K (EC G K tt L la sa ln sy sn lt st) A) (rw_a rwA_items : Nat) (rw_lane : Int32) (rw_size : Int32) (rw_items : Nat → Int32) (p1 : Int32) (r : Int32)  (kr : ∀ (H : Heap) (locs : List Loc) (ls : Array Slot) (pc : Nat), decode cX4_narrowed pc = .ok (.ireturn, 1) → va_P G vwCl (WX4_narrowed K rw_a rwA_items rw_lane rw_size rw_items) H → va_D A (WX4_narrowed K rw_a rwA_items rw_lane rw_size rw_items) → va_S A s.heap H locs → W p l e rmX4_narrowed s m args below meth c H locs 0 0 Q (F0 m pc ls [.int r]))  (hM : mX4_narrowed_b0 rw_lane p1   = some r) : ∀ (H : Heap) (locs : List Loc) (ls : Array Slot), va_P G vwCl (WX4_narrowed K rw_a rwA_items rw_lane rw_size rw_items) H → va_D A (WX4_narrowed K rw_a rwA_items rw_lane rw_size rw_items) → va_S A s.heap H locs → lv_has ls 2 [(0, .ref rw_a), (1, .int p1)] → W p l e rmX4_narrowed s m args below meth c H locs 0 0 Q (F0 m 0 ls []) := by
  obtain ⟨hx, hb, hml, hown, hts, hK, hA, hEo, hE⟩ := id C0
  intro H locs ls hP hD hS hl
  unfold mX4_narrowed_b0 at hM
  refine lv_aload_n hx hb dX4_narrowed_0 rfl (lv_at hl 0 rfl) ?_
  refine va_get (D := G) (ci := 4) (v := .int rw_lane) (C := RX4) (T := TX4) (N := 3) hx hb hts inX4 hown hK hP 0 rfl rfl 1 (by decide) (hts _ tb155) (fun _ h9 => h9) rfl dX4_narrowed_1 ?_
  refine lv_if_ne (tgt := 10) hx hb dX4_narrowed_4 (by decide) (fun c_1 => ?_) (fun c_1 => ?_)
  · rw [if_neg c_1] at hM
    refine lv_aload_n hx hb dX4_narrowed_10 rfl (lv_at hl 0 rfl) ?_
    refine va_get (D := G) (ci := 4) (v := .int rw_lane) (C := RX4) (T := TX4) (N := 3) hx hb hts inX4 hown hK hP 0 rfl rfl 1 (by decide) (hts _ tb155) (fun _ h9 => h9) rfl dX4_narrowed_11 ?_
    refine lv_iconst (v := 1) hx hb dX4_narrowed_14 (by decide) ?_
    refine lv_icmp_ne (tgt := 23) hx hb dX4_narrowed_15 (by decide) (fun c_2 => ?_) (fun c_2 => ?_)
    · rw [if_neg c_2] at hM
      refine lv_iload_n hx hb dX4_narrowed_23 rfl (lv_at hl 1 rfl) ?_
      have q1 := Option.some.inj hM
      subst q1
      exact kr _ _ _ _ dX4_narrowed_24 hP hD hS
    · rw [if_pos c_2] at hM
      refine lv_iload_n hx hb dX4_narrowed_18 rfl (lv_at hl 1 rfl) ?_
      refine lv_i2s hx hb dX4_narrowed_19 rfl ?_
      refine lv_goto (tgt := 24) hx hb dX4_narrowed_20 (by decide) ?_
      have q1 := Option.some.inj hM
      subst q1
      exact kr _ _ _ _ dX4_narrowed_24 hP hD hS
  · rw [if_pos c_1] at hM
    refine lv_iload_n hx hb dX4_narrowed_7 rfl (lv_at hl 1 rfl) ?_
    refine lv_i2b hx hb dX4_narrowed_8 rfl ?_
    have q1 := Option.some.inj hM
    subst q1
    exact kr _ _ _ _ dX4_narrowed_9 hP hD hS
set_option maxHeartbeats 4000000 in
set_option maxRecDepth 100000 in
theorem kX4_narrowed (l : Launch) (G : va_G) (K : Nat → ClassId) (tt : Nat → Nat) (L : List Nat) (la : Nat → Nat) (sa : Nat → Nat) (ln : Nat → Int32) (sy : Nat → Int32) (sn : Nat → Int32) (lt : Nat → Nat → Int32) (st : Nat → Nat → Int32) (rw_a rwA_items : Nat) (rw_lane : Int32) (rw_size : Int32) (rw_items : Nat → Int32) (p1 : Int32) (sz : Nat) (r : Int32)  (hM : mX4_narrowed rw_lane p1 = some r) : Met l yX4_narrowed (mC yX4_narrowed cX4_narrowed 2 (some .int)) rmX4_narrowed (va_Pc [.ref rw_a, .int p1] (PCe G K (EC G K tt L la sa ln sy sn lt st) (WX4_narrowed K rw_a rwA_items rw_lane rw_size rw_items) sz)) (va_Qi (fun (x : Int32) (_ : Unit) => x = r) (fun _ t => va_P G vwCl (WX4_narrowed K rw_a rwA_items rw_lane rw_size rw_items) t.heap) (va_A (WX4_narrowed K rw_a rwA_items rw_lane rw_size rw_items) sz)) rmX4_narrowed.cells rmX4_narrowed.slots (va_A (WX4_narrowed K rw_a rwA_items rw_lane rw_size rw_items) sz) := by
  refine Met.ofW (cc := cX4_narrowed) (maxL := 2) (ret := (some .int)) (by decide) rfl ?_
  intro p e s m args below meth c s₁ B hml hv
  obtain ⟨rfl, hsz, hP, hK, hD0, hE⟩ := hv
  have hx := B.exec
  have hb := B.bytes
  have hr := B.returns
  have hts0 := atoms_spec (ws := mC yX4_narrowed cX4_narrowed 2 (some .int)) B.pre
  have hts : ∀ w ∈ tbG, w.before _ s = true := fun w h => hts0 w (List.mem_cons_of_mem _ h)
  have hown : s.vm.findClass RX4 = some m.cls := findClass_of_methodNamed B.named
  subst hsz
  have hD := hD0.self (sz := s.heap.size)
  generalize hAe : va_A (WX4_narrowed K rw_a rwA_items rw_lane rw_size rw_items) s.heap.size = A at hD hE ⊢
  have hA : ∀ q : Nat, s.heap.size ≤ q → A q := fun q h => by rw [← hAe]; exact Or.inr h
  have hS : va_S A s.heap s.heap [] := va_S.rf
  have hl := lv_entry ([.ref rw_a, .int p1]) (n := 2) (Nat.le_of_ble_eq_true rfl)
  rw [lg_entry_eq]
  generalize (lg_sl ([.ref rw_a, .int p1]) ++ List.replicate (2 - (lg_sl ([.ref rw_a, .int p1])).length) Slot.unset).toArray = ls at hl ⊢
  have hl : lv_has ls 2 [(0, .ref rw_a), (1, .int p1)] := hl
  exact wX4_narrowed_b0 ⟨hx, hb, hml, hown, hts, hK, hA, EC_ok _ _ _ _ _ _ _ _ _ _ _, hE⟩ rw_a rwA_items rw_lane rw_size rw_items p1 r (fun H locs ls pc hdg hP hD hS => W.iret (v := r) hx hb hr (fun t ht hW => ⟨⟨r, (), rfl, rfl, (show va_P G vwCl _ t.heap by rw [ht]; exact hP)⟩, hS.F ht⟩) hS.2.2 hdg)   hM _ _ _ hP hD hS hl
abbrev WX6_feed (K : Nat → ClassId) (x_a xA_rows rd_a v_a d_a xA_images ac_a er_a xA_hits xA_bodies rdA_letters rdA_tape : Nat) (x_begun : Int32) (x_latestFault : Int32) (x_latestFinding : Int32) (rd_length : Int32) (rd_at : Int32) (rd_fault : Int32) (rd_place : Int32) (rd_letters : Nat → Int32) (rd_tape : Nat → Int32) : va_W := [(x_a, .inr (6, [.ref xA_rows, .ref rd_a, .ref v_a, .ref d_a, .ref xA_images, .ref ac_a, .ref er_a, .ref xA_hits, .ref xA_bodies, .int x_begun, .int x_latestFault, .int x_latestFinding])), (rd_a, .inr (3, [.ref rdA_letters, .ref rdA_tape, .int rd_length, .int rd_at, .int rd_fault, .int rd_place])), aI K rdA_letters 8 rd_letters, aI K rdA_tape 130 rd_tape]
def rmX6_feed : Room := { frames := 0, cells := 0, slots := 0, locals := 0 }
theorem hdX6_feed : yX6_feed.cls = RX6 ∧ yX6_feed.cls ≠ "java/lang/invoke/MethodHandle" ∧ yX6_feed.cls ≠ "java/lang/invoke/VarHandle" ∧ (parseMethodDescriptor yX6_feed.desc).map (fun d => d.parameters.length) = some 1 := by decide +kernel
set_option maxHeartbeats 4000000 in
set_option maxRecDepth 100000 in
theorem wX6_feed_b0 {p : Program} {l : Launch} {e : Env} {s : State} {m : MethodId} {args : Array Value} {below : List Frame} {meth : Method} {c : Code} {Q : State → Prop} {G : va_G} {K : Nat → ClassId} {A : Nat → Prop} {tt : Nat → Nat} {L : List Nat} {la : Nat → Nat} {sa : Nat → Nat} {ln : Nat → Int32} {sy : Nat → Int32} {sn : Nat → Int32} {lt : Nat → Nat → Int32} {st : Nat → Nat → Int32} (C0 : CX p s m args c cX6_feed 2 RX6 G K (EC G K tt L la sa ln sy sn lt st) A) (x_a xA_rows rd_a v_a d_a xA_images ac_a er_a xA_hits xA_bodies rdA_letters rdA_tape : Nat) (x_begun : Int32) (x_latestFault : Int32) (x_latestFinding : Int32) (rd_at : Int32) (rd_fault : Int32) (rd_place : Int32) (rd_letters : Nat → Int32) (p1 : Int32) (r : Int32) (o_rd_length : Int32) (o_rd_tape : Nat → Int32) (kr : ∀ (H : Heap) (locs : List Loc) (ls : Array Slot) (pc : Nat), decode cX6_feed pc = .ok (.ireturn, 1) → va_P G vwCl (WX6_feed K x_a xA_rows rd_a v_a d_a xA_images ac_a er_a xA_hits xA_bodies rdA_letters rdA_tape x_begun x_latestFault x_latestFinding o_rd_length rd_at rd_fault rd_place rd_letters o_rd_tape) H → va_D A (WX6_feed K x_a xA_rows rd_a v_a d_a xA_images ac_a er_a xA_hits xA_bodies rdA_letters rdA_tape x_begun x_latestFault x_latestFinding o_rd_length rd_at rd_fault rd_place rd_letters o_rd_tape) → va_S A s.heap H locs → W p l e rmX6_feed s m args below meth c H locs 0 0 Q (F0 m pc ls [.int r])) (rd_length : Int32) (rd_tape : Nat → Int32) (hM : mX6_feed_b0 p1  rd_length rd_tape = some (r, o_rd_length, o_rd_tape)) : ∀ (H : Heap) (locs : List Loc) (ls : Array Slot), va_P G vwCl (WX6_feed K x_a xA_rows rd_a v_a d_a xA_images ac_a er_a xA_hits xA_bodies rdA_letters rdA_tape x_begun x_latestFault x_latestFinding rd_length rd_at rd_fault rd_place rd_letters rd_tape) H → va_D A (WX6_feed K x_a xA_rows rd_a v_a d_a xA_images ac_a er_a xA_hits xA_bodies rdA_letters rdA_tape x_begun x_latestFault x_latestFinding rd_length rd_at rd_fault rd_place rd_letters rd_tape) → va_S A s.heap H locs → lv_has ls 2 [(0, .ref x_a), (1, .int p1)] → W p l e rmX6_feed s m args below meth c H locs 0 0 Q (F0 m 0 ls []) := by
  obtain ⟨hx, hb, hml, hown, hts, hK, hA, hEo, hE⟩ := id C0
  intro H locs ls hP hD hS hl
  unfold mX6_feed_b0 at hM
  refine lv_iload_n hx hb dX6_feed_0 rfl (lv_at hl 1 rfl) ?_
  refine lv_if_lt (tgt := 11) hx hb dX6_feed_1 (by decide) (fun c_1 => ?_) (fun c_1 => ?_)
  · rw [if_pos c_1] at hM
    refine lv_ldc (v := -1000001) hx hb hown (hts _ tb289) dX6_feed_11 ?_
    have t0 := Option.some.inj hM
    obtain ⟨q1, t1⟩ := Prod.mk.inj t0
    obtain ⟨q2, t2⟩ := Prod.mk.inj t1
    subst q1
    subst q2
    subst t2
    exact kr _ _ _ _ dX6_feed_13 hP hD hS
  · rw [if_neg c_1] at hM
    refine lv_iload_n hx hb dX6_feed_4 rfl (lv_at hl 1 rfl) ?_
    refine lv_sipush (v := 255) hx hb dX6_feed_5 (by decide) ?_
    refine lv_icmp_le (tgt := 14) hx hb dX6_feed_8 (by decide) (fun c_2 => ?_) (fun c_2 => ?_)
    · rw [if_pos c_2] at hM
      refine lv_aload_n hx hb dX6_feed_14 rfl (lv_at hl 0 rfl) ?_
      refine va_get (D := G) (ci := 6) (v := .ref rd_a) (C := RX6) (T := TX6) (N := 12) hx hb hts inX6 hown hK hP 0 rfl rfl 1 (by decide) (hts _ tb246) (fun _ h9 => h9) rfl dX6_feed_15 ?_
      refine va_get (D := G) (ci := 3) (v := .int rd_length) (C := RX3) (T := TX3) (N := 6) hx hb hts inX3 hown hK hP 1 rfl rfl 2 (by decide) (hts _ tb32) (fun _ h9 => h9) rfl dX6_feed_18 ?_
      refine lv_sipush (v := 130) hx hb dX6_feed_21 (by decide) ?_
      refine lv_icmp_lt (tgt := 30) hx hb dX6_feed_24 (by decide) (fun c_3 => ?_) (fun c_3 => ?_)
      · rw [if_pos c_3] at hM
        refine lv_aload_n hx hb dX6_feed_30 rfl (lv_at hl 0 rfl) ?_
        refine va_get (D := G) (ci := 6) (v := .ref rd_a) (C := RX6) (T := TX6) (N := 12) hx hb hts inX6 hown hK hP 0 rfl rfl 1 (by decide) (hts _ tb246) (fun _ h9 => h9) rfl dX6_feed_31 ?_
        refine va_get (D := G) (ci := 3) (v := .ref rdA_tape) (C := RX3) (T := TX3) (N := 6) hx hb hts inX3 hown hK hP 1 rfl rfl 1 (by decide) (hts _ tb30) (fun _ h9 => h9) rfl dX6_feed_34 ?_
        refine lv_aload_n hx hb dX6_feed_37 rfl (lv_at hl 0 rfl) ?_
        refine va_get (D := G) (ci := 6) (v := .ref rd_a) (C := RX6) (T := TX6) (N := 12) hx hb hts inX6 hown hK hP 0 rfl rfl 1 (by decide) (hts _ tb246) (fun _ h9 => h9) rfl dX6_feed_38 ?_
        refine va_get (D := G) (ci := 3) (v := .int rd_length) (C := RX3) (T := TX3) (N := 6) hx hb hts inX3 hown hK hP 1 rfl rfl 2 (by decide) (hts _ tb32) (fun _ h9 => h9) rfl dX6_feed_41 ?_
        refine lv_iload_n hx hb dX6_feed_44 rfl (lv_at hl 1 rfl) ?_
        obtain ⟨g_4, hM⟩ := ng hM
        refine va_iast hx hb hK hP hD hS 3 0 rfl rfl g_4 dX6_feed_45 (fun H locs hP hD hS => ?_)
        have hP : va_P G vwCl (WX6_feed K x_a xA_rows rd_a v_a d_a xA_images ac_a er_a xA_hits xA_bodies rdA_letters rdA_tape x_begun x_latestFault x_latestFinding rd_length rd_at rd_fault rd_place rd_letters (upd rd_tape rd_length.toNatClampNeg p1)) H := hP
        have hD : va_D A (WX6_feed K x_a xA_rows rd_a v_a d_a xA_images ac_a er_a xA_hits xA_bodies rdA_letters rdA_tape x_begun x_latestFault x_latestFinding rd_length rd_at rd_fault rd_place rd_letters (upd rd_tape rd_length.toNatClampNeg p1)) := hD
        refine lv_aload_n hx hb dX6_feed_46 rfl (lv_at hl 0 rfl) ?_
        refine va_get (D := G) (ci := 6) (v := .ref rd_a) (C := RX6) (T := TX6) (N := 12) hx hb hts inX6 hown hK hP 0 rfl rfl 1 (by decide) (hts _ tb246) (fun _ h9 => h9) rfl dX6_feed_47 ?_
        refine lv_dup hx hb dX6_feed_50 rfl ?_
        refine va_get (D := G) (ci := 3) (v := .int rd_length) (C := RX3) (T := TX3) (N := 6) hx hb hts inX3 hown hK hP 1 rfl rfl 2 (by decide) (hts _ tb32) (fun _ h9 => h9) rfl dX6_feed_51 ?_
        refine lv_iconst (v := 1) hx hb dX6_feed_54 (by decide) ?_
        refine lv_iadd hx hb dX6_feed_55 ?_
        refine va_put (D := G) (ci := 3) (v := .int (rd_length + (1 : Int32))) (ty := .int) (C := RX3) (T := TX3) (N := 6) hx hb hts inX3 tyX3 tyX3_ok nmX3 hown hK hP hD hS 1 rfl rfl 2 (by decide) (hts _ tb32) (fun _ h9 => h9) rfl (tyX3_ok 2 (by decide)) rfl rfl (Nat.le_of_ble_eq_true rfl) dX6_feed_56 (fun H locs hP hD hS => ?_)
        have hP : va_P G vwCl (WX6_feed K x_a xA_rows rd_a v_a d_a xA_images ac_a er_a xA_hits xA_bodies rdA_letters rdA_tape x_begun x_latestFault x_latestFinding (rd_length + (1 : Int32)) rd_at rd_fault rd_place rd_letters (upd rd_tape rd_length.toNatClampNeg p1)) H := hP
        have hD : va_D A (WX6_feed K x_a xA_rows rd_a v_a d_a xA_images ac_a er_a xA_hits xA_bodies rdA_letters rdA_tape x_begun x_latestFault x_latestFinding (rd_length + (1 : Int32)) rd_at rd_fault rd_place rd_letters (upd rd_tape rd_length.toNatClampNeg p1)) := hD
        refine lv_aload_n hx hb dX6_feed_59 rfl (lv_at hl 0 rfl) ?_
        refine va_get (D := G) (ci := 6) (v := .ref rd_a) (C := RX6) (T := TX6) (N := 12) hx hb hts inX6 hown hK hP 0 rfl rfl 1 (by decide) (hts _ tb246) (fun _ h9 => h9) rfl dX6_feed_60 ?_
        refine va_get (D := G) (ci := 3) (v := .int (rd_length + (1 : Int32))) (C := RX3) (T := TX3) (N := 6) hx hb hts inX3 hown hK hP 1 rfl rfl 2 (by decide) (hts _ tb32) (fun _ h9 => h9) rfl dX6_feed_63 ?_
        have t0 := Option.some.inj hM
        obtain ⟨q1, t1⟩ := Prod.mk.inj t0
        obtain ⟨q2, t2⟩ := Prod.mk.inj t1
        subst q1
        subst q2
        subst t2
        exact kr _ _ _ _ dX6_feed_66 hP hD hS
      · rw [if_neg c_3] at hM
        refine lv_ldc (v := -1000003) hx hb hown (hts _ tb330) dX6_feed_27 ?_
        have t0 := Option.some.inj hM
        obtain ⟨q1, t1⟩ := Prod.mk.inj t0
        obtain ⟨q2, t2⟩ := Prod.mk.inj t1
        subst q1
        subst q2
        subst t2
        exact kr _ _ _ _ dX6_feed_29 hP hD hS
    · rw [if_neg c_2] at hM
      refine lv_ldc (v := -1000001) hx hb hown (hts _ tb289) dX6_feed_11 ?_
      have t0 := Option.some.inj hM
      obtain ⟨q1, t1⟩ := Prod.mk.inj t0
      obtain ⟨q2, t2⟩ := Prod.mk.inj t1
      subst q1
      subst q2
      subst t2
      exact kr _ _ _ _ dX6_feed_13 hP hD hS
set_option maxHeartbeats 4000000 in
set_option maxRecDepth 100000 in
theorem kX6_feed (l : Launch) (G : va_G) (K : Nat → ClassId) (tt : Nat → Nat) (L : List Nat) (la : Nat → Nat) (sa : Nat → Nat) (ln : Nat → Int32) (sy : Nat → Int32) (sn : Nat → Int32) (lt : Nat → Nat → Int32) (st : Nat → Nat → Int32) (x_a xA_rows rd_a v_a d_a xA_images ac_a er_a xA_hits xA_bodies rdA_letters rdA_tape : Nat) (x_begun : Int32) (x_latestFault : Int32) (x_latestFinding : Int32) (rd_length : Int32) (rd_at : Int32) (rd_fault : Int32) (rd_place : Int32) (rd_letters : Nat → Int32) (rd_tape : Nat → Int32) (p1 : Int32) (sz : Nat) (r : Int32) (o_rd_length : Int32) (o_rd_tape : Nat → Int32) (hM : mX6_feed rd_length rd_tape p1 = some (r, o_rd_length, o_rd_tape)) : Met l yX6_feed (mC yX6_feed cX6_feed 2 (some .int)) rmX6_feed (va_Pc [.ref x_a, .int p1] (PCe G K (EC G K tt L la sa ln sy sn lt st) (WX6_feed K x_a xA_rows rd_a v_a d_a xA_images ac_a er_a xA_hits xA_bodies rdA_letters rdA_tape x_begun x_latestFault x_latestFinding rd_length rd_at rd_fault rd_place rd_letters rd_tape) sz)) (va_Qi (fun (x : Int32) (_ : Unit) => x = r) (fun _ t => va_P G vwCl (WX6_feed K x_a xA_rows rd_a v_a d_a xA_images ac_a er_a xA_hits xA_bodies rdA_letters rdA_tape x_begun x_latestFault x_latestFinding o_rd_length rd_at rd_fault rd_place rd_letters o_rd_tape) t.heap) (va_A (WX6_feed K x_a xA_rows rd_a v_a d_a xA_images ac_a er_a xA_hits xA_bodies rdA_letters rdA_tape x_begun x_latestFault x_latestFinding rd_length rd_at rd_fault rd_place rd_letters rd_tape) sz)) rmX6_feed.cells rmX6_feed.slots (va_A (WX6_feed K x_a xA_rows rd_a v_a d_a xA_images ac_a er_a xA_hits xA_bodies rdA_letters rdA_tape x_begun x_latestFault x_latestFinding rd_length rd_at rd_fault rd_place rd_letters rd_tape) sz) := by
  refine Met.ofW (cc := cX6_feed) (maxL := 2) (ret := (some .int)) (by decide) rfl ?_
  intro p e s m args below meth c s₁ B hml hv
  obtain ⟨rfl, hsz, hP, hK, hD0, hE⟩ := hv
  have hx := B.exec
  have hb := B.bytes
  have hr := B.returns
  have hts0 := atoms_spec (ws := mC yX6_feed cX6_feed 2 (some .int)) B.pre
  have hts : ∀ w ∈ tbG, w.before _ s = true := fun w h => hts0 w (List.mem_cons_of_mem _ h)
  have hown : s.vm.findClass RX6 = some m.cls := findClass_of_methodNamed B.named
  subst hsz
  have hD := hD0.self (sz := s.heap.size)
  generalize hAe : va_A (WX6_feed K x_a xA_rows rd_a v_a d_a xA_images ac_a er_a xA_hits xA_bodies rdA_letters rdA_tape x_begun x_latestFault x_latestFinding rd_length rd_at rd_fault rd_place rd_letters rd_tape) s.heap.size = A at hD hE ⊢
  have hA : ∀ q : Nat, s.heap.size ≤ q → A q := fun q h => by rw [← hAe]; exact Or.inr h
  have hS : va_S A s.heap s.heap [] := va_S.rf
  have hl := lv_entry ([.ref x_a, .int p1]) (n := 2) (Nat.le_of_ble_eq_true rfl)
  rw [lg_entry_eq]
  generalize (lg_sl ([.ref x_a, .int p1]) ++ List.replicate (2 - (lg_sl ([.ref x_a, .int p1])).length) Slot.unset).toArray = ls at hl ⊢
  have hl : lv_has ls 2 [(0, .ref x_a), (1, .int p1)] := hl
  exact wX6_feed_b0 ⟨hx, hb, hml, hown, hts, hK, hA, EC_ok _ _ _ _ _ _ _ _ _ _ _, hE⟩ x_a xA_rows rd_a v_a d_a xA_images ac_a er_a xA_hits xA_bodies rdA_letters rdA_tape x_begun x_latestFault x_latestFinding rd_at rd_fault rd_place rd_letters p1 r o_rd_length o_rd_tape (fun H locs ls pc hdg hP hD hS => W.iret (v := r) hx hb hr (fun t ht hW => ⟨⟨r, (), rfl, rfl, (show va_P G vwCl _ t.heap by rw [ht]; exact hP)⟩, hS.F ht⟩) hS.2.2 hdg) rd_length rd_tape  hM _ _ _ hP hD hS hl
abbrev WX3_byteAt (K : Nat → ClassId) (rd_a rdA_letters rdA_tape : Nat) (rd_length : Int32) (rd_at : Int32) (rd_fault : Int32) (rd_place : Int32) (rd_letters : Nat → Int32) (rd_tape : Nat → Int32) : va_W := [(rd_a, .inr (3, [.ref rdA_letters, .ref rdA_tape, .int rd_length, .int rd_at, .int rd_fault, .int rd_place])), aI K rdA_letters 8 rd_letters, aI K rdA_tape 130 rd_tape]
def rmX3_byteAt : Room := { frames := 0, cells := 0, slots := 0, locals := 0 }
theorem hdX3_byteAt : yX3_byteAt.cls = RX3 ∧ yX3_byteAt.cls ≠ "java/lang/invoke/MethodHandle" ∧ yX3_byteAt.cls ≠ "java/lang/invoke/VarHandle" ∧ (parseMethodDescriptor yX3_byteAt.desc).map (fun d => d.parameters.length) = some 1 := by decide +kernel
set_option maxHeartbeats 4000000 in
set_option maxRecDepth 100000 in
theorem wX3_byteAt_b0 {p : Program} {l : Launch} {e : Env} {s : State} {m : MethodId} {args : Array Value} {below : List Frame} {meth : Method} {c : Code} {Q : State → Prop} {G : va_G} {K : Nat → ClassId} {A : Nat → Prop} {tt : Nat → Nat} {L : List Nat} {la : Nat → Nat} {sa : Nat → Nat} {ln : Nat → Int32} {sy : Nat → Int32} {sn : Nat → Int32} {lt : Nat → Nat → Int32} {st : Nat → Nat → Int32} (C0 : CX p s m args c cX3_byteAt 2 RX3 G K (EC G K tt L la sa ln sy sn lt st) A) (rd_a rdA_letters rdA_tape : Nat) (rd_length : Int32) (rd_at : Int32) (rd_fault : Int32) (rd_place : Int32) (rd_letters : Nat → Int32) (rd_tape : Nat → Int32) (p1 : Int32) (r : Int32)  (kr : ∀ (H : Heap) (locs : List Loc) (ls : Array Slot) (pc : Nat), decode cX3_byteAt pc = .ok (.ireturn, 1) → va_P G vwCl (WX3_byteAt K rd_a rdA_letters rdA_tape rd_length rd_at rd_fault rd_place rd_letters rd_tape) H → va_D A (WX3_byteAt K rd_a rdA_letters rdA_tape rd_length rd_at rd_fault rd_place rd_letters rd_tape) → va_S A s.heap H locs → W p l e rmX3_byteAt s m args below meth c H locs 0 0 Q (F0 m pc ls [.int r]))  (hM : mX3_byteAt_b0 rd_length rd_tape p1   = some r) : ∀ (H : Heap) (locs : List Loc) (ls : Array Slot), va_P G vwCl (WX3_byteAt K rd_a rdA_letters rdA_tape rd_length rd_at rd_fault rd_place rd_letters rd_tape) H → va_D A (WX3_byteAt K rd_a rdA_letters rdA_tape rd_length rd_at rd_fault rd_place rd_letters rd_tape) → va_S A s.heap H locs → lv_has ls 2 [(0, .ref rd_a), (1, .int p1)] → W p l e rmX3_byteAt s m args below meth c H locs 0 0 Q (F0 m 0 ls []) := by
  obtain ⟨hx, hb, hml, hown, hts, hK, hA, hEo, hE⟩ := id C0
  intro H locs ls hP hD hS hl
  unfold mX3_byteAt_b0 at hM
  refine lv_iload_n hx hb dX3_byteAt_0 rfl (lv_at hl 1 rfl) ?_
  refine lv_if_lt (tgt := 28) hx hb dX3_byteAt_1 (by decide) (fun c_1 => ?_) (fun c_1 => ?_)
  · rw [if_pos c_1] at hM
    refine lv_iconst (v := (-1)) hx hb dX3_byteAt_28 (by decide) ?_
    have q1 := Option.some.inj hM
    subst q1
    exact kr _ _ _ _ dX3_byteAt_29 hP hD hS
  · rw [if_neg c_1] at hM
    refine lv_iload_n hx hb dX3_byteAt_4 rfl (lv_at hl 1 rfl) ?_
    refine lv_aload_n hx hb dX3_byteAt_5 rfl (lv_at hl 0 rfl) ?_
    refine va_get (D := G) (ci := 3) (v := .int rd_length) (C := RX3) (T := TX3) (N := 6) hx hb hts inX3 hown hK hP 0 rfl rfl 2 (by decide) (hts _ tb31) (fun _ h9 => h9) rfl dX3_byteAt_6 ?_
    refine lv_icmp_ge (tgt := 28) hx hb dX3_byteAt_9 (by decide) (fun c_2 => ?_) (fun c_2 => ?_)
    · rw [if_pos c_2] at hM
      refine lv_iconst (v := (-1)) hx hb dX3_byteAt_28 (by decide) ?_
      have q1 := Option.some.inj hM
      subst q1
      exact kr _ _ _ _ dX3_byteAt_29 hP hD hS
    · rw [if_neg c_2] at hM
      refine lv_iload_n hx hb dX3_byteAt_12 rfl (lv_at hl 1 rfl) ?_
      refine lv_sipush (v := 130) hx hb dX3_byteAt_13 (by decide) ?_
      refine lv_icmp_ge (tgt := 28) hx hb dX3_byteAt_16 (by decide) (fun c_3 => ?_) (fun c_3 => ?_)
      · rw [if_pos c_3] at hM
        refine lv_iconst (v := (-1)) hx hb dX3_byteAt_28 (by decide) ?_
        have q1 := Option.some.inj hM
        subst q1
        exact kr _ _ _ _ dX3_byteAt_29 hP hD hS
      · rw [if_neg c_3] at hM
        refine lv_aload_n hx hb dX3_byteAt_19 rfl (lv_at hl 0 rfl) ?_
        refine va_get (D := G) (ci := 3) (v := .ref rdA_tape) (C := RX3) (T := TX3) (N := 6) hx hb hts inX3 hown hK hP 0 rfl rfl 1 (by decide) (hts _ tb29) (fun _ h9 => h9) rfl dX3_byteAt_20 ?_
        refine lv_iload_n hx hb dX3_byteAt_23 rfl (lv_at hl 1 rfl) ?_
        obtain ⟨g_4, hM⟩ := ng hM
        refine va_iald hx hb hK hP 2 0 rfl rfl g_4 dX3_byteAt_24 ?_
        refine lv_goto (tgt := 29) hx hb dX3_byteAt_25 (by decide) ?_
        have q1 := Option.some.inj hM
        subst q1
        exact kr _ _ _ _ dX3_byteAt_29 hP hD hS
set_option maxHeartbeats 4000000 in
set_option maxRecDepth 100000 in
theorem kX3_byteAt (l : Launch) (G : va_G) (K : Nat → ClassId) (tt : Nat → Nat) (L : List Nat) (la : Nat → Nat) (sa : Nat → Nat) (ln : Nat → Int32) (sy : Nat → Int32) (sn : Nat → Int32) (lt : Nat → Nat → Int32) (st : Nat → Nat → Int32) (rd_a rdA_letters rdA_tape : Nat) (rd_length : Int32) (rd_at : Int32) (rd_fault : Int32) (rd_place : Int32) (rd_letters : Nat → Int32) (rd_tape : Nat → Int32) (p1 : Int32) (sz : Nat) (r : Int32)  (hM : mX3_byteAt rd_length rd_tape p1 = some r) : Met l yX3_byteAt (mC yX3_byteAt cX3_byteAt 2 (some .int)) rmX3_byteAt (va_Pc [.ref rd_a, .int p1] (PCe G K (EC G K tt L la sa ln sy sn lt st) (WX3_byteAt K rd_a rdA_letters rdA_tape rd_length rd_at rd_fault rd_place rd_letters rd_tape) sz)) (va_Qi (fun (x : Int32) (_ : Unit) => x = r) (fun _ t => va_P G vwCl (WX3_byteAt K rd_a rdA_letters rdA_tape rd_length rd_at rd_fault rd_place rd_letters rd_tape) t.heap) (va_A (WX3_byteAt K rd_a rdA_letters rdA_tape rd_length rd_at rd_fault rd_place rd_letters rd_tape) sz)) rmX3_byteAt.cells rmX3_byteAt.slots (va_A (WX3_byteAt K rd_a rdA_letters rdA_tape rd_length rd_at rd_fault rd_place rd_letters rd_tape) sz) := by
  refine Met.ofW (cc := cX3_byteAt) (maxL := 2) (ret := (some .int)) (by decide) rfl ?_
  intro p e s m args below meth c s₁ B hml hv
  obtain ⟨rfl, hsz, hP, hK, hD0, hE⟩ := hv
  have hx := B.exec
  have hb := B.bytes
  have hr := B.returns
  have hts0 := atoms_spec (ws := mC yX3_byteAt cX3_byteAt 2 (some .int)) B.pre
  have hts : ∀ w ∈ tbG, w.before _ s = true := fun w h => hts0 w (List.mem_cons_of_mem _ h)
  have hown : s.vm.findClass RX3 = some m.cls := findClass_of_methodNamed B.named
  subst hsz
  have hD := hD0.self (sz := s.heap.size)
  generalize hAe : va_A (WX3_byteAt K rd_a rdA_letters rdA_tape rd_length rd_at rd_fault rd_place rd_letters rd_tape) s.heap.size = A at hD hE ⊢
  have hA : ∀ q : Nat, s.heap.size ≤ q → A q := fun q h => by rw [← hAe]; exact Or.inr h
  have hS : va_S A s.heap s.heap [] := va_S.rf
  have hl := lv_entry ([.ref rd_a, .int p1]) (n := 2) (Nat.le_of_ble_eq_true rfl)
  rw [lg_entry_eq]
  generalize (lg_sl ([.ref rd_a, .int p1]) ++ List.replicate (2 - (lg_sl ([.ref rd_a, .int p1])).length) Slot.unset).toArray = ls at hl ⊢
  have hl : lv_has ls 2 [(0, .ref rd_a), (1, .int p1)] := hl
  exact wX3_byteAt_b0 ⟨hx, hb, hml, hown, hts, hK, hA, EC_ok _ _ _ _ _ _ _ _ _ _ _, hE⟩ rd_a rdA_letters rdA_tape rd_length rd_at rd_fault rd_place rd_letters rd_tape p1 r (fun H locs ls pc hdg hP hD hS => W.iret (v := r) hx hb hr (fun t ht hW => ⟨⟨r, (), rfl, rfl, (show va_P G vwCl _ t.heap by rw [ht]; exact hP)⟩, hS.F ht⟩) hS.2.2 hdg)   hM _ _ _ hP hD hS hl
abbrev WX3_failAt (K : Nat → ClassId) (rd_a rdA_letters rdA_tape : Nat) (rd_length : Int32) (rd_at : Int32) (rd_fault : Int32) (rd_place : Int32) (rd_letters : Nat → Int32) (rd_tape : Nat → Int32) : va_W := [(rd_a, .inr (3, [.ref rdA_letters, .ref rdA_tape, .int rd_length, .int rd_at, .int rd_fault, .int rd_place])), aI K rdA_letters 8 rd_letters, aI K rdA_tape 130 rd_tape]
def rmX3_failAt : Room := { frames := 0, cells := 0, slots := 0, locals := 0 }
theorem hdX3_failAt : yX3_failAt.cls = RX3 ∧ yX3_failAt.cls ≠ "java/lang/invoke/MethodHandle" ∧ yX3_failAt.cls ≠ "java/lang/invoke/VarHandle" ∧ (parseMethodDescriptor yX3_failAt.desc).map (fun d => d.parameters.length) = some 2 := by decide +kernel
set_option maxHeartbeats 4000000 in
set_option maxRecDepth 100000 in
theorem wX3_failAt_b0 {p : Program} {l : Launch} {e : Env} {s : State} {m : MethodId} {args : Array Value} {below : List Frame} {meth : Method} {c : Code} {Q : State → Prop} {G : va_G} {K : Nat → ClassId} {A : Nat → Prop} {tt : Nat → Nat} {L : List Nat} {la : Nat → Nat} {sa : Nat → Nat} {ln : Nat → Int32} {sy : Nat → Int32} {sn : Nat → Int32} {lt : Nat → Nat → Int32} {st : Nat → Nat → Int32} (C0 : CX p s m args c cX3_failAt 3 RX3 G K (EC G K tt L la sa ln sy sn lt st) A) (rd_a rdA_letters rdA_tape : Nat) (rd_length : Int32) (rd_at : Int32) (rd_letters : Nat → Int32) (rd_tape : Nat → Int32) (p1 : Int32) (p2 : Int32) (r : Int32) (o_rd_fault : Int32) (o_rd_place : Int32) (kr : ∀ (H : Heap) (locs : List Loc) (ls : Array Slot) (pc : Nat), decode cX3_failAt pc = .ok (.ireturn, 1) → (r = 0 ∨ r = 1) → va_P G vwCl (WX3_failAt K rd_a rdA_letters rdA_tape rd_length rd_at o_rd_fault o_rd_place rd_letters rd_tape) H → va_D A (WX3_failAt K rd_a rdA_letters rdA_tape rd_length rd_at o_rd_fault o_rd_place rd_letters rd_tape) → va_S A s.heap H locs → W p l e rmX3_failAt s m args below meth c H locs 0 0 Q (F0 m pc ls [.int r])) (rd_fault : Int32) (rd_place : Int32) (hM : mX3_failAt_b0 p1 p2  rd_fault rd_place = some (r, o_rd_fault, o_rd_place)) : ∀ (H : Heap) (locs : List Loc) (ls : Array Slot), va_P G vwCl (WX3_failAt K rd_a rdA_letters rdA_tape rd_length rd_at rd_fault rd_place rd_letters rd_tape) H → va_D A (WX3_failAt K rd_a rdA_letters rdA_tape rd_length rd_at rd_fault rd_place rd_letters rd_tape) → va_S A s.heap H locs → lv_has ls 3 [(0, .ref rd_a), (1, .int p1), (2, .int p2)] → W p l e rmX3_failAt s m args below meth c H locs 0 0 Q (F0 m 0 ls []) := by
  obtain ⟨hx, hb, hml, hown, hts, hK, hA, hEo, hE⟩ := id C0
  intro H locs ls hP hD hS hl
  unfold mX3_failAt_b0 at hM
  refine lv_aload_n hx hb dX3_failAt_0 rfl (lv_at hl 0 rfl) ?_
  refine lv_iload_n hx hb dX3_failAt_1 rfl (lv_at hl 2 rfl) ?_
  refine va_put (D := G) (ci := 3) (v := .int p2) (ty := .int) (C := RX3) (T := TX3) (N := 6) hx hb hts inX3 tyX3 tyX3_ok nmX3 hown hK hP hD hS 0 rfl rfl 4 (by decide) (hts _ tb34) (fun _ h9 => h9) rfl (tyX3_ok 4 (by decide)) rfl rfl (Nat.le_of_ble_eq_true rfl) dX3_failAt_2 (fun H locs hP hD hS => ?_)
  have hP : va_P G vwCl (WX3_failAt K rd_a rdA_letters rdA_tape rd_length rd_at p2 rd_place rd_letters rd_tape) H := hP
  have hD : va_D A (WX3_failAt K rd_a rdA_letters rdA_tape rd_length rd_at p2 rd_place rd_letters rd_tape) := hD
  refine lv_aload_n hx hb dX3_failAt_5 rfl (lv_at hl 0 rfl) ?_
  refine lv_iload_n hx hb dX3_failAt_6 rfl (lv_at hl 1 rfl) ?_
  refine va_put (D := G) (ci := 3) (v := .int p1) (ty := .int) (C := RX3) (T := TX3) (N := 6) hx hb hts inX3 tyX3 tyX3_ok nmX3 hown hK hP hD hS 0 rfl rfl 5 (by decide) (hts _ tb36) (fun _ h9 => h9) rfl (tyX3_ok 5 (by decide)) rfl rfl (Nat.le_of_ble_eq_true rfl) dX3_failAt_7 (fun H locs hP hD hS => ?_)
  have hP : va_P G vwCl (WX3_failAt K rd_a rdA_letters rdA_tape rd_length rd_at p2 p1 rd_letters rd_tape) H := hP
  have hD : va_D A (WX3_failAt K rd_a rdA_letters rdA_tape rd_length rd_at p2 p1 rd_letters rd_tape) := hD
  refine lv_iconst (v := 0) hx hb dX3_failAt_10 (by decide) ?_
  have t0 := Option.some.inj hM
  obtain ⟨q1, t1⟩ := Prod.mk.inj t0
  obtain ⟨q2, t2⟩ := Prod.mk.inj t1
  subst q1
  subst q2
  subst t2
  exact kr _ _ _ _ dX3_failAt_11 (by decide) hP hD hS
set_option maxHeartbeats 4000000 in
set_option maxRecDepth 100000 in
theorem kX3_failAt (l : Launch) (G : va_G) (K : Nat → ClassId) (tt : Nat → Nat) (L : List Nat) (la : Nat → Nat) (sa : Nat → Nat) (ln : Nat → Int32) (sy : Nat → Int32) (sn : Nat → Int32) (lt : Nat → Nat → Int32) (st : Nat → Nat → Int32) (rd_a rdA_letters rdA_tape : Nat) (rd_length : Int32) (rd_at : Int32) (rd_fault : Int32) (rd_place : Int32) (rd_letters : Nat → Int32) (rd_tape : Nat → Int32) (p1 : Int32) (p2 : Int32) (sz : Nat) (r : Int32) (o_rd_fault : Int32) (o_rd_place : Int32) (hM : mX3_failAt rd_fault rd_place p1 p2 = some (r, o_rd_fault, o_rd_place)) : Met l yX3_failAt (mC yX3_failAt cX3_failAt 3 (some .boolean)) rmX3_failAt (va_Pc [.ref rd_a, .int p1, .int p2] (PCe G K (EC G K tt L la sa ln sy sn lt st) (WX3_failAt K rd_a rdA_letters rdA_tape rd_length rd_at rd_fault rd_place rd_letters rd_tape) sz)) (va_Qi (fun (x : Int32) (_ : Unit) => x = r) (fun _ t => va_P G vwCl (WX3_failAt K rd_a rdA_letters rdA_tape rd_length rd_at o_rd_fault o_rd_place rd_letters rd_tape) t.heap) (va_A (WX3_failAt K rd_a rdA_letters rdA_tape rd_length rd_at rd_fault rd_place rd_letters rd_tape) sz)) rmX3_failAt.cells rmX3_failAt.slots (va_A (WX3_failAt K rd_a rdA_letters rdA_tape rd_length rd_at rd_fault rd_place rd_letters rd_tape) sz) := by
  refine Met.ofW (cc := cX3_failAt) (maxL := 3) (ret := (some .boolean)) (by decide) rfl ?_
  intro p e s m args below meth c s₁ B hml hv
  obtain ⟨rfl, hsz, hP, hK, hD0, hE⟩ := hv
  have hx := B.exec
  have hb := B.bytes
  have hr := B.returns
  have hts0 := atoms_spec (ws := mC yX3_failAt cX3_failAt 3 (some .boolean)) B.pre
  have hts : ∀ w ∈ tbG, w.before _ s = true := fun w h => hts0 w (List.mem_cons_of_mem _ h)
  have hown : s.vm.findClass RX3 = some m.cls := findClass_of_methodNamed B.named
  subst hsz
  have hD := hD0.self (sz := s.heap.size)
  generalize hAe : va_A (WX3_failAt K rd_a rdA_letters rdA_tape rd_length rd_at rd_fault rd_place rd_letters rd_tape) s.heap.size = A at hD hE ⊢
  have hA : ∀ q : Nat, s.heap.size ≤ q → A q := fun q h => by rw [← hAe]; exact Or.inr h
  have hS : va_S A s.heap s.heap [] := va_S.rf
  have hl := lv_entry ([.ref rd_a, .int p1, .int p2]) (n := 3) (Nat.le_of_ble_eq_true rfl)
  rw [lg_entry_eq]
  generalize (lg_sl ([.ref rd_a, .int p1, .int p2]) ++ List.replicate (3 - (lg_sl ([.ref rd_a, .int p1, .int p2])).length) Slot.unset).toArray = ls at hl ⊢
  have hl : lv_has ls 3 [(0, .ref rd_a), (1, .int p1), (2, .int p2)] := hl
  exact wX3_failAt_b0 ⟨hx, hb, hml, hown, hts, hK, hA, EC_ok _ _ _ _ _ _ _ _ _ _ _, hE⟩ rd_a rdA_letters rdA_tape rd_length rd_at rd_letters rd_tape p1 p2 r o_rd_fault o_rd_place (fun H locs ls pc hdg hz hP hD hS => W.zret (v := r) (ty := .boolean) hx hb hr (nar_b hz) (fun t ht hW => ⟨⟨r, (), rfl, rfl, (show va_P G vwCl _ t.heap by rw [ht]; exact hP)⟩, hS.F ht⟩) hS.2.2 hdg) rd_fault rd_place  hM _ _ _ hP hD hS hl
abbrev WX3_readSign (K : Nat → ClassId) (rd_a rdA_letters rdA_tape : Nat) (rd_length : Int32) (rd_at : Int32) (rd_fault : Int32) (rd_place : Int32) (rd_letters : Nat → Int32) (rd_tape : Nat → Int32) : va_W := [(rd_a, .inr (3, [.ref rdA_letters, .ref rdA_tape, .int rd_length, .int rd_at, .int rd_fault, .int rd_place])), aI K rdA_letters 8 rd_letters, aI K rdA_tape 130 rd_tape]
def rmX3_readSign : Room := { frames := 1, cells := 0, slots := 0, locals := 22 }
theorem hdX3_readSign : yX3_readSign.cls = RX3 ∧ yX3_readSign.cls ≠ "java/lang/invoke/MethodHandle" ∧ yX3_readSign.cls ≠ "java/lang/invoke/VarHandle" ∧ (parseMethodDescriptor yX3_readSign.desc).map (fun d => d.parameters.length) = some 1 := by decide +kernel
set_option maxHeartbeats 4000000 in
set_option maxRecDepth 100000 in
theorem wX3_readSign_b0 {p : Program} {l : Launch} {e : Env} {s : State} {m : MethodId} {args : Array Value} {below : List Frame} {meth : Method} {c : Code} {Q : State → Prop} {G : va_G} {K : Nat → ClassId} {A : Nat → Prop} {tt : Nat → Nat} {L : List Nat} {la : Nat → Nat} {sa : Nat → Nat} {ln : Nat → Int32} {sy : Nat → Int32} {sn : Nat → Int32} {lt : Nat → Nat → Int32} {st : Nat → Nat → Int32} (C0 : CX p s m args c cX3_readSign 2 RX3 G K (EC G K tt L la sa ln sy sn lt st) A) (rd_a rdA_letters rdA_tape : Nat) (rd_length : Int32) (rd_letters : Nat → Int32) (rd_tape : Nat → Int32) (p1 : Int32) (r : Int32) (o_rd_at : Int32) (o_rd_fault : Int32) (o_rd_place : Int32) (kr : ∀ (H : Heap) (locs : List Loc) (ls : Array Slot) (pc : Nat), decode cX3_readSign pc = .ok (.ireturn, 1) → (r = 0 ∨ r = 1) → va_P G vwCl (WX3_readSign K rd_a rdA_letters rdA_tape rd_length o_rd_at o_rd_fault o_rd_place rd_letters rd_tape) H → va_D A (WX3_readSign K rd_a rdA_letters rdA_tape rd_length o_rd_at o_rd_fault o_rd_place rd_letters rd_tape) → va_S A s.heap H locs → W p l e rmX3_readSign s m args below meth c H locs 0 0 Q (F0 m pc ls [.int r])) (rd_at : Int32) (rd_fault : Int32) (rd_place : Int32) (hM : mX3_readSign_b0 rd_length rd_tape p1  rd_at rd_fault rd_place = some (r, o_rd_at, o_rd_fault, o_rd_place)) : ∀ (H : Heap) (locs : List Loc) (ls : Array Slot), va_P G vwCl (WX3_readSign K rd_a rdA_letters rdA_tape rd_length rd_at rd_fault rd_place rd_letters rd_tape) H → va_D A (WX3_readSign K rd_a rdA_letters rdA_tape rd_length rd_at rd_fault rd_place rd_letters rd_tape) → va_S A s.heap H locs → lv_has ls 2 [(0, .ref rd_a), (1, .int p1)] → W p l e rmX3_readSign s m args below meth c H locs 0 0 Q (F0 m 0 ls []) := by
  obtain ⟨hx, hb, hml, hown, hts, hK, hA, hEo, hE⟩ := id C0
  intro H locs ls hP hD hS hl
  unfold mX3_readSign_b0 at hM
  refine lv_aload_n hx hb dX3_readSign_0 rfl (lv_at hl 0 rfl) ?_
  refine lv_aload_n hx hb dX3_readSign_1 rfl (lv_at hl 0 rfl) ?_
  refine va_get (D := G) (ci := 3) (v := .int rd_at) (C := RX3) (T := TX3) (N := 6) hx hb hts inX3 hown hK hP 0 rfl rfl 3 (by decide) (hts _ tb33) (fun _ h9 => h9) rfl dX3_readSign_2 ?_
  obtain ⟨r_1, hC, hM⟩ := oe1 hM
  refine cV_i (As := [.int rd_at]) (rest := []) C0 hP hD hS [0, 1, 2] (kX3_byteAt l G K tt L la sa ln sy sn lt st rd_a rdA_letters rdA_tape rd_length rd_at rd_fault rd_place rd_letters rd_tape rd_at H.size r_1 hC) rfl rfl rfl tb347 tb348 tb349 tb2 tb350 hdX3_byteAt (va_recv hK hP (ci := 3) (q0 := 0) rfl rfl) ⟨Nat.le_of_ble_eq_true rfl, Nat.le_of_ble_eq_true rfl⟩ rfl hl.1 (Nat.le_of_ble_eq_true rfl) rfl ⟨Nat.le_refl _, Nat.le_refl _⟩ dX3_readSign_5 (fun H locs hP hD hS => ?_)
  have hP : va_P G vwCl (WX3_readSign K rd_a rdA_letters rdA_tape rd_length rd_at rd_fault rd_place rd_letters rd_tape) H := hP
  have hD : va_D A (WX3_readSign K rd_a rdA_letters rdA_tape rd_length rd_at rd_fault rd_place rd_letters rd_tape) := hD
  refine lv_iload_n hx hb dX3_readSign_8 rfl (lv_at hl 1 rfl) ?_
  refine lv_icmp_eq (tgt := 22) hx hb dX3_readSign_9 (by decide) (fun c_2 => ?_) (fun c_2 => ?_)
  · rw [if_pos c_2] at hM
    refine lv_aload_n hx hb dX3_readSign_22 rfl (lv_at hl 0 rfl) ?_
    refine lv_dup hx hb dX3_readSign_23 rfl ?_
    refine va_get (D := G) (ci := 3) (v := .int rd_at) (C := RX3) (T := TX3) (N := 6) hx hb hts inX3 hown hK hP 0 rfl rfl 3 (by decide) (hts _ tb33) (fun _ h9 => h9) rfl dX3_readSign_24 ?_
    refine lv_iconst (v := 1) hx hb dX3_readSign_27 (by decide) ?_
    refine lv_iadd hx hb dX3_readSign_28 ?_
    refine va_put (D := G) (ci := 3) (v := .int (rd_at + (1 : Int32))) (ty := .int) (C := RX3) (T := TX3) (N := 6) hx hb hts inX3 tyX3 tyX3_ok nmX3 hown hK hP hD hS 0 rfl rfl 3 (by decide) (hts _ tb33) (fun _ h9 => h9) rfl (tyX3_ok 3 (by decide)) rfl rfl (Nat.le_of_ble_eq_true rfl) dX3_readSign_29 (fun H locs hP hD hS => ?_)
    have hP : va_P G vwCl (WX3_readSign K rd_a rdA_letters rdA_tape rd_length (rd_at + (1 : Int32)) rd_fault rd_place rd_letters rd_tape) H := hP
    have hD : va_D A (WX3_readSign K rd_a rdA_letters rdA_tape rd_length (rd_at + (1 : Int32)) rd_fault rd_place rd_letters rd_tape) := hD
    refine lv_iconst (v := 1) hx hb dX3_readSign_32 (by decide) ?_
    have t0 := Option.some.inj hM
    obtain ⟨q1, t1⟩ := Prod.mk.inj t0
    obtain ⟨q2, t2⟩ := Prod.mk.inj t1
    obtain ⟨q3, t3⟩ := Prod.mk.inj t2
    subst q1
    subst q2
    subst q3
    subst t3
    exact kr _ _ _ _ dX3_readSign_33 (by decide) hP hD hS
  · rw [if_neg c_2] at hM
    refine lv_aload_n hx hb dX3_readSign_12 rfl (lv_at hl 0 rfl) ?_
    refine lv_aload_n hx hb dX3_readSign_13 rfl (lv_at hl 0 rfl) ?_
    refine va_get (D := G) (ci := 3) (v := .int rd_at) (C := RX3) (T := TX3) (N := 6) hx hb hts inX3 hown hK hP 0 rfl rfl 3 (by decide) (hts _ tb33) (fun _ h9 => h9) rfl dX3_readSign_14 ?_
    refine lv_iconst (v := 1) hx hb dX3_readSign_17 (by decide) ?_
    obtain ⟨r_3, u0_3, u1_3, hC, hM⟩ := oe3 hM
    refine cV_i (As := [.int rd_at, .int (1 : Int32)]) (rest := []) C0 hP hD hS [0, 1, 2] (kX3_failAt l G K tt L la sa ln sy sn lt st rd_a rdA_letters rdA_tape rd_length rd_at rd_fault rd_place rd_letters rd_tape rd_at (1 : Int32) H.size r_3 u0_3 u1_3 hC) rfl rfl rfl tb351 tb352 tb353 tb2 tb354 hdX3_failAt (va_recv hK hP (ci := 3) (q0 := 0) rfl rfl) ⟨Nat.le_of_ble_eq_true rfl, Nat.le_of_ble_eq_true rfl⟩ rfl hl.1 (Nat.le_of_ble_eq_true rfl) rfl ⟨Nat.le_refl _, Nat.le_refl _⟩ dX3_readSign_18 (fun H locs hP hD hS => ?_)
    have hP : va_P G vwCl (WX3_readSign K rd_a rdA_letters rdA_tape rd_length rd_at u0_3 u1_3 rd_letters rd_tape) H := hP
    have hD : va_D A (WX3_readSign K rd_a rdA_letters rdA_tape rd_length rd_at u0_3 u1_3 rd_letters rd_tape) := hD
    obtain ⟨g_4, hM⟩ := ng hM
    have t0 := Option.some.inj hM
    obtain ⟨q1, t1⟩ := Prod.mk.inj t0
    obtain ⟨q2, t2⟩ := Prod.mk.inj t1
    obtain ⟨q3, t3⟩ := Prod.mk.inj t2
    subst q1
    subst q2
    subst q3
    subst t3
    exact kr _ _ _ _ dX3_readSign_21 (Decidable.not_not.mp g_4) hP hD hS
set_option maxHeartbeats 4000000 in
set_option maxRecDepth 100000 in
theorem kX3_readSign (l : Launch) (G : va_G) (K : Nat → ClassId) (tt : Nat → Nat) (L : List Nat) (la : Nat → Nat) (sa : Nat → Nat) (ln : Nat → Int32) (sy : Nat → Int32) (sn : Nat → Int32) (lt : Nat → Nat → Int32) (st : Nat → Nat → Int32) (rd_a rdA_letters rdA_tape : Nat) (rd_length : Int32) (rd_at : Int32) (rd_fault : Int32) (rd_place : Int32) (rd_letters : Nat → Int32) (rd_tape : Nat → Int32) (p1 : Int32) (sz : Nat) (r : Int32) (o_rd_at : Int32) (o_rd_fault : Int32) (o_rd_place : Int32) (hM : mX3_readSign rd_length rd_tape rd_at rd_fault rd_place p1 = some (r, o_rd_at, o_rd_fault, o_rd_place)) : Met l yX3_readSign (mC yX3_readSign cX3_readSign 2 (some .boolean)) rmX3_readSign (va_Pc [.ref rd_a, .int p1] (PCe G K (EC G K tt L la sa ln sy sn lt st) (WX3_readSign K rd_a rdA_letters rdA_tape rd_length rd_at rd_fault rd_place rd_letters rd_tape) sz)) (va_Qi (fun (x : Int32) (_ : Unit) => x = r) (fun _ t => va_P G vwCl (WX3_readSign K rd_a rdA_letters rdA_tape rd_length o_rd_at o_rd_fault o_rd_place rd_letters rd_tape) t.heap) (va_A (WX3_readSign K rd_a rdA_letters rdA_tape rd_length rd_at rd_fault rd_place rd_letters rd_tape) sz)) rmX3_readSign.cells rmX3_readSign.slots (va_A (WX3_readSign K rd_a rdA_letters rdA_tape rd_length rd_at rd_fault rd_place rd_letters rd_tape) sz) := by
  refine Met.ofW (cc := cX3_readSign) (maxL := 2) (ret := (some .boolean)) (by decide) rfl ?_
  intro p e s m args below meth c s₁ B hml hv
  obtain ⟨rfl, hsz, hP, hK, hD0, hE⟩ := hv
  have hx := B.exec
  have hb := B.bytes
  have hr := B.returns
  have hts0 := atoms_spec (ws := mC yX3_readSign cX3_readSign 2 (some .boolean)) B.pre
  have hts : ∀ w ∈ tbG, w.before _ s = true := fun w h => hts0 w (List.mem_cons_of_mem _ h)
  have hown : s.vm.findClass RX3 = some m.cls := findClass_of_methodNamed B.named
  subst hsz
  have hD := hD0.self (sz := s.heap.size)
  generalize hAe : va_A (WX3_readSign K rd_a rdA_letters rdA_tape rd_length rd_at rd_fault rd_place rd_letters rd_tape) s.heap.size = A at hD hE ⊢
  have hA : ∀ q : Nat, s.heap.size ≤ q → A q := fun q h => by rw [← hAe]; exact Or.inr h
  have hS : va_S A s.heap s.heap [] := va_S.rf
  have hl := lv_entry ([.ref rd_a, .int p1]) (n := 2) (Nat.le_of_ble_eq_true rfl)
  rw [lg_entry_eq]
  generalize (lg_sl ([.ref rd_a, .int p1]) ++ List.replicate (2 - (lg_sl ([.ref rd_a, .int p1])).length) Slot.unset).toArray = ls at hl ⊢
  have hl : lv_has ls 2 [(0, .ref rd_a), (1, .int p1)] := hl
  exact wX3_readSign_b0 ⟨hx, hb, hml, hown, hts, hK, hA, EC_ok _ _ _ _ _ _ _ _ _ _ _, hE⟩ rd_a rdA_letters rdA_tape rd_length rd_letters rd_tape p1 r o_rd_at o_rd_fault o_rd_place (fun H locs ls pc hdg hz hP hD hS => W.zret (v := r) (ty := .boolean) hx hb hr (nar_b hz) (fun t ht hW => ⟨⟨r, (), rfl, rfl, (show va_P G vwCl _ t.heap by rw [ht]; exact hP)⟩, hS.F ht⟩) hS.2.2 hdg) rd_at rd_fault rd_place  hM _ _ _ hP hD hS hl
abbrev WX3_isFigure (K : Nat → ClassId) (rd_a rdA_letters rdA_tape : Nat) (rd_length : Int32) (rd_at : Int32) (rd_fault : Int32) (rd_place : Int32) (rd_letters : Nat → Int32) (rd_tape : Nat → Int32) : va_W := [(rd_a, .inr (3, [.ref rdA_letters, .ref rdA_tape, .int rd_length, .int rd_at, .int rd_fault, .int rd_place])), aI K rdA_letters 8 rd_letters, aI K rdA_tape 130 rd_tape]
def rmX3_isFigure : Room := { frames := 1, cells := 0, slots := 0, locals := 21 }
theorem hdX3_isFigure : yX3_isFigure.cls = RX3 ∧ yX3_isFigure.cls ≠ "java/lang/invoke/MethodHandle" ∧ yX3_isFigure.cls ≠ "java/lang/invoke/VarHandle" ∧ (parseMethodDescriptor yX3_isFigure.desc).map (fun d => d.parameters.length) = some 1 := by decide +kernel
set_option maxHeartbeats 4000000 in
set_option maxRecDepth 100000 in
theorem wX3_isFigure_b0 {p : Program} {l : Launch} {e : Env} {s : State} {m : MethodId} {args : Array Value} {below : List Frame} {meth : Method} {c : Code} {Q : State → Prop} {G : va_G} {K : Nat → ClassId} {A : Nat → Prop} {tt : Nat → Nat} {L : List Nat} {la : Nat → Nat} {sa : Nat → Nat} {ln : Nat → Int32} {sy : Nat → Int32} {sn : Nat → Int32} {lt : Nat → Nat → Int32} {st : Nat → Nat → Int32} (C0 : CX p s m args c cX3_isFigure 2 RX3 G K (EC G K tt L la sa ln sy sn lt st) A) (rd_a rdA_letters rdA_tape : Nat) (rd_length : Int32) (rd_at : Int32) (rd_fault : Int32) (rd_place : Int32) (rd_letters : Nat → Int32) (rd_tape : Nat → Int32) (p1 : Int32) (r : Int32)  (kr : ∀ (H : Heap) (locs : List Loc) (ls : Array Slot) (pc : Nat), decode cX3_isFigure pc = .ok (.ireturn, 1) → (r = 0 ∨ r = 1) → va_P G vwCl (WX3_isFigure K rd_a rdA_letters rdA_tape rd_length rd_at rd_fault rd_place rd_letters rd_tape) H → va_D A (WX3_isFigure K rd_a rdA_letters rdA_tape rd_length rd_at rd_fault rd_place rd_letters rd_tape) → va_S A s.heap H locs → W p l e rmX3_isFigure s m args below meth c H locs 0 0 Q (F0 m pc ls [.int r]))  (hM : mX3_isFigure_b0 rd_length rd_tape p1   = some r) : ∀ (H : Heap) (locs : List Loc) (ls : Array Slot), va_P G vwCl (WX3_isFigure K rd_a rdA_letters rdA_tape rd_length rd_at rd_fault rd_place rd_letters rd_tape) H → va_D A (WX3_isFigure K rd_a rdA_letters rdA_tape rd_length rd_at rd_fault rd_place rd_letters rd_tape) → va_S A s.heap H locs → lv_has ls 2 [(0, .ref rd_a), (1, .int p1)] → W p l e rmX3_isFigure s m args below meth c H locs 0 0 Q (F0 m 0 ls []) := by
  obtain ⟨hx, hb, hml, hown, hts, hK, hA, hEo, hE⟩ := id C0
  intro H locs ls hP hD hS hl
  unfold mX3_isFigure_b0 at hM
  refine lv_aload_n hx hb dX3_isFigure_0 rfl (lv_at hl 0 rfl) ?_
  refine lv_iload_n hx hb dX3_isFigure_1 rfl (lv_at hl 1 rfl) ?_
  obtain ⟨r_1, hC, hM⟩ := oe1 hM
  refine cV_i (As := [.int p1]) (rest := []) C0 hP hD hS [0, 1, 2] (kX3_byteAt l G K tt L la sa ln sy sn lt st rd_a rdA_letters rdA_tape rd_length rd_at rd_fault rd_place rd_letters rd_tape p1 H.size r_1 hC) rfl rfl rfl tb347 tb348 tb349 tb2 tb350 hdX3_byteAt (va_recv hK hP (ci := 3) (q0 := 0) rfl rfl) ⟨Nat.le_of_ble_eq_true rfl, Nat.le_of_ble_eq_true rfl⟩ rfl hl.1 (Nat.le_of_ble_eq_true rfl) rfl ⟨Nat.le_refl _, Nat.le_refl _⟩ dX3_isFigure_2 (fun H locs hP hD hS => ?_)
  have hP : va_P G vwCl (WX3_isFigure K rd_a rdA_letters rdA_tape rd_length rd_at rd_fault rd_place rd_letters rd_tape) H := hP
  have hD : va_D A (WX3_isFigure K rd_a rdA_letters rdA_tape rd_length rd_at rd_fault rd_place rd_letters rd_tape) := hD
  refine lv_bipush (v := 48) hx hb dX3_isFigure_5 (by decide) ?_
  refine lv_icmp_lt (tgt := 24) hx hb dX3_isFigure_7 (by decide) (fun c_2 => ?_) (fun c_2 => ?_)
  · rw [if_pos c_2] at hM
    refine lv_iconst (v := 0) hx hb dX3_isFigure_24 (by decide) ?_
    have q1 := Option.some.inj hM
    subst q1
    exact kr _ _ _ _ dX3_isFigure_25 (by decide) hP hD hS
  · rw [if_neg c_2] at hM
    refine lv_aload_n hx hb dX3_isFigure_10 rfl (lv_at hl 0 rfl) ?_
    refine lv_iload_n hx hb dX3_isFigure_11 rfl (lv_at hl 1 rfl) ?_
    obtain ⟨r_3, hC, hM⟩ := oe1 hM
    refine cV_i (As := [.int p1]) (rest := []) C0 hP hD hS [0, 1, 2] (kX3_byteAt l G K tt L la sa ln sy sn lt st rd_a rdA_letters rdA_tape rd_length rd_at rd_fault rd_place rd_letters rd_tape p1 H.size r_3 hC) rfl rfl rfl tb347 tb348 tb349 tb2 tb350 hdX3_byteAt (va_recv hK hP (ci := 3) (q0 := 0) rfl rfl) ⟨Nat.le_of_ble_eq_true rfl, Nat.le_of_ble_eq_true rfl⟩ rfl hl.1 (Nat.le_of_ble_eq_true rfl) rfl ⟨Nat.le_refl _, Nat.le_refl _⟩ dX3_isFigure_12 (fun H locs hP hD hS => ?_)
    have hP : va_P G vwCl (WX3_isFigure K rd_a rdA_letters rdA_tape rd_length rd_at rd_fault rd_place rd_letters rd_tape) H := hP
    have hD : va_D A (WX3_isFigure K rd_a rdA_letters rdA_tape rd_length rd_at rd_fault rd_place rd_letters rd_tape) := hD
    refine lv_bipush (v := 57) hx hb dX3_isFigure_15 (by decide) ?_
    refine lv_icmp_gt (tgt := 24) hx hb dX3_isFigure_17 (by decide) (fun c_4 => ?_) (fun c_4 => ?_)
    · rw [if_pos c_4] at hM
      refine lv_iconst (v := 0) hx hb dX3_isFigure_24 (by decide) ?_
      have q1 := Option.some.inj hM
      subst q1
      exact kr _ _ _ _ dX3_isFigure_25 (by decide) hP hD hS
    · rw [if_neg c_4] at hM
      refine lv_iconst (v := 1) hx hb dX3_isFigure_20 (by decide) ?_
      refine lv_goto (tgt := 25) hx hb dX3_isFigure_21 (by decide) ?_
      have q1 := Option.some.inj hM
      subst q1
      exact kr _ _ _ _ dX3_isFigure_25 (by decide) hP hD hS
set_option maxHeartbeats 4000000 in
set_option maxRecDepth 100000 in
theorem kX3_isFigure (l : Launch) (G : va_G) (K : Nat → ClassId) (tt : Nat → Nat) (L : List Nat) (la : Nat → Nat) (sa : Nat → Nat) (ln : Nat → Int32) (sy : Nat → Int32) (sn : Nat → Int32) (lt : Nat → Nat → Int32) (st : Nat → Nat → Int32) (rd_a rdA_letters rdA_tape : Nat) (rd_length : Int32) (rd_at : Int32) (rd_fault : Int32) (rd_place : Int32) (rd_letters : Nat → Int32) (rd_tape : Nat → Int32) (p1 : Int32) (sz : Nat) (r : Int32)  (hM : mX3_isFigure rd_length rd_tape p1 = some r) : Met l yX3_isFigure (mC yX3_isFigure cX3_isFigure 2 (some .boolean)) rmX3_isFigure (va_Pc [.ref rd_a, .int p1] (PCe G K (EC G K tt L la sa ln sy sn lt st) (WX3_isFigure K rd_a rdA_letters rdA_tape rd_length rd_at rd_fault rd_place rd_letters rd_tape) sz)) (va_Qi (fun (x : Int32) (_ : Unit) => x = r) (fun _ t => va_P G vwCl (WX3_isFigure K rd_a rdA_letters rdA_tape rd_length rd_at rd_fault rd_place rd_letters rd_tape) t.heap) (va_A (WX3_isFigure K rd_a rdA_letters rdA_tape rd_length rd_at rd_fault rd_place rd_letters rd_tape) sz)) rmX3_isFigure.cells rmX3_isFigure.slots (va_A (WX3_isFigure K rd_a rdA_letters rdA_tape rd_length rd_at rd_fault rd_place rd_letters rd_tape) sz) := by
  refine Met.ofW (cc := cX3_isFigure) (maxL := 2) (ret := (some .boolean)) (by decide) rfl ?_
  intro p e s m args below meth c s₁ B hml hv
  obtain ⟨rfl, hsz, hP, hK, hD0, hE⟩ := hv
  have hx := B.exec
  have hb := B.bytes
  have hr := B.returns
  have hts0 := atoms_spec (ws := mC yX3_isFigure cX3_isFigure 2 (some .boolean)) B.pre
  have hts : ∀ w ∈ tbG, w.before _ s = true := fun w h => hts0 w (List.mem_cons_of_mem _ h)
  have hown : s.vm.findClass RX3 = some m.cls := findClass_of_methodNamed B.named
  subst hsz
  have hD := hD0.self (sz := s.heap.size)
  generalize hAe : va_A (WX3_isFigure K rd_a rdA_letters rdA_tape rd_length rd_at rd_fault rd_place rd_letters rd_tape) s.heap.size = A at hD hE ⊢
  have hA : ∀ q : Nat, s.heap.size ≤ q → A q := fun q h => by rw [← hAe]; exact Or.inr h
  have hS : va_S A s.heap s.heap [] := va_S.rf
  have hl := lv_entry ([.ref rd_a, .int p1]) (n := 2) (Nat.le_of_ble_eq_true rfl)
  rw [lg_entry_eq]
  generalize (lg_sl ([.ref rd_a, .int p1]) ++ List.replicate (2 - (lg_sl ([.ref rd_a, .int p1])).length) Slot.unset).toArray = ls at hl ⊢
  have hl : lv_has ls 2 [(0, .ref rd_a), (1, .int p1)] := hl
  exact wX3_isFigure_b0 ⟨hx, hb, hml, hown, hts, hK, hA, EC_ok _ _ _ _ _ _ _ _ _ _ _, hE⟩ rd_a rdA_letters rdA_tape rd_length rd_at rd_fault rd_place rd_letters rd_tape p1 r (fun H locs ls pc hdg hz hP hD hS => W.zret (v := r) (ty := .boolean) hx hb hr (nar_b hz) (fun t ht hW => ⟨⟨r, (), rfl, rfl, (show va_P G vwCl _ t.heap by rw [ht]; exact hP)⟩, hS.F ht⟩) hS.2.2 hdg)   hM _ _ _ hP hD hS hl
abbrev WX3_readNumber (K : Nat → ClassId) (rd_a rdA_letters rdA_tape : Nat) (rd_length : Int32) (rd_at : Int32) (rd_fault : Int32) (rd_place : Int32) (rd_letters : Nat → Int32) (rd_tape : Nat → Int32) : va_W := [(rd_a, .inr (3, [.ref rdA_letters, .ref rdA_tape, .int rd_length, .int rd_at, .int rd_fault, .int rd_place])), aI K rdA_letters 8 rd_letters, aI K rdA_tape 130 rd_tape]
def rmX3_readNumber : Room := { frames := 2, cells := 0, slots := 0, locals := 42 }
theorem hdX3_readNumber : yX3_readNumber.cls = RX3 ∧ yX3_readNumber.cls ≠ "java/lang/invoke/MethodHandle" ∧ yX3_readNumber.cls ≠ "java/lang/invoke/VarHandle" ∧ (parseMethodDescriptor yX3_readNumber.desc).map (fun d => d.parameters.length) = some 2 := by decide +kernel
set_option maxHeartbeats 4000000 in
set_option maxRecDepth 100000 in
theorem wX3_readNumber_b58 {p : Program} {l : Launch} {e : Env} {s : State} {m : MethodId} {args : Array Value} {below : List Frame} {meth : Method} {c : Code} {Q : State → Prop} {G : va_G} {K : Nat → ClassId} {A : Nat → Prop} {tt : Nat → Nat} {L : List Nat} {la : Nat → Nat} {sa : Nat → Nat} {ln : Nat → Int32} {sy : Nat → Int32} {sn : Nat → Int32} {lt : Nat → Nat → Int32} {st : Nat → Nat → Int32} (C0 : CX p s m args c cX3_readNumber 6 RX3 G K (EC G K tt L la sa ln sy sn lt st) A) (rd_a rdA_letters rdA_tape : Nat) (rd_length : Int32) (rd_letters : Nat → Int32) (rd_tape : Nat → Int32) (p1 : Int32) (p2 : Int32) (r : Int32) (o_rd_at : Int32) (o_rd_fault : Int32) (o_rd_place : Int32) (kr : ∀ (H : Heap) (locs : List Loc) (ls : Array Slot) (pc : Nat), decode cX3_readNumber pc = .ok (.ireturn, 1) → va_P G vwCl (WX3_readNumber K rd_a rdA_letters rdA_tape rd_length o_rd_at o_rd_fault o_rd_place rd_letters rd_tape) H → va_D A (WX3_readNumber K rd_a rdA_letters rdA_tape rd_length o_rd_at o_rd_fault o_rd_place rd_letters rd_tape) → va_S A s.heap H locs → W p l e rmX3_readNumber s m args below meth c H locs 0 0 Q (F0 m pc ls [.int r])) (rd_at : Int32) (rd_fault : Int32) (rd_place : Int32) (hM : mX3_readNumber_b58 rd_length rd_tape p1 p2  rd_at rd_fault rd_place = some (r, o_rd_at, o_rd_fault, o_rd_place)) : ∀ (H : Heap) (locs : List Loc) (ls : Array Slot), va_P G vwCl (WX3_readNumber K rd_a rdA_letters rdA_tape rd_length rd_at rd_fault rd_place rd_letters rd_tape) H → va_D A (WX3_readNumber K rd_a rdA_letters rdA_tape rd_length rd_at rd_fault rd_place rd_letters rd_tape) → va_S A s.heap H locs → lv_has ls 6 [(0, .ref rd_a)] → W p l e rmX3_readNumber s m args below meth c H locs 0 0 Q (F0 m 58 ls []) := by
  obtain ⟨hx, hb, hml, hown, hts, hK, hA, hEo, hE⟩ := id C0
  intro H locs ls hP hD hS hl
  unfold mX3_readNumber_b58 at hM
  refine lv_aload_n hx hb dX3_readNumber_58 rfl (lv_at hl 0 rfl) ?_
  refine lv_aload_n hx hb dX3_readNumber_59 rfl (lv_at hl 0 rfl) ?_
  refine va_get (D := G) (ci := 3) (v := .int rd_at) (C := RX3) (T := TX3) (N := 6) hx hb hts inX3 hown hK hP 0 rfl rfl 3 (by decide) (hts _ tb33) (fun _ h9 => h9) rfl dX3_readNumber_60 ?_
  refine lv_iconst (v := 1) hx hb dX3_readNumber_63 (by decide) ?_
  obtain ⟨r_1, u0_1, u1_1, hC, hM⟩ := oe3 hM
  refine cV_i (As := [.int rd_at, .int (1 : Int32)]) (rest := []) C0 hP hD hS [0, 1, 2] (kX3_failAt l G K tt L la sa ln sy sn lt st rd_a rdA_letters rdA_tape rd_length rd_at rd_fault rd_place rd_letters rd_tape rd_at (1 : Int32) H.size r_1 u0_1 u1_1 hC) rfl rfl rfl tb351 tb352 tb353 tb2 tb354 hdX3_failAt (va_recv hK hP (ci := 3) (q0 := 0) rfl rfl) ⟨Nat.le_of_ble_eq_true rfl, Nat.le_of_ble_eq_true rfl⟩ rfl hl.1 (Nat.le_of_ble_eq_true rfl) rfl ⟨Nat.le_refl _, Nat.le_refl _⟩ dX3_readNumber_64 (fun H locs hP hD hS => ?_)
  have hP : va_P G vwCl (WX3_readNumber K rd_a rdA_letters rdA_tape rd_length rd_at u0_1 u1_1 rd_letters rd_tape) H := hP
  have hD : va_D A (WX3_readNumber K rd_a rdA_letters rdA_tape rd_length rd_at u0_1 u1_1 rd_letters rd_tape) := hD
  refine lv_pop hx hb dX3_readNumber_67 rfl ?_
  refine lv_ldc (v := -1000000) hx hb hown (hts _ tb365) dX3_readNumber_68 ?_
  have t0 := Option.some.inj hM
  obtain ⟨q1, t1⟩ := Prod.mk.inj t0
  obtain ⟨q2, t2⟩ := Prod.mk.inj t1
  obtain ⟨q3, t3⟩ := Prod.mk.inj t2
  subst q1
  subst q2
  subst q3
  subst t3
  exact kr _ _ _ _ dX3_readNumber_70 hP hD hS
set_option maxHeartbeats 4000000 in
set_option maxRecDepth 100000 in
theorem wX3_readNumber_b143 {p : Program} {l : Launch} {e : Env} {s : State} {m : MethodId} {args : Array Value} {below : List Frame} {meth : Method} {c : Code} {Q : State → Prop} {G : va_G} {K : Nat → ClassId} {A : Nat → Prop} {tt : Nat → Nat} {L : List Nat} {la : Nat → Nat} {sa : Nat → Nat} {ln : Nat → Int32} {sy : Nat → Int32} {sn : Nat → Int32} {lt : Nat → Nat → Int32} {st : Nat → Nat → Int32} (C0 : CX p s m args c cX3_readNumber 6 RX3 G K (EC G K tt L la sa ln sy sn lt st) A) (rd_a rdA_letters rdA_tape : Nat) (rd_length : Int32) (rd_letters : Nat → Int32) (rd_tape : Nat → Int32) (p1 : Int32) (p2 : Int32) (r : Int32) (o_rd_at : Int32) (o_rd_fault : Int32) (o_rd_place : Int32) (kr : ∀ (H : Heap) (locs : List Loc) (ls : Array Slot) (pc : Nat), decode cX3_readNumber pc = .ok (.ireturn, 1) → va_P G vwCl (WX3_readNumber K rd_a rdA_letters rdA_tape rd_length o_rd_at o_rd_fault o_rd_place rd_letters rd_tape) H → va_D A (WX3_readNumber K rd_a rdA_letters rdA_tape rd_length o_rd_at o_rd_fault o_rd_place rd_letters rd_tape) → va_S A s.heap H locs → W p l e rmX3_readNumber s m args below meth c H locs 0 0 Q (F0 m pc ls [.int r])) (rd_at : Int32) (rd_fault : Int32) (rd_place : Int32) (hM : mX3_readNumber_b143 rd_length rd_tape p1 p2  rd_at rd_fault rd_place = some (r, o_rd_at, o_rd_fault, o_rd_place)) : ∀ (H : Heap) (locs : List Loc) (ls : Array Slot), va_P G vwCl (WX3_readNumber K rd_a rdA_letters rdA_tape rd_length rd_at rd_fault rd_place rd_letters rd_tape) H → va_D A (WX3_readNumber K rd_a rdA_letters rdA_tape rd_length rd_at rd_fault rd_place rd_letters rd_tape) → va_S A s.heap H locs → lv_has ls 6 [(0, .ref rd_a)] → W p l e rmX3_readNumber s m args below meth c H locs 0 0 Q (F0 m 143 ls []) := by
  obtain ⟨hx, hb, hml, hown, hts, hK, hA, hEo, hE⟩ := id C0
  intro H locs ls hP hD hS hl
  unfold mX3_readNumber_b143 at hM
  refine lv_aload_n hx hb dX3_readNumber_143 rfl (lv_at hl 0 rfl) ?_
  refine lv_aload_n hx hb dX3_readNumber_144 rfl (lv_at hl 0 rfl) ?_
  refine va_get (D := G) (ci := 3) (v := .int rd_at) (C := RX3) (T := TX3) (N := 6) hx hb hts inX3 hown hK hP 0 rfl rfl 3 (by decide) (hts _ tb33) (fun _ h9 => h9) rfl dX3_readNumber_145 ?_
  refine lv_iconst (v := 2) hx hb dX3_readNumber_148 (by decide) ?_
  obtain ⟨r_2, u0_2, u1_2, hC, hM⟩ := oe3 hM
  refine cV_i (As := [.int rd_at, .int (2 : Int32)]) (rest := []) C0 hP hD hS [0, 1, 2] (kX3_failAt l G K tt L la sa ln sy sn lt st rd_a rdA_letters rdA_tape rd_length rd_at rd_fault rd_place rd_letters rd_tape rd_at (2 : Int32) H.size r_2 u0_2 u1_2 hC) rfl rfl rfl tb351 tb352 tb353 tb2 tb354 hdX3_failAt (va_recv hK hP (ci := 3) (q0 := 0) rfl rfl) ⟨Nat.le_of_ble_eq_true rfl, Nat.le_of_ble_eq_true rfl⟩ rfl hl.1 (Nat.le_of_ble_eq_true rfl) rfl ⟨Nat.le_refl _, Nat.le_refl _⟩ dX3_readNumber_149 (fun H locs hP hD hS => ?_)
  have hP : va_P G vwCl (WX3_readNumber K rd_a rdA_letters rdA_tape rd_length rd_at u0_2 u1_2 rd_letters rd_tape) H := hP
  have hD : va_D A (WX3_readNumber K rd_a rdA_letters rdA_tape rd_length rd_at u0_2 u1_2 rd_letters rd_tape) := hD
  refine lv_pop hx hb dX3_readNumber_152 rfl ?_
  refine lv_ldc (v := -1000000) hx hb hown (hts _ tb365) dX3_readNumber_153 ?_
  have t0 := Option.some.inj hM
  obtain ⟨q1, t1⟩ := Prod.mk.inj t0
  obtain ⟨q2, t2⟩ := Prod.mk.inj t1
  obtain ⟨q3, t3⟩ := Prod.mk.inj t2
  subst q1
  subst q2
  subst q3
  subst t3
  exact kr _ _ _ _ dX3_readNumber_155 hP hD hS
set_option maxHeartbeats 4000000 in
set_option maxRecDepth 100000 in
theorem wX3_readNumber_b131 {p : Program} {l : Launch} {e : Env} {s : State} {m : MethodId} {args : Array Value} {below : List Frame} {meth : Method} {c : Code} {Q : State → Prop} {G : va_G} {K : Nat → ClassId} {A : Nat → Prop} {tt : Nat → Nat} {L : List Nat} {la : Nat → Nat} {sa : Nat → Nat} {ln : Nat → Int32} {sy : Nat → Int32} {sn : Nat → Int32} {lt : Nat → Nat → Int32} {st : Nat → Nat → Int32} (C0 : CX p s m args c cX3_readNumber 6 RX3 G K (EC G K tt L la sa ln sy sn lt st) A) (rd_a rdA_letters rdA_tape : Nat) (rd_length : Int32) (rd_letters : Nat → Int32) (rd_tape : Nat → Int32) (p1 : Int32) (p2 : Int32) (r : Int32) (o_rd_at : Int32) (o_rd_fault : Int32) (o_rd_place : Int32) (kr : ∀ (H : Heap) (locs : List Loc) (ls : Array Slot) (pc : Nat), decode cX3_readNumber pc = .ok (.ireturn, 1) → va_P G vwCl (WX3_readNumber K rd_a rdA_letters rdA_tape rd_length o_rd_at o_rd_fault o_rd_place rd_letters rd_tape) H → va_D A (WX3_readNumber K rd_a rdA_letters rdA_tape rd_length o_rd_at o_rd_fault o_rd_place rd_letters rd_tape) → va_S A s.heap H locs → W p l e rmX3_readNumber s m args below meth c H locs 0 0 Q (F0 m pc ls [.int r])) (rd_at : Int32) (rd_fault : Int32) (rd_place : Int32) (x4 : Int32) (x5 : Int32) (hM : mX3_readNumber_b131 rd_length rd_tape p1 p2  rd_at rd_fault rd_place x4 x5 = some (r, o_rd_at, o_rd_fault, o_rd_place)) : ∀ (H : Heap) (locs : List Loc) (ls : Array Slot), va_P G vwCl (WX3_readNumber K rd_a rdA_letters rdA_tape rd_length rd_at rd_fault rd_place rd_letters rd_tape) H → va_D A (WX3_readNumber K rd_a rdA_letters rdA_tape rd_length rd_at rd_fault rd_place rd_letters rd_tape) → va_S A s.heap H locs → lv_has ls 6 [(0, .ref rd_a), (1, .int p1), (2, .int p2), (4, .int x4), (5, .int x5)] → W p l e rmX3_readNumber s m args below meth c H locs 0 0 Q (F0 m 131 ls []) := by
  obtain ⟨hx, hb, hml, hown, hts, hK, hA, hEo, hE⟩ := id C0
  intro H locs ls hP hD hS hl
  unfold mX3_readNumber_b131 at hM
  refine lv_iload hx hb dX3_readNumber_131 (lv_at hl 4 rfl) ?_
  refine lv_iload_n hx hb dX3_readNumber_133 rfl (lv_at hl 1 rfl) ?_
  refine lv_icmp_lt (tgt := 143) hx hb dX3_readNumber_134 (by decide) (fun c_3 => ?_) (fun c_3 => ?_)
  · rw [if_pos c_3] at hM
    exact wX3_readNumber_b143 C0 rd_a rdA_letters rdA_tape rd_length rd_letters rd_tape p1 p2 r o_rd_at o_rd_fault o_rd_place kr  rd_at rd_fault rd_place hM _ _ _ hP hD hS (lv_sub hl [0] rfl)
  · rw [if_neg c_3] at hM
    refine lv_iload hx hb dX3_readNumber_137 (lv_at hl 4 rfl) ?_
    refine lv_iload_n hx hb dX3_readNumber_139 rfl (lv_at hl 2 rfl) ?_
    refine lv_icmp_le (tgt := 156) hx hb dX3_readNumber_140 (by decide) (fun c_4 => ?_) (fun c_4 => ?_)
    · rw [if_pos c_4] at hM
      refine lv_aload_n hx hb dX3_readNumber_156 rfl (lv_at hl 0 rfl) ?_
      refine lv_dup hx hb dX3_readNumber_157 rfl ?_
      refine va_get (D := G) (ci := 3) (v := .int rd_at) (C := RX3) (T := TX3) (N := 6) hx hb hts inX3 hown hK hP 0 rfl rfl 3 (by decide) (hts _ tb33) (fun _ h9 => h9) rfl dX3_readNumber_158 ?_
      refine lv_iload hx hb dX3_readNumber_161 (lv_at hl 3 rfl) ?_
      refine lv_iadd hx hb dX3_readNumber_163 ?_
      refine va_put (D := G) (ci := 3) (v := .int (rd_at + x4)) (ty := .int) (C := RX3) (T := TX3) (N := 6) hx hb hts inX3 tyX3 tyX3_ok nmX3 hown hK hP hD hS 0 rfl rfl 3 (by decide) (hts _ tb33) (fun _ h9 => h9) rfl (tyX3_ok 3 (by decide)) rfl rfl (Nat.le_of_ble_eq_true rfl) dX3_readNumber_164 (fun H locs hP hD hS => ?_)
      have hP : va_P G vwCl (WX3_readNumber K rd_a rdA_letters rdA_tape rd_length (rd_at + x4) rd_fault rd_place rd_letters rd_tape) H := hP
      have hD : va_D A (WX3_readNumber K rd_a rdA_letters rdA_tape rd_length (rd_at + x4) rd_fault rd_place rd_letters rd_tape) := hD
      refine lv_iload hx hb dX3_readNumber_167 (lv_at hl 4 rfl) ?_
      have t0 := Option.some.inj hM
      obtain ⟨q1, t1⟩ := Prod.mk.inj t0
      obtain ⟨q2, t2⟩ := Prod.mk.inj t1
      obtain ⟨q3, t3⟩ := Prod.mk.inj t2
      subst q1
      subst q2
      subst q3
      subst t3
      exact kr _ _ _ _ dX3_readNumber_169 hP hD hS
    · rw [if_neg c_4] at hM
      exact wX3_readNumber_b143 C0 rd_a rdA_letters rdA_tape rd_length rd_letters rd_tape p1 p2 r o_rd_at o_rd_fault o_rd_place kr  rd_at rd_fault rd_place hM _ _ _ hP hD hS (lv_sub hl [0] rfl)
set_option maxHeartbeats 4000000 in
set_option maxRecDepth 100000 in
theorem wX3_readNumber_b89 {p : Program} {l : Launch} {e : Env} {s : State} {m : MethodId} {args : Array Value} {below : List Frame} {meth : Method} {c : Code} {Q : State → Prop} {G : va_G} {K : Nat → ClassId} {A : Nat → Prop} {tt : Nat → Nat} {L : List Nat} {la : Nat → Nat} {sa : Nat → Nat} {ln : Nat → Int32} {sy : Nat → Int32} {sn : Nat → Int32} {lt : Nat → Nat → Int32} {st : Nat → Nat → Int32} (C0 : CX p s m args c cX3_readNumber 6 RX3 G K (EC G K tt L la sa ln sy sn lt st) A) (rd_a rdA_letters rdA_tape : Nat) (rd_length : Int32) (rd_letters : Nat → Int32) (rd_tape : Nat → Int32) (p1 : Int32) (p2 : Int32) (r : Int32) (o_rd_at : Int32) (o_rd_fault : Int32) (o_rd_place : Int32) (kr : ∀ (H : Heap) (locs : List Loc) (ls : Array Slot) (pc : Nat), decode cX3_readNumber pc = .ok (.ireturn, 1) → va_P G vwCl (WX3_readNumber K rd_a rdA_letters rdA_tape rd_length o_rd_at o_rd_fault o_rd_place rd_letters rd_tape) H → va_D A (WX3_readNumber K rd_a rdA_letters rdA_tape rd_length o_rd_at o_rd_fault o_rd_place rd_letters rd_tape) → va_S A s.heap H locs → W p l e rmX3_readNumber s m args below meth c H locs 0 0 Q (F0 m pc ls [.int r])) (rd_at : Int32) (rd_fault : Int32) (rd_place : Int32) (s0 : Int32) (hM : mX3_readNumber_b89 rd_length rd_tape p1 p2  rd_at rd_fault rd_place s0 = some (r, o_rd_at, o_rd_fault, o_rd_place)) : ∀ (H : Heap) (locs : List Loc) (ls : Array Slot), va_P G vwCl (WX3_readNumber K rd_a rdA_letters rdA_tape rd_length rd_at rd_fault rd_place rd_letters rd_tape) H → va_D A (WX3_readNumber K rd_a rdA_letters rdA_tape rd_length rd_at rd_fault rd_place rd_letters rd_tape) → va_S A s.heap H locs → lv_has ls 6 [(0, .ref rd_a), (1, .int p1), (2, .int p2)] → W p l e rmX3_readNumber s m args below meth c H locs 0 0 Q (F0 m 89 ls [.int s0]) := by
  obtain ⟨hx, hb, hml, hown, hts, hK, hA, hEo, hE⟩ := id C0
  intro H locs ls hP hD hS hl
  unfold mX3_readNumber_b89 at hM
  refine lv_istore (lv' := [(4, .int s0), (0, .ref rd_a), (1, .int p1), (2, .int p2)]) hx hb dX3_readNumber_89 hl (by decide) rfl (fun ls hl => ?_)
  refine lv_aload_n hx hb dX3_readNumber_91 rfl (lv_at hl 1 rfl) ?_
  refine lv_aload_n hx hb dX3_readNumber_92 rfl (lv_at hl 1 rfl) ?_
  refine va_get (D := G) (ci := 3) (v := .int rd_at) (C := RX3) (T := TX3) (N := 6) hx hb hts inX3 hown hK hP 0 rfl rfl 3 (by decide) (hts _ tb33) (fun _ h9 => h9) rfl dX3_readNumber_93 ?_
  obtain ⟨r_5, hC, hM⟩ := oe1 hM
  refine cV_i (As := [.int rd_at]) (rest := []) C0 hP hD hS [0, 1, 2] (kX3_byteAt l G K tt L la sa ln sy sn lt st rd_a rdA_letters rdA_tape rd_length rd_at rd_fault rd_place rd_letters rd_tape rd_at H.size r_5 hC) rfl rfl rfl tb347 tb348 tb349 tb2 tb350 hdX3_byteAt (va_recv hK hP (ci := 3) (q0 := 0) rfl rfl) ⟨Nat.le_of_ble_eq_true rfl, Nat.le_of_ble_eq_true rfl⟩ rfl hl.1 (Nat.le_of_ble_eq_true rfl) rfl ⟨Nat.le_refl _, Nat.le_refl _⟩ dX3_readNumber_96 (fun H locs hP hD hS => ?_)
  have hP : va_P G vwCl (WX3_readNumber K rd_a rdA_letters rdA_tape rd_length rd_at rd_fault rd_place rd_letters rd_tape) H := hP
  have hD : va_D A (WX3_readNumber K rd_a rdA_letters rdA_tape rd_length rd_at rd_fault rd_place rd_letters rd_tape) := hD
  refine lv_bipush (v := 48) hx hb dX3_readNumber_99 (by decide) ?_
  refine lv_isub hx hb dX3_readNumber_101 ?_
  refine lv_istore (lv' := [(5, .int (r_5 - (48 : Int32))), (4, .int s0), (0, .ref rd_a), (1, .int p1), (2, .int p2)]) hx hb dX3_readNumber_102 hl (by decide) rfl (fun ls hl => ?_)
  refine lv_iload hx hb dX3_readNumber_104 (lv_at hl 1 rfl) ?_
  refine lv_iconst (v := 2) hx hb dX3_readNumber_106 (by decide) ?_
  refine lv_icmp_ne (tgt := 131) hx hb dX3_readNumber_107 (by decide) (fun c_6 => ?_) (fun c_6 => ?_)
  · rw [if_neg c_6] at hM
    exact wX3_readNumber_b131 C0 rd_a rdA_letters rdA_tape rd_length rd_letters rd_tape p1 p2 r o_rd_at o_rd_fault o_rd_place kr  rd_at rd_fault rd_place s0 (r_5 - (48 : Int32)) hM _ _ _ hP hD hS (lv_sub hl [2, 3, 4, 1, 0] rfl)
  · rw [if_pos c_6] at hM
    refine lv_bipush (v := 10) hx hb dX3_readNumber_110 (by decide) ?_
    refine lv_iload hx hb dX3_readNumber_112 (lv_at hl 0 rfl) ?_
    refine lv_imul hx hb dX3_readNumber_114 ?_
    refine lv_aload_n hx hb dX3_readNumber_115 rfl (lv_at hl 2 rfl) ?_
    refine lv_aload_n hx hb dX3_readNumber_116 rfl (lv_at hl 2 rfl) ?_
    refine va_get (D := G) (ci := 3) (v := .int rd_at) (C := RX3) (T := TX3) (N := 6) hx hb hts inX3 hown hK hP 0 rfl rfl 3 (by decide) (hts _ tb33) (fun _ h9 => h9) rfl dX3_readNumber_117 ?_
    refine lv_iconst (v := 1) hx hb dX3_readNumber_120 (by decide) ?_
    refine lv_iadd hx hb dX3_readNumber_121 ?_
    obtain ⟨r_7, hC, hM⟩ := oe1 hM
    refine cV_i (As := [.int (rd_at + (1 : Int32))]) (rest := [.int ((10 : Int32) * (r_5 - (48 : Int32)))]) C0 hP hD hS [0, 1, 2] (kX3_byteAt l G K tt L la sa ln sy sn lt st rd_a rdA_letters rdA_tape rd_length rd_at rd_fault rd_place rd_letters rd_tape (rd_at + (1 : Int32)) H.size r_7 hC) rfl rfl rfl tb347 tb348 tb349 tb2 tb350 hdX3_byteAt (va_recv hK hP (ci := 3) (q0 := 0) rfl rfl) ⟨Nat.le_of_ble_eq_true rfl, Nat.le_of_ble_eq_true rfl⟩ rfl hl.1 (Nat.le_of_ble_eq_true rfl) rfl ⟨Nat.le_refl _, Nat.le_refl _⟩ dX3_readNumber_122 (fun H locs hP hD hS => ?_)
    have hP : va_P G vwCl (WX3_readNumber K rd_a rdA_letters rdA_tape rd_length rd_at rd_fault rd_place rd_letters rd_tape) H := hP
    have hD : va_D A (WX3_readNumber K rd_a rdA_letters rdA_tape rd_length rd_at rd_fault rd_place rd_letters rd_tape) := hD
    refine lv_iadd hx hb dX3_readNumber_125 ?_
    refine lv_bipush (v := 48) hx hb dX3_readNumber_126 (by decide) ?_
    refine lv_isub hx hb dX3_readNumber_128 ?_
    refine lv_istore (lv' := [(5, .int ((((10 : Int32) * (r_5 - (48 : Int32))) + r_7) - (48 : Int32))), (4, .int s0), (0, .ref rd_a), (1, .int p1), (2, .int p2)]) hx hb dX3_readNumber_129 hl (by decide) rfl (fun ls hl => ?_)
    exact wX3_readNumber_b131 C0 rd_a rdA_letters rdA_tape rd_length rd_letters rd_tape p1 p2 r o_rd_at o_rd_fault o_rd_place kr  rd_at rd_fault rd_place s0 ((((10 : Int32) * (r_5 - (48 : Int32))) + r_7) - (48 : Int32)) hM _ _ _ hP hD hS (lv_sub hl [2, 3, 4, 1, 0] rfl)
set_option maxHeartbeats 4000000 in
set_option maxRecDepth 100000 in
theorem wX3_readNumber_b42 {p : Program} {l : Launch} {e : Env} {s : State} {m : MethodId} {args : Array Value} {below : List Frame} {meth : Method} {c : Code} {Q : State → Prop} {G : va_G} {K : Nat → ClassId} {A : Nat → Prop} {tt : Nat → Nat} {L : List Nat} {la : Nat → Nat} {sa : Nat → Nat} {ln : Nat → Int32} {sy : Nat → Int32} {sn : Nat → Int32} {lt : Nat → Nat → Int32} {st : Nat → Nat → Int32} (C0 : CX p s m args c cX3_readNumber 6 RX3 G K (EC G K tt L la sa ln sy sn lt st) A) (rd_a rdA_letters rdA_tape : Nat) (rd_length : Int32) (rd_letters : Nat → Int32) (rd_tape : Nat → Int32) (p1 : Int32) (p2 : Int32) (r : Int32) (o_rd_at : Int32) (o_rd_fault : Int32) (o_rd_place : Int32) (kr : ∀ (H : Heap) (locs : List Loc) (ls : Array Slot) (pc : Nat), decode cX3_readNumber pc = .ok (.ireturn, 1) → va_P G vwCl (WX3_readNumber K rd_a rdA_letters rdA_tape rd_length o_rd_at o_rd_fault o_rd_place rd_letters rd_tape) H → va_D A (WX3_readNumber K rd_a rdA_letters rdA_tape rd_length o_rd_at o_rd_fault o_rd_place rd_letters rd_tape) → va_S A s.heap H locs → W p l e rmX3_readNumber s m args below meth c H locs 0 0 Q (F0 m pc ls [.int r])) (rd_at : Int32) (rd_fault : Int32) (rd_place : Int32) (s0 : Int32) (hM : mX3_readNumber_b42 rd_length rd_tape p1 p2  rd_at rd_fault rd_place s0 = some (r, o_rd_at, o_rd_fault, o_rd_place)) : ∀ (H : Heap) (locs : List Loc) (ls : Array Slot), va_P G vwCl (WX3_readNumber K rd_a rdA_letters rdA_tape rd_length rd_at rd_fault rd_place rd_letters rd_tape) H → va_D A (WX3_readNumber K rd_a rdA_letters rdA_tape rd_length rd_at rd_fault rd_place rd_letters rd_tape) → va_S A s.heap H locs → lv_has ls 6 [(0, .ref rd_a), (1, .int p1), (2, .int p2)] → W p l e rmX3_readNumber s m args below meth c H locs 0 0 Q (F0 m 42 ls [.int s0]) := by
  obtain ⟨hx, hb, hml, hown, hts, hK, hA, hEo, hE⟩ := id C0
  intro H locs ls hP hD hS hl
  unfold mX3_readNumber_b42 at hM
  refine lv_istore_n (lv' := [(3, .int s0), (0, .ref rd_a), (1, .int p1), (2, .int p2)]) hx hb dX3_readNumber_42 rfl hl (by decide) rfl (fun ls hl => ?_)
  refine lv_aload_n hx hb dX3_readNumber_43 rfl (lv_at hl 1 rfl) ?_
  refine lv_aload_n hx hb dX3_readNumber_44 rfl (lv_at hl 1 rfl) ?_
  refine va_get (D := G) (ci := 3) (v := .int rd_at) (C := RX3) (T := TX3) (N := 6) hx hb hts inX3 hown hK hP 0 rfl rfl 3 (by decide) (hts _ tb33) (fun _ h9 => h9) rfl dX3_readNumber_45 ?_
  obtain ⟨r_8, hC, hM⟩ := oe1 hM
  refine cV_i (As := [.int rd_at]) (rest := []) C0 hP hD hS [0, 1, 2] (kX3_isFigure l G K tt L la sa ln sy sn lt st rd_a rdA_letters rdA_tape rd_length rd_at rd_fault rd_place rd_letters rd_tape rd_at H.size r_8 hC) rfl rfl rfl tb361 tb362 tb363 tb2 tb364 hdX3_isFigure (va_recv hK hP (ci := 3) (q0 := 0) rfl rfl) ⟨Nat.le_of_ble_eq_true rfl, Nat.le_of_ble_eq_true rfl⟩ rfl hl.1 (Nat.le_of_ble_eq_true rfl) rfl ⟨Nat.le_refl _, Nat.le_refl _⟩ dX3_readNumber_48 (fun H locs hP hD hS => ?_)
  have hP : va_P G vwCl (WX3_readNumber K rd_a rdA_letters rdA_tape rd_length rd_at rd_fault rd_place rd_letters rd_tape) H := hP
  have hD : va_D A (WX3_readNumber K rd_a rdA_letters rdA_tape rd_length rd_at rd_fault rd_place rd_letters rd_tape) := hD
  refine lv_if_eq (tgt := 58) hx hb dX3_readNumber_51 (by decide) (fun c_9 => ?_) (fun c_9 => ?_)
  · rw [if_pos c_9] at hM
    exact wX3_readNumber_b58 C0 rd_a rdA_letters rdA_tape rd_length rd_letters rd_tape p1 p2 r o_rd_at o_rd_fault o_rd_place kr  rd_at rd_fault rd_place hM _ _ _ hP hD hS (lv_sub hl [1] rfl)
  · rw [if_neg c_9] at hM
    refine lv_iload_n hx hb dX3_readNumber_54 rfl (lv_at hl 0 rfl) ?_
    refine lv_if_eq (tgt := 71) hx hb dX3_readNumber_55 (by decide) (fun c_10 => ?_) (fun c_10 => ?_)
    · rw [if_pos c_10] at hM
      refine lv_aload_n hx hb dX3_readNumber_71 rfl (lv_at hl 1 rfl) ?_
      refine lv_aload_n hx hb dX3_readNumber_72 rfl (lv_at hl 1 rfl) ?_
      refine va_get (D := G) (ci := 3) (v := .int rd_at) (C := RX3) (T := TX3) (N := 6) hx hb hts inX3 hown hK hP 0 rfl rfl 3 (by decide) (hts _ tb33) (fun _ h9 => h9) rfl dX3_readNumber_73 ?_
      refine lv_iconst (v := 1) hx hb dX3_readNumber_76 (by decide) ?_
      refine lv_iadd hx hb dX3_readNumber_77 ?_
      obtain ⟨r_11, hC, hM⟩ := oe1 hM
      refine cV_i (As := [.int (rd_at + (1 : Int32))]) (rest := []) C0 hP hD hS [0, 1, 2] (kX3_isFigure l G K tt L la sa ln sy sn lt st rd_a rdA_letters rdA_tape rd_length rd_at rd_fault rd_place rd_letters rd_tape (rd_at + (1 : Int32)) H.size r_11 hC) rfl rfl rfl tb361 tb362 tb363 tb2 tb364 hdX3_isFigure (va_recv hK hP (ci := 3) (q0 := 0) rfl rfl) ⟨Nat.le_of_ble_eq_true rfl, Nat.le_of_ble_eq_true rfl⟩ rfl hl.1 (Nat.le_of_ble_eq_true rfl) rfl ⟨Nat.le_refl _, Nat.le_refl _⟩ dX3_readNumber_78 (fun H locs hP hD hS => ?_)
      have hP : va_P G vwCl (WX3_readNumber K rd_a rdA_letters rdA_tape rd_length rd_at rd_fault rd_place rd_letters rd_tape) H := hP
      have hD : va_D A (WX3_readNumber K rd_a rdA_letters rdA_tape rd_length rd_at rd_fault rd_place rd_letters rd_tape) := hD
      refine lv_if_eq (tgt := 88) hx hb dX3_readNumber_81 (by decide) (fun c_12 => ?_) (fun c_12 => ?_)
      · rw [if_pos c_12] at hM
        refine lv_iconst (v := 1) hx hb dX3_readNumber_88 (by decide) ?_
        exact wX3_readNumber_b89 C0 rd_a rdA_letters rdA_tape rd_length rd_letters rd_tape p1 p2 r o_rd_at o_rd_fault o_rd_place kr  rd_at rd_fault rd_place (1 : Int32) hM _ _ _ hP hD hS (lv_sub hl [1, 2, 3] rfl)
      · rw [if_neg c_12] at hM
        refine lv_iconst (v := 2) hx hb dX3_readNumber_84 (by decide) ?_
        refine lv_goto (tgt := 89) hx hb dX3_readNumber_85 (by decide) ?_
        exact wX3_readNumber_b89 C0 rd_a rdA_letters rdA_tape rd_length rd_letters rd_tape p1 p2 r o_rd_at o_rd_fault o_rd_place kr  rd_at rd_fault rd_place (2 : Int32) hM _ _ _ hP hD hS (lv_sub hl [1, 2, 3] rfl)
    · rw [if_neg c_10] at hM
      exact wX3_readNumber_b58 C0 rd_a rdA_letters rdA_tape rd_length rd_letters rd_tape p1 p2 r o_rd_at o_rd_fault o_rd_place kr  rd_at rd_fault rd_place hM _ _ _ hP hD hS (lv_sub hl [1] rfl)
set_option maxHeartbeats 4000000 in
set_option maxRecDepth 100000 in
theorem wX3_readNumber_b41 {p : Program} {l : Launch} {e : Env} {s : State} {m : MethodId} {args : Array Value} {below : List Frame} {meth : Method} {c : Code} {Q : State → Prop} {G : va_G} {K : Nat → ClassId} {A : Nat → Prop} {tt : Nat → Nat} {L : List Nat} {la : Nat → Nat} {sa : Nat → Nat} {ln : Nat → Int32} {sy : Nat → Int32} {sn : Nat → Int32} {lt : Nat → Nat → Int32} {st : Nat → Nat → Int32} (C0 : CX p s m args c cX3_readNumber 6 RX3 G K (EC G K tt L la sa ln sy sn lt st) A) (rd_a rdA_letters rdA_tape : Nat) (rd_length : Int32) (rd_letters : Nat → Int32) (rd_tape : Nat → Int32) (p1 : Int32) (p2 : Int32) (r : Int32) (o_rd_at : Int32) (o_rd_fault : Int32) (o_rd_place : Int32) (kr : ∀ (H : Heap) (locs : List Loc) (ls : Array Slot) (pc : Nat), decode cX3_readNumber pc = .ok (.ireturn, 1) → va_P G vwCl (WX3_readNumber K rd_a rdA_letters rdA_tape rd_length o_rd_at o_rd_fault o_rd_place rd_letters rd_tape) H → va_D A (WX3_readNumber K rd_a rdA_letters rdA_tape rd_length o_rd_at o_rd_fault o_rd_place rd_letters rd_tape) → va_S A s.heap H locs → W p l e rmX3_readNumber s m args below meth c H locs 0 0 Q (F0 m pc ls [.int r])) (rd_at : Int32) (rd_fault : Int32) (rd_place : Int32) (hM : mX3_readNumber_b41 rd_length rd_tape p1 p2  rd_at rd_fault rd_place = some (r, o_rd_at, o_rd_fault, o_rd_place)) : ∀ (H : Heap) (locs : List Loc) (ls : Array Slot), va_P G vwCl (WX3_readNumber K rd_a rdA_letters rdA_tape rd_length rd_at rd_fault rd_place rd_letters rd_tape) H → va_D A (WX3_readNumber K rd_a rdA_letters rdA_tape rd_length rd_at rd_fault rd_place rd_letters rd_tape) → va_S A s.heap H locs → lv_has ls 6 [(0, .ref rd_a), (1, .int p1), (2, .int p2)] → W p l e rmX3_readNumber s m args below meth c H locs 0 0 Q (F0 m 41 ls []) := by
  obtain ⟨hx, hb, hml, hown, hts, hK, hA, hEo, hE⟩ := id C0
  intro H locs ls hP hD hS hl
  unfold mX3_readNumber_b41 at hM
  refine lv_iconst (v := 0) hx hb dX3_readNumber_41 (by decide) ?_
  exact wX3_readNumber_b42 C0 rd_a rdA_letters rdA_tape rd_length rd_letters rd_tape p1 p2 r o_rd_at o_rd_fault o_rd_place kr  rd_at rd_fault rd_place (0 : Int32) hM _ _ _ hP hD hS (lv_sub hl [0, 1, 2] rfl)
set_option maxHeartbeats 4000000 in
set_option maxRecDepth 100000 in
theorem wX3_readNumber_b0 {p : Program} {l : Launch} {e : Env} {s : State} {m : MethodId} {args : Array Value} {below : List Frame} {meth : Method} {c : Code} {Q : State → Prop} {G : va_G} {K : Nat → ClassId} {A : Nat → Prop} {tt : Nat → Nat} {L : List Nat} {la : Nat → Nat} {sa : Nat → Nat} {ln : Nat → Int32} {sy : Nat → Int32} {sn : Nat → Int32} {lt : Nat → Nat → Int32} {st : Nat → Nat → Int32} (C0 : CX p s m args c cX3_readNumber 6 RX3 G K (EC G K tt L la sa ln sy sn lt st) A) (rd_a rdA_letters rdA_tape : Nat) (rd_length : Int32) (rd_letters : Nat → Int32) (rd_tape : Nat → Int32) (p1 : Int32) (p2 : Int32) (r : Int32) (o_rd_at : Int32) (o_rd_fault : Int32) (o_rd_place : Int32) (kr : ∀ (H : Heap) (locs : List Loc) (ls : Array Slot) (pc : Nat), decode cX3_readNumber pc = .ok (.ireturn, 1) → va_P G vwCl (WX3_readNumber K rd_a rdA_letters rdA_tape rd_length o_rd_at o_rd_fault o_rd_place rd_letters rd_tape) H → va_D A (WX3_readNumber K rd_a rdA_letters rdA_tape rd_length o_rd_at o_rd_fault o_rd_place rd_letters rd_tape) → va_S A s.heap H locs → W p l e rmX3_readNumber s m args below meth c H locs 0 0 Q (F0 m pc ls [.int r])) (rd_at : Int32) (rd_fault : Int32) (rd_place : Int32) (hM : mX3_readNumber_b0 rd_length rd_tape p1 p2  rd_at rd_fault rd_place = some (r, o_rd_at, o_rd_fault, o_rd_place)) : ∀ (H : Heap) (locs : List Loc) (ls : Array Slot), va_P G vwCl (WX3_readNumber K rd_a rdA_letters rdA_tape rd_length rd_at rd_fault rd_place rd_letters rd_tape) H → va_D A (WX3_readNumber K rd_a rdA_letters rdA_tape rd_length rd_at rd_fault rd_place rd_letters rd_tape) → va_S A s.heap H locs → lv_has ls 6 [(0, .ref rd_a), (1, .int p1), (2, .int p2)] → W p l e rmX3_readNumber s m args below meth c H locs 0 0 Q (F0 m 0 ls []) := by
  obtain ⟨hx, hb, hml, hown, hts, hK, hA, hEo, hE⟩ := id C0
  intro H locs ls hP hD hS hl
  unfold mX3_readNumber_b0 at hM
  refine lv_aload_n hx hb dX3_readNumber_0 rfl (lv_at hl 0 rfl) ?_
  refine lv_aload_n hx hb dX3_readNumber_1 rfl (lv_at hl 0 rfl) ?_
  refine va_get (D := G) (ci := 3) (v := .int rd_at) (C := RX3) (T := TX3) (N := 6) hx hb hts inX3 hown hK hP 0 rfl rfl 3 (by decide) (hts _ tb33) (fun _ h9 => h9) rfl dX3_readNumber_2 ?_
  obtain ⟨r_13, hC, hM⟩ := oe1 hM
  refine cV_i (As := [.int rd_at]) (rest := []) C0 hP hD hS [0, 1, 2] (kX3_isFigure l G K tt L la sa ln sy sn lt st rd_a rdA_letters rdA_tape rd_length rd_at rd_fault rd_place rd_letters rd_tape rd_at H.size r_13 hC) rfl rfl rfl tb361 tb362 tb363 tb2 tb364 hdX3_isFigure (va_recv hK hP (ci := 3) (q0 := 0) rfl rfl) ⟨Nat.le_of_ble_eq_true rfl, Nat.le_of_ble_eq_true rfl⟩ rfl hl.1 (Nat.le_of_ble_eq_true rfl) rfl ⟨Nat.le_refl _, Nat.le_refl _⟩ dX3_readNumber_5 (fun H locs hP hD hS => ?_)
  have hP : va_P G vwCl (WX3_readNumber K rd_a rdA_letters rdA_tape rd_length rd_at rd_fault rd_place rd_letters rd_tape) H := hP
  have hD : va_D A (WX3_readNumber K rd_a rdA_letters rdA_tape rd_length rd_at rd_fault rd_place rd_letters rd_tape) := hD
  refine lv_if_eq (tgt := 41) hx hb dX3_readNumber_8 (by decide) (fun c_14 => ?_) (fun c_14 => ?_)
  · rw [if_pos c_14] at hM
    exact wX3_readNumber_b41 C0 rd_a rdA_letters rdA_tape rd_length rd_letters rd_tape p1 p2 r o_rd_at o_rd_fault o_rd_place kr  rd_at rd_fault rd_place hM _ _ _ hP hD hS (lv_sub hl [0, 1, 2] rfl)
  · rw [if_neg c_14] at hM
    refine lv_aload_n hx hb dX3_readNumber_11 rfl (lv_at hl 0 rfl) ?_
    refine lv_aload_n hx hb dX3_readNumber_12 rfl (lv_at hl 0 rfl) ?_
    refine va_get (D := G) (ci := 3) (v := .int rd_at) (C := RX3) (T := TX3) (N := 6) hx hb hts inX3 hown hK hP 0 rfl rfl 3 (by decide) (hts _ tb33) (fun _ h9 => h9) rfl dX3_readNumber_13 ?_
    refine lv_iconst (v := 1) hx hb dX3_readNumber_16 (by decide) ?_
    refine lv_iadd hx hb dX3_readNumber_17 ?_
    obtain ⟨r_15, hC, hM⟩ := oe1 hM
    refine cV_i (As := [.int (rd_at + (1 : Int32))]) (rest := []) C0 hP hD hS [0, 1, 2] (kX3_isFigure l G K tt L la sa ln sy sn lt st rd_a rdA_letters rdA_tape rd_length rd_at rd_fault rd_place rd_letters rd_tape (rd_at + (1 : Int32)) H.size r_15 hC) rfl rfl rfl tb361 tb362 tb363 tb2 tb364 hdX3_isFigure (va_recv hK hP (ci := 3) (q0 := 0) rfl rfl) ⟨Nat.le_of_ble_eq_true rfl, Nat.le_of_ble_eq_true rfl⟩ rfl hl.1 (Nat.le_of_ble_eq_true rfl) rfl ⟨Nat.le_refl _, Nat.le_refl _⟩ dX3_readNumber_18 (fun H locs hP hD hS => ?_)
    have hP : va_P G vwCl (WX3_readNumber K rd_a rdA_letters rdA_tape rd_length rd_at rd_fault rd_place rd_letters rd_tape) H := hP
    have hD : va_D A (WX3_readNumber K rd_a rdA_letters rdA_tape rd_length rd_at rd_fault rd_place rd_letters rd_tape) := hD
    refine lv_if_eq (tgt := 41) hx hb dX3_readNumber_21 (by decide) (fun c_16 => ?_) (fun c_16 => ?_)
    · rw [if_pos c_16] at hM
      exact wX3_readNumber_b41 C0 rd_a rdA_letters rdA_tape rd_length rd_letters rd_tape p1 p2 r o_rd_at o_rd_fault o_rd_place kr  rd_at rd_fault rd_place hM _ _ _ hP hD hS (lv_sub hl [0, 1, 2] rfl)
    · rw [if_neg c_16] at hM
      refine lv_aload_n hx hb dX3_readNumber_24 rfl (lv_at hl 0 rfl) ?_
      refine lv_aload_n hx hb dX3_readNumber_25 rfl (lv_at hl 0 rfl) ?_
      refine va_get (D := G) (ci := 3) (v := .int rd_at) (C := RX3) (T := TX3) (N := 6) hx hb hts inX3 hown hK hP 0 rfl rfl 3 (by decide) (hts _ tb33) (fun _ h9 => h9) rfl dX3_readNumber_26 ?_
      refine lv_iconst (v := 2) hx hb dX3_readNumber_29 (by decide) ?_
      refine lv_iadd hx hb dX3_readNumber_30 ?_
      obtain ⟨r_17, hC, hM⟩ := oe1 hM
      refine cV_i (As := [.int (rd_at + (2 : Int32))]) (rest := []) C0 hP hD hS [0, 1, 2] (kX3_isFigure l G K tt L la sa ln sy sn lt st rd_a rdA_letters rdA_tape rd_length rd_at rd_fault rd_place rd_letters rd_tape (rd_at + (2 : Int32)) H.size r_17 hC) rfl rfl rfl tb361 tb362 tb363 tb2 tb364 hdX3_isFigure (va_recv hK hP (ci := 3) (q0 := 0) rfl rfl) ⟨Nat.le_of_ble_eq_true rfl, Nat.le_of_ble_eq_true rfl⟩ rfl hl.1 (Nat.le_of_ble_eq_true rfl) rfl ⟨Nat.le_refl _, Nat.le_refl _⟩ dX3_readNumber_31 (fun H locs hP hD hS => ?_)
      have hP : va_P G vwCl (WX3_readNumber K rd_a rdA_letters rdA_tape rd_length rd_at rd_fault rd_place rd_letters rd_tape) H := hP
      have hD : va_D A (WX3_readNumber K rd_a rdA_letters rdA_tape rd_length rd_at rd_fault rd_place rd_letters rd_tape) := hD
      refine lv_if_eq (tgt := 41) hx hb dX3_readNumber_34 (by decide) (fun c_18 => ?_) (fun c_18 => ?_)
      · rw [if_pos c_18] at hM
        exact wX3_readNumber_b41 C0 rd_a rdA_letters rdA_tape rd_length rd_letters rd_tape p1 p2 r o_rd_at o_rd_fault o_rd_place kr  rd_at rd_fault rd_place hM _ _ _ hP hD hS (lv_sub hl [0, 1, 2] rfl)
      · rw [if_neg c_18] at hM
        refine lv_iconst (v := 1) hx hb dX3_readNumber_37 (by decide) ?_
        refine lv_goto (tgt := 42) hx hb dX3_readNumber_38 (by decide) ?_
        exact wX3_readNumber_b42 C0 rd_a rdA_letters rdA_tape rd_length rd_letters rd_tape p1 p2 r o_rd_at o_rd_fault o_rd_place kr  rd_at rd_fault rd_place (1 : Int32) hM _ _ _ hP hD hS (lv_sub hl [0, 1, 2] rfl)
set_option maxHeartbeats 4000000 in
set_option maxRecDepth 100000 in
theorem kX3_readNumber (l : Launch) (G : va_G) (K : Nat → ClassId) (tt : Nat → Nat) (L : List Nat) (la : Nat → Nat) (sa : Nat → Nat) (ln : Nat → Int32) (sy : Nat → Int32) (sn : Nat → Int32) (lt : Nat → Nat → Int32) (st : Nat → Nat → Int32) (rd_a rdA_letters rdA_tape : Nat) (rd_length : Int32) (rd_at : Int32) (rd_fault : Int32) (rd_place : Int32) (rd_letters : Nat → Int32) (rd_tape : Nat → Int32) (p1 : Int32) (p2 : Int32) (sz : Nat) (r : Int32) (o_rd_at : Int32) (o_rd_fault : Int32) (o_rd_place : Int32) (hM : mX3_readNumber rd_length rd_tape rd_at rd_fault rd_place p1 p2 = some (r, o_rd_at, o_rd_fault, o_rd_place)) : Met l yX3_readNumber (mC yX3_readNumber cX3_readNumber 6 (some .int)) rmX3_readNumber (va_Pc [.ref rd_a, .int p1, .int p2] (PCe G K (EC G K tt L la sa ln sy sn lt st) (WX3_readNumber K rd_a rdA_letters rdA_tape rd_length rd_at rd_fault rd_place rd_letters rd_tape) sz)) (va_Qi (fun (x : Int32) (_ : Unit) => x = r) (fun _ t => va_P G vwCl (WX3_readNumber K rd_a rdA_letters rdA_tape rd_length o_rd_at o_rd_fault o_rd_place rd_letters rd_tape) t.heap) (va_A (WX3_readNumber K rd_a rdA_letters rdA_tape rd_length rd_at rd_fault rd_place rd_letters rd_tape) sz)) rmX3_readNumber.cells rmX3_readNumber.slots (va_A (WX3_readNumber K rd_a rdA_letters rdA_tape rd_length rd_at rd_fault rd_place rd_letters rd_tape) sz) := by
  refine Met.ofW (cc := cX3_readNumber) (maxL := 6) (ret := (some .int)) (by decide) rfl ?_
  intro p e s m args below meth c s₁ B hml hv
  obtain ⟨rfl, hsz, hP, hK, hD0, hE⟩ := hv
  have hx := B.exec
  have hb := B.bytes
  have hr := B.returns
  have hts0 := atoms_spec (ws := mC yX3_readNumber cX3_readNumber 6 (some .int)) B.pre
  have hts : ∀ w ∈ tbG, w.before _ s = true := fun w h => hts0 w (List.mem_cons_of_mem _ h)
  have hown : s.vm.findClass RX3 = some m.cls := findClass_of_methodNamed B.named
  subst hsz
  have hD := hD0.self (sz := s.heap.size)
  generalize hAe : va_A (WX3_readNumber K rd_a rdA_letters rdA_tape rd_length rd_at rd_fault rd_place rd_letters rd_tape) s.heap.size = A at hD hE ⊢
  have hA : ∀ q : Nat, s.heap.size ≤ q → A q := fun q h => by rw [← hAe]; exact Or.inr h
  have hS : va_S A s.heap s.heap [] := va_S.rf
  have hl := lv_entry ([.ref rd_a, .int p1, .int p2]) (n := 6) (Nat.le_of_ble_eq_true rfl)
  rw [lg_entry_eq]
  generalize (lg_sl ([.ref rd_a, .int p1, .int p2]) ++ List.replicate (6 - (lg_sl ([.ref rd_a, .int p1, .int p2])).length) Slot.unset).toArray = ls at hl ⊢
  have hl : lv_has ls 6 [(0, .ref rd_a), (1, .int p1), (2, .int p2)] := hl
  exact wX3_readNumber_b0 ⟨hx, hb, hml, hown, hts, hK, hA, EC_ok _ _ _ _ _ _ _ _ _ _ _, hE⟩ rd_a rdA_letters rdA_tape rd_length rd_letters rd_tape p1 p2 r o_rd_at o_rd_fault o_rd_place (fun H locs ls pc hdg hP hD hS => W.iret (v := r) hx hb hr (fun t ht hW => ⟨⟨r, (), rfl, rfl, (show va_P G vwCl _ t.heap by rw [ht]; exact hP)⟩, hS.F ht⟩) hS.2.2 hdg) rd_at rd_fault rd_place  hM _ _ _ hP hD hS hl
abbrev WX3_readLaw (K : Nat → ClassId) (rd_a rdA_letters rdA_tape po_a poA_sizes poA_kinds poA_spelled poA_scheme : Nat) (rd_length : Int32) (rd_at : Int32) (rd_fault : Int32) (rd_place : Int32) (rd_letters : Nat → Int32) (rd_tape : Nat → Int32) (po_foot : Int32) (po_feet : Int32) (po_lines : Int32) (po_words : Int32) (po_sizes : Nat → Int32) (po_kinds : Nat → Int32) (po_spelled : Nat → Nat) (po_scheme : Nat → Int32) : va_W := [(rd_a, .inr (3, [.ref rdA_letters, .ref rdA_tape, .int rd_length, .int rd_at, .int rd_fault, .int rd_place])), aI K rdA_letters 8 rd_letters, aI K rdA_tape 130 rd_tape, (po_a, .inr (2, [.int po_foot, .int po_feet, .int po_lines, .int po_words, .ref poA_sizes, .ref poA_kinds, .ref poA_spelled, .ref poA_scheme])), aI K poA_sizes 4 po_sizes, aI K poA_kinds 20 po_kinds, aS K poA_spelled 20 po_spelled, aI K poA_scheme 4 po_scheme]
def rmX3_readLaw : Room := { frames := 3, cells := 0, slots := 0, locals := 67 }
theorem hdX3_readLaw : yX3_readLaw.cls = RX3 ∧ yX3_readLaw.cls ≠ "java/lang/invoke/MethodHandle" ∧ yX3_readLaw.cls ≠ "java/lang/invoke/VarHandle" ∧ (parseMethodDescriptor yX3_readLaw.desc).map (fun d => d.parameters.length) = some 1 := by decide +kernel
set_option maxHeartbeats 4000000 in
set_option maxRecDepth 100000 in
theorem wX3_readLaw_b0 {p : Program} {l : Launch} {e : Env} {s : State} {m : MethodId} {args : Array Value} {below : List Frame} {meth : Method} {c : Code} {Q : State → Prop} {G : va_G} {K : Nat → ClassId} {A : Nat → Prop} {tt : Nat → Nat} {L : List Nat} {la : Nat → Nat} {sa : Nat → Nat} {ln : Nat → Int32} {sy : Nat → Int32} {sn : Nat → Int32} {lt : Nat → Nat → Int32} {st : Nat → Nat → Int32} (C0 : CX p s m args c cX3_readLaw 2 RX3 G K (EC G K tt L la sa ln sy sn lt st) A) (rd_a rdA_letters rdA_tape po_a poA_sizes poA_kinds poA_spelled poA_scheme : Nat) (rd_length : Int32) (rd_letters : Nat → Int32) (rd_tape : Nat → Int32) (po_lines : Int32) (po_words : Int32) (po_sizes : Nat → Int32) (po_kinds : Nat → Int32) (po_spelled : Nat → Nat) (po_scheme : Nat → Int32)  (r : Int32) (o_rd_at : Int32) (o_rd_fault : Int32) (o_rd_place : Int32) (o_po_foot : Int32) (o_po_feet : Int32) (kr : ∀ (H : Heap) (locs : List Loc) (ls : Array Slot) (pc : Nat), decode cX3_readLaw pc = .ok (.ireturn, 1) → (r = 0 ∨ r = 1) → va_P G vwCl (WX3_readLaw K rd_a rdA_letters rdA_tape po_a poA_sizes poA_kinds poA_spelled poA_scheme rd_length o_rd_at o_rd_fault o_rd_place rd_letters rd_tape o_po_foot o_po_feet po_lines po_words po_sizes po_kinds po_spelled po_scheme) H → va_D A (WX3_readLaw K rd_a rdA_letters rdA_tape po_a poA_sizes poA_kinds poA_spelled poA_scheme rd_length o_rd_at o_rd_fault o_rd_place rd_letters rd_tape o_po_foot o_po_feet po_lines po_words po_sizes po_kinds po_spelled po_scheme) → va_S A s.heap H locs → W p l e rmX3_readLaw s m args below meth c H locs 0 0 Q (F0 m pc ls [.int r])) (rd_at : Int32) (rd_fault : Int32) (rd_place : Int32) (po_foot : Int32) (po_feet : Int32) (hM : mX3_readLaw_b0 rd_length rd_tape  rd_at rd_fault rd_place po_foot po_feet = some (r, o_rd_at, o_rd_fault, o_rd_place, o_po_foot, o_po_feet)) : ∀ (H : Heap) (locs : List Loc) (ls : Array Slot), va_P G vwCl (WX3_readLaw K rd_a rdA_letters rdA_tape po_a poA_sizes poA_kinds poA_spelled poA_scheme rd_length rd_at rd_fault rd_place rd_letters rd_tape po_foot po_feet po_lines po_words po_sizes po_kinds po_spelled po_scheme) H → va_D A (WX3_readLaw K rd_a rdA_letters rdA_tape po_a poA_sizes poA_kinds poA_spelled poA_scheme rd_length rd_at rd_fault rd_place rd_letters rd_tape po_foot po_feet po_lines po_words po_sizes po_kinds po_spelled po_scheme) → va_S A s.heap H locs → lv_has ls 2 [(0, .ref rd_a), (1, .ref po_a)] → W p l e rmX3_readLaw s m args below meth c H locs 0 0 Q (F0 m 0 ls []) := by
  obtain ⟨hx, hb, hml, hown, hts, hK, hA, hEo, hE⟩ := id C0
  intro H locs ls hP hD hS hl
  unfold mX3_readLaw_b0 at hM
  refine lv_aload_n hx hb dX3_readLaw_0 rfl (lv_at hl 0 rfl) ?_
  refine lv_bipush (v := 113) hx hb dX3_readLaw_1 (by decide) ?_
  obtain ⟨r_1, u0_1, u1_1, u2_1, hC, hM⟩ := oe4 hM
  refine cV_i (As := [.int (113 : Int32)]) (rest := []) C0 hP hD hS [0, 1, 2] (kX3_readSign l G K tt L la sa ln sy sn lt st rd_a rdA_letters rdA_tape rd_length rd_at rd_fault rd_place rd_letters rd_tape (113 : Int32) H.size r_1 u0_1 u1_1 u2_1 hC) rfl rfl rfl tb343 tb344 tb345 tb2 tb346 hdX3_readSign (va_recv hK hP (ci := 3) (q0 := 0) rfl rfl) ⟨Nat.le_of_ble_eq_true rfl, Nat.le_of_ble_eq_true rfl⟩ rfl hl.1 (Nat.le_of_ble_eq_true rfl) rfl ⟨Nat.le_refl _, Nat.le_refl _⟩ dX3_readLaw_3 (fun H locs hP hD hS => ?_)
  have hP : va_P G vwCl (WX3_readLaw K rd_a rdA_letters rdA_tape po_a poA_sizes poA_kinds poA_spelled poA_scheme rd_length u0_1 u1_1 u2_1 rd_letters rd_tape po_foot po_feet po_lines po_words po_sizes po_kinds po_spelled po_scheme) H := hP
  have hD : va_D A (WX3_readLaw K rd_a rdA_letters rdA_tape po_a poA_sizes poA_kinds poA_spelled poA_scheme rd_length u0_1 u1_1 u2_1 rd_letters rd_tape po_foot po_feet po_lines po_words po_sizes po_kinds po_spelled po_scheme) := hD
  refine lv_if_ne (tgt := 11) hx hb dX3_readLaw_6 (by decide) (fun c_2 => ?_) (fun c_2 => ?_)
  · rw [if_neg c_2] at hM
    refine lv_aload_n hx hb dX3_readLaw_11 rfl (lv_at hl 1 rfl) ?_
    refine lv_aload_n hx hb dX3_readLaw_12 rfl (lv_at hl 0 rfl) ?_
    refine lv_iconst (v := 0) hx hb dX3_readLaw_13 (by decide) ?_
    refine va_getsN hx hb (sZ0 hE.2.2.1) hS hown ((nw355 hE.2.2.2).use rfl) (fun _ h9 => h9) dX3_readLaw_14 ?_
    refine va_tlen hx hb (sV0 hE.2.2.1) hS (v := 4) rfl dX3_readLaw_17 ?_
    refine lv_iconst (v := 1) hx hb dX3_readLaw_18 (by decide) ?_
    refine lv_isub hx hb dX3_readLaw_19 ?_
    obtain ⟨r_3, u0_3, u1_3, u2_3, hC, hM⟩ := oe4 hM
    refine cV_i (As := [.int (0 : Int32), .int ((4 : Int32) - (1 : Int32))]) (rest := [.ref po_a]) C0 hP hD hS [0, 1, 2] (kX3_readNumber l G K tt L la sa ln sy sn lt st rd_a rdA_letters rdA_tape rd_length u0_1 u1_1 u2_1 rd_letters rd_tape (0 : Int32) ((4 : Int32) - (1 : Int32)) H.size r_3 u0_3 u1_3 u2_3 hC) rfl rfl rfl tb357 tb358 tb359 tb2 tb360 hdX3_readNumber (va_recv hK hP (ci := 3) (q0 := 0) rfl rfl) ⟨Nat.le_of_ble_eq_true rfl, Nat.le_of_ble_eq_true rfl⟩ rfl hl.1 (Nat.le_of_ble_eq_true rfl) rfl ⟨Nat.le_refl _, Nat.le_refl _⟩ dX3_readLaw_20 (fun H locs hP hD hS => ?_)
    have hP : va_P G vwCl (WX3_readLaw K rd_a rdA_letters rdA_tape po_a poA_sizes poA_kinds poA_spelled poA_scheme rd_length u0_3 u1_3 u2_3 rd_letters rd_tape po_foot po_feet po_lines po_words po_sizes po_kinds po_spelled po_scheme) H := hP
    have hD : va_D A (WX3_readLaw K rd_a rdA_letters rdA_tape po_a poA_sizes poA_kinds poA_spelled poA_scheme rd_length u0_3 u1_3 u2_3 rd_letters rd_tape po_foot po_feet po_lines po_words po_sizes po_kinds po_spelled po_scheme) := hD
    refine va_put (D := G) (ci := 2) (v := .int r_3) (ty := .int) (C := RX2) (T := TX2) (N := 8) hx hb hts inX2 tyX2 tyX2_ok nmX2 hown hK hP hD hS 3 rfl rfl 0 (by decide) (hts _ tb175) (fun _ h9 => h9) rfl (tyX2_ok 0 (by decide)) rfl rfl (Nat.le_of_ble_eq_true rfl) dX3_readLaw_23 (fun H locs hP hD hS => ?_)
    have hP : va_P G vwCl (WX3_readLaw K rd_a rdA_letters rdA_tape po_a poA_sizes poA_kinds poA_spelled poA_scheme rd_length u0_3 u1_3 u2_3 rd_letters rd_tape r_3 po_feet po_lines po_words po_sizes po_kinds po_spelled po_scheme) H := hP
    have hD : va_D A (WX3_readLaw K rd_a rdA_letters rdA_tape po_a poA_sizes poA_kinds poA_spelled poA_scheme rd_length u0_3 u1_3 u2_3 rd_letters rd_tape r_3 po_feet po_lines po_words po_sizes po_kinds po_spelled po_scheme) := hD
    refine lv_aload_n hx hb dX3_readLaw_26 rfl (lv_at hl 0 rfl) ?_
    refine va_get (D := G) (ci := 3) (v := .int u1_3) (C := RX3) (T := TX3) (N := 6) hx hb hts inX3 hown hK hP 0 rfl rfl 4 (by decide) (hts _ tb34) (fun _ h9 => h9) rfl dX3_readLaw_27 ?_
    refine lv_if_ne (tgt := 42) hx hb dX3_readLaw_30 (by decide) (fun c_4 => ?_) (fun c_4 => ?_)
    · rw [if_neg c_4] at hM
      refine lv_iconst (v := 0) hx hb dX3_readLaw_42 (by decide) ?_
      have t0 := Option.some.inj hM
      obtain ⟨q1, t1⟩ := Prod.mk.inj t0
      obtain ⟨q2, t2⟩ := Prod.mk.inj t1
      obtain ⟨q3, t3⟩ := Prod.mk.inj t2
      obtain ⟨q4, t4⟩ := Prod.mk.inj t3
      obtain ⟨q5, t5⟩ := Prod.mk.inj t4
      subst q1
      subst q2
      subst q3
      subst q4
      subst q5
      subst t5
      exact kr _ _ _ _ dX3_readLaw_43 (by decide) hP hD hS
    · rw [if_pos c_4] at hM
      refine lv_aload_n hx hb dX3_readLaw_33 rfl (lv_at hl 0 rfl) ?_
      refine lv_bipush (v := 44) hx hb dX3_readLaw_34 (by decide) ?_
      obtain ⟨r_5, u0_5, u1_5, u2_5, hC, hM⟩ := oe4 hM
      refine cV_i (As := [.int (44 : Int32)]) (rest := []) C0 hP hD hS [0, 1, 2] (kX3_readSign l G K tt L la sa ln sy sn lt st rd_a rdA_letters rdA_tape rd_length u0_3 u1_3 u2_3 rd_letters rd_tape (44 : Int32) H.size r_5 u0_5 u1_5 u2_5 hC) rfl rfl rfl tb343 tb344 tb345 tb2 tb346 hdX3_readSign (va_recv hK hP (ci := 3) (q0 := 0) rfl rfl) ⟨Nat.le_of_ble_eq_true rfl, Nat.le_of_ble_eq_true rfl⟩ rfl hl.1 (Nat.le_of_ble_eq_true rfl) rfl ⟨Nat.le_refl _, Nat.le_refl _⟩ dX3_readLaw_36 (fun H locs hP hD hS => ?_)
      have hP : va_P G vwCl (WX3_readLaw K rd_a rdA_letters rdA_tape po_a poA_sizes poA_kinds poA_spelled poA_scheme rd_length u0_5 u1_5 u2_5 rd_letters rd_tape r_3 po_feet po_lines po_words po_sizes po_kinds po_spelled po_scheme) H := hP
      have hD : va_D A (WX3_readLaw K rd_a rdA_letters rdA_tape po_a poA_sizes poA_kinds poA_spelled poA_scheme rd_length u0_5 u1_5 u2_5 rd_letters rd_tape r_3 po_feet po_lines po_words po_sizes po_kinds po_spelled po_scheme) := hD
      refine lv_if_ne (tgt := 44) hx hb dX3_readLaw_39 (by decide) (fun c_6 => ?_) (fun c_6 => ?_)
      · rw [if_neg c_6] at hM
        refine lv_aload_n hx hb dX3_readLaw_44 rfl (lv_at hl 1 rfl) ?_
        refine lv_aload_n hx hb dX3_readLaw_45 rfl (lv_at hl 0 rfl) ?_
        refine lv_iconst (v := 1) hx hb dX3_readLaw_46 (by decide) ?_
        refine lv_iconst (v := 5) hx hb dX3_readLaw_47 (by decide) ?_
        obtain ⟨r_7, u0_7, u1_7, u2_7, hC, hM⟩ := oe4 hM
        refine cV_i (As := [.int (1 : Int32), .int (5 : Int32)]) (rest := [.ref po_a]) C0 hP hD hS [0, 1, 2] (kX3_readNumber l G K tt L la sa ln sy sn lt st rd_a rdA_letters rdA_tape rd_length u0_5 u1_5 u2_5 rd_letters rd_tape (1 : Int32) (5 : Int32) H.size r_7 u0_7 u1_7 u2_7 hC) rfl rfl rfl tb357 tb358 tb359 tb2 tb360 hdX3_readNumber (va_recv hK hP (ci := 3) (q0 := 0) rfl rfl) ⟨Nat.le_of_ble_eq_true rfl, Nat.le_of_ble_eq_true rfl⟩ rfl hl.1 (Nat.le_of_ble_eq_true rfl) rfl ⟨Nat.le_refl _, Nat.le_refl _⟩ dX3_readLaw_48 (fun H locs hP hD hS => ?_)
        have hP : va_P G vwCl (WX3_readLaw K rd_a rdA_letters rdA_tape po_a poA_sizes poA_kinds poA_spelled poA_scheme rd_length u0_7 u1_7 u2_7 rd_letters rd_tape r_3 po_feet po_lines po_words po_sizes po_kinds po_spelled po_scheme) H := hP
        have hD : va_D A (WX3_readLaw K rd_a rdA_letters rdA_tape po_a poA_sizes poA_kinds poA_spelled poA_scheme rd_length u0_7 u1_7 u2_7 rd_letters rd_tape r_3 po_feet po_lines po_words po_sizes po_kinds po_spelled po_scheme) := hD
        refine va_put (D := G) (ci := 2) (v := .int r_7) (ty := .int) (C := RX2) (T := TX2) (N := 8) hx hb hts inX2 tyX2 tyX2_ok nmX2 hown hK hP hD hS 3 rfl rfl 1 (by decide) (hts _ tb179) (fun _ h9 => h9) rfl (tyX2_ok 1 (by decide)) rfl rfl (Nat.le_of_ble_eq_true rfl) dX3_readLaw_51 (fun H locs hP hD hS => ?_)
        have hP : va_P G vwCl (WX3_readLaw K rd_a rdA_letters rdA_tape po_a poA_sizes poA_kinds poA_spelled poA_scheme rd_length u0_7 u1_7 u2_7 rd_letters rd_tape r_3 r_7 po_lines po_words po_sizes po_kinds po_spelled po_scheme) H := hP
        have hD : va_D A (WX3_readLaw K rd_a rdA_letters rdA_tape po_a poA_sizes poA_kinds poA_spelled poA_scheme rd_length u0_7 u1_7 u2_7 rd_letters rd_tape r_3 r_7 po_lines po_words po_sizes po_kinds po_spelled po_scheme) := hD
        refine lv_aload_n hx hb dX3_readLaw_54 rfl (lv_at hl 0 rfl) ?_
        refine va_get (D := G) (ci := 3) (v := .int u1_7) (C := RX3) (T := TX3) (N := 6) hx hb hts inX3 hown hK hP 0 rfl rfl 4 (by decide) (hts _ tb34) (fun _ h9 => h9) rfl dX3_readLaw_55 ?_
        refine lv_if_ne (tgt := 74) hx hb dX3_readLaw_58 (by decide) (fun c_8 => ?_) (fun c_8 => ?_)
        · rw [if_neg c_8] at hM
          refine lv_iconst (v := 0) hx hb dX3_readLaw_74 (by decide) ?_
          have t0 := Option.some.inj hM
          obtain ⟨q1, t1⟩ := Prod.mk.inj t0
          obtain ⟨q2, t2⟩ := Prod.mk.inj t1
          obtain ⟨q3, t3⟩ := Prod.mk.inj t2
          obtain ⟨q4, t4⟩ := Prod.mk.inj t3
          obtain ⟨q5, t5⟩ := Prod.mk.inj t4
          subst q1
          subst q2
          subst q3
          subst q4
          subst q5
          subst t5
          exact kr _ _ _ _ dX3_readLaw_75 (by decide) hP hD hS
        · rw [if_pos c_8] at hM
          refine lv_aload_n hx hb dX3_readLaw_61 rfl (lv_at hl 0 rfl) ?_
          refine lv_bipush (v := 59) hx hb dX3_readLaw_62 (by decide) ?_
          obtain ⟨r_9, u0_9, u1_9, u2_9, hC, hM⟩ := oe4 hM
          refine cV_i (As := [.int (59 : Int32)]) (rest := []) C0 hP hD hS [0, 1, 2] (kX3_readSign l G K tt L la sa ln sy sn lt st rd_a rdA_letters rdA_tape rd_length u0_7 u1_7 u2_7 rd_letters rd_tape (59 : Int32) H.size r_9 u0_9 u1_9 u2_9 hC) rfl rfl rfl tb343 tb344 tb345 tb2 tb346 hdX3_readSign (va_recv hK hP (ci := 3) (q0 := 0) rfl rfl) ⟨Nat.le_of_ble_eq_true rfl, Nat.le_of_ble_eq_true rfl⟩ rfl hl.1 (Nat.le_of_ble_eq_true rfl) rfl ⟨Nat.le_refl _, Nat.le_refl _⟩ dX3_readLaw_64 (fun H locs hP hD hS => ?_)
          have hP : va_P G vwCl (WX3_readLaw K rd_a rdA_letters rdA_tape po_a poA_sizes poA_kinds poA_spelled poA_scheme rd_length u0_9 u1_9 u2_9 rd_letters rd_tape r_3 r_7 po_lines po_words po_sizes po_kinds po_spelled po_scheme) H := hP
          have hD : va_D A (WX3_readLaw K rd_a rdA_letters rdA_tape po_a poA_sizes poA_kinds poA_spelled poA_scheme rd_length u0_9 u1_9 u2_9 rd_letters rd_tape r_3 r_7 po_lines po_words po_sizes po_kinds po_spelled po_scheme) := hD
          refine lv_if_eq (tgt := 74) hx hb dX3_readLaw_67 (by decide) (fun c_10 => ?_) (fun c_10 => ?_)
          · rw [if_pos c_10] at hM
            refine lv_iconst (v := 0) hx hb dX3_readLaw_74 (by decide) ?_
            have t0 := Option.some.inj hM
            obtain ⟨q1, t1⟩ := Prod.mk.inj t0
            obtain ⟨q2, t2⟩ := Prod.mk.inj t1
            obtain ⟨q3, t3⟩ := Prod.mk.inj t2
            obtain ⟨q4, t4⟩ := Prod.mk.inj t3
            obtain ⟨q5, t5⟩ := Prod.mk.inj t4
            subst q1
            subst q2
            subst q3
            subst q4
            subst q5
            subst t5
            exact kr _ _ _ _ dX3_readLaw_75 (by decide) hP hD hS
          · rw [if_neg c_10] at hM
            refine lv_iconst (v := 1) hx hb dX3_readLaw_70 (by decide) ?_
            refine lv_goto (tgt := 75) hx hb dX3_readLaw_71 (by decide) ?_
            have t0 := Option.some.inj hM
            obtain ⟨q1, t1⟩ := Prod.mk.inj t0
            obtain ⟨q2, t2⟩ := Prod.mk.inj t1
            obtain ⟨q3, t3⟩ := Prod.mk.inj t2
            obtain ⟨q4, t4⟩ := Prod.mk.inj t3
            obtain ⟨q5, t5⟩ := Prod.mk.inj t4
            subst q1
            subst q2
            subst q3
            subst q4
            subst q5
            subst t5
            exact kr _ _ _ _ dX3_readLaw_75 (by decide) hP hD hS
      · rw [if_pos c_6] at hM
        refine lv_iconst (v := 0) hx hb dX3_readLaw_42 (by decide) ?_
        have t0 := Option.some.inj hM
        obtain ⟨q1, t1⟩ := Prod.mk.inj t0
        obtain ⟨q2, t2⟩ := Prod.mk.inj t1
        obtain ⟨q3, t3⟩ := Prod.mk.inj t2
        obtain ⟨q4, t4⟩ := Prod.mk.inj t3
        obtain ⟨q5, t5⟩ := Prod.mk.inj t4
        subst q1
        subst q2
        subst q3
        subst q4
        subst q5
        subst t5
        exact kr _ _ _ _ dX3_readLaw_43 (by decide) hP hD hS
  · rw [if_pos c_2] at hM
    refine lv_iconst (v := 0) hx hb dX3_readLaw_9 (by decide) ?_
    have t0 := Option.some.inj hM
    obtain ⟨q1, t1⟩ := Prod.mk.inj t0
    obtain ⟨q2, t2⟩ := Prod.mk.inj t1
    obtain ⟨q3, t3⟩ := Prod.mk.inj t2
    obtain ⟨q4, t4⟩ := Prod.mk.inj t3
    obtain ⟨q5, t5⟩ := Prod.mk.inj t4
    subst q1
    subst q2
    subst q3
    subst q4
    subst q5
    subst t5
    exact kr _ _ _ _ dX3_readLaw_10 (by decide) hP hD hS
set_option maxHeartbeats 4000000 in
set_option maxRecDepth 100000 in
theorem kX3_readLaw (l : Launch) (G : va_G) (K : Nat → ClassId) (tt : Nat → Nat) (L : List Nat) (la : Nat → Nat) (sa : Nat → Nat) (ln : Nat → Int32) (sy : Nat → Int32) (sn : Nat → Int32) (lt : Nat → Nat → Int32) (st : Nat → Nat → Int32) (rd_a rdA_letters rdA_tape po_a poA_sizes poA_kinds poA_spelled poA_scheme : Nat) (rd_length : Int32) (rd_at : Int32) (rd_fault : Int32) (rd_place : Int32) (rd_letters : Nat → Int32) (rd_tape : Nat → Int32) (po_foot : Int32) (po_feet : Int32) (po_lines : Int32) (po_words : Int32) (po_sizes : Nat → Int32) (po_kinds : Nat → Int32) (po_spelled : Nat → Nat) (po_scheme : Nat → Int32)  (sz : Nat) (r : Int32) (o_rd_at : Int32) (o_rd_fault : Int32) (o_rd_place : Int32) (o_po_foot : Int32) (o_po_feet : Int32) (hM : mX3_readLaw rd_length rd_tape rd_at rd_fault rd_place po_foot po_feet = some (r, o_rd_at, o_rd_fault, o_rd_place, o_po_foot, o_po_feet)) : Met l yX3_readLaw (mC yX3_readLaw cX3_readLaw 2 (some .boolean)) rmX3_readLaw (va_Pc [.ref rd_a, .ref po_a] (PCe G K (EC G K tt L la sa ln sy sn lt st) (WX3_readLaw K rd_a rdA_letters rdA_tape po_a poA_sizes poA_kinds poA_spelled poA_scheme rd_length rd_at rd_fault rd_place rd_letters rd_tape po_foot po_feet po_lines po_words po_sizes po_kinds po_spelled po_scheme) sz)) (va_Qi (fun (x : Int32) (_ : Unit) => x = r) (fun _ t => va_P G vwCl (WX3_readLaw K rd_a rdA_letters rdA_tape po_a poA_sizes poA_kinds poA_spelled poA_scheme rd_length o_rd_at o_rd_fault o_rd_place rd_letters rd_tape o_po_foot o_po_feet po_lines po_words po_sizes po_kinds po_spelled po_scheme) t.heap) (va_A (WX3_readLaw K rd_a rdA_letters rdA_tape po_a poA_sizes poA_kinds poA_spelled poA_scheme rd_length rd_at rd_fault rd_place rd_letters rd_tape po_foot po_feet po_lines po_words po_sizes po_kinds po_spelled po_scheme) sz)) rmX3_readLaw.cells rmX3_readLaw.slots (va_A (WX3_readLaw K rd_a rdA_letters rdA_tape po_a poA_sizes poA_kinds poA_spelled poA_scheme rd_length rd_at rd_fault rd_place rd_letters rd_tape po_foot po_feet po_lines po_words po_sizes po_kinds po_spelled po_scheme) sz) := by
  refine Met.ofW (cc := cX3_readLaw) (maxL := 2) (ret := (some .boolean)) (by decide) rfl ?_
  intro p e s m args below meth c s₁ B hml hv
  obtain ⟨rfl, hsz, hP, hK, hD0, hE⟩ := hv
  have hx := B.exec
  have hb := B.bytes
  have hr := B.returns
  have hts0 := atoms_spec (ws := mC yX3_readLaw cX3_readLaw 2 (some .boolean)) B.pre
  have hts : ∀ w ∈ tbG, w.before _ s = true := fun w h => hts0 w (List.mem_cons_of_mem _ h)
  have hown : s.vm.findClass RX3 = some m.cls := findClass_of_methodNamed B.named
  subst hsz
  have hD := hD0.self (sz := s.heap.size)
  generalize hAe : va_A (WX3_readLaw K rd_a rdA_letters rdA_tape po_a poA_sizes poA_kinds poA_spelled poA_scheme rd_length rd_at rd_fault rd_place rd_letters rd_tape po_foot po_feet po_lines po_words po_sizes po_kinds po_spelled po_scheme) s.heap.size = A at hD hE ⊢
  have hA : ∀ q : Nat, s.heap.size ≤ q → A q := fun q h => by rw [← hAe]; exact Or.inr h
  have hS : va_S A s.heap s.heap [] := va_S.rf
  have hl := lv_entry ([.ref rd_a, .ref po_a]) (n := 2) (Nat.le_of_ble_eq_true rfl)
  rw [lg_entry_eq]
  generalize (lg_sl ([.ref rd_a, .ref po_a]) ++ List.replicate (2 - (lg_sl ([.ref rd_a, .ref po_a])).length) Slot.unset).toArray = ls at hl ⊢
  have hl : lv_has ls 2 [(0, .ref rd_a), (1, .ref po_a)] := hl
  exact wX3_readLaw_b0 ⟨hx, hb, hml, hown, hts, hK, hA, EC_ok _ _ _ _ _ _ _ _ _ _ _, hE⟩ rd_a rdA_letters rdA_tape po_a poA_sizes poA_kinds poA_spelled poA_scheme rd_length rd_letters rd_tape po_lines po_words po_sizes po_kinds po_spelled po_scheme r o_rd_at o_rd_fault o_rd_place o_po_foot o_po_feet (fun H locs ls pc hdg hz hP hD hS => W.zret (v := r) (ty := .boolean) hx hb hr (nar_b hz) (fun t ht hW => ⟨⟨r, (), rfl, rfl, (show va_P G vwCl _ t.heap by rw [ht]; exact hP)⟩, hS.F ht⟩) hS.2.2 hdg) rd_at rd_fault rd_place po_foot po_feet  hM _ _ _ hP hD hS hl
abbrev WX2_beginLine (K : Nat → ClassId) (po_a poA_sizes poA_kinds poA_spelled poA_scheme : Nat) (po_foot : Int32) (po_feet : Int32) (po_lines : Int32) (po_words : Int32) (po_sizes : Nat → Int32) (po_kinds : Nat → Int32) (po_spelled : Nat → Nat) (po_scheme : Nat → Int32) : va_W := [(po_a, .inr (2, [.int po_foot, .int po_feet, .int po_lines, .int po_words, .ref poA_sizes, .ref poA_kinds, .ref poA_spelled, .ref poA_scheme])), aI K poA_sizes 4 po_sizes, aI K poA_kinds 20 po_kinds, aS K poA_spelled 20 po_spelled, aI K poA_scheme 4 po_scheme]
def rmX2_beginLine : Room := { frames := 0, cells := 0, slots := 0, locals := 0 }
theorem hdX2_beginLine : yX2_beginLine.cls = RX2 ∧ yX2_beginLine.cls ≠ "java/lang/invoke/MethodHandle" ∧ yX2_beginLine.cls ≠ "java/lang/invoke/VarHandle" ∧ (parseMethodDescriptor yX2_beginLine.desc).map (fun d => d.parameters.length) = some 0 := by decide +kernel
set_option maxHeartbeats 4000000 in
set_option maxRecDepth 100000 in
theorem wX2_beginLine_b0 {p : Program} {l : Launch} {e : Env} {s : State} {m : MethodId} {args : Array Value} {below : List Frame} {meth : Method} {c : Code} {Q : State → Prop} {G : va_G} {K : Nat → ClassId} {A : Nat → Prop} {tt : Nat → Nat} {L : List Nat} {la : Nat → Nat} {sa : Nat → Nat} {ln : Nat → Int32} {sy : Nat → Int32} {sn : Nat → Int32} {lt : Nat → Nat → Int32} {st : Nat → Nat → Int32} (C0 : CX p s m args c cX2_beginLine 1 RX2 G K (EC G K tt L la sa ln sy sn lt st) A) (po_a poA_sizes poA_kinds poA_spelled poA_scheme : Nat) (po_foot : Int32) (po_feet : Int32) (po_words : Int32) (po_kinds : Nat → Int32) (po_spelled : Nat → Nat) (po_scheme : Nat → Int32)  (o_po_lines : Int32) (o_po_sizes : Nat → Int32) (kr : ∀ (H : Heap) (locs : List Loc) (ls : Array Slot) (pc : Nat), decode cX2_beginLine pc = .ok (.return_, 1) → va_P G vwCl (WX2_beginLine K po_a poA_sizes poA_kinds poA_spelled poA_scheme po_foot po_feet o_po_lines po_words o_po_sizes po_kinds po_spelled po_scheme) H → va_D A (WX2_beginLine K po_a poA_sizes poA_kinds poA_spelled poA_scheme po_foot po_feet o_po_lines po_words o_po_sizes po_kinds po_spelled po_scheme) → va_S A s.heap H locs → W p l e rmX2_beginLine s m args below meth c H locs 0 0 Q (F0 m pc ls [])) (po_lines : Int32) (po_sizes : Nat → Int32) (hM : mX2_beginLine_b0   po_lines po_sizes = some (o_po_lines, o_po_sizes)) : ∀ (H : Heap) (locs : List Loc) (ls : Array Slot), va_P G vwCl (WX2_beginLine K po_a poA_sizes poA_kinds poA_spelled poA_scheme po_foot po_feet po_lines po_words po_sizes po_kinds po_spelled po_scheme) H → va_D A (WX2_beginLine K po_a poA_sizes poA_kinds poA_spelled poA_scheme po_foot po_feet po_lines po_words po_sizes po_kinds po_spelled po_scheme) → va_S A s.heap H locs → lv_has ls 1 [(0, .ref po_a)] → W p l e rmX2_beginLine s m args below meth c H locs 0 0 Q (F0 m 0 ls []) := by
  obtain ⟨hx, hb, hml, hown, hts, hK, hA, hEo, hE⟩ := id C0
  intro H locs ls hP hD hS hl
  unfold mX2_beginLine_b0 at hM
  refine lv_aload_n hx hb dX2_beginLine_0 rfl (lv_at hl 0 rfl) ?_
  refine va_get (D := G) (ci := 2) (v := .int po_lines) (C := RX2) (T := TX2) (N := 8) hx hb hts inX2 hown hK hP 0 rfl rfl 2 (by decide) (hts _ tb182) (fun _ h9 => h9) rfl dX2_beginLine_1 ?_
  refine lv_iconst (v := 4) hx hb dX2_beginLine_4 (by decide) ?_
  refine lv_icmp_ge (tgt := 28) hx hb dX2_beginLine_5 (by decide) (fun c_1 => ?_) (fun c_1 => ?_)
  · rw [if_pos c_1] at hM
    have t0 := Option.some.inj hM
    obtain ⟨q1, t1⟩ := Prod.mk.inj t0
    subst q1
    subst t1
    exact kr _ _ _ _ dX2_beginLine_28 hP hD hS
  · rw [if_neg c_1] at hM
    refine lv_aload_n hx hb dX2_beginLine_8 rfl (lv_at hl 0 rfl) ?_
    refine va_get (D := G) (ci := 2) (v := .ref poA_sizes) (C := RX2) (T := TX2) (N := 8) hx hb hts inX2 hown hK hP 0 rfl rfl 4 (by decide) (hts _ tb187) (fun _ h9 => h9) rfl dX2_beginLine_9 ?_
    refine lv_aload_n hx hb dX2_beginLine_12 rfl (lv_at hl 0 rfl) ?_
    refine va_get (D := G) (ci := 2) (v := .int po_lines) (C := RX2) (T := TX2) (N := 8) hx hb hts inX2 hown hK hP 0 rfl rfl 2 (by decide) (hts _ tb182) (fun _ h9 => h9) rfl dX2_beginLine_13 ?_
    refine lv_iconst (v := 0) hx hb dX2_beginLine_16 (by decide) ?_
    obtain ⟨g_2, hM⟩ := ng hM
    refine va_iast hx hb hK hP hD hS 1 0 rfl rfl g_2 dX2_beginLine_17 (fun H locs hP hD hS => ?_)
    have hP : va_P G vwCl (WX2_beginLine K po_a poA_sizes poA_kinds poA_spelled poA_scheme po_foot po_feet po_lines po_words (upd po_sizes po_lines.toNatClampNeg (0 : Int32)) po_kinds po_spelled po_scheme) H := hP
    have hD : va_D A (WX2_beginLine K po_a poA_sizes poA_kinds poA_spelled poA_scheme po_foot po_feet po_lines po_words (upd po_sizes po_lines.toNatClampNeg (0 : Int32)) po_kinds po_spelled po_scheme) := hD
    refine lv_aload_n hx hb dX2_beginLine_18 rfl (lv_at hl 0 rfl) ?_
    refine lv_dup hx hb dX2_beginLine_19 rfl ?_
    refine va_get (D := G) (ci := 2) (v := .int po_lines) (C := RX2) (T := TX2) (N := 8) hx hb hts inX2 hown hK hP 0 rfl rfl 2 (by decide) (hts _ tb182) (fun _ h9 => h9) rfl dX2_beginLine_20 ?_
    refine lv_iconst (v := 1) hx hb dX2_beginLine_23 (by decide) ?_
    refine lv_iadd hx hb dX2_beginLine_24 ?_
    refine va_put (D := G) (ci := 2) (v := .int (po_lines + (1 : Int32))) (ty := .int) (C := RX2) (T := TX2) (N := 8) hx hb hts inX2 tyX2 tyX2_ok nmX2 hown hK hP hD hS 0 rfl rfl 2 (by decide) (hts _ tb182) (fun _ h9 => h9) rfl (tyX2_ok 2 (by decide)) rfl rfl (Nat.le_of_ble_eq_true rfl) dX2_beginLine_25 (fun H locs hP hD hS => ?_)
    have hP : va_P G vwCl (WX2_beginLine K po_a poA_sizes poA_kinds poA_spelled poA_scheme po_foot po_feet (po_lines + (1 : Int32)) po_words (upd po_sizes po_lines.toNatClampNeg (0 : Int32)) po_kinds po_spelled po_scheme) H := hP
    have hD : va_D A (WX2_beginLine K po_a poA_sizes poA_kinds poA_spelled poA_scheme po_foot po_feet (po_lines + (1 : Int32)) po_words (upd po_sizes po_lines.toNatClampNeg (0 : Int32)) po_kinds po_spelled po_scheme) := hD
    have t0 := Option.some.inj hM
    obtain ⟨q1, t1⟩ := Prod.mk.inj t0
    subst q1
    subst t1
    exact kr _ _ _ _ dX2_beginLine_28 hP hD hS
set_option maxHeartbeats 4000000 in
set_option maxRecDepth 100000 in
theorem kX2_beginLine (l : Launch) (G : va_G) (K : Nat → ClassId) (tt : Nat → Nat) (L : List Nat) (la : Nat → Nat) (sa : Nat → Nat) (ln : Nat → Int32) (sy : Nat → Int32) (sn : Nat → Int32) (lt : Nat → Nat → Int32) (st : Nat → Nat → Int32) (po_a poA_sizes poA_kinds poA_spelled poA_scheme : Nat) (po_foot : Int32) (po_feet : Int32) (po_lines : Int32) (po_words : Int32) (po_sizes : Nat → Int32) (po_kinds : Nat → Int32) (po_spelled : Nat → Nat) (po_scheme : Nat → Int32)  (sz : Nat) (o_po_lines : Int32) (o_po_sizes : Nat → Int32) (hM : mX2_beginLine po_lines po_sizes = some (o_po_lines, o_po_sizes)) : Met l yX2_beginLine (mC yX2_beginLine cX2_beginLine 1 none) rmX2_beginLine (va_Pc [.ref po_a] (PCe G K (EC G K tt L la sa ln sy sn lt st) (WX2_beginLine K po_a poA_sizes poA_kinds poA_spelled poA_scheme po_foot po_feet po_lines po_words po_sizes po_kinds po_spelled po_scheme) sz)) (va_Qv (fun (_ : Unit) => True) (fun _ t => va_P G vwCl (WX2_beginLine K po_a poA_sizes poA_kinds poA_spelled poA_scheme po_foot po_feet o_po_lines po_words o_po_sizes po_kinds po_spelled po_scheme) t.heap) (va_A (WX2_beginLine K po_a poA_sizes poA_kinds poA_spelled poA_scheme po_foot po_feet po_lines po_words po_sizes po_kinds po_spelled po_scheme) sz)) rmX2_beginLine.cells rmX2_beginLine.slots (va_A (WX2_beginLine K po_a poA_sizes poA_kinds poA_spelled poA_scheme po_foot po_feet po_lines po_words po_sizes po_kinds po_spelled po_scheme) sz) := by
  refine Met.ofW (cc := cX2_beginLine) (maxL := 1) (ret := none) (by decide) rfl ?_
  intro p e s m args below meth c s₁ B hml hv
  obtain ⟨rfl, hsz, hP, hK, hD0, hE⟩ := hv
  have hx := B.exec
  have hb := B.bytes
  have hr := B.returns
  have hts0 := atoms_spec (ws := mC yX2_beginLine cX2_beginLine 1 none) B.pre
  have hts : ∀ w ∈ tbG, w.before _ s = true := fun w h => hts0 w (List.mem_cons_of_mem _ h)
  have hown : s.vm.findClass RX2 = some m.cls := findClass_of_methodNamed B.named
  subst hsz
  have hD := hD0.self (sz := s.heap.size)
  generalize hAe : va_A (WX2_beginLine K po_a poA_sizes poA_kinds poA_spelled poA_scheme po_foot po_feet po_lines po_words po_sizes po_kinds po_spelled po_scheme) s.heap.size = A at hD hE ⊢
  have hA : ∀ q : Nat, s.heap.size ≤ q → A q := fun q h => by rw [← hAe]; exact Or.inr h
  have hS : va_S A s.heap s.heap [] := va_S.rf
  have hl := lv_entry ([.ref po_a]) (n := 1) (Nat.le_of_ble_eq_true rfl)
  rw [lg_entry_eq]
  generalize (lg_sl ([.ref po_a]) ++ List.replicate (1 - (lg_sl ([.ref po_a])).length) Slot.unset).toArray = ls at hl ⊢
  have hl : lv_has ls 1 [(0, .ref po_a)] := hl
  exact wX2_beginLine_b0 ⟨hx, hb, hml, hown, hts, hK, hA, EC_ok _ _ _ _ _ _ _ _ _ _ _, hE⟩ po_a poA_sizes poA_kinds poA_spelled poA_scheme po_foot po_feet po_words po_kinds po_spelled po_scheme o_po_lines o_po_sizes (fun H locs ls pc hdg hP hD hS => W.vret hx hb hr (fun t ht hW => ⟨⟨(), rfl, trivial, (show va_P G vwCl _ t.heap by rw [ht]; exact hP)⟩, hS.F ht⟩) hS.2.2 hdg) po_lines po_sizes  hM _ _ _ hP hD hS hl
abbrev WX3_isLetter (K : Nat → ClassId) (rd_a rdA_letters rdA_tape : Nat) (rd_length : Int32) (rd_at : Int32) (rd_fault : Int32) (rd_place : Int32) (rd_letters : Nat → Int32) (rd_tape : Nat → Int32) : va_W := [(rd_a, .inr (3, [.ref rdA_letters, .ref rdA_tape, .int rd_length, .int rd_at, .int rd_fault, .int rd_place])), aI K rdA_letters 8 rd_letters, aI K rdA_tape 130 rd_tape]
def rmX3_isLetter : Room := { frames := 1, cells := 0, slots := 0, locals := 21 }
theorem hdX3_isLetter : yX3_isLetter.cls = RX3 ∧ yX3_isLetter.cls ≠ "java/lang/invoke/MethodHandle" ∧ yX3_isLetter.cls ≠ "java/lang/invoke/VarHandle" ∧ (parseMethodDescriptor yX3_isLetter.desc).map (fun d => d.parameters.length) = some 1 := by decide +kernel
set_option maxHeartbeats 4000000 in
set_option maxRecDepth 100000 in
theorem wX3_isLetter_b0 {p : Program} {l : Launch} {e : Env} {s : State} {m : MethodId} {args : Array Value} {below : List Frame} {meth : Method} {c : Code} {Q : State → Prop} {G : va_G} {K : Nat → ClassId} {A : Nat → Prop} {tt : Nat → Nat} {L : List Nat} {la : Nat → Nat} {sa : Nat → Nat} {ln : Nat → Int32} {sy : Nat → Int32} {sn : Nat → Int32} {lt : Nat → Nat → Int32} {st : Nat → Nat → Int32} (C0 : CX p s m args c cX3_isLetter 2 RX3 G K (EC G K tt L la sa ln sy sn lt st) A) (rd_a rdA_letters rdA_tape : Nat) (rd_length : Int32) (rd_at : Int32) (rd_fault : Int32) (rd_place : Int32) (rd_letters : Nat → Int32) (rd_tape : Nat → Int32) (p1 : Int32) (r : Int32)  (kr : ∀ (H : Heap) (locs : List Loc) (ls : Array Slot) (pc : Nat), decode cX3_isLetter pc = .ok (.ireturn, 1) → (r = 0 ∨ r = 1) → va_P G vwCl (WX3_isLetter K rd_a rdA_letters rdA_tape rd_length rd_at rd_fault rd_place rd_letters rd_tape) H → va_D A (WX3_isLetter K rd_a rdA_letters rdA_tape rd_length rd_at rd_fault rd_place rd_letters rd_tape) → va_S A s.heap H locs → W p l e rmX3_isLetter s m args below meth c H locs 0 0 Q (F0 m pc ls [.int r]))  (hM : mX3_isLetter_b0 rd_length rd_tape p1   = some r) : ∀ (H : Heap) (locs : List Loc) (ls : Array Slot), va_P G vwCl (WX3_isLetter K rd_a rdA_letters rdA_tape rd_length rd_at rd_fault rd_place rd_letters rd_tape) H → va_D A (WX3_isLetter K rd_a rdA_letters rdA_tape rd_length rd_at rd_fault rd_place rd_letters rd_tape) → va_S A s.heap H locs → lv_has ls 2 [(0, .ref rd_a), (1, .int p1)] → W p l e rmX3_isLetter s m args below meth c H locs 0 0 Q (F0 m 0 ls []) := by
  obtain ⟨hx, hb, hml, hown, hts, hK, hA, hEo, hE⟩ := id C0
  intro H locs ls hP hD hS hl
  unfold mX3_isLetter_b0 at hM
  refine lv_aload_n hx hb dX3_isLetter_0 rfl (lv_at hl 0 rfl) ?_
  refine lv_iload_n hx hb dX3_isLetter_1 rfl (lv_at hl 1 rfl) ?_
  obtain ⟨r_1, hC, hM⟩ := oe1 hM
  refine cV_i (As := [.int p1]) (rest := []) C0 hP hD hS [0, 1, 2] (kX3_byteAt l G K tt L la sa ln sy sn lt st rd_a rdA_letters rdA_tape rd_length rd_at rd_fault rd_place rd_letters rd_tape p1 H.size r_1 hC) rfl rfl rfl tb347 tb348 tb349 tb2 tb350 hdX3_byteAt (va_recv hK hP (ci := 3) (q0 := 0) rfl rfl) ⟨Nat.le_of_ble_eq_true rfl, Nat.le_of_ble_eq_true rfl⟩ rfl hl.1 (Nat.le_of_ble_eq_true rfl) rfl ⟨Nat.le_refl _, Nat.le_refl _⟩ dX3_isLetter_2 (fun H locs hP hD hS => ?_)
  have hP : va_P G vwCl (WX3_isLetter K rd_a rdA_letters rdA_tape rd_length rd_at rd_fault rd_place rd_letters rd_tape) H := hP
  have hD : va_D A (WX3_isLetter K rd_a rdA_letters rdA_tape rd_length rd_at rd_fault rd_place rd_letters rd_tape) := hD
  refine lv_bipush (v := 97) hx hb dX3_isLetter_5 (by decide) ?_
  refine lv_icmp_lt (tgt := 24) hx hb dX3_isLetter_7 (by decide) (fun c_2 => ?_) (fun c_2 => ?_)
  · rw [if_pos c_2] at hM
    refine lv_iconst (v := 0) hx hb dX3_isLetter_24 (by decide) ?_
    have q1 := Option.some.inj hM
    subst q1
    exact kr _ _ _ _ dX3_isLetter_25 (by decide) hP hD hS
  · rw [if_neg c_2] at hM
    refine lv_aload_n hx hb dX3_isLetter_10 rfl (lv_at hl 0 rfl) ?_
    refine lv_iload_n hx hb dX3_isLetter_11 rfl (lv_at hl 1 rfl) ?_
    obtain ⟨r_3, hC, hM⟩ := oe1 hM
    refine cV_i (As := [.int p1]) (rest := []) C0 hP hD hS [0, 1, 2] (kX3_byteAt l G K tt L la sa ln sy sn lt st rd_a rdA_letters rdA_tape rd_length rd_at rd_fault rd_place rd_letters rd_tape p1 H.size r_3 hC) rfl rfl rfl tb347 tb348 tb349 tb2 tb350 hdX3_byteAt (va_recv hK hP (ci := 3) (q0 := 0) rfl rfl) ⟨Nat.le_of_ble_eq_true rfl, Nat.le_of_ble_eq_true rfl⟩ rfl hl.1 (Nat.le_of_ble_eq_true rfl) rfl ⟨Nat.le_refl _, Nat.le_refl _⟩ dX3_isLetter_12 (fun H locs hP hD hS => ?_)
    have hP : va_P G vwCl (WX3_isLetter K rd_a rdA_letters rdA_tape rd_length rd_at rd_fault rd_place rd_letters rd_tape) H := hP
    have hD : va_D A (WX3_isLetter K rd_a rdA_letters rdA_tape rd_length rd_at rd_fault rd_place rd_letters rd_tape) := hD
    refine lv_bipush (v := 122) hx hb dX3_isLetter_15 (by decide) ?_
    refine lv_icmp_gt (tgt := 24) hx hb dX3_isLetter_17 (by decide) (fun c_4 => ?_) (fun c_4 => ?_)
    · rw [if_pos c_4] at hM
      refine lv_iconst (v := 0) hx hb dX3_isLetter_24 (by decide) ?_
      have q1 := Option.some.inj hM
      subst q1
      exact kr _ _ _ _ dX3_isLetter_25 (by decide) hP hD hS
    · rw [if_neg c_4] at hM
      refine lv_iconst (v := 1) hx hb dX3_isLetter_20 (by decide) ?_
      refine lv_goto (tgt := 25) hx hb dX3_isLetter_21 (by decide) ?_
      have q1 := Option.some.inj hM
      subst q1
      exact kr _ _ _ _ dX3_isLetter_25 (by decide) hP hD hS
set_option maxHeartbeats 4000000 in
set_option maxRecDepth 100000 in
theorem kX3_isLetter (l : Launch) (G : va_G) (K : Nat → ClassId) (tt : Nat → Nat) (L : List Nat) (la : Nat → Nat) (sa : Nat → Nat) (ln : Nat → Int32) (sy : Nat → Int32) (sn : Nat → Int32) (lt : Nat → Nat → Int32) (st : Nat → Nat → Int32) (rd_a rdA_letters rdA_tape : Nat) (rd_length : Int32) (rd_at : Int32) (rd_fault : Int32) (rd_place : Int32) (rd_letters : Nat → Int32) (rd_tape : Nat → Int32) (p1 : Int32) (sz : Nat) (r : Int32)  (hM : mX3_isLetter rd_length rd_tape p1 = some r) : Met l yX3_isLetter (mC yX3_isLetter cX3_isLetter 2 (some .boolean)) rmX3_isLetter (va_Pc [.ref rd_a, .int p1] (PCe G K (EC G K tt L la sa ln sy sn lt st) (WX3_isLetter K rd_a rdA_letters rdA_tape rd_length rd_at rd_fault rd_place rd_letters rd_tape) sz)) (va_Qi (fun (x : Int32) (_ : Unit) => x = r) (fun _ t => va_P G vwCl (WX3_isLetter K rd_a rdA_letters rdA_tape rd_length rd_at rd_fault rd_place rd_letters rd_tape) t.heap) (va_A (WX3_isLetter K rd_a rdA_letters rdA_tape rd_length rd_at rd_fault rd_place rd_letters rd_tape) sz)) rmX3_isLetter.cells rmX3_isLetter.slots (va_A (WX3_isLetter K rd_a rdA_letters rdA_tape rd_length rd_at rd_fault rd_place rd_letters rd_tape) sz) := by
  refine Met.ofW (cc := cX3_isLetter) (maxL := 2) (ret := (some .boolean)) (by decide) rfl ?_
  intro p e s m args below meth c s₁ B hml hv
  obtain ⟨rfl, hsz, hP, hK, hD0, hE⟩ := hv
  have hx := B.exec
  have hb := B.bytes
  have hr := B.returns
  have hts0 := atoms_spec (ws := mC yX3_isLetter cX3_isLetter 2 (some .boolean)) B.pre
  have hts : ∀ w ∈ tbG, w.before _ s = true := fun w h => hts0 w (List.mem_cons_of_mem _ h)
  have hown : s.vm.findClass RX3 = some m.cls := findClass_of_methodNamed B.named
  subst hsz
  have hD := hD0.self (sz := s.heap.size)
  generalize hAe : va_A (WX3_isLetter K rd_a rdA_letters rdA_tape rd_length rd_at rd_fault rd_place rd_letters rd_tape) s.heap.size = A at hD hE ⊢
  have hA : ∀ q : Nat, s.heap.size ≤ q → A q := fun q h => by rw [← hAe]; exact Or.inr h
  have hS : va_S A s.heap s.heap [] := va_S.rf
  have hl := lv_entry ([.ref rd_a, .int p1]) (n := 2) (Nat.le_of_ble_eq_true rfl)
  rw [lg_entry_eq]
  generalize (lg_sl ([.ref rd_a, .int p1]) ++ List.replicate (2 - (lg_sl ([.ref rd_a, .int p1])).length) Slot.unset).toArray = ls at hl ⊢
  have hl : lv_has ls 2 [(0, .ref rd_a), (1, .int p1)] := hl
  exact wX3_isLetter_b0 ⟨hx, hb, hml, hown, hts, hK, hA, EC_ok _ _ _ _ _ _ _ _ _ _ _, hE⟩ rd_a rdA_letters rdA_tape rd_length rd_at rd_fault rd_place rd_letters rd_tape p1 r (fun H locs ls pc hdg hz hP hD hS => W.zret (v := r) (ty := .boolean) hx hb hr (nar_b hz) (fun t ht hW => ⟨⟨r, (), rfl, rfl, (show va_P G vwCl _ t.heap by rw [ht]; exact hP)⟩, hS.F ht⟩) hS.2.2 hdg)   hM _ _ _ hP hD hS hl
def rmX6_isVowel : Room := { frames := 0, cells := 0, slots := 0, locals := 0 }
theorem hdX6_isVowel : yX6_isVowel.cls ≠ "java/lang/invoke/MethodHandle" ∧ yX6_isVowel.cls ≠ "java/lang/invoke/VarHandle" ∧ (parseMethodDescriptor yX6_isVowel.desc).map (fun d => d.parameters.length) = some 1 := by decide +kernel
set_option maxHeartbeats 4000000 in
set_option maxRecDepth 100000 in
theorem wX6_isVowel_b0 {p : Program} {l : Launch} {e : Env} {s : State} {m : MethodId} {args : Array Value} {below : List Frame} {meth : Method} {c : Code} {Q : State → Prop} {G : va_G} {K : Nat → ClassId} {A : Nat → Prop} {tt : Nat → Nat} {L : List Nat} {la : Nat → Nat} {sa : Nat → Nat} {ln : Nat → Int32} {sy : Nat → Int32} {sn : Nat → Int32} {lt : Nat → Nat → Int32} {st : Nat → Nat → Int32} (C0 : CX p s m args c cX6_isVowel 1 RX6 G K (EC G K tt L la sa ln sy sn lt st) A)  (p1 : Int32) (r : Int32)  (kr : ∀ (H : Heap) (locs : List Loc) (ls : Array Slot) (pc : Nat), decode cX6_isVowel pc = .ok (.ireturn, 1) → (r = 0 ∨ r = 1) → va_P G vwCl [] H → va_D A [] → va_S A s.heap H locs → W p l e rmX6_isVowel s m args below meth c H locs 0 0 Q (F0 m pc ls [.int r]))  (hM : mX6_isVowel_b0 p1   = some r) : ∀ (H : Heap) (locs : List Loc) (ls : Array Slot), va_P G vwCl [] H → va_D A [] → va_S A s.heap H locs → lv_has ls 1 [(0, .int p1)] → W p l e rmX6_isVowel s m args below meth c H locs 0 0 Q (F0 m 0 ls []) := by
  obtain ⟨hx, hb, hml, hown, hts, hK, hA, hEo, hE⟩ := id C0
  intro H locs ls hP hD hS hl
  unfold mX6_isVowel_b0 at hM
  refine lv_iload_n hx hb dX6_isVowel_0 rfl (lv_at hl 0 rfl) ?_
  refine lv_if_lt (tgt := 25) hx hb dX6_isVowel_1 (by decide) (fun c_1 => ?_) (fun c_1 => ?_)
  · rw [if_pos c_1] at hM
    refine lv_iconst (v := 0) hx hb dX6_isVowel_25 (by decide) ?_
    have q1 := Option.some.inj hM
    subst q1
    exact kr _ _ _ _ dX6_isVowel_26 (by decide) hP hD hS
  · rw [if_neg c_1] at hM
    refine lv_iload_n hx hb dX6_isVowel_4 rfl (lv_at hl 0 rfl) ?_
    refine lv_bipush (v := 26) hx hb dX6_isVowel_5 (by decide) ?_
    refine lv_icmp_ge (tgt := 25) hx hb dX6_isVowel_7 (by decide) (fun c_2 => ?_) (fun c_2 => ?_)
    · rw [if_pos c_2] at hM
      refine lv_iconst (v := 0) hx hb dX6_isVowel_25 (by decide) ?_
      have q1 := Option.some.inj hM
      subst q1
      exact kr _ _ _ _ dX6_isVowel_26 (by decide) hP hD hS
    · rw [if_neg c_2] at hM
      refine lv_ldcw (v := 1065233) hx hb hown (hts _ tb122) dX6_isVowel_10 ?_
      refine lv_iload_n hx hb dX6_isVowel_13 rfl (lv_at hl 0 rfl) ?_
      refine lv_ishr hx hb dX6_isVowel_14 ?_
      refine lv_iconst (v := 1) hx hb dX6_isVowel_15 (by decide) ?_
      refine lv_iand hx hb dX6_isVowel_16 ?_
      refine lv_iconst (v := 1) hx hb dX6_isVowel_17 (by decide) ?_
      refine lv_icmp_ne (tgt := 25) hx hb dX6_isVowel_18 (by decide) (fun c_3 => ?_) (fun c_3 => ?_)
      · rw [if_neg c_3] at hM
        refine lv_iconst (v := 0) hx hb dX6_isVowel_25 (by decide) ?_
        have q1 := Option.some.inj hM
        subst q1
        exact kr _ _ _ _ dX6_isVowel_26 (by decide) hP hD hS
      · rw [if_pos c_3] at hM
        refine lv_iconst (v := 1) hx hb dX6_isVowel_21 (by decide) ?_
        refine lv_goto (tgt := 26) hx hb dX6_isVowel_22 (by decide) ?_
        have q1 := Option.some.inj hM
        subst q1
        exact kr _ _ _ _ dX6_isVowel_26 (by decide) hP hD hS
set_option maxHeartbeats 4000000 in
set_option maxRecDepth 100000 in
theorem kX6_isVowel (l : Launch) (G : va_G) (K : Nat → ClassId) (tt : Nat → Nat) (L : List Nat) (la : Nat → Nat) (sa : Nat → Nat) (ln : Nat → Int32) (sy : Nat → Int32) (sn : Nat → Int32) (lt : Nat → Nat → Int32) (st : Nat → Nat → Int32)  (p1 : Int32) (sz : Nat) (r : Int32)  (hM : mX6_isVowel p1 = some r) : Met l yX6_isVowel (mC yX6_isVowel cX6_isVowel 1 (some .boolean)) rmX6_isVowel (va_Pc [.int p1] (PCe G K (EC G K tt L la sa ln sy sn lt st) [] sz)) (va_Qi (fun (x : Int32) (_ : Unit) => x = r) (fun _ t => va_P G vwCl [] t.heap) (va_A [] sz)) rmX6_isVowel.cells rmX6_isVowel.slots (va_A [] sz) := by
  refine Met.ofW (cc := cX6_isVowel) (maxL := 1) (ret := (some .boolean)) (by decide) rfl ?_
  intro p e s m args below meth c s₁ B hml hv
  obtain ⟨rfl, hsz, hP, hK, hD0, hE⟩ := hv
  have hx := B.exec
  have hb := B.bytes
  have hr := B.returns
  have hts0 := atoms_spec (ws := mC yX6_isVowel cX6_isVowel 1 (some .boolean)) B.pre
  have hts : ∀ w ∈ tbG, w.before _ s = true := fun w h => hts0 w (List.mem_cons_of_mem _ h)
  have hown : s.vm.findClass RX6 = some m.cls := findClass_of_methodNamed B.named
  subst hsz
  have hD := hD0.self (sz := s.heap.size)
  generalize hAe : va_A [] s.heap.size = A at hD hE ⊢
  have hA : ∀ q : Nat, s.heap.size ≤ q → A q := fun q h => by rw [← hAe]; exact Or.inr h
  have hS : va_S A s.heap s.heap [] := va_S.rf
  have hl := lv_entry ([.int p1]) (n := 1) (Nat.le_of_ble_eq_true rfl)
  rw [lg_entry_eq]
  generalize (lg_sl ([.int p1]) ++ List.replicate (1 - (lg_sl ([.int p1])).length) Slot.unset).toArray = ls at hl ⊢
  have hl : lv_has ls 1 [(0, .int p1)] := hl
  exact wX6_isVowel_b0 ⟨hx, hb, hml, hown, hts, hK, hA, EC_ok _ _ _ _ _ _ _ _ _ _ _, hE⟩ p1 r (fun H locs ls pc hdg hz hP hD hS => W.zret (v := r) (ty := .boolean) hx hb hr (nar_b hz) (fun t ht hW => ⟨⟨r, (), rfl, rfl, (show va_P G vwCl _ t.heap by rw [ht]; exact hP)⟩, hS.F ht⟩) hS.2.2 hdg)   hM _ _ _ hP hD hS hl
abbrev WX6_hasVowel (K : Nat → ClassId) (arA1 : Nat) (n1 : Nat) (ar1 : Nat → Int32) : va_W := [aI K arA1 n1 ar1]
def rmX6_hasVowel : Room := { frames := 1, cells := 0, slots := 0, locals := 20 }
theorem hdX6_hasVowel : yX6_hasVowel.cls ≠ "java/lang/invoke/MethodHandle" ∧ yX6_hasVowel.cls ≠ "java/lang/invoke/VarHandle" ∧ (parseMethodDescriptor yX6_hasVowel.desc).map (fun d => d.parameters.length) = some 2 := by decide +kernel
set_option maxHeartbeats 4000000 in
set_option maxRecDepth 100000 in
theorem wX6_hasVowel_b2 {p : Program} {l : Launch} {e : Env} {s : State} {m : MethodId} {args : Array Value} {below : List Frame} {meth : Method} {c : Code} {Q : State → Prop} {G : va_G} {K : Nat → ClassId} {A : Nat → Prop} {tt : Nat → Nat} {L : List Nat} {la : Nat → Nat} {sa : Nat → Nat} {ln : Nat → Int32} {sy : Nat → Int32} {sn : Nat → Int32} {lt : Nat → Nat → Int32} {st : Nat → Nat → Int32} (C0 : CX p s m args c cX6_hasVowel 3 RX6 G K (EC G K tt L la sa ln sy sn lt st) A) (arA1 : Nat) (n1 : Nat) (ar1 : Nat → Int32) (p2 : Int32) (r : Int32)  (kr : ∀ (H : Heap) (locs : List Loc) (ls : Array Slot) (pc : Nat), decode cX6_hasVowel pc = .ok (.ireturn, 1) → (r = 0 ∨ r = 1) → va_P G vwCl (WX6_hasVowel K arA1 n1 ar1) H → va_D A (WX6_hasVowel K arA1 n1 ar1) → va_S A s.heap H locs → W p l e rmX6_hasVowel s m args below meth c H locs 0 0 Q (F0 m pc ls [.int r])) (n : Nat) : ∀ (x2 : Int32), mX6_hasVowel_b2 n1 ar1 p2  n x2 = some r → ∀ (H : Heap) (locs : List Loc) (ls : Array Slot), va_P G vwCl (WX6_hasVowel K arA1 n1 ar1) H → va_D A (WX6_hasVowel K arA1 n1 ar1) → va_S A s.heap H locs → lv_has ls 3 [(0, .ref arA1), (1, .int p2), (2, .int x2)] → W p l e rmX6_hasVowel s m args below meth c H locs 0 0 Q (F0 m 2 ls []) := by
  obtain ⟨hx, hb, hml, hown, hts, hK, hA, hEo, hE⟩ := id C0
  induction n with
  | zero =>
    intro x2 hM
    cases hM
  | succ n ih =>
    intro x2 hM H locs ls hP hD hS hl
    rw [mX6_hasVowel_b2] at hM
    refine lv_iload_n hx hb dX6_hasVowel_2 rfl (lv_at hl 2 rfl) ?_
    refine lv_iload_n hx hb dX6_hasVowel_3 rfl (lv_at hl 1 rfl) ?_
    refine lv_icmp_ge (tgt := 30) hx hb dX6_hasVowel_4 (by decide) (fun c_1 => ?_) (fun c_1 => ?_)
    · rw [if_pos c_1] at hM
      refine lv_iconst (v := 0) hx hb dX6_hasVowel_30 (by decide) ?_
      have q1 := Option.some.inj hM
      subst q1
      exact kr _ _ _ _ dX6_hasVowel_31 (by decide) hP hD hS
    · rw [if_neg c_1] at hM
      refine lv_iload_n hx hb dX6_hasVowel_7 rfl (lv_at hl 2 rfl) ?_
      refine lv_aload_n hx hb dX6_hasVowel_8 rfl (lv_at hl 0 rfl) ?_
      refine va_alen hx hb hK hP 0 0 rfl rfl (v := nI n1) rfl dX6_hasVowel_9 ?_
      refine lv_icmp_ge (tgt := 30) hx hb dX6_hasVowel_10 (by decide) (fun c_2 => ?_) (fun c_2 => ?_)
      · rw [if_pos c_2] at hM
        refine lv_iconst (v := 0) hx hb dX6_hasVowel_30 (by decide) ?_
        have q1 := Option.some.inj hM
        subst q1
        exact kr _ _ _ _ dX6_hasVowel_31 (by decide) hP hD hS
      · rw [if_neg c_2] at hM
        refine lv_aload_n hx hb dX6_hasVowel_13 rfl (lv_at hl 0 rfl) ?_
        refine lv_iload_n hx hb dX6_hasVowel_14 rfl (lv_at hl 2 rfl) ?_
        obtain ⟨g_3, hM⟩ := ng hM
        refine va_iald hx hb hK hP 0 0 rfl rfl g_3 dX6_hasVowel_15 ?_
        obtain ⟨r_4, hC, hM⟩ := oe1 hM
        refine cS_i (As := [.int (ar1 x2.toNatClampNeg)]) (rest := []) C0 hP hD hS [] (kX6_isVowel l G K tt L la sa ln sy sn lt st (ar1 x2.toNatClampNeg) H.size r_4 hC) rfl rfl rfl tb385 tb120 tb1 tb121 hdX6_isVowel ⟨Nat.le_of_ble_eq_true rfl, Nat.le_of_ble_eq_true rfl⟩ rfl hl.1 (Nat.le_of_ble_eq_true rfl) rfl ⟨Nat.le_refl _, Nat.le_refl _⟩ dX6_hasVowel_16 (fun H locs hP hD hS => ?_)
        have hP : va_P G vwCl (WX6_hasVowel K arA1 n1 ar1) H := hP
        have hD : va_D A (WX6_hasVowel K arA1 n1 ar1) := hD
        refine lv_if_eq (tgt := 24) hx hb dX6_hasVowel_19 (by decide) (fun c_5 => ?_) (fun c_5 => ?_)
        · rw [if_pos c_5] at hM
          refine lv_iinc (v := (x2 + 1)) (lv' := [(2, .int (x2 + 1)), (0, .ref arA1), (1, .int p2)]) hx hb dX6_hasVowel_24 hl (k := 2) rfl rfl (by decide) rfl (fun ls hl => ?_)
          refine lv_goto (tgt := 2) hx hb dX6_hasVowel_27 (by decide) ?_
          exact ih (x2 + 1) hM _ _ _ hP hD hS (lv_sub hl [1, 2, 0] rfl)
        · rw [if_neg c_5] at hM
          refine lv_iconst (v := 1) hx hb dX6_hasVowel_22 (by decide) ?_
          have q1 := Option.some.inj hM
          subst q1
          exact kr _ _ _ _ dX6_hasVowel_23 (by decide) hP hD hS
set_option maxHeartbeats 4000000 in
set_option maxRecDepth 100000 in
theorem wX6_hasVowel_b0 {p : Program} {l : Launch} {e : Env} {s : State} {m : MethodId} {args : Array Value} {below : List Frame} {meth : Method} {c : Code} {Q : State → Prop} {G : va_G} {K : Nat → ClassId} {A : Nat → Prop} {tt : Nat → Nat} {L : List Nat} {la : Nat → Nat} {sa : Nat → Nat} {ln : Nat → Int32} {sy : Nat → Int32} {sn : Nat → Int32} {lt : Nat → Nat → Int32} {st : Nat → Nat → Int32} (C0 : CX p s m args c cX6_hasVowel 3 RX6 G K (EC G K tt L la sa ln sy sn lt st) A) (arA1 : Nat) (n1 : Nat) (ar1 : Nat → Int32) (p2 : Int32) (r : Int32)  (kr : ∀ (H : Heap) (locs : List Loc) (ls : Array Slot) (pc : Nat), decode cX6_hasVowel pc = .ok (.ireturn, 1) → (r = 0 ∨ r = 1) → va_P G vwCl (WX6_hasVowel K arA1 n1 ar1) H → va_D A (WX6_hasVowel K arA1 n1 ar1) → va_S A s.heap H locs → W p l e rmX6_hasVowel s m args below meth c H locs 0 0 Q (F0 m pc ls [.int r]))  (hM : mX6_hasVowel_b0 n1 ar1 p2   = some r) : ∀ (H : Heap) (locs : List Loc) (ls : Array Slot), va_P G vwCl (WX6_hasVowel K arA1 n1 ar1) H → va_D A (WX6_hasVowel K arA1 n1 ar1) → va_S A s.heap H locs → lv_has ls 3 [(0, .ref arA1), (1, .int p2)] → W p l e rmX6_hasVowel s m args below meth c H locs 0 0 Q (F0 m 0 ls []) := by
  obtain ⟨hx, hb, hml, hown, hts, hK, hA, hEo, hE⟩ := id C0
  intro H locs ls hP hD hS hl
  unfold mX6_hasVowel_b0 at hM
  refine lv_iconst (v := 0) hx hb dX6_hasVowel_0 (by decide) ?_
  refine lv_istore_n (lv' := [(2, .int (0 : Int32)), (0, .ref arA1), (1, .int p2)]) hx hb dX6_hasVowel_1 rfl hl (by decide) rfl (fun ls hl => ?_)
  exact wX6_hasVowel_b2 C0 arA1 n1 ar1 p2 r kr  FU (0 : Int32) hM _ _ _ hP hD hS (lv_sub hl [1, 2, 0] rfl)
set_option maxHeartbeats 4000000 in
set_option maxRecDepth 100000 in
theorem kX6_hasVowel (l : Launch) (G : va_G) (K : Nat → ClassId) (tt : Nat → Nat) (L : List Nat) (la : Nat → Nat) (sa : Nat → Nat) (ln : Nat → Int32) (sy : Nat → Int32) (sn : Nat → Int32) (lt : Nat → Nat → Int32) (st : Nat → Nat → Int32) (arA1 : Nat) (n1 : Nat) (ar1 : Nat → Int32) (p2 : Int32) (sz : Nat) (r : Int32)  (hM : mX6_hasVowel n1 ar1 p2 = some r) : Met l yX6_hasVowel (mC yX6_hasVowel cX6_hasVowel 3 (some .boolean)) rmX6_hasVowel (va_Pc [.ref arA1, .int p2] (PCe G K (EC G K tt L la sa ln sy sn lt st) (WX6_hasVowel K arA1 n1 ar1) sz)) (va_Qi (fun (x : Int32) (_ : Unit) => x = r) (fun _ t => va_P G vwCl (WX6_hasVowel K arA1 n1 ar1) t.heap) (va_A (WX6_hasVowel K arA1 n1 ar1) sz)) rmX6_hasVowel.cells rmX6_hasVowel.slots (va_A (WX6_hasVowel K arA1 n1 ar1) sz) := by
  refine Met.ofW (cc := cX6_hasVowel) (maxL := 3) (ret := (some .boolean)) (by decide) rfl ?_
  intro p e s m args below meth c s₁ B hml hv
  obtain ⟨rfl, hsz, hP, hK, hD0, hE⟩ := hv
  have hx := B.exec
  have hb := B.bytes
  have hr := B.returns
  have hts0 := atoms_spec (ws := mC yX6_hasVowel cX6_hasVowel 3 (some .boolean)) B.pre
  have hts : ∀ w ∈ tbG, w.before _ s = true := fun w h => hts0 w (List.mem_cons_of_mem _ h)
  have hown : s.vm.findClass RX6 = some m.cls := findClass_of_methodNamed B.named
  subst hsz
  have hD := hD0.self (sz := s.heap.size)
  generalize hAe : va_A (WX6_hasVowel K arA1 n1 ar1) s.heap.size = A at hD hE ⊢
  have hA : ∀ q : Nat, s.heap.size ≤ q → A q := fun q h => by rw [← hAe]; exact Or.inr h
  have hS : va_S A s.heap s.heap [] := va_S.rf
  have hl := lv_entry ([.ref arA1, .int p2]) (n := 3) (Nat.le_of_ble_eq_true rfl)
  rw [lg_entry_eq]
  generalize (lg_sl ([.ref arA1, .int p2]) ++ List.replicate (3 - (lg_sl ([.ref arA1, .int p2])).length) Slot.unset).toArray = ls at hl ⊢
  have hl : lv_has ls 3 [(0, .ref arA1), (1, .int p2)] := hl
  exact wX6_hasVowel_b0 ⟨hx, hb, hml, hown, hts, hK, hA, EC_ok _ _ _ _ _ _ _ _ _ _ _, hE⟩ arA1 n1 ar1 p2 r (fun H locs ls pc hdg hz hP hD hS => W.zret (v := r) (ty := .boolean) hx hb hr (nar_b hz) (fun t ht hW => ⟨⟨r, (), rfl, rfl, (show va_P G vwCl _ t.heap by rw [ht]; exact hP)⟩, hS.F ht⟩) hS.2.2 hdg)   hM _ _ _ hP hD hS hl
abbrev WX6_fault (K : Nat → ClassId) (x_a xA_rows rd_a v_a d_a xA_images ac_a er_a xA_hits xA_bodies : Nat) (x_begun : Int32) (x_latestFault : Int32) (x_latestFinding : Int32) : va_W := [(x_a, .inr (6, [.ref xA_rows, .ref rd_a, .ref v_a, .ref d_a, .ref xA_images, .ref ac_a, .ref er_a, .ref xA_hits, .ref xA_bodies, .int x_begun, .int x_latestFault, .int x_latestFinding]))]
def rmX6_fault : Room := { frames := 0, cells := 0, slots := 0, locals := 0 }
theorem hdX6_fault : yX6_fault.cls = RX6 ∧ yX6_fault.cls ≠ "java/lang/invoke/MethodHandle" ∧ yX6_fault.cls ≠ "java/lang/invoke/VarHandle" ∧ (parseMethodDescriptor yX6_fault.desc).map (fun d => d.parameters.length) = some 0 := by decide +kernel
set_option maxHeartbeats 4000000 in
set_option maxRecDepth 100000 in
theorem wX6_fault_b0 {p : Program} {l : Launch} {e : Env} {s : State} {m : MethodId} {args : Array Value} {below : List Frame} {meth : Method} {c : Code} {Q : State → Prop} {G : va_G} {K : Nat → ClassId} {A : Nat → Prop} {tt : Nat → Nat} {L : List Nat} {la : Nat → Nat} {sa : Nat → Nat} {ln : Nat → Int32} {sy : Nat → Int32} {sn : Nat → Int32} {lt : Nat → Nat → Int32} {st : Nat → Nat → Int32} (C0 : CX p s m args c cX6_fault 1 RX6 G K (EC G K tt L la sa ln sy sn lt st) A) (x_a xA_rows rd_a v_a d_a xA_images ac_a er_a xA_hits xA_bodies : Nat) (x_begun : Int32) (x_latestFault : Int32) (x_latestFinding : Int32)  (r : Int32)  (kr : ∀ (H : Heap) (locs : List Loc) (ls : Array Slot) (pc : Nat), decode cX6_fault pc = .ok (.ireturn, 1) → va_P G vwCl (WX6_fault K x_a xA_rows rd_a v_a d_a xA_images ac_a er_a xA_hits xA_bodies x_begun x_latestFault x_latestFinding) H → va_D A (WX6_fault K x_a xA_rows rd_a v_a d_a xA_images ac_a er_a xA_hits xA_bodies x_begun x_latestFault x_latestFinding) → va_S A s.heap H locs → W p l e rmX6_fault s m args below meth c H locs 0 0 Q (F0 m pc ls [.int r]))  (hM : mX6_fault_b0 x_latestFault   = some r) : ∀ (H : Heap) (locs : List Loc) (ls : Array Slot), va_P G vwCl (WX6_fault K x_a xA_rows rd_a v_a d_a xA_images ac_a er_a xA_hits xA_bodies x_begun x_latestFault x_latestFinding) H → va_D A (WX6_fault K x_a xA_rows rd_a v_a d_a xA_images ac_a er_a xA_hits xA_bodies x_begun x_latestFault x_latestFinding) → va_S A s.heap H locs → lv_has ls 1 [(0, .ref x_a)] → W p l e rmX6_fault s m args below meth c H locs 0 0 Q (F0 m 0 ls []) := by
  obtain ⟨hx, hb, hml, hown, hts, hK, hA, hEo, hE⟩ := id C0
  intro H locs ls hP hD hS hl
  unfold mX6_fault_b0 at hM
  refine lv_aload_n hx hb dX6_fault_0 rfl (lv_at hl 0 rfl) ?_
  refine va_get (D := G) (ci := 6) (v := .int x_latestFault) (C := RX6) (T := TX6) (N := 12) hx hb hts inX6 hown hK hP 0 rfl rfl 10 (by decide) (hts _ tb255) (fun _ h9 => h9) rfl dX6_fault_1 ?_
  have q1 := Option.some.inj hM
  subst q1
  exact kr _ _ _ _ dX6_fault_4 hP hD hS
set_option maxHeartbeats 4000000 in
set_option maxRecDepth 100000 in
theorem kX6_fault (l : Launch) (G : va_G) (K : Nat → ClassId) (tt : Nat → Nat) (L : List Nat) (la : Nat → Nat) (sa : Nat → Nat) (ln : Nat → Int32) (sy : Nat → Int32) (sn : Nat → Int32) (lt : Nat → Nat → Int32) (st : Nat → Nat → Int32) (x_a xA_rows rd_a v_a d_a xA_images ac_a er_a xA_hits xA_bodies : Nat) (x_begun : Int32) (x_latestFault : Int32) (x_latestFinding : Int32)  (sz : Nat) (r : Int32)  (hM : mX6_fault x_latestFault = some r) : Met l yX6_fault (mC yX6_fault cX6_fault 1 (some .int)) rmX6_fault (va_Pc [.ref x_a] (PCe G K (EC G K tt L la sa ln sy sn lt st) (WX6_fault K x_a xA_rows rd_a v_a d_a xA_images ac_a er_a xA_hits xA_bodies x_begun x_latestFault x_latestFinding) sz)) (va_Qi (fun (x : Int32) (_ : Unit) => x = r) (fun _ t => va_P G vwCl (WX6_fault K x_a xA_rows rd_a v_a d_a xA_images ac_a er_a xA_hits xA_bodies x_begun x_latestFault x_latestFinding) t.heap) (va_A (WX6_fault K x_a xA_rows rd_a v_a d_a xA_images ac_a er_a xA_hits xA_bodies x_begun x_latestFault x_latestFinding) sz)) rmX6_fault.cells rmX6_fault.slots (va_A (WX6_fault K x_a xA_rows rd_a v_a d_a xA_images ac_a er_a xA_hits xA_bodies x_begun x_latestFault x_latestFinding) sz) := by
  refine Met.ofW (cc := cX6_fault) (maxL := 1) (ret := (some .int)) (by decide) rfl ?_
  intro p e s m args below meth c s₁ B hml hv
  obtain ⟨rfl, hsz, hP, hK, hD0, hE⟩ := hv
  have hx := B.exec
  have hb := B.bytes
  have hr := B.returns
  have hts0 := atoms_spec (ws := mC yX6_fault cX6_fault 1 (some .int)) B.pre
  have hts : ∀ w ∈ tbG, w.before _ s = true := fun w h => hts0 w (List.mem_cons_of_mem _ h)
  have hown : s.vm.findClass RX6 = some m.cls := findClass_of_methodNamed B.named
  subst hsz
  have hD := hD0.self (sz := s.heap.size)
  generalize hAe : va_A (WX6_fault K x_a xA_rows rd_a v_a d_a xA_images ac_a er_a xA_hits xA_bodies x_begun x_latestFault x_latestFinding) s.heap.size = A at hD hE ⊢
  have hA : ∀ q : Nat, s.heap.size ≤ q → A q := fun q h => by rw [← hAe]; exact Or.inr h
  have hS : va_S A s.heap s.heap [] := va_S.rf
  have hl := lv_entry ([.ref x_a]) (n := 1) (Nat.le_of_ble_eq_true rfl)
  rw [lg_entry_eq]
  generalize (lg_sl ([.ref x_a]) ++ List.replicate (1 - (lg_sl ([.ref x_a])).length) Slot.unset).toArray = ls at hl ⊢
  have hl : lv_has ls 1 [(0, .ref x_a)] := hl
  exact wX6_fault_b0 ⟨hx, hb, hml, hown, hts, hK, hA, EC_ok _ _ _ _ _ _ _ _ _ _ _, hE⟩ x_a xA_rows rd_a v_a d_a xA_images ac_a er_a xA_hits xA_bodies x_begun x_latestFault x_latestFinding r (fun H locs ls pc hdg hP hD hS => W.iret (v := r) hx hb hr (fun t ht hW => ⟨⟨r, (), rfl, rfl, (show va_P G vwCl _ t.heap by rw [ht]; exact hP)⟩, hS.F ht⟩) hS.2.2 hdg)   hM _ _ _ hP hD hS hl
abbrev WX2_hasWord (K : Nat → ClassId) (po_a poA_sizes poA_kinds poA_spelled poA_scheme : Nat) (po_foot : Int32) (po_feet : Int32) (po_lines : Int32) (po_words : Int32) (po_sizes : Nat → Int32) (po_kinds : Nat → Int32) (po_spelled : Nat → Nat) (po_scheme : Nat → Int32) : va_W := [(po_a, .inr (2, [.int po_foot, .int po_feet, .int po_lines, .int po_words, .ref poA_sizes, .ref poA_kinds, .ref poA_spelled, .ref poA_scheme])), aI K poA_sizes 4 po_sizes, aI K poA_kinds 20 po_kinds, aS K poA_spelled 20 po_spelled, aI K poA_scheme 4 po_scheme]
def rmX2_hasWord : Room := { frames := 0, cells := 0, slots := 0, locals := 0 }
theorem hdX2_hasWord : yX2_hasWord.cls = RX2 ∧ yX2_hasWord.cls ≠ "java/lang/invoke/MethodHandle" ∧ yX2_hasWord.cls ≠ "java/lang/invoke/VarHandle" ∧ (parseMethodDescriptor yX2_hasWord.desc).map (fun d => d.parameters.length) = some 1 := by decide +kernel
set_option maxHeartbeats 4000000 in
set_option maxRecDepth 100000 in
theorem wX2_hasWord_b0 {p : Program} {l : Launch} {e : Env} {s : State} {m : MethodId} {args : Array Value} {below : List Frame} {meth : Method} {c : Code} {Q : State → Prop} {G : va_G} {K : Nat → ClassId} {A : Nat → Prop} {tt : Nat → Nat} {L : List Nat} {la : Nat → Nat} {sa : Nat → Nat} {ln : Nat → Int32} {sy : Nat → Int32} {sn : Nat → Int32} {lt : Nat → Nat → Int32} {st : Nat → Nat → Int32} (C0 : CX p s m args c cX2_hasWord 2 RX2 G K (EC G K tt L la sa ln sy sn lt st) A) (po_a poA_sizes poA_kinds poA_spelled poA_scheme : Nat) (po_foot : Int32) (po_feet : Int32) (po_lines : Int32) (po_words : Int32) (po_sizes : Nat → Int32) (po_kinds : Nat → Int32) (po_spelled : Nat → Nat) (po_scheme : Nat → Int32) (p1 : Int32) (r : Int32)  (kr : ∀ (H : Heap) (locs : List Loc) (ls : Array Slot) (pc : Nat), decode cX2_hasWord pc = .ok (.ireturn, 1) → (r = 0 ∨ r = 1) → va_P G vwCl (WX2_hasWord K po_a poA_sizes poA_kinds poA_spelled poA_scheme po_foot po_feet po_lines po_words po_sizes po_kinds po_spelled po_scheme) H → va_D A (WX2_hasWord K po_a poA_sizes poA_kinds poA_spelled poA_scheme po_foot po_feet po_lines po_words po_sizes po_kinds po_spelled po_scheme) → va_S A s.heap H locs → W p l e rmX2_hasWord s m args below meth c H locs 0 0 Q (F0 m pc ls [.int r]))  (hM : mX2_hasWord_b0 po_words p1   = some r) : ∀ (H : Heap) (locs : List Loc) (ls : Array Slot), va_P G vwCl (WX2_hasWord K po_a poA_sizes poA_kinds poA_spelled poA_scheme po_foot po_feet po_lines po_words po_sizes po_kinds po_spelled po_scheme) H → va_D A (WX2_hasWord K po_a poA_sizes poA_kinds poA_spelled poA_scheme po_foot po_feet po_lines po_words po_sizes po_kinds po_spelled po_scheme) → va_S A s.heap H locs → lv_has ls 2 [(0, .ref po_a), (1, .int p1)] → W p l e rmX2_hasWord s m args below meth c H locs 0 0 Q (F0 m 0 ls []) := by
  obtain ⟨hx, hb, hml, hown, hts, hK, hA, hEo, hE⟩ := id C0
  intro H locs ls hP hD hS hl
  unfold mX2_hasWord_b0 at hM
  refine lv_iload_n hx hb dX2_hasWord_0 rfl (lv_at hl 1 rfl) ?_
  refine lv_if_lt (tgt := 16) hx hb dX2_hasWord_1 (by decide) (fun c_1 => ?_) (fun c_1 => ?_)
  · rw [if_pos c_1] at hM
    refine lv_iconst (v := 0) hx hb dX2_hasWord_16 (by decide) ?_
    have q1 := Option.some.inj hM
    subst q1
    exact kr _ _ _ _ dX2_hasWord_17 (by decide) hP hD hS
  · rw [if_neg c_1] at hM
    refine lv_iload_n hx hb dX2_hasWord_4 rfl (lv_at hl 1 rfl) ?_
    refine lv_aload_n hx hb dX2_hasWord_5 rfl (lv_at hl 0 rfl) ?_
    refine va_get (D := G) (ci := 2) (v := .int po_words) (C := RX2) (T := TX2) (N := 8) hx hb hts inX2 hown hK hP 0 rfl rfl 3 (by decide) (hts _ tb184) (fun _ h9 => h9) rfl dX2_hasWord_6 ?_
    refine lv_icmp_ge (tgt := 16) hx hb dX2_hasWord_9 (by decide) (fun c_2 => ?_) (fun c_2 => ?_)
    · rw [if_pos c_2] at hM
      refine lv_iconst (v := 0) hx hb dX2_hasWord_16 (by decide) ?_
      have q1 := Option.some.inj hM
      subst q1
      exact kr _ _ _ _ dX2_hasWord_17 (by decide) hP hD hS
    · rw [if_neg c_2] at hM
      refine lv_iconst (v := 1) hx hb dX2_hasWord_12 (by decide) ?_
      refine lv_goto (tgt := 17) hx hb dX2_hasWord_13 (by decide) ?_
      have q1 := Option.some.inj hM
      subst q1
      exact kr _ _ _ _ dX2_hasWord_17 (by decide) hP hD hS
set_option maxHeartbeats 4000000 in
set_option maxRecDepth 100000 in
theorem kX2_hasWord (l : Launch) (G : va_G) (K : Nat → ClassId) (tt : Nat → Nat) (L : List Nat) (la : Nat → Nat) (sa : Nat → Nat) (ln : Nat → Int32) (sy : Nat → Int32) (sn : Nat → Int32) (lt : Nat → Nat → Int32) (st : Nat → Nat → Int32) (po_a poA_sizes poA_kinds poA_spelled poA_scheme : Nat) (po_foot : Int32) (po_feet : Int32) (po_lines : Int32) (po_words : Int32) (po_sizes : Nat → Int32) (po_kinds : Nat → Int32) (po_spelled : Nat → Nat) (po_scheme : Nat → Int32) (p1 : Int32) (sz : Nat) (r : Int32)  (hM : mX2_hasWord po_words p1 = some r) : Met l yX2_hasWord (mC yX2_hasWord cX2_hasWord 2 (some .boolean)) rmX2_hasWord (va_Pc [.ref po_a, .int p1] (PCe G K (EC G K tt L la sa ln sy sn lt st) (WX2_hasWord K po_a poA_sizes poA_kinds poA_spelled poA_scheme po_foot po_feet po_lines po_words po_sizes po_kinds po_spelled po_scheme) sz)) (va_Qi (fun (x : Int32) (_ : Unit) => x = r) (fun _ t => va_P G vwCl (WX2_hasWord K po_a poA_sizes poA_kinds poA_spelled poA_scheme po_foot po_feet po_lines po_words po_sizes po_kinds po_spelled po_scheme) t.heap) (va_A (WX2_hasWord K po_a poA_sizes poA_kinds poA_spelled poA_scheme po_foot po_feet po_lines po_words po_sizes po_kinds po_spelled po_scheme) sz)) rmX2_hasWord.cells rmX2_hasWord.slots (va_A (WX2_hasWord K po_a poA_sizes poA_kinds poA_spelled poA_scheme po_foot po_feet po_lines po_words po_sizes po_kinds po_spelled po_scheme) sz) := by
  refine Met.ofW (cc := cX2_hasWord) (maxL := 2) (ret := (some .boolean)) (by decide) rfl ?_
  intro p e s m args below meth c s₁ B hml hv
  obtain ⟨rfl, hsz, hP, hK, hD0, hE⟩ := hv
  have hx := B.exec
  have hb := B.bytes
  have hr := B.returns
  have hts0 := atoms_spec (ws := mC yX2_hasWord cX2_hasWord 2 (some .boolean)) B.pre
  have hts : ∀ w ∈ tbG, w.before _ s = true := fun w h => hts0 w (List.mem_cons_of_mem _ h)
  have hown : s.vm.findClass RX2 = some m.cls := findClass_of_methodNamed B.named
  subst hsz
  have hD := hD0.self (sz := s.heap.size)
  generalize hAe : va_A (WX2_hasWord K po_a poA_sizes poA_kinds poA_spelled poA_scheme po_foot po_feet po_lines po_words po_sizes po_kinds po_spelled po_scheme) s.heap.size = A at hD hE ⊢
  have hA : ∀ q : Nat, s.heap.size ≤ q → A q := fun q h => by rw [← hAe]; exact Or.inr h
  have hS : va_S A s.heap s.heap [] := va_S.rf
  have hl := lv_entry ([.ref po_a, .int p1]) (n := 2) (Nat.le_of_ble_eq_true rfl)
  rw [lg_entry_eq]
  generalize (lg_sl ([.ref po_a, .int p1]) ++ List.replicate (2 - (lg_sl ([.ref po_a, .int p1])).length) Slot.unset).toArray = ls at hl ⊢
  have hl : lv_has ls 2 [(0, .ref po_a), (1, .int p1)] := hl
  exact wX2_hasWord_b0 ⟨hx, hb, hml, hown, hts, hK, hA, EC_ok _ _ _ _ _ _ _ _ _ _ _, hE⟩ po_a poA_sizes poA_kinds poA_spelled poA_scheme po_foot po_feet po_lines po_words po_sizes po_kinds po_spelled po_scheme p1 r (fun H locs ls pc hdg hz hP hD hS => W.zret (v := r) (ty := .boolean) hx hb hr (nar_b hz) (fun t ht hW => ⟨⟨r, (), rfl, rfl, (show va_P G vwCl _ t.heap by rw [ht]; exact hP)⟩, hS.F ht⟩) hS.2.2 hdg)   hM _ _ _ hP hD hS hl
