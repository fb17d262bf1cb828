def rmX7_has : Room := { frames := 0, cells := 0, slots := 0, locals := 0 }
theorem hdX7_has : yX7_has.cls ≠ "java/lang/invoke/MethodHandle" ∧ yX7_has.cls ≠ "java/lang/invoke/VarHandle" ∧ (parseMethodDescriptor yX7_has.desc).map (fun d => d.parameters.length) = some 2 := by decide +kernel
set_option maxHeartbeats 4000000 in
set_option maxRecDepth 100000 in
theorem wX7_has_b0 {p : Program} {l : Launch} {e : Env} {s : State} {m : MethodId} {args : Array Value} {below : List Frame} {meth : Method} {c : Code} {Q : State → Prop} {G : va_G} {K : Nat → ClassId} {A : Nat → Prop} (C0 : CX p s m args c cX7_has 2 RX7 G K E0 A)  (p1 : Int32) (p2 : Int32) (r : Int32)  (kr : ∀ (H : Heap) (locs : List Loc) (ls : Array Slot) (pc : Nat), decode cX7_has pc = .ok (.ireturn, 1) → (r = 0 ∨ r = 1) → va_P G vwCl [] H → va_D A [] → va_S A s.heap H locs → W p l e rmX7_has s m args below meth c H locs 0 0 Q (F0 m pc ls [.int r]))  (hM : mX7_has_b0 p1 p2   = some r) : ∀ (H : Heap) (locs : List Loc) (ls : Array Slot), va_P G vwCl [] H → va_D A [] → va_S A s.heap H locs → lv_has ls 2 [(0, .int p1), (1, .int p2)] → W p l e rmX7_has s m args below meth c H locs 0 0 Q (F0 m 0 ls []) := by
  obtain ⟨hx, hb, hml, hown, hts, hK, hA, hEo, hE⟩ := id C0
  intro H locs ls hP hD hS hl
  unfold mX7_has_b0 at hM
  refine lv_iload_n hx hb dX7_has_0 rfl (lv_at hl 0 rfl) ?_
  refine lv_iload_n hx hb dX7_has_1 rfl (lv_at hl 1 rfl) ?_
  refine lv_ishr hx hb dX7_has_2 ?_
  refine lv_iconst (v := 1) hx hb dX7_has_3 (by decide) ?_
  refine lv_iand hx hb dX7_has_4 ?_
  refine lv_iconst (v := 1) hx hb dX7_has_5 (by decide) ?_
  refine lv_icmp_ne (tgt := 13) hx hb dX7_has_6 (by decide) (fun c_1 => ?_) (fun c_1 => ?_)
  · rw [if_neg c_1] at hM
    refine lv_iconst (v := 0) hx hb dX7_has_13 (by decide) ?_
    have q1 := Option.some.inj hM
    subst q1
    exact kr _ _ _ _ dX7_has_14 (by decide) hP hD hS
  · rw [if_pos c_1] at hM
    refine lv_iconst (v := 1) hx hb dX7_has_9 (by decide) ?_
    refine lv_goto (tgt := 14) hx hb dX7_has_10 (by decide) ?_
    have q1 := Option.some.inj hM
    subst q1
    exact kr _ _ _ _ dX7_has_14 (by decide) hP hD hS
set_option maxHeartbeats 4000000 in
set_option maxRecDepth 100000 in
theorem kX7_has (l : Launch) (G : va_G) (K : Nat → ClassId)  (p1 : Int32) (p2 : Int32) (sz : Nat) (r : Int32)  (hM : mX7_has p1 p2 = some r) : Met l yX7_has (mC yX7_has cX7_has 2 (some .boolean)) rmX7_has (va_Pc [.int p1, .int p2] (PCe G K E0 [] sz)) (va_Qi (fun (x : Int32) (_ : Unit) => x = r) (fun _ t => va_P G vwCl [] t.heap) (va_A [] sz)) rmX7_has.cells rmX7_has.slots (va_A [] sz) := by
  refine Met.ofW (cc := cX7_has) (maxL := 2) (ret := (some .boolean)) (by decide) rfl ?_
  intro p e s m args below meth c s₁ B hml hv
  obtain ⟨rfl, hsz, hP, hK, hD0, hE⟩ := hv
  have hx := B.exec
  have hb := B.bytes
  have hr := B.returns
  have hts0 := atoms_spec (ws := mC yX7_has cX7_has 2 (some .boolean)) B.pre
  have hts : ∀ w ∈ tbG, w.before _ s = true := fun w h => hts0 w (List.mem_cons_of_mem _ h)
  have hown : s.vm.findClass RX7 = some m.cls := findClass_of_methodNamed B.named
  subst hsz
  have hD := hD0.self (sz := s.heap.size)
  generalize hAe : va_A [] s.heap.size = A at hD hE ⊢
  have hA : ∀ q : Nat, s.heap.size ≤ q → A q := fun q h => by rw [← hAe]; exact Or.inr h
  have hS : va_S A s.heap s.heap [] := va_S.rf
  have hl := lv_entry ([.int p1, .int p2]) (n := 2) (Nat.le_of_ble_eq_true rfl)
  rw [lg_entry_eq]
  generalize (lg_sl ([.int p1, .int p2]) ++ List.replicate (2 - (lg_sl ([.int p1, .int p2])).length) Slot.unset).toArray = ls at hl ⊢
  have hl : lv_has ls 2 [(0, .int p1), (1, .int p2)] := hl
  exact wX7_has_b0 ⟨hx, hb, hml, hown, hts, hK, hA, E0_ok, hE⟩ p1 p2 r (fun H locs ls pc hdg hz hP hD hS => W.zret (v := r) (ty := .boolean) hx hb hr (nar_b hz) (fun t ht hW => ⟨⟨r, (), rfl, rfl, (show va_P G vwCl _ t.heap by rw [ht]; exact hP)⟩, hS.F ht⟩) hS.2.2 hdg)   hM _ _ _ hP hD hS hl
abbrev WX7_firstOf (K : Nat → ClassId) (arA1 : Nat) (ar1 : Nat → Int32) : va_W := [aI K arA1 207 ar1]
def rmX7_firstOf : Room := { frames := 0, cells := 0, slots := 0, locals := 0 }
theorem hdX7_firstOf : yX7_firstOf.cls ≠ "java/lang/invoke/MethodHandle" ∧ yX7_firstOf.cls ≠ "java/lang/invoke/VarHandle" ∧ (parseMethodDescriptor yX7_firstOf.desc).map (fun d => d.parameters.length) = some 2 := by decide +kernel
set_option maxHeartbeats 4000000 in
set_option maxRecDepth 100000 in
theorem wX7_firstOf_b4 {p : Program} {l : Launch} {e : Env} {s : State} {m : MethodId} {args : Array Value} {below : List Frame} {meth : Method} {c : Code} {Q : State → Prop} {G : va_G} {K : Nat → ClassId} {A : Nat → Prop} (C0 : CX p s m args c cX7_firstOf 4 RX7 G K E0 A) (arA1 : Nat) (ar1 : Nat → Int32) (p2 : Int32) (r : Int32)  (kr : ∀ (H : Heap) (locs : List Loc) (ls : Array Slot) (pc : Nat), decode cX7_firstOf pc = .ok (.ireturn, 1) → va_P G vwCl (WX7_firstOf K arA1 ar1) H → va_D A (WX7_firstOf K arA1 ar1) → va_S A s.heap H locs → W p l e rmX7_firstOf s m args below meth c H locs 0 0 Q (F0 m pc ls [.int r])) (n : Nat) : ∀ (x2 : Int32) (x3 : Int32), mX7_firstOf_b4 ar1 p2  n x2 x3 = some r → ∀ (H : Heap) (locs : List Loc) (ls : Array Slot), va_P G vwCl (WX7_firstOf K arA1 ar1) H → va_D A (WX7_firstOf K arA1 ar1) → va_S A s.heap H locs → lv_has ls 4 [(0, .ref arA1), (1, .int p2), (2, .int x2), (3, .int x3)] → W p l e rmX7_firstOf s m args below meth c H locs 0 0 Q (F0 m 4 ls []) := by
  obtain ⟨hx, hb, hml, hown, hts, hK, hA, hEo, hE⟩ := id C0
  induction n with
  | zero =>
    intro x2 x3 hM
    cases hM
  | succ n ih =>
    intro x2 x3 hM H locs ls hP hD hS hl
    rw [mX7_firstOf_b4] at hM
    refine lv_iload_n hx hb dX7_firstOf_4 rfl (lv_at hl 3 rfl) ?_
    refine lv_iload_n hx hb dX7_firstOf_5 rfl (lv_at hl 1 rfl) ?_
    refine lv_icmp_ge (tgt := 23) hx hb dX7_firstOf_6 (by decide) (fun c_1 => ?_) (fun c_1 => ?_)
    · rw [if_pos c_1] at hM
      refine lv_iload_n hx hb dX7_firstOf_23 rfl (lv_at hl 2 rfl) ?_
      have q1 := Option.some.inj hM
      subst q1
      exact kr _ _ _ _ dX7_firstOf_24 hP hD hS
    · rw [if_neg c_1] at hM
      refine lv_iload_n hx hb dX7_firstOf_9 rfl (lv_at hl 2 rfl) ?_
      refine lv_aload_n hx hb dX7_firstOf_10 rfl (lv_at hl 0 rfl) ?_
      refine lv_iconst (v := 3) hx hb dX7_firstOf_11 (by decide) ?_
      refine lv_iload_n hx hb dX7_firstOf_12 rfl (lv_at hl 3 rfl) ?_
      refine lv_iadd hx hb dX7_firstOf_13 ?_
      obtain ⟨g_2, hM⟩ := ng hM
      refine va_iald hx hb hK hP 0 0 rfl rfl g_2 dX7_firstOf_14 ?_
      refine lv_iadd hx hb dX7_firstOf_15 ?_
      refine lv_istore_n (lv' := [(2, .int (x2 + (ar1 ((3 : Int32) + x3).toNatClampNeg))), (0, .ref arA1), (1, .int p2), (3, .int x3)]) hx hb dX7_firstOf_16 rfl hl (by decide) rfl (fun ls hl => ?_)
      refine lv_iinc (v := (x3 + 1)) (lv' := [(3, .int (x3 + 1)), (2, .int (x2 + (ar1 ((3 : Int32) + x3).toNatClampNeg))), (0, .ref arA1), (1, .int p2)]) hx hb dX7_firstOf_17 hl (k := 3) rfl rfl (by decide) rfl (fun ls hl => ?_)
      refine lv_goto (tgt := 4) hx hb dX7_firstOf_20 (by decide) ?_
      exact ih (x2 + (ar1 ((3 : Int32) + x3).toNatClampNeg)) (x3 + 1) hM _ _ _ hP hD hS (lv_sub hl [2, 3, 1, 0] rfl)
set_option maxHeartbeats 4000000 in
set_option maxRecDepth 100000 in
theorem wX7_firstOf_b0 {p : Program} {l : Launch} {e : Env} {s : State} {m : MethodId} {args : Array Value} {below : List Frame} {meth : Method} {c : Code} {Q : State → Prop} {G : va_G} {K : Nat → ClassId} {A : Nat → Prop} (C0 : CX p s m args c cX7_firstOf 4 RX7 G K E0 A) (arA1 : Nat) (ar1 : Nat → Int32) (p2 : Int32) (r : Int32)  (kr : ∀ (H : Heap) (locs : List Loc) (ls : Array Slot) (pc : Nat), decode cX7_firstOf pc = .ok (.ireturn, 1) → va_P G vwCl (WX7_firstOf K arA1 ar1) H → va_D A (WX7_firstOf K arA1 ar1) → va_S A s.heap H locs → W p l e rmX7_firstOf s m args below meth c H locs 0 0 Q (F0 m pc ls [.int r]))  (hM : mX7_firstOf_b0 ar1 p2   = some r) : ∀ (H : Heap) (locs : List Loc) (ls : Array Slot), va_P G vwCl (WX7_firstOf K arA1 ar1) H → va_D A (WX7_firstOf K arA1 ar1) → va_S A s.heap H locs → lv_has ls 4 [(0, .ref arA1), (1, .int p2)] → W p l e rmX7_firstOf s m args below meth c H locs 0 0 Q (F0 m 0 ls []) := by
  obtain ⟨hx, hb, hml, hown, hts, hK, hA, hEo, hE⟩ := id C0
  intro H locs ls hP hD hS hl
  unfold mX7_firstOf_b0 at hM
  refine lv_iconst (v := 0) hx hb dX7_firstOf_0 (by decide) ?_
  refine lv_istore_n (lv' := [(2, .int (0 : Int32)), (0, .ref arA1), (1, .int p2)]) hx hb dX7_firstOf_1 rfl hl (by decide) rfl (fun ls hl => ?_)
  refine lv_iconst (v := 0) hx hb dX7_firstOf_2 (by decide) ?_
  refine lv_istore_n (lv' := [(3, .int (0 : Int32)), (2, .int (0 : Int32)), (0, .ref arA1), (1, .int p2)]) hx hb dX7_firstOf_3 rfl hl (by decide) rfl (fun ls hl => ?_)
  exact wX7_firstOf_b4 C0 arA1 ar1 p2 r kr  FU (0 : Int32) (0 : Int32) hM _ _ _ hP hD hS (lv_sub hl [2, 3, 1, 0] rfl)
set_option maxHeartbeats 4000000 in
set_option maxRecDepth 100000 in
theorem kX7_firstOf (l : Launch) (G : va_G) (K : Nat → ClassId) (arA1 : Nat) (ar1 : Nat → Int32) (p2 : Int32) (sz : Nat) (r : Int32)  (hM : mX7_firstOf ar1 p2 = some r) : Met l yX7_firstOf (mC yX7_firstOf cX7_firstOf 4 (some .int)) rmX7_firstOf (va_Pc [.ref arA1, .int p2] (PCe G K E0 (WX7_firstOf K arA1 ar1) sz)) (va_Qi (fun (x : Int32) (_ : Unit) => x = r) (fun _ t => va_P G vwCl (WX7_firstOf K arA1 ar1) t.heap) (va_A (WX7_firstOf K arA1 ar1) sz)) rmX7_firstOf.cells rmX7_firstOf.slots (va_A (WX7_firstOf K arA1 ar1) sz) := by
  refine Met.ofW (cc := cX7_firstOf) (maxL := 4) (ret := (some .int)) (by decide) rfl ?_
  intro p e s m args below meth c s₁ B hml hv
  obtain ⟨rfl, hsz, hP, hK, hD0, hE⟩ := hv
  have hx := B.exec
  have hb := B.bytes
  have hr := B.returns
  have hts0 := atoms_spec (ws := mC yX7_firstOf cX7_firstOf 4 (some .int)) B.pre
  have hts : ∀ w ∈ tbG, w.before _ s = true := fun w h => hts0 w (List.mem_cons_of_mem _ h)
  have hown : s.vm.findClass RX7 = some m.cls := findClass_of_methodNamed B.named
  subst hsz
  have hD := hD0.self (sz := s.heap.size)
  generalize hAe : va_A (WX7_firstOf K arA1 ar1) s.heap.size = A at hD hE ⊢
  have hA : ∀ q : Nat, s.heap.size ≤ q → A q := fun q h => by rw [← hAe]; exact Or.inr h
  have hS : va_S A s.heap s.heap [] := va_S.rf
  have hl := lv_entry ([.ref arA1, .int p2]) (n := 4) (Nat.le_of_ble_eq_true rfl)
  rw [lg_entry_eq]
  generalize (lg_sl ([.ref arA1, .int p2]) ++ List.replicate (4 - (lg_sl ([.ref arA1, .int p2])).length) Slot.unset).toArray = ls at hl ⊢
  have hl : lv_has ls 4 [(0, .ref arA1), (1, .int p2)] := hl
  exact wX7_firstOf_b0 ⟨hx, hb, hml, hown, hts, hK, hA, E0_ok, hE⟩ arA1 ar1 p2 r (fun H locs ls pc hdg hP hD hS => W.iret (v := r) hx hb hr (fun t ht hW => ⟨⟨r, (), rfl, rfl, (show va_P G vwCl _ t.heap by rw [ht]; exact hP)⟩, hS.F ht⟩) hS.2.2 hdg)   hM _ _ _ hP hD hS hl
abbrev WX7_lineOf (K : Nat → ClassId) (arA1 : Nat) (ar1 : Nat → Int32) : va_W := [aI K arA1 207 ar1]
def rmX7_lineOf : Room := { frames := 0, cells := 0, slots := 0, locals := 0 }
theorem hdX7_lineOf : yX7_lineOf.cls ≠ "java/lang/invoke/MethodHandle" ∧ yX7_lineOf.cls ≠ "java/lang/invoke/VarHandle" ∧ (parseMethodDescriptor yX7_lineOf.desc).map (fun d => d.parameters.length) = some 2 := by decide +kernel
set_option maxHeartbeats 4000000 in
set_option maxRecDepth 100000 in
theorem wX7_lineOf_b4 {p : Program} {l : Launch} {e : Env} {s : State} {m : MethodId} {args : Array Value} {below : List Frame} {meth : Method} {c : Code} {Q : State → Prop} {G : va_G} {K : Nat → ClassId} {A : Nat → Prop} (C0 : CX p s m args c cX7_lineOf 4 RX7 G K E0 A) (arA1 : Nat) (ar1 : Nat → Int32) (p2 : Int32) (r : Int32)  (kr : ∀ (H : Heap) (locs : List Loc) (ls : Array Slot) (pc : Nat), decode cX7_lineOf pc = .ok (.ireturn, 1) → va_P G vwCl (WX7_lineOf K arA1 ar1) H → va_D A (WX7_lineOf K arA1 ar1) → va_S A s.heap H locs → W p l e rmX7_lineOf s m args below meth c H locs 0 0 Q (F0 m pc ls [.int r])) (n : Nat) : ∀ (x2 : Int32) (x3 : Int32), mX7_lineOf_b4 ar1 p2  n x2 x3 = some r → ∀ (H : Heap) (locs : List Loc) (ls : Array Slot), va_P G vwCl (WX7_lineOf K arA1 ar1) H → va_D A (WX7_lineOf K arA1 ar1) → va_S A s.heap H locs → lv_has ls 4 [(0, .ref arA1), (2, .int x2), (3, .int x3)] → W p l e rmX7_lineOf s m args below meth c H locs 0 0 Q (F0 m 4 ls []) := by
  obtain ⟨hx, hb, hml, hown, hts, hK, hA, hEo, hE⟩ := id C0
  induction n with
  | zero =>
    intro x2 x3 hM
    cases hM
  | succ n ih =>
    intro x2 x3 hM H locs ls hP hD hS hl
    rw [mX7_lineOf_b4] at hM
    refine lv_iload_n hx hb dX7_lineOf_4 rfl (lv_at hl 2 rfl) ?_
    refine lv_aload_n hx hb dX7_lineOf_5 rfl (lv_at hl 0 rfl) ?_
    refine lv_iconst (v := 3) hx hb dX7_lineOf_6 (by decide) ?_
    refine lv_iload_n hx hb dX7_lineOf_7 rfl (lv_at hl 1 rfl) ?_
    refine lv_iadd hx hb dX7_lineOf_8 ?_
    obtain ⟨g_1, hM⟩ := ng hM
    refine va_iald hx hb hK hP 0 0 rfl rfl g_1 dX7_lineOf_9 ?_
    refine lv_icmp_lt (tgt := 27) hx hb dX7_lineOf_10 (by decide) (fun c_2 => ?_) (fun c_2 => ?_)
    · rw [if_pos c_2] at hM
      refine lv_iload_n hx hb dX7_lineOf_27 rfl (lv_at hl 1 rfl) ?_
      have q1 := Option.some.inj hM
      subst q1
      exact kr _ _ _ _ dX7_lineOf_28 hP hD hS
    · rw [if_neg c_2] at hM
      refine lv_iload_n hx hb dX7_lineOf_13 rfl (lv_at hl 2 rfl) ?_
      refine lv_aload_n hx hb dX7_lineOf_14 rfl (lv_at hl 0 rfl) ?_
      refine lv_iconst (v := 3) hx hb dX7_lineOf_15 (by decide) ?_
      refine lv_iload_n hx hb dX7_lineOf_16 rfl (lv_at hl 1 rfl) ?_
      refine lv_iadd hx hb dX7_lineOf_17 ?_
      obtain ⟨g_3, hM⟩ := ng hM
      refine va_iald hx hb hK hP 0 0 rfl rfl g_3 dX7_lineOf_18 ?_
      refine lv_isub hx hb dX7_lineOf_19 ?_
      refine lv_istore_n (lv' := [(3, .int (x3 - (ar1 ((3 : Int32) + x2).toNatClampNeg))), (0, .ref arA1), (2, .int x2)]) hx hb dX7_lineOf_20 rfl hl (by decide) rfl (fun ls hl => ?_)
      refine lv_iinc (v := (x2 + 1)) (lv' := [(2, .int (x2 + 1)), (3, .int (x3 - (ar1 ((3 : Int32) + x2).toNatClampNeg))), (0, .ref arA1)]) hx hb dX7_lineOf_21 hl (k := 2) rfl rfl (by decide) rfl (fun ls hl => ?_)
      refine lv_goto (tgt := 4) hx hb dX7_lineOf_24 (by decide) ?_
      exact ih (x2 + 1) (x3 - (ar1 ((3 : Int32) + x2).toNatClampNeg)) hM _ _ _ hP hD hS (lv_sub hl [2, 0, 1] rfl)
set_option maxHeartbeats 4000000 in
set_option maxRecDepth 100000 in
theorem wX7_lineOf_b0 {p : Program} {l : Launch} {e : Env} {s : State} {m : MethodId} {args : Array Value} {below : List Frame} {meth : Method} {c : Code} {Q : State → Prop} {G : va_G} {K : Nat → ClassId} {A : Nat → Prop} (C0 : CX p s m args c cX7_lineOf 4 RX7 G K E0 A) (arA1 : Nat) (ar1 : Nat → Int32) (p2 : Int32) (r : Int32)  (kr : ∀ (H : Heap) (locs : List Loc) (ls : Array Slot) (pc : Nat), decode cX7_lineOf pc = .ok (.ireturn, 1) → va_P G vwCl (WX7_lineOf K arA1 ar1) H → va_D A (WX7_lineOf K arA1 ar1) → va_S A s.heap H locs → W p l e rmX7_lineOf s m args below meth c H locs 0 0 Q (F0 m pc ls [.int r]))  (hM : mX7_lineOf_b0 ar1 p2   = some r) : ∀ (H : Heap) (locs : List Loc) (ls : Array Slot), va_P G vwCl (WX7_lineOf K arA1 ar1) H → va_D A (WX7_lineOf K arA1 ar1) → va_S A s.heap H locs → lv_has ls 4 [(0, .ref arA1), (1, .int p2)] → W p l e rmX7_lineOf s m args below meth c H locs 0 0 Q (F0 m 0 ls []) := by
  obtain ⟨hx, hb, hml, hown, hts, hK, hA, hEo, hE⟩ := id C0
  intro H locs ls hP hD hS hl
  unfold mX7_lineOf_b0 at hM
  refine lv_iconst (v := 0) hx hb dX7_lineOf_0 (by decide) ?_
  refine lv_istore_n (lv' := [(2, .int (0 : Int32)), (0, .ref arA1), (1, .int p2)]) hx hb dX7_lineOf_1 rfl hl (by decide) rfl (fun ls hl => ?_)
  refine lv_iload_n hx hb dX7_lineOf_2 rfl (lv_at hl 2 rfl) ?_
  refine lv_istore_n (lv' := [(3, .int p2), (2, .int (0 : Int32)), (0, .ref arA1), (1, .int p2)]) hx hb dX7_lineOf_3 rfl hl (by decide) rfl (fun ls hl => ?_)
  exact wX7_lineOf_b4 C0 arA1 ar1 p2 r kr  FU (0 : Int32) p2 hM _ _ _ hP hD hS (lv_sub hl [2, 1, 0] rfl)
set_option maxHeartbeats 4000000 in
set_option maxRecDepth 100000 in
theorem kX7_lineOf (l : Launch) (G : va_G) (K : Nat → ClassId) (arA1 : Nat) (ar1 : Nat → Int32) (p2 : Int32) (sz : Nat) (r : Int32)  (hM : mX7_lineOf ar1 p2 = some r) : Met l yX7_lineOf (mC yX7_lineOf cX7_lineOf 4 (some .int)) rmX7_lineOf (va_Pc [.ref arA1, .int p2] (PCe G K E0 (WX7_lineOf K arA1 ar1) sz)) (va_Qi (fun (x : Int32) (_ : Unit) => x = r) (fun _ t => va_P G vwCl (WX7_lineOf K arA1 ar1) t.heap) (va_A (WX7_lineOf K arA1 ar1) sz)) rmX7_lineOf.cells rmX7_lineOf.slots (va_A (WX7_lineOf K arA1 ar1) sz) := by
  refine Met.ofW (cc := cX7_lineOf) (maxL := 4) (ret := (some .int)) (by decide) rfl ?_
  intro p e s m args below meth c s₁ B hml hv
  obtain ⟨rfl, hsz, hP, hK, hD0, hE⟩ := hv
  have hx := B.exec
  have hb := B.bytes
  have hr := B.returns
  have hts0 := atoms_spec (ws := mC yX7_lineOf cX7_lineOf 4 (some .int)) B.pre
  have hts : ∀ w ∈ tbG, w.before _ s = true := fun w h => hts0 w (List.mem_cons_of_mem _ h)
  have hown : s.vm.findClass RX7 = some m.cls := findClass_of_methodNamed B.named
  subst hsz
  have hD := hD0.self (sz := s.heap.size)
  generalize hAe : va_A (WX7_lineOf K arA1 ar1) s.heap.size = A at hD hE ⊢
  have hA : ∀ q : Nat, s.heap.size ≤ q → A q := fun q h => by rw [← hAe]; exact Or.inr h
  have hS : va_S A s.heap s.heap [] := va_S.rf
  have hl := lv_entry ([.ref arA1, .int p2]) (n := 4) (Nat.le_of_ble_eq_true rfl)
  rw [lg_entry_eq]
  generalize (lg_sl ([.ref arA1, .int p2]) ++ List.replicate (4 - (lg_sl ([.ref arA1, .int p2])).length) Slot.unset).toArray = ls at hl ⊢
  have hl : lv_has ls 4 [(0, .ref arA1), (1, .int p2)] := hl
  exact wX7_lineOf_b0 ⟨hx, hb, hml, hown, hts, hK, hA, E0_ok, hE⟩ arA1 ar1 p2 r (fun H locs ls pc hdg hP hD hS => W.iret (v := r) hx hb hr (fun t ht hW => ⟨⟨r, (), rfl, rfl, (show va_P G vwCl _ t.heap by rw [ht]; exact hP)⟩, hS.F ht⟩) hS.2.2 hdg)   hM _ _ _ hP hD hS hl
abbrev WX7_kindOf (K : Nat → ClassId) (arA1 : Nat) (ar1 : Nat → Int32) : va_W := [aI K arA1 207 ar1]
def rmX7_kindOf : Room := { frames := 0, cells := 0, slots := 0, locals := 0 }
theorem hdX7_kindOf : yX7_kindOf.cls ≠ "java/lang/invoke/MethodHandle" ∧ yX7_kindOf.cls ≠ "java/lang/invoke/VarHandle" ∧ (parseMethodDescriptor yX7_kindOf.desc).map (fun d => d.parameters.length) = some 2 := by decide +kernel
set_option maxHeartbeats 4000000 in
set_option maxRecDepth 100000 in
theorem wX7_kindOf_b0 {p : Program} {l : Launch} {e : Env} {s : State} {m : MethodId} {args : Array Value} {below : List Frame} {meth : Method} {c : Code} {Q : State → Prop} {G : va_G} {K : Nat → ClassId} {A : Nat → Prop} (C0 : CX p s m args c cX7_kindOf 2 RX7 G K E0 A) (arA1 : Nat) (ar1 : Nat → Int32) (p2 : Int32) (r : Int32)  (kr : ∀ (H : Heap) (locs : List Loc) (ls : Array Slot) (pc : Nat), decode cX7_kindOf pc = .ok (.ireturn, 1) → va_P G vwCl (WX7_kindOf K arA1 ar1) H → va_D A (WX7_kindOf K arA1 ar1) → va_S A s.heap H locs → W p l e rmX7_kindOf s m args below meth c H locs 0 0 Q (F0 m pc ls [.int r]))  (hM : mX7_kindOf_b0 ar1 p2   = some r) : ∀ (H : Heap) (locs : List Loc) (ls : Array Slot), va_P G vwCl (WX7_kindOf K arA1 ar1) H → va_D A (WX7_kindOf K arA1 ar1) → va_S A s.heap H locs → lv_has ls 2 [(0, .ref arA1), (1, .int p2)] → W p l e rmX7_kindOf s m args below meth c H locs 0 0 Q (F0 m 0 ls []) := by
  obtain ⟨hx, hb, hml, hown, hts, hK, hA, hEo, hE⟩ := id C0
  intro H locs ls hP hD hS hl
  unfold mX7_kindOf_b0 at hM
  refine lv_aload_n hx hb dX7_kindOf_0 rfl (lv_at hl 0 rfl) ?_
  refine lv_bipush (v := 7) hx hb dX7_kindOf_1 (by decide) ?_
  refine lv_bipush (v := 10) hx hb dX7_kindOf_3 (by decide) ?_
  refine lv_iload_n hx hb dX7_kindOf_5 rfl (lv_at hl 1 rfl) ?_
  refine lv_imul hx hb dX7_kindOf_6 ?_
  refine lv_iadd hx hb dX7_kindOf_7 ?_
  obtain ⟨g_1, hM⟩ := ng hM
  refine va_iald hx hb hK hP 0 0 rfl rfl g_1 dX7_kindOf_8 ?_
  have q1 := Option.some.inj hM
  subst q1
  exact kr _ _ _ _ dX7_kindOf_9 hP hD hS
set_option maxHeartbeats 4000000 in
set_option maxRecDepth 100000 in
theorem kX7_kindOf (l : Launch) (G : va_G) (K : Nat → ClassId) (arA1 : Nat) (ar1 : Nat → Int32) (p2 : Int32) (sz : Nat) (r : Int32)  (hM : mX7_kindOf ar1 p2 = some r) : Met l yX7_kindOf (mC yX7_kindOf cX7_kindOf 2 (some .int)) rmX7_kindOf (va_Pc [.ref arA1, .int p2] (PCe G K E0 (WX7_kindOf K arA1 ar1) sz)) (va_Qi (fun (x : Int32) (_ : Unit) => x = r) (fun _ t => va_P G vwCl (WX7_kindOf K arA1 ar1) t.heap) (va_A (WX7_kindOf K arA1 ar1) sz)) rmX7_kindOf.cells rmX7_kindOf.slots (va_A (WX7_kindOf K arA1 ar1) sz) := by
  refine Met.ofW (cc := cX7_kindOf) (maxL := 2) (ret := (some .int)) (by decide) rfl ?_
  intro p e s m args below meth c s₁ B hml hv
  obtain ⟨rfl, hsz, hP, hK, hD0, hE⟩ := hv
  have hx := B.exec
  have hb := B.bytes
  have hr := B.returns
  have hts0 := atoms_spec (ws := mC yX7_kindOf cX7_kindOf 2 (some .int)) B.pre
  have hts : ∀ w ∈ tbG, w.before _ s = true := fun w h => hts0 w (List.mem_cons_of_mem _ h)
  have hown : s.vm.findClass RX7 = some m.cls := findClass_of_methodNamed B.named
  subst hsz
  have hD := hD0.self (sz := s.heap.size)
  generalize hAe : va_A (WX7_kindOf K arA1 ar1) s.heap.size = A at hD hE ⊢
  have hA : ∀ q : Nat, s.heap.size ≤ q → A q := fun q h => by rw [← hAe]; exact Or.inr h
  have hS : va_S A s.heap s.heap [] := va_S.rf
  have hl := lv_entry ([.ref arA1, .int p2]) (n := 2) (Nat.le_of_ble_eq_true rfl)
  rw [lg_entry_eq]
  generalize (lg_sl ([.ref arA1, .int p2]) ++ List.replicate (2 - (lg_sl ([.ref arA1, .int p2])).length) Slot.unset).toArray = ls at hl ⊢
  have hl : lv_has ls 2 [(0, .ref arA1), (1, .int p2)] := hl
  exact wX7_kindOf_b0 ⟨hx, hb, hml, hown, hts, hK, hA, E0_ok, hE⟩ arA1 ar1 p2 r (fun H locs ls pc hdg hP hD hS => W.iret (v := r) hx hb hr (fun t ht hW => ⟨⟨r, (), rfl, rfl, (show va_P G vwCl _ t.heap by rw [ht]; exact hP)⟩, hS.F ht⟩) hS.2.2 hdg)   hM _ _ _ hP hD hS hl
abbrev WX7_sizeOfWord (K : Nat → ClassId) (arA1 : Nat) (ar1 : Nat → Int32) : va_W := [aI K arA1 207 ar1]
def rmX7_sizeOfWord : Room := { frames := 0, cells := 0, slots := 0, locals := 0 }
theorem hdX7_sizeOfWord : yX7_sizeOfWord.cls ≠ "java/lang/invoke/MethodHandle" ∧ yX7_sizeOfWord.cls ≠ "java/lang/invoke/VarHandle" ∧ (parseMethodDescriptor yX7_sizeOfWord.desc).map (fun d => d.parameters.length) = some 2 := by decide +kernel
set_option maxHeartbeats 4000000 in
set_option maxRecDepth 100000 in
theorem wX7_sizeOfWord_b0 {p : Program} {l : Launch} {e : Env} {s : State} {m : MethodId} {args : Array Value} {below : List Frame} {meth : Method} {c : Code} {Q : State → Prop} {G : va_G} {K : Nat → ClassId} {A : Nat → Prop} (C0 : CX p s m args c cX7_sizeOfWord 2 RX7 G K E0 A) (arA1 : Nat) (ar1 : Nat → Int32) (p2 : Int32) (r : Int32)  (kr : ∀ (H : Heap) (locs : List Loc) (ls : Array Slot) (pc : Nat), decode cX7_sizeOfWord pc = .ok (.ireturn, 1) → va_P G vwCl (WX7_sizeOfWord K arA1 ar1) H → va_D A (WX7_sizeOfWord K arA1 ar1) → va_S A s.heap H locs → W p l e rmX7_sizeOfWord s m args below meth c H locs 0 0 Q (F0 m pc ls [.int r]))  (hM : mX7_sizeOfWord_b0 ar1 p2   = some r) : ∀ (H : Heap) (locs : List Loc) (ls : Array Slot), va_P G vwCl (WX7_sizeOfWord K arA1 ar1) H → va_D A (WX7_sizeOfWord K arA1 ar1) → va_S A s.heap H locs → lv_has ls 2 [(0, .ref arA1), (1, .int p2)] → W p l e rmX7_sizeOfWord s m args below meth c H locs 0 0 Q (F0 m 0 ls []) := by
  obtain ⟨hx, hb, hml, hown, hts, hK, hA, hEo, hE⟩ := id C0
  intro H locs ls hP hD hS hl
  unfold mX7_sizeOfWord_b0 at hM
  refine lv_aload_n hx hb dX7_sizeOfWord_0 rfl (lv_at hl 0 rfl) ?_
  refine lv_bipush (v := 7) hx hb dX7_sizeOfWord_1 (by decide) ?_
  refine lv_bipush (v := 10) hx hb dX7_sizeOfWord_3 (by decide) ?_
  refine lv_iload_n hx hb dX7_sizeOfWord_5 rfl (lv_at hl 1 rfl) ?_
  refine lv_imul hx hb dX7_sizeOfWord_6 ?_
  refine lv_iadd hx hb dX7_sizeOfWord_7 ?_
  refine lv_iconst (v := 1) hx hb dX7_sizeOfWord_8 (by decide) ?_
  refine lv_iadd hx hb dX7_sizeOfWord_9 ?_
  obtain ⟨g_1, hM⟩ := ng hM
  refine va_iald hx hb hK hP 0 0 rfl rfl g_1 dX7_sizeOfWord_10 ?_
  have q1 := Option.some.inj hM
  subst q1
  exact kr _ _ _ _ dX7_sizeOfWord_11 hP hD hS
set_option maxHeartbeats 4000000 in
set_option maxRecDepth 100000 in
theorem kX7_sizeOfWord (l : Launch) (G : va_G) (K : Nat → ClassId) (arA1 : Nat) (ar1 : Nat → Int32) (p2 : Int32) (sz : Nat) (r : Int32)  (hM : mX7_sizeOfWord ar1 p2 = some r) : Met l yX7_sizeOfWord (mC yX7_sizeOfWord cX7_sizeOfWord 2 (some .int)) rmX7_sizeOfWord (va_Pc [.ref arA1, .int p2] (PCe G K E0 (WX7_sizeOfWord K arA1 ar1) sz)) (va_Qi (fun (x : Int32) (_ : Unit) => x = r) (fun _ t => va_P G vwCl (WX7_sizeOfWord K arA1 ar1) t.heap) (va_A (WX7_sizeOfWord K arA1 ar1) sz)) rmX7_sizeOfWord.cells rmX7_sizeOfWord.slots (va_A (WX7_sizeOfWord K arA1 ar1) sz) := by
  refine Met.ofW (cc := cX7_sizeOfWord) (maxL := 2) (ret := (some .int)) (by decide) rfl ?_
  intro p e s m args below meth c s₁ B hml hv
  obtain ⟨rfl, hsz, hP, hK, hD0, hE⟩ := hv
  have hx := B.exec
  have hb := B.bytes
  have hr := B.returns
  have hts0 := atoms_spec (ws := mC yX7_sizeOfWord cX7_sizeOfWord 2 (some .int)) B.pre
  have hts : ∀ w ∈ tbG, w.before _ s = true := fun w h => hts0 w (List.mem_cons_of_mem _ h)
  have hown : s.vm.findClass RX7 = some m.cls := findClass_of_methodNamed B.named
  subst hsz
  have hD := hD0.self (sz := s.heap.size)
  generalize hAe : va_A (WX7_sizeOfWord K arA1 ar1) s.heap.size = A at hD hE ⊢
  have hA : ∀ q : Nat, s.heap.size ≤ q → A q := fun q h => by rw [← hAe]; exact Or.inr h
  have hS : va_S A s.heap s.heap [] := va_S.rf
  have hl := lv_entry ([.ref arA1, .int p2]) (n := 2) (Nat.le_of_ble_eq_true rfl)
  rw [lg_entry_eq]
  generalize (lg_sl ([.ref arA1, .int p2]) ++ List.replicate (2 - (lg_sl ([.ref arA1, .int p2])).length) Slot.unset).toArray = ls at hl ⊢
  have hl : lv_has ls 2 [(0, .ref arA1), (1, .int p2)] := hl
  exact wX7_sizeOfWord_b0 ⟨hx, hb, hml, hown, hts, hK, hA, E0_ok, hE⟩ arA1 ar1 p2 r (fun H locs ls pc hdg hP hD hS => W.iret (v := r) hx hb hr (fun t ht hW => ⟨⟨r, (), rfl, rfl, (show va_P G vwCl _ t.heap by rw [ht]; exact hP)⟩, hS.F ht⟩) hS.2.2 hdg)   hM _ _ _ hP hD hS hl
abbrev WX7_letterOf (K : Nat → ClassId) (arA1 : Nat) (ar1 : Nat → Int32) : va_W := [aI K arA1 207 ar1]
def rmX7_letterOf : Room := { frames := 0, cells := 0, slots := 0, locals := 0 }
theorem hdX7_letterOf : yX7_letterOf.cls ≠ "java/lang/invoke/MethodHandle" ∧ yX7_letterOf.cls ≠ "java/lang/invoke/VarHandle" ∧ (parseMethodDescriptor yX7_letterOf.desc).map (fun d => d.parameters.length) = some 3 := by decide +kernel
set_option maxHeartbeats 4000000 in
set_option maxRecDepth 100000 in
theorem wX7_letterOf_b0 {p : Program} {l : Launch} {e : Env} {s : State} {m : MethodId} {args : Array Value} {below : List Frame} {meth : Method} {c : Code} {Q : State → Prop} {G : va_G} {K : Nat → ClassId} {A : Nat → Prop} (C0 : CX p s m args c cX7_letterOf 3 RX7 G K E0 A) (arA1 : Nat) (ar1 : Nat → Int32) (p2 : Int32) (p3 : Int32) (r : Int32)  (kr : ∀ (H : Heap) (locs : List Loc) (ls : Array Slot) (pc : Nat), decode cX7_letterOf pc = .ok (.ireturn, 1) → va_P G vwCl (WX7_letterOf K arA1 ar1) H → va_D A (WX7_letterOf K arA1 ar1) → va_S A s.heap H locs → W p l e rmX7_letterOf s m args below meth c H locs 0 0 Q (F0 m pc ls [.int r]))  (hM : mX7_letterOf_b0 ar1 p2 p3   = some r) : ∀ (H : Heap) (locs : List Loc) (ls : Array Slot), va_P G vwCl (WX7_letterOf K arA1 ar1) H → va_D A (WX7_letterOf K arA1 ar1) → va_S A s.heap H locs → lv_has ls 3 [(0, .ref arA1), (1, .int p2), (2, .int p3)] → W p l e rmX7_letterOf s m args below meth c H locs 0 0 Q (F0 m 0 ls []) := by
  obtain ⟨hx, hb, hml, hown, hts, hK, hA, hEo, hE⟩ := id C0
  intro H locs ls hP hD hS hl
  unfold mX7_letterOf_b0 at hM
  refine lv_aload_n hx hb dX7_letterOf_0 rfl (lv_at hl 0 rfl) ?_
  refine lv_bipush (v := 7) hx hb dX7_letterOf_1 (by decide) ?_
  refine lv_bipush (v := 10) hx hb dX7_letterOf_3 (by decide) ?_
  refine lv_iload_n hx hb dX7_letterOf_5 rfl (lv_at hl 1 rfl) ?_
  refine lv_imul hx hb dX7_letterOf_6 ?_
  refine lv_iadd hx hb dX7_letterOf_7 ?_
  refine lv_iconst (v := 2) hx hb dX7_letterOf_8 (by decide) ?_
  refine lv_iadd hx hb dX7_letterOf_9 ?_
  refine lv_iload_n hx hb dX7_letterOf_10 rfl (lv_at hl 2 rfl) ?_
  refine lv_iadd hx hb dX7_letterOf_11 ?_
  obtain ⟨g_1, hM⟩ := ng hM
  refine va_iald hx hb hK hP 0 0 rfl rfl g_1 dX7_letterOf_12 ?_
  have q1 := Option.some.inj hM
  subst q1
  exact kr _ _ _ _ dX7_letterOf_13 hP hD hS
set_option maxHeartbeats 4000000 in
set_option maxRecDepth 100000 in
theorem kX7_letterOf (l : Launch) (G : va_G) (K : Nat → ClassId) (arA1 : Nat) (ar1 : Nat → Int32) (p2 : Int32) (p3 : Int32) (sz : Nat) (r : Int32)  (hM : mX7_letterOf ar1 p2 p3 = some r) : Met l yX7_letterOf (mC yX7_letterOf cX7_letterOf 3 (some .int)) rmX7_letterOf (va_Pc [.ref arA1, .int p2, .int p3] (PCe G K E0 (WX7_letterOf K arA1 ar1) sz)) (va_Qi (fun (x : Int32) (_ : Unit) => x = r) (fun _ t => va_P G vwCl (WX7_letterOf K arA1 ar1) t.heap) (va_A (WX7_letterOf K arA1 ar1) sz)) rmX7_letterOf.cells rmX7_letterOf.slots (va_A (WX7_letterOf K arA1 ar1) sz) := by
  refine Met.ofW (cc := cX7_letterOf) (maxL := 3) (ret := (some .int)) (by decide) rfl ?_
  intro p e s m args below meth c s₁ B hml hv
  obtain ⟨rfl, hsz, hP, hK, hD0, hE⟩ := hv
  have hx := B.exec
  have hb := B.bytes
  have hr := B.returns
  have hts0 := atoms_spec (ws := mC yX7_letterOf cX7_letterOf 3 (some .int)) B.pre
  have hts : ∀ w ∈ tbG, w.before _ s = true := fun w h => hts0 w (List.mem_cons_of_mem _ h)
  have hown : s.vm.findClass RX7 = some m.cls := findClass_of_methodNamed B.named
  subst hsz
  have hD := hD0.self (sz := s.heap.size)
  generalize hAe : va_A (WX7_letterOf K arA1 ar1) s.heap.size = A at hD hE ⊢
  have hA : ∀ q : Nat, s.heap.size ≤ q → A q := fun q h => by rw [← hAe]; exact Or.inr h
  have hS : va_S A s.heap s.heap [] := va_S.rf
  have hl := lv_entry ([.ref arA1, .int p2, .int p3]) (n := 3) (Nat.le_of_ble_eq_true rfl)
  rw [lg_entry_eq]
  generalize (lg_sl ([.ref arA1, .int p2, .int p3]) ++ List.replicate (3 - (lg_sl ([.ref arA1, .int p2, .int p3])).length) Slot.unset).toArray = ls at hl ⊢
  have hl : lv_has ls 3 [(0, .ref arA1), (1, .int p2), (2, .int p3)] := hl
  exact wX7_letterOf_b0 ⟨hx, hb, hml, hown, hts, hK, hA, E0_ok, hE⟩ arA1 ar1 p2 p3 r (fun H locs ls pc hdg hP hD hS => W.iret (v := r) hx hb hr (fun t ht hW => ⟨⟨r, (), rfl, rfl, (show va_P G vwCl _ t.heap by rw [ht]; exact hP)⟩, hS.F ht⟩) hS.2.2 hdg)   hM _ _ _ hP hD hS hl
abbrev WX7_isRun (K : Nat → ClassId) (arA1 : Nat) (ar1 : Nat → Int32) : va_W := [aI K arA1 207 ar1]
def rmX7_isRun : Room := { frames := 1, cells := 0, slots := 0, locals := 22 }
theorem hdX7_isRun : yX7_isRun.cls ≠ "java/lang/invoke/MethodHandle" ∧ yX7_isRun.cls ≠ "java/lang/invoke/VarHandle" ∧ (parseMethodDescriptor yX7_isRun.desc).map (fun d => d.parameters.length) = some 3 := by decide +kernel
set_option maxHeartbeats 4000000 in
set_option maxRecDepth 100000 in
theorem wX7_isRun_b0 {p : Program} {l : Launch} {e : Env} {s : State} {m : MethodId} {args : Array Value} {below : List Frame} {meth : Method} {c : Code} {Q : State → Prop} {G : va_G} {K : Nat → ClassId} {A : Nat → Prop} (C0 : CX p s m args c cX7_isRun 3 RX7 G K E0 A) (arA1 : Nat) (ar1 : Nat → Int32) (p2 : Int32) (p3 : Int32) (r : Int32)  (kr : ∀ (H : Heap) (locs : List Loc) (ls : Array Slot) (pc : Nat), decode cX7_isRun pc = .ok (.ireturn, 1) → (r = 0 ∨ r = 1) → va_P G vwCl (WX7_isRun K arA1 ar1) H → va_D A (WX7_isRun K arA1 ar1) → va_S A s.heap H locs → W p l e rmX7_isRun s m args below meth c H locs 0 0 Q (F0 m pc ls [.int r]))  (hM : mX7_isRun_b0 ar1 p2 p3   = some r) : ∀ (H : Heap) (locs : List Loc) (ls : Array Slot), va_P G vwCl (WX7_isRun K arA1 ar1) H → va_D A (WX7_isRun K arA1 ar1) → va_S A s.heap H locs → lv_has ls 3 [(0, .ref arA1), (1, .int p2), (2, .int p3)] → W p l e rmX7_isRun s m args below meth c H locs 0 0 Q (F0 m 0 ls []) := by
  obtain ⟨hx, hb, hml, hown, hts, hK, hA, hEo, hE⟩ := id C0
  intro H locs ls hP hD hS hl
  unfold mX7_isRun_b0 at hM
  refine lv_aload_n hx hb dX7_isRun_0 rfl (lv_at hl 0 rfl) ?_
  refine lv_iload_n hx hb dX7_isRun_1 rfl (lv_at hl 1 rfl) ?_
  refine lv_iload_n hx hb dX7_isRun_2 rfl (lv_at hl 2 rfl) ?_
  obtain ⟨r_1, hC, hM⟩ := oe1 hM
  refine cS_i (As := [.ref arA1, .int p2, .int p3]) (rest := []) C0 hP hD hS [0] (kX7_letterOf l G K arA1 ar1 p2 p3 H.size r_1 hC) rfl rfl rfl tb1033 tb1034 tb9 tb1035 hdX7_letterOf ⟨Nat.le_of_ble_eq_true rfl, Nat.le_of_ble_eq_true rfl⟩ rfl hl.1 (Nat.le_of_ble_eq_true rfl) rfl ⟨Nat.le_refl _, Nat.le_refl _⟩ dX7_isRun_3 (fun H locs hP hD hS => ?_)
  have hP : va_P G vwCl (WX7_isRun K arA1 ar1) H := hP
  have hD : va_D A (WX7_isRun K arA1 ar1) := hD
  obtain ⟨r_2, hC, hM⟩ := oe1 hM
  refine cS_i (As := [.int r_1]) (rest := []) C0 hP hD hS [] (kX7_isVowel l G K r_1 H.size r_2 hC) rfl rfl rfl tb954 tb955 tb9 tb956 hdX7_isVowel ⟨Nat.le_of_ble_eq_true rfl, Nat.le_of_ble_eq_true rfl⟩ rfl hl.1 (Nat.le_of_ble_eq_true rfl) rfl ⟨Nat.le_refl _, Nat.le_refl _⟩ dX7_isRun_6 (fun H locs hP hD hS => ?_)
  have hP : va_P G vwCl (WX7_isRun K arA1 ar1) H := hP
  have hD : va_D A (WX7_isRun K arA1 ar1) := hD
  refine lv_if_eq (tgt := 34) hx hb dX7_isRun_9 (by decide) (fun c_3 => ?_) (fun c_3 => ?_)
  · rw [if_pos c_3] at hM
    refine lv_iconst (v := 0) hx hb dX7_isRun_34 (by decide) ?_
    have q1 := Option.some.inj hM
    subst q1
    exact kr _ _ _ _ dX7_isRun_35 (by decide) hP hD hS
  · rw [if_neg c_3] at hM
    refine lv_iload_n hx hb dX7_isRun_12 rfl (lv_at hl 2 rfl) ?_
    refine lv_if_eq (tgt := 30) hx hb dX7_isRun_13 (by decide) (fun c_4 => ?_) (fun c_4 => ?_)
    · rw [if_pos c_4] at hM
      refine lv_iconst (v := 1) hx hb dX7_isRun_30 (by decide) ?_
      refine lv_goto (tgt := 35) hx hb dX7_isRun_31 (by decide) ?_
      have q1 := Option.some.inj hM
      subst q1
      exact kr _ _ _ _ dX7_isRun_35 (by decide) hP hD hS
    · rw [if_neg c_4] at hM
      refine lv_aload_n hx hb dX7_isRun_16 rfl (lv_at hl 0 rfl) ?_
      refine lv_iload_n hx hb dX7_isRun_17 rfl (lv_at hl 1 rfl) ?_
      refine lv_iload_n hx hb dX7_isRun_18 rfl (lv_at hl 2 rfl) ?_
      refine lv_iconst (v := 1) hx hb dX7_isRun_19 (by decide) ?_
      refine lv_isub hx hb dX7_isRun_20 ?_
      obtain ⟨r_5, hC, hM⟩ := oe1 hM
      refine cS_i (As := [.ref arA1, .int p2, .int (p3 - (1 : Int32))]) (rest := []) C0 hP hD hS [0] (kX7_letterOf l G K arA1 ar1 p2 (p3 - (1 : Int32)) H.size r_5 hC) rfl rfl rfl tb1033 tb1034 tb9 tb1035 hdX7_letterOf ⟨Nat.le_of_ble_eq_true rfl, Nat.le_of_ble_eq_true rfl⟩ rfl hl.1 (Nat.le_of_ble_eq_true rfl) rfl ⟨Nat.le_refl _, Nat.le_refl _⟩ dX7_isRun_21 (fun H locs hP hD hS => ?_)
      have hP : va_P G vwCl (WX7_isRun K arA1 ar1) H := hP
      have hD : va_D A (WX7_isRun K arA1 ar1) := hD
      obtain ⟨r_6, hC, hM⟩ := oe1 hM
      refine cS_i (As := [.int r_5]) (rest := []) C0 hP hD hS [] (kX7_isVowel l G K r_5 H.size r_6 hC) rfl rfl rfl tb954 tb955 tb9 tb956 hdX7_isVowel ⟨Nat.le_of_ble_eq_true rfl, Nat.le_of_ble_eq_true rfl⟩ rfl hl.1 (Nat.le_of_ble_eq_true rfl) rfl ⟨Nat.le_refl _, Nat.le_refl _⟩ dX7_isRun_24 (fun H locs hP hD hS => ?_)
      have hP : va_P G vwCl (WX7_isRun K arA1 ar1) H := hP
      have hD : va_D A (WX7_isRun K arA1 ar1) := hD
      refine lv_if_ne (tgt := 34) hx hb dX7_isRun_27 (by decide) (fun c_7 => ?_) (fun c_7 => ?_)
      · rw [if_neg c_7] at hM
        refine lv_iconst (v := 0) hx hb dX7_isRun_34 (by decide) ?_
        have q1 := Option.some.inj hM
        subst q1
        exact kr _ _ _ _ dX7_isRun_35 (by decide) hP hD hS
      · rw [if_pos c_7] at hM
        refine lv_iconst (v := 1) hx hb dX7_isRun_30 (by decide) ?_
        refine lv_goto (tgt := 35) hx hb dX7_isRun_31 (by decide) ?_
        have q1 := Option.some.inj hM
        subst q1
        exact kr _ _ _ _ dX7_isRun_35 (by decide) hP hD hS
set_option maxHeartbeats 4000000 in
set_option maxRecDepth 100000 in
theorem kX7_isRun (l : Launch) (G : va_G) (K : Nat → ClassId) (arA1 : Nat) (ar1 : Nat → Int32) (p2 : Int32) (p3 : Int32) (sz : Nat) (r : Int32)  (hM : mX7_isRun ar1 p2 p3 = some r) : Met l yX7_isRun (mC yX7_isRun cX7_isRun 3 (some .boolean)) rmX7_isRun (va_Pc [.ref arA1, .int p2, .int p3] (PCe G K E0 (WX7_isRun K arA1 ar1) sz)) (va_Qi (fun (x : Int32) (_ : Unit) => x = r) (fun _ t => va_P G vwCl (WX7_isRun K arA1 ar1) t.heap) (va_A (WX7_isRun K arA1 ar1) sz)) rmX7_isRun.cells rmX7_isRun.slots (va_A (WX7_isRun K arA1 ar1) sz) := by
  refine Met.ofW (cc := cX7_isRun) (maxL := 3) (ret := (some .boolean)) (by decide) rfl ?_
  intro p e s m args below meth c s₁ B hml hv
  obtain ⟨rfl, hsz, hP, hK, hD0, hE⟩ := hv
  have hx := B.exec
  have hb := B.bytes
  have hr := B.returns
  have hts0 := atoms_spec (ws := mC yX7_isRun cX7_isRun 3 (some .boolean)) B.pre
  have hts : ∀ w ∈ tbG, w.before _ s = true := fun w h => hts0 w (List.mem_cons_of_mem _ h)
  have hown : s.vm.findClass RX7 = some m.cls := findClass_of_methodNamed B.named
  subst hsz
  have hD := hD0.self (sz := s.heap.size)
  generalize hAe : va_A (WX7_isRun K arA1 ar1) s.heap.size = A at hD hE ⊢
  have hA : ∀ q : Nat, s.heap.size ≤ q → A q := fun q h => by rw [← hAe]; exact Or.inr h
  have hS : va_S A s.heap s.heap [] := va_S.rf
  have hl := lv_entry ([.ref arA1, .int p2, .int p3]) (n := 3) (Nat.le_of_ble_eq_true rfl)
  rw [lg_entry_eq]
  generalize (lg_sl ([.ref arA1, .int p2, .int p3]) ++ List.replicate (3 - (lg_sl ([.ref arA1, .int p2, .int p3])).length) Slot.unset).toArray = ls at hl ⊢
  have hl : lv_has ls 3 [(0, .ref arA1), (1, .int p2), (2, .int p3)] := hl
  exact wX7_isRun_b0 ⟨hx, hb, hml, hown, hts, hK, hA, E0_ok, hE⟩ arA1 ar1 p2 p3 r (fun H locs ls pc hdg hz hP hD hS => W.zret (v := r) (ty := .boolean) hx hb hr (nar_b hz) (fun t ht hW => ⟨⟨r, (), rfl, rfl, (show va_P G vwCl _ t.heap by rw [ht]; exact hP)⟩, hS.F ht⟩) hS.2.2 hdg)   hM _ _ _ hP hD hS hl
abbrev WX7_runs (K : Nat → ClassId) (arA1 : Nat) (ar1 : Nat → Int32) : va_W := [aI K arA1 207 ar1]
def rmX7_runs : Room := { frames := 2, cells := 0, slots := 0, locals := 44 }
theorem hdX7_runs : yX7_runs.cls ≠ "java/lang/invoke/MethodHandle" ∧ yX7_runs.cls ≠ "java/lang/invoke/VarHandle" ∧ (parseMethodDescriptor yX7_runs.desc).map (fun d => d.parameters.length) = some 2 := by decide +kernel
set_option maxHeartbeats 4000000 in
set_option maxRecDepth 100000 in
theorem wX7_runs_b4 {p : Program} {l : Launch} {e : Env} {s : State} {m : MethodId} {args : Array Value} {below : List Frame} {meth : Method} {c : Code} {Q : State → Prop} {G : va_G} {K : Nat → ClassId} {A : Nat → Prop} (C0 : CX p s m args c cX7_runs 4 RX7 G K E0 A) (arA1 : Nat) (ar1 : Nat → Int32) (p2 : Int32) (r : Int32)  (kr : ∀ (H : Heap) (locs : List Loc) (ls : Array Slot) (pc : Nat), decode cX7_runs pc = .ok (.ireturn, 1) → va_P G vwCl (WX7_runs K arA1 ar1) H → va_D A (WX7_runs K arA1 ar1) → va_S A s.heap H locs → W p l e rmX7_runs s m args below meth c H locs 0 0 Q (F0 m pc ls [.int r])) (n : Nat) : ∀ (x2 : Int32) (x3 : Int32), mX7_runs_b4 ar1 p2  n x2 x3 = some r → ∀ (H : Heap) (locs : List Loc) (ls : Array Slot), va_P G vwCl (WX7_runs K arA1 ar1) H → va_D A (WX7_runs K arA1 ar1) → va_S A s.heap H locs → lv_has ls 4 [(0, .ref arA1), (1, .int p2), (2, .int x2), (3, .int x3)] → W p l e rmX7_runs s m args below meth c H locs 0 0 Q (F0 m 4 ls []) := by
  obtain ⟨hx, hb, hml, hown, hts, hK, hA, hEo, hE⟩ := id C0
  induction n with
  | zero =>
    intro x2 x3 hM
    cases hM
  | succ n ih =>
    intro x2 x3 hM H locs ls hP hD hS hl
    rw [mX7_runs_b4] at hM
    refine lv_iload_n hx hb dX7_runs_4 rfl (lv_at hl 3 rfl) ?_
    refine lv_aload_n hx hb dX7_runs_5 rfl (lv_at hl 0 rfl) ?_
    refine lv_iload_n hx hb dX7_runs_6 rfl (lv_at hl 1 rfl) ?_
    obtain ⟨r_1, hC, hM⟩ := oe1 hM
    refine cS_i (As := [.ref arA1, .int p2]) (rest := [.int x3]) C0 hP hD hS [0] (kX7_sizeOfWord l G K arA1 ar1 p2 H.size r_1 hC) rfl rfl rfl tb1030 tb1031 tb9 tb1032 hdX7_sizeOfWord ⟨Nat.le_of_ble_eq_true rfl, Nat.le_of_ble_eq_true rfl⟩ rfl hl.1 (Nat.le_of_ble_eq_true rfl) rfl ⟨Nat.le_refl _, Nat.le_refl _⟩ dX7_runs_7 (fun H locs hP hD hS => ?_)
    have hP : va_P G vwCl (WX7_runs K arA1 ar1) H := hP
    have hD : va_D A (WX7_runs K arA1 ar1) := hD
    refine lv_icmp_ge (tgt := 36) hx hb dX7_runs_10 (by decide) (fun c_2 => ?_) (fun c_2 => ?_)
    · rw [if_pos c_2] at hM
      refine lv_iload_n hx hb dX7_runs_36 rfl (lv_at hl 2 rfl) ?_
      have q1 := Option.some.inj hM
      subst q1
      exact kr _ _ _ _ dX7_runs_37 hP hD hS
    · rw [if_neg c_2] at hM
      refine lv_iload_n hx hb dX7_runs_13 rfl (lv_at hl 2 rfl) ?_
      refine lv_aload_n hx hb dX7_runs_14 rfl (lv_at hl 0 rfl) ?_
      refine lv_iload_n hx hb dX7_runs_15 rfl (lv_at hl 1 rfl) ?_
      refine lv_iload_n hx hb dX7_runs_16 rfl (lv_at hl 3 rfl) ?_
      obtain ⟨r_3, hC, hM⟩ := oe1 hM
      refine cS_i (As := [.ref arA1, .int p2, .int x3]) (rest := [.int x2]) C0 hP hD hS [0] (kX7_isRun l G K arA1 ar1 p2 x3 H.size r_3 hC) rfl rfl rfl tb1042 tb1043 tb9 tb1044 hdX7_isRun ⟨Nat.le_of_ble_eq_true rfl, Nat.le_of_ble_eq_true rfl⟩ rfl hl.1 (Nat.le_of_ble_eq_true rfl) rfl ⟨Nat.le_refl _, Nat.le_refl _⟩ dX7_runs_17 (fun H locs hP hD hS => ?_)
      have hP : va_P G vwCl (WX7_runs K arA1 ar1) H := hP
      have hD : va_D A (WX7_runs K arA1 ar1) := hD
      refine lv_if_eq (tgt := 27) hx hb dX7_runs_20 (by decide) (fun c_4 => ?_) (fun c_4 => ?_)
      · rw [if_pos c_4] at hM
        refine lv_iconst (v := 0) hx hb dX7_runs_27 (by decide) ?_
        refine lv_iadd hx hb dX7_runs_28 ?_
        refine lv_istore_n (lv' := [(2, .int (x2 + (0 : Int32))), (0, .ref arA1), (1, .int p2), (3, .int x3)]) hx hb dX7_runs_29 rfl hl (by decide) rfl (fun ls hl => ?_)
        refine lv_iinc (v := (x3 + 1)) (lv' := [(3, .int (x3 + 1)), (2, .int (x2 + (0 : Int32))), (0, .ref arA1), (1, .int p2)]) hx hb dX7_runs_30 hl (k := 3) rfl rfl (by decide) rfl (fun ls hl => ?_)
        refine lv_goto (tgt := 4) hx hb dX7_runs_33 (by decide) ?_
        exact ih (x2 + (0 : Int32)) (x3 + 1) hM _ _ _ hP hD hS (lv_sub hl [2, 3, 1, 0] rfl)
      · rw [if_neg c_4] at hM
        refine lv_iconst (v := 1) hx hb dX7_runs_23 (by decide) ?_
        refine lv_goto (tgt := 28) hx hb dX7_runs_24 (by decide) ?_
        refine lv_iadd hx hb dX7_runs_28 ?_
        refine lv_istore_n (lv' := [(2, .int (x2 + (1 : Int32))), (0, .ref arA1), (1, .int p2), (3, .int x3)]) hx hb dX7_runs_29 rfl hl (by decide) rfl (fun ls hl => ?_)
        refine lv_iinc (v := (x3 + 1)) (lv' := [(3, .int (x3 + 1)), (2, .int (x2 + (1 : Int32))), (0, .ref arA1), (1, .int p2)]) hx hb dX7_runs_30 hl (k := 3) rfl rfl (by decide) rfl (fun ls hl => ?_)
        refine lv_goto (tgt := 4) hx hb dX7_runs_33 (by decide) ?_
        exact ih (x2 + (1 : Int32)) (x3 + 1) hM _ _ _ hP hD hS (lv_sub hl [2, 3, 1, 0] rfl)
set_option maxHeartbeats 4000000 in
set_option maxRecDepth 100000 in
theorem wX7_runs_b0 {p : Program} {l : Launch} {e : Env} {s : State} {m : MethodId} {args : Array Value} {below : List Frame} {meth : Method} {c : Code} {Q : State → Prop} {G : va_G} {K : Nat → ClassId} {A : Nat → Prop} (C0 : CX p s m args c cX7_runs 4 RX7 G K E0 A) (arA1 : Nat) (ar1 : Nat → Int32) (p2 : Int32) (r : Int32)  (kr : ∀ (H : Heap) (locs : List Loc) (ls : Array Slot) (pc : Nat), decode cX7_runs pc = .ok (.ireturn, 1) → va_P G vwCl (WX7_runs K arA1 ar1) H → va_D A (WX7_runs K arA1 ar1) → va_S A s.heap H locs → W p l e rmX7_runs s m args below meth c H locs 0 0 Q (F0 m pc ls [.int r]))  (hM : mX7_runs_b0 ar1 p2   = some r) : ∀ (H : Heap) (locs : List Loc) (ls : Array Slot), va_P G vwCl (WX7_runs K arA1 ar1) H → va_D A (WX7_runs K arA1 ar1) → va_S A s.heap H locs → lv_has ls 4 [(0, .ref arA1), (1, .int p2)] → W p l e rmX7_runs s m args below meth c H locs 0 0 Q (F0 m 0 ls []) := by
  obtain ⟨hx, hb, hml, hown, hts, hK, hA, hEo, hE⟩ := id C0
  intro H locs ls hP hD hS hl
  unfold mX7_runs_b0 at hM
  refine lv_iconst (v := 0) hx hb dX7_runs_0 (by decide) ?_
  refine lv_istore_n (lv' := [(2, .int (0 : Int32)), (0, .ref arA1), (1, .int p2)]) hx hb dX7_runs_1 rfl hl (by decide) rfl (fun ls hl => ?_)
  refine lv_iconst (v := 0) hx hb dX7_runs_2 (by decide) ?_
  refine lv_istore_n (lv' := [(3, .int (0 : Int32)), (2, .int (0 : Int32)), (0, .ref arA1), (1, .int p2)]) hx hb dX7_runs_3 rfl hl (by decide) rfl (fun ls hl => ?_)
  exact wX7_runs_b4 C0 arA1 ar1 p2 r kr  FU (0 : Int32) (0 : Int32) hM _ _ _ hP hD hS (lv_sub hl [2, 3, 1, 0] rfl)
set_option maxHeartbeats 4000000 in
set_option maxRecDepth 100000 in
theorem kX7_runs (l : Launch) (G : va_G) (K : Nat → ClassId) (arA1 : Nat) (ar1 : Nat → Int32) (p2 : Int32) (sz : Nat) (r : Int32)  (hM : mX7_runs ar1 p2 = some r) : Met l yX7_runs (mC yX7_runs cX7_runs 4 (some .int)) rmX7_runs (va_Pc [.ref arA1, .int p2] (PCe G K E0 (WX7_runs K arA1 ar1) sz)) (va_Qi (fun (x : Int32) (_ : Unit) => x = r) (fun _ t => va_P G vwCl (WX7_runs K arA1 ar1) t.heap) (va_A (WX7_runs K arA1 ar1) sz)) rmX7_runs.cells rmX7_runs.slots (va_A (WX7_runs K arA1 ar1) sz) := by
  refine Met.ofW (cc := cX7_runs) (maxL := 4) (ret := (some .int)) (by decide) rfl ?_
  intro p e s m args below meth c s₁ B hml hv
  obtain ⟨rfl, hsz, hP, hK, hD0, hE⟩ := hv
  have hx := B.exec
  have hb := B.bytes
  have hr := B.returns
  have hts0 := atoms_spec (ws := mC yX7_runs cX7_runs 4 (some .int)) B.pre
  have hts : ∀ w ∈ tbG, w.before _ s = true := fun w h => hts0 w (List.mem_cons_of_mem _ h)
  have hown : s.vm.findClass RX7 = some m.cls := findClass_of_methodNamed B.named
  subst hsz
  have hD := hD0.self (sz := s.heap.size)
  generalize hAe : va_A (WX7_runs K arA1 ar1) s.heap.size = A at hD hE ⊢
  have hA : ∀ q : Nat, s.heap.size ≤ q → A q := fun q h => by rw [← hAe]; exact Or.inr h
  have hS : va_S A s.heap s.heap [] := va_S.rf
  have hl := lv_entry ([.ref arA1, .int p2]) (n := 4) (Nat.le_of_ble_eq_true rfl)
  rw [lg_entry_eq]
  generalize (lg_sl ([.ref arA1, .int p2]) ++ List.replicate (4 - (lg_sl ([.ref arA1, .int p2])).length) Slot.unset).toArray = ls at hl ⊢
  have hl : lv_has ls 4 [(0, .ref arA1), (1, .int p2)] := hl
  exact wX7_runs_b0 ⟨hx, hb, hml, hown, hts, hK, hA, E0_ok, hE⟩ arA1 ar1 p2 r (fun H locs ls pc hdg hP hD hS => W.iret (v := r) hx hb hr (fun t ht hW => ⟨⟨r, (), rfl, rfl, (show va_P G vwCl _ t.heap by rw [ht]; exact hP)⟩, hS.F ht⟩) hS.2.2 hdg)   hM _ _ _ hP hD hS hl
abbrev WX7_isMuteEnd (K : Nat → ClassId) (arA1 : Nat) (ar1 : Nat → Int32) : va_W := [aI K arA1 207 ar1]
def rmX7_isMuteEnd : Room := { frames := 3, cells := 0, slots := 0, locals := 67 }
theorem hdX7_isMuteEnd : yX7_isMuteEnd.cls ≠ "java/lang/invoke/MethodHandle" ∧ yX7_isMuteEnd.cls ≠ "java/lang/invoke/VarHandle" ∧ (parseMethodDescriptor yX7_isMuteEnd.desc).map (fun d => d.parameters.length) = some 2 := by decide +kernel
set_option maxHeartbeats 4000000 in
set_option maxRecDepth 100000 in
theorem wX7_isMuteEnd_b0 {p : Program} {l : Launch} {e : Env} {s : State} {m : MethodId} {args : Array Value} {below : List Frame} {meth : Method} {c : Code} {Q : State → Prop} {G : va_G} {K : Nat → ClassId} {A : Nat → Prop} (C0 : CX p s m args c cX7_isMuteEnd 3 RX7 G K E0 A) (arA1 : Nat) (ar1 : Nat → Int32) (p2 : Int32) (r : Int32)  (kr : ∀ (H : Heap) (locs : List Loc) (ls : Array Slot) (pc : Nat), decode cX7_isMuteEnd pc = .ok (.ireturn, 1) → (r = 0 ∨ r = 1) → va_P G vwCl (WX7_isMuteEnd K arA1 ar1) H → va_D A (WX7_isMuteEnd K arA1 ar1) → va_S A s.heap H locs → W p l e rmX7_isMuteEnd s m args below meth c H locs 0 0 Q (F0 m pc ls [.int r]))  (hM : mX7_isMuteEnd_b0 ar1 p2   = some r) : ∀ (H : Heap) (locs : List Loc) (ls : Array Slot), va_P G vwCl (WX7_isMuteEnd K arA1 ar1) H → va_D A (WX7_isMuteEnd K arA1 ar1) → va_S A s.heap H locs → lv_has ls 3 [(0, .ref arA1), (1, .int p2)] → W p l e rmX7_isMuteEnd s m args below meth c H locs 0 0 Q (F0 m 0 ls []) := by
  obtain ⟨hx, hb, hml, hown, hts, hK, hA, hEo, hE⟩ := id C0
  intro H locs ls hP hD hS hl
  unfold mX7_isMuteEnd_b0 at hM
  refine lv_aload_n hx hb dX7_isMuteEnd_0 rfl (lv_at hl 0 rfl) ?_
  refine lv_iload_n hx hb dX7_isMuteEnd_1 rfl (lv_at hl 1 rfl) ?_
  obtain ⟨r_1, hC, hM⟩ := oe1 hM
  refine cS_i (As := [.ref arA1, .int p2]) (rest := []) C0 hP hD hS [0] (kX7_sizeOfWord l G K arA1 ar1 p2 H.size r_1 hC) rfl rfl rfl tb1030 tb1031 tb9 tb1032 hdX7_sizeOfWord ⟨Nat.le_of_ble_eq_true rfl, Nat.le_of_ble_eq_true rfl⟩ rfl hl.1 (Nat.le_of_ble_eq_true rfl) rfl ⟨Nat.le_refl _, Nat.le_refl _⟩ dX7_isMuteEnd_2 (fun H locs hP hD hS => ?_)
  have hP : va_P G vwCl (WX7_isMuteEnd K arA1 ar1) H := hP
  have hD : va_D A (WX7_isMuteEnd K arA1 ar1) := hD
  refine lv_iconst (v := 1) hx hb dX7_isMuteEnd_5 (by decide) ?_
  refine lv_isub hx hb dX7_isMuteEnd_6 ?_
  refine lv_istore_n (lv' := [(2, .int (r_1 - (1 : Int32))), (0, .ref arA1), (1, .int p2)]) hx hb dX7_isMuteEnd_7 rfl hl (by decide) rfl (fun ls hl => ?_)
  refine lv_aload_n hx hb dX7_isMuteEnd_8 rfl (lv_at hl 1 rfl) ?_
  refine lv_iload_n hx hb dX7_isMuteEnd_9 rfl (lv_at hl 2 rfl) ?_
  refine lv_iload_n hx hb dX7_isMuteEnd_10 rfl (lv_at hl 0 rfl) ?_
  obtain ⟨r_2, hC, hM⟩ := oe1 hM
  refine cS_i (As := [.ref arA1, .int p2, .int (r_1 - (1 : Int32))]) (rest := []) C0 hP hD hS [0] (kX7_letterOf l G K arA1 ar1 p2 (r_1 - (1 : Int32)) H.size r_2 hC) rfl rfl rfl tb1033 tb1034 tb9 tb1035 hdX7_letterOf ⟨Nat.le_of_ble_eq_true rfl, Nat.le_of_ble_eq_true rfl⟩ rfl hl.1 (Nat.le_of_ble_eq_true rfl) rfl ⟨Nat.le_refl _, Nat.le_refl _⟩ dX7_isMuteEnd_11 (fun H locs hP hD hS => ?_)
  have hP : va_P G vwCl (WX7_isMuteEnd K arA1 ar1) H := hP
  have hD : va_D A (WX7_isMuteEnd K arA1 ar1) := hD
  refine lv_iconst (v := 4) hx hb dX7_isMuteEnd_14 (by decide) ?_
  refine lv_icmp_ne (tgt := 40) hx hb dX7_isMuteEnd_15 (by decide) (fun c_3 => ?_) (fun c_3 => ?_)
  · rw [if_neg c_3] at hM
    refine lv_iconst (v := 0) hx hb dX7_isMuteEnd_40 (by decide) ?_
    have q1 := Option.some.inj hM
    subst q1
    exact kr _ _ _ _ dX7_isMuteEnd_41 (by decide) hP hD hS
  · rw [if_pos c_3] at hM
    refine lv_aload_n hx hb dX7_isMuteEnd_18 rfl (lv_at hl 1 rfl) ?_
    refine lv_iload_n hx hb dX7_isMuteEnd_19 rfl (lv_at hl 2 rfl) ?_
    refine lv_iload_n hx hb dX7_isMuteEnd_20 rfl (lv_at hl 0 rfl) ?_
    obtain ⟨r_4, hC, hM⟩ := oe1 hM
    refine cS_i (As := [.ref arA1, .int p2, .int (r_1 - (1 : Int32))]) (rest := []) C0 hP hD hS [0] (kX7_isRun l G K arA1 ar1 p2 (r_1 - (1 : Int32)) H.size r_4 hC) rfl rfl rfl tb1042 tb1043 tb9 tb1044 hdX7_isRun ⟨Nat.le_of_ble_eq_true rfl, Nat.le_of_ble_eq_true rfl⟩ rfl hl.1 (Nat.le_of_ble_eq_true rfl) rfl ⟨Nat.le_refl _, Nat.le_refl _⟩ dX7_isMuteEnd_21 (fun H locs hP hD hS => ?_)
    have hP : va_P G vwCl (WX7_isMuteEnd K arA1 ar1) H := hP
    have hD : va_D A (WX7_isMuteEnd K arA1 ar1) := hD
    refine lv_if_eq (tgt := 40) hx hb dX7_isMuteEnd_24 (by decide) (fun c_5 => ?_) (fun c_5 => ?_)
    · rw [if_pos c_5] at hM
      refine lv_iconst (v := 0) hx hb dX7_isMuteEnd_40 (by decide) ?_
      have q1 := Option.some.inj hM
      subst q1
      exact kr _ _ _ _ dX7_isMuteEnd_41 (by decide) hP hD hS
    · rw [if_neg c_5] at hM
      refine lv_aload_n hx hb dX7_isMuteEnd_27 rfl (lv_at hl 1 rfl) ?_
      refine lv_iload_n hx hb dX7_isMuteEnd_28 rfl (lv_at hl 2 rfl) ?_
      obtain ⟨r_6, hC, hM⟩ := oe1 hM
      refine cS_i (As := [.ref arA1, .int p2]) (rest := []) C0 hP hD hS [0] (kX7_runs l G K arA1 ar1 p2 H.size r_6 hC) rfl rfl rfl tb1039 tb1040 tb9 tb1041 hdX7_runs ⟨Nat.le_of_ble_eq_true rfl, Nat.le_of_ble_eq_true rfl⟩ rfl hl.1 (Nat.le_of_ble_eq_true rfl) rfl ⟨Nat.le_refl _, Nat.le_refl _⟩ dX7_isMuteEnd_29 (fun H locs hP hD hS => ?_)
      have hP : va_P G vwCl (WX7_isMuteEnd K arA1 ar1) H := hP
      have hD : va_D A (WX7_isMuteEnd K arA1 ar1) := hD
      refine lv_iconst (v := 1) hx hb dX7_isMuteEnd_32 (by decide) ?_
      refine lv_icmp_le (tgt := 40) hx hb dX7_isMuteEnd_33 (by decide) (fun c_7 => ?_) (fun c_7 => ?_)
      · rw [if_pos c_7] at hM
        refine lv_iconst (v := 0) hx hb dX7_isMuteEnd_40 (by decide) ?_
        have q1 := Option.some.inj hM
        subst q1
        exact kr _ _ _ _ dX7_isMuteEnd_41 (by decide) hP hD hS
      · rw [if_neg c_7] at hM
        refine lv_iconst (v := 1) hx hb dX7_isMuteEnd_36 (by decide) ?_
        refine lv_goto (tgt := 41) hx hb dX7_isMuteEnd_37 (by decide) ?_
        have q1 := Option.some.inj hM
        subst q1
        exact kr _ _ _ _ dX7_isMuteEnd_41 (by decide) hP hD hS
set_option maxHeartbeats 4000000 in
set_option maxRecDepth 100000 in
theorem kX7_isMuteEnd (l : Launch) (G : va_G) (K : Nat → ClassId) (arA1 : Nat) (ar1 : Nat → Int32) (p2 : Int32) (sz : Nat) (r : Int32)  (hM : mX7_isMuteEnd ar1 p2 = some r) : Met l yX7_isMuteEnd (mC yX7_isMuteEnd cX7_isMuteEnd 3 (some .boolean)) rmX7_isMuteEnd (va_Pc [.ref arA1, .int p2] (PCe G K E0 (WX7_isMuteEnd K arA1 ar1) sz)) (va_Qi (fun (x : Int32) (_ : Unit) => x = r) (fun _ t => va_P G vwCl (WX7_isMuteEnd K arA1 ar1) t.heap) (va_A (WX7_isMuteEnd K arA1 ar1) sz)) rmX7_isMuteEnd.cells rmX7_isMuteEnd.slots (va_A (WX7_isMuteEnd K arA1 ar1) sz) := by
  refine Met.ofW (cc := cX7_isMuteEnd) (maxL := 3) (ret := (some .boolean)) (by decide) rfl ?_
  intro p e s m args below meth c s₁ B hml hv
  obtain ⟨rfl, hsz, hP, hK, hD0, hE⟩ := hv
  have hx := B.exec
  have hb := B.bytes
  have hr := B.returns
  have hts0 := atoms_spec (ws := mC yX7_isMuteEnd cX7_isMuteEnd 3 (some .boolean)) B.pre
  have hts : ∀ w ∈ tbG, w.before _ s = true := fun w h => hts0 w (List.mem_cons_of_mem _ h)
  have hown : s.vm.findClass RX7 = some m.cls := findClass_of_methodNamed B.named
  subst hsz
  have hD := hD0.self (sz := s.heap.size)
  generalize hAe : va_A (WX7_isMuteEnd K arA1 ar1) s.heap.size = A at hD hE ⊢
  have hA : ∀ q : Nat, s.heap.size ≤ q → A q := fun q h => by rw [← hAe]; exact Or.inr h
  have hS : va_S A s.heap s.heap [] := va_S.rf
  have hl := lv_entry ([.ref arA1, .int p2]) (n := 3) (Nat.le_of_ble_eq_true rfl)
  rw [lg_entry_eq]
  generalize (lg_sl ([.ref arA1, .int p2]) ++ List.replicate (3 - (lg_sl ([.ref arA1, .int p2])).length) Slot.unset).toArray = ls at hl ⊢
  have hl : lv_has ls 3 [(0, .ref arA1), (1, .int p2)] := hl
  exact wX7_isMuteEnd_b0 ⟨hx, hb, hml, hown, hts, hK, hA, E0_ok, hE⟩ arA1 ar1 p2 r (fun H locs ls pc hdg hz hP hD hS => W.zret (v := r) (ty := .boolean) hx hb hr (nar_b hz) (fun t ht hW => ⟨⟨r, (), rfl, rfl, (show va_P G vwCl _ t.heap by rw [ht]; exact hP)⟩, hS.F ht⟩) hS.2.2 hdg)   hM _ _ _ hP hD hS hl
abbrev WX7_syllables (K : Nat → ClassId) (arA1 : Nat) (ar1 : Nat → Int32) : va_W := [aI K arA1 207 ar1]
def rmX7_syllables : Room := { frames := 4, cells := 0, slots := 0, locals := 89 }
theorem hdX7_syllables : yX7_syllables.cls ≠ "java/lang/invoke/MethodHandle" ∧ yX7_syllables.cls ≠ "java/lang/invoke/VarHandle" ∧ (parseMethodDescriptor yX7_syllables.desc).map (fun d => d.parameters.length) = some 2 := by decide +kernel
set_option maxHeartbeats 4000000 in
set_option maxRecDepth 100000 in
theorem wX7_syllables_b0 {p : Program} {l : Launch} {e : Env} {s : State} {m : MethodId} {args : Array Value} {below : List Frame} {meth : Method} {c : Code} {Q : State → Prop} {G : va_G} {K : Nat → ClassId} {A : Nat → Prop} (C0 : CX p s m args c cX7_syllables 2 RX7 G K E0 A) (arA1 : Nat) (ar1 : Nat → Int32) (p2 : Int32) (r : Int32)  (kr : ∀ (H : Heap) (locs : List Loc) (ls : Array Slot) (pc : Nat), decode cX7_syllables pc = .ok (.ireturn, 1) → va_P G vwCl (WX7_syllables K arA1 ar1) H → va_D A (WX7_syllables K arA1 ar1) → va_S A s.heap H locs → W p l e rmX7_syllables s m args below meth c H locs 0 0 Q (F0 m pc ls [.int r]))  (hM : mX7_syllables_b0 ar1 p2   = some r) : ∀ (H : Heap) (locs : List Loc) (ls : Array Slot), va_P G vwCl (WX7_syllables K arA1 ar1) H → va_D A (WX7_syllables K arA1 ar1) → va_S A s.heap H locs → lv_has ls 2 [(0, .ref arA1), (1, .int p2)] → W p l e rmX7_syllables s m args below meth c H locs 0 0 Q (F0 m 0 ls []) := by
  obtain ⟨hx, hb, hml, hown, hts, hK, hA, hEo, hE⟩ := id C0
  intro H locs ls hP hD hS hl
  unfold mX7_syllables_b0 at hM
  refine lv_aload_n hx hb dX7_syllables_0 rfl (lv_at hl 0 rfl) ?_
  refine lv_iload_n hx hb dX7_syllables_1 rfl (lv_at hl 1 rfl) ?_
  obtain ⟨r_1, hC, hM⟩ := oe1 hM
  refine cS_i (As := [.ref arA1, .int p2]) (rest := []) C0 hP hD hS [0] (kX7_runs l G K arA1 ar1 p2 H.size r_1 hC) rfl rfl rfl tb1039 tb1040 tb9 tb1041 hdX7_runs ⟨Nat.le_of_ble_eq_true rfl, Nat.le_of_ble_eq_true rfl⟩ rfl hl.1 (Nat.le_of_ble_eq_true rfl) rfl ⟨Nat.le_refl _, Nat.le_refl _⟩ dX7_syllables_2 (fun H locs hP hD hS => ?_)
  have hP : va_P G vwCl (WX7_syllables K arA1 ar1) H := hP
  have hD : va_D A (WX7_syllables K arA1 ar1) := hD
  refine lv_aload_n hx hb dX7_syllables_5 rfl (lv_at hl 0 rfl) ?_
  refine lv_iload_n hx hb dX7_syllables_6 rfl (lv_at hl 1 rfl) ?_
  obtain ⟨r_2, hC, hM⟩ := oe1 hM
  refine cS_i (As := [.ref arA1, .int p2]) (rest := [.int r_1]) C0 hP hD hS [0] (kX7_isMuteEnd l G K arA1 ar1 p2 H.size r_2 hC) rfl rfl rfl tb1045 tb1046 tb9 tb1047 hdX7_isMuteEnd ⟨Nat.le_of_ble_eq_true rfl, Nat.le_of_ble_eq_true rfl⟩ rfl hl.1 (Nat.le_of_ble_eq_true rfl) rfl ⟨Nat.le_refl _, Nat.le_refl _⟩ dX7_syllables_7 (fun H locs hP hD hS => ?_)
  have hP : va_P G vwCl (WX7_syllables K arA1 ar1) H := hP
  have hD : va_D A (WX7_syllables K arA1 ar1) := hD
  refine lv_if_eq (tgt := 17) hx hb dX7_syllables_10 (by decide) (fun c_3 => ?_) (fun c_3 => ?_)
  · rw [if_pos c_3] at hM
    refine lv_iconst (v := 0) hx hb dX7_syllables_17 (by decide) ?_
    refine lv_isub hx hb dX7_syllables_18 ?_
    have q1 := Option.some.inj hM
    subst q1
    exact kr _ _ _ _ dX7_syllables_19 hP hD hS
  · rw [if_neg c_3] at hM
    refine lv_iconst (v := 1) hx hb dX7_syllables_13 (by decide) ?_
    refine lv_goto (tgt := 18) hx hb dX7_syllables_14 (by decide) ?_
    refine lv_isub hx hb dX7_syllables_18 ?_
    have q1 := Option.some.inj hM
    subst q1
    exact kr _ _ _ _ dX7_syllables_19 hP hD hS
set_option maxHeartbeats 4000000 in
set_option maxRecDepth 100000 in
theorem kX7_syllables (l : Launch) (G : va_G) (K : Nat → ClassId) (arA1 : Nat) (ar1 : Nat → Int32) (p2 : Int32) (sz : Nat) (r : Int32)  (hM : mX7_syllables ar1 p2 = some r) : Met l yX7_syllables (mC yX7_syllables cX7_syllables 2 (some .int)) rmX7_syllables (va_Pc [.ref arA1, .int p2] (PCe G K E0 (WX7_syllables K arA1 ar1) sz)) (va_Qi (fun (x : Int32) (_ : Unit) => x = r) (fun _ t => va_P G vwCl (WX7_syllables K arA1 ar1) t.heap) (va_A (WX7_syllables K arA1 ar1) sz)) rmX7_syllables.cells rmX7_syllables.slots (va_A (WX7_syllables K arA1 ar1) sz) := by
  refine Met.ofW (cc := cX7_syllables) (maxL := 2) (ret := (some .int)) (by decide) rfl ?_
  intro p e s m args below meth c s₁ B hml hv
  obtain ⟨rfl, hsz, hP, hK, hD0, hE⟩ := hv
  have hx := B.exec
  have hb := B.bytes
  have hr := B.returns
  have hts0 := atoms_spec (ws := mC yX7_syllables cX7_syllables 2 (some .int)) B.pre
  have hts : ∀ w ∈ tbG, w.before _ s = true := fun w h => hts0 w (List.mem_cons_of_mem _ h)
  have hown : s.vm.findClass RX7 = some m.cls := findClass_of_methodNamed B.named
  subst hsz
  have hD := hD0.self (sz := s.heap.size)
  generalize hAe : va_A (WX7_syllables K arA1 ar1) s.heap.size = A at hD hE ⊢
  have hA : ∀ q : Nat, s.heap.size ≤ q → A q := fun q h => by rw [← hAe]; exact Or.inr h
  have hS : va_S A s.heap s.heap [] := va_S.rf
  have hl := lv_entry ([.ref arA1, .int p2]) (n := 2) (Nat.le_of_ble_eq_true rfl)
  rw [lg_entry_eq]
  generalize (lg_sl ([.ref arA1, .int p2]) ++ List.replicate (2 - (lg_sl ([.ref arA1, .int p2])).length) Slot.unset).toArray = ls at hl ⊢
  have hl : lv_has ls 2 [(0, .ref arA1), (1, .int p2)] := hl
  exact wX7_syllables_b0 ⟨hx, hb, hml, hown, hts, hK, hA, E0_ok, hE⟩ arA1 ar1 p2 r (fun H locs ls pc hdg hP hD hS => W.iret (v := r) hx hb hr (fun t ht hW => ⟨⟨r, (), rfl, rfl, (show va_P G vwCl _ t.heap by rw [ht]; exact hP)⟩, hS.F ht⟩) hS.2.2 hdg)   hM _ _ _ hP hD hS hl
