abbrev WX7_areAlike (K : Nat → ClassId) (arA1 : Nat) (ar1 : Nat → Int32) : va_W := [aI K arA1 207 ar1]
def rmX7_areAlike : Room := { frames := 8, cells := 0, slots := 0, locals := 177 }
theorem hdX7_areAlike : yX7_areAlike.cls ≠ "java/lang/invoke/MethodHandle" ∧ yX7_areAlike.cls ≠ "java/lang/invoke/VarHandle" ∧ (parseMethodDescriptor yX7_areAlike.desc).map (fun d => d.parameters.length) = some 3 := by decide +kernel
set_option maxHeartbeats 4000000 in
set_option maxRecDepth 100000 in
theorem wX7_areAlike_b25 {p : Program} {l : Launch} {e : Env} {s : State} {m : MethodId} {args : Array Value} {below : List Frame} {meth : Method} {c : Code} {Q : State → Prop} {G : va_G} {K : Nat → ClassId} {A : Nat → Prop} (C0 : CX p s m args c cX7_areAlike 6 RX7 G K E0 A) (arA1 : Nat) (ar1 : Nat → Int32) (p2 : Int32) (p3 : Int32) (r : Int32)  (kr : ∀ (H : Heap) (locs : List Loc) (ls : Array Slot) (pc : Nat), decode cX7_areAlike pc = .ok (.ireturn, 1) → (r = 0 ∨ r = 1) → va_P G vwCl (WX7_areAlike K arA1 ar1) H → va_D A (WX7_areAlike K arA1 ar1) → va_S A s.heap H locs → W p l e rmX7_areAlike s m args below meth c H locs 0 0 Q (F0 m pc ls [.int r])) (n : Nat) : ∀ (x3 : Int32) (x4 : Int32) (x5 : Int32), mX7_areAlike_b25 ar1 p2 p3  n x3 x4 x5 = some r → ∀ (H : Heap) (locs : List Loc) (ls : Array Slot), va_P G vwCl (WX7_areAlike K arA1 ar1) H → va_D A (WX7_areAlike K arA1 ar1) → va_S A s.heap H locs → lv_has ls 6 [(0, .ref arA1), (1, .int p2), (2, .int p3), (3, .int x3), (4, .int x4), (5, .int x5)] → W p l e rmX7_areAlike s m args below meth c H locs 0 0 Q (F0 m 25 ls []) := by
  obtain ⟨hx, hb, hml, hown, hts, hK, hA, hEo, hE⟩ := id C0
  induction n with
  | zero =>
    intro x3 x4 x5 hM
    cases hM
  | succ n ih =>
    intro x3 x4 x5 hM H locs ls hP hD hS hl
    rw [mX7_areAlike_b25] at hM
    refine lv_iload hx hb dX7_areAlike_25 (lv_at hl 5 rfl) ?_
    refine lv_iload_n hx hb dX7_areAlike_27 rfl (lv_at hl 3 rfl) ?_
    refine lv_icmp_ge (tgt := 78) hx hb dX7_areAlike_28 (by decide) (fun c_1 => ?_) (fun c_1 => ?_)
    · rw [if_pos c_1] at hM
      refine lv_iload hx hb dX7_areAlike_78 (lv_at hl 4 rfl) ?_
      obtain ⟨g_2, hM⟩ := ng hM
      have q1 := Option.some.inj hM
      subst q1
      exact kr _ _ _ _ dX7_areAlike_80 (Decidable.not_not.mp g_2) hP hD hS
    · rw [if_neg c_1] at hM
      refine lv_iload hx hb dX7_areAlike_31 (lv_at hl 4 rfl) ?_
      refine lv_if_eq (tgt := 78) hx hb dX7_areAlike_33 (by decide) (fun c_3 => ?_) (fun c_3 => ?_)
      · rw [if_pos c_3] at hM
        refine lv_iload hx hb dX7_areAlike_78 (lv_at hl 4 rfl) ?_
        obtain ⟨g_4, hM⟩ := ng hM
        have q1 := Option.some.inj hM
        subst q1
        exact kr _ _ _ _ dX7_areAlike_80 (Decidable.not_not.mp g_4) hP hD hS
      · rw [if_neg c_3] at hM
        refine lv_aload_n hx hb dX7_areAlike_36 rfl (lv_at hl 0 rfl) ?_
        refine lv_iload_n hx hb dX7_areAlike_37 rfl (lv_at hl 1 rfl) ?_
        refine lv_aload_n hx hb dX7_areAlike_38 rfl (lv_at hl 0 rfl) ?_
        refine lv_iload_n hx hb dX7_areAlike_39 rfl (lv_at hl 1 rfl) ?_
        obtain ⟨r_5, hC, hM⟩ := oe1 hM
        refine cS_i (As := [.ref arA1, .int p2]) (rest := [.int p2, .ref arA1]) C0 hP hD hS [0] (kX7_tailFrom l G K arA1 ar1 p2 H.size r_5 hC) rfl rfl rfl tb1065 tb1066 tb9 tb1067 hdX7_tailFrom ⟨Nat.le_of_ble_eq_true rfl, Nat.le_of_ble_eq_true rfl⟩ rfl hl.1 (Nat.le_of_ble_eq_true rfl) rfl ⟨Nat.le_refl _, Nat.le_refl _⟩ dX7_areAlike_40 (fun H locs hP hD hS => ?_)
        have hP : va_P G vwCl (WX7_areAlike K arA1 ar1) H := hP
        have hD : va_D A (WX7_areAlike K arA1 ar1) := hD
        refine lv_iload hx hb dX7_areAlike_43 (lv_at hl 5 rfl) ?_
        refine lv_iadd hx hb dX7_areAlike_45 ?_
        obtain ⟨r_6, hC, hM⟩ := oe1 hM
        refine cS_i (As := [.ref arA1, .int p2, .int (r_5 + x5)]) (rest := []) C0 hP hD hS [0] (kX7_letterOf l G K arA1 ar1 p2 (r_5 + x5) H.size r_6 hC) rfl rfl rfl tb1033 tb1034 tb9 tb1035 hdX7_letterOf ⟨Nat.le_of_ble_eq_true rfl, Nat.le_of_ble_eq_true rfl⟩ rfl hl.1 (Nat.le_of_ble_eq_true rfl) rfl ⟨Nat.le_refl _, Nat.le_refl _⟩ dX7_areAlike_46 (fun H locs hP hD hS => ?_)
        have hP : va_P G vwCl (WX7_areAlike K arA1 ar1) H := hP
        have hD : va_D A (WX7_areAlike K arA1 ar1) := hD
        refine lv_aload_n hx hb dX7_areAlike_49 rfl (lv_at hl 0 rfl) ?_
        refine lv_iload_n hx hb dX7_areAlike_50 rfl (lv_at hl 2 rfl) ?_
        refine lv_aload_n hx hb dX7_areAlike_51 rfl (lv_at hl 0 rfl) ?_
        refine lv_iload_n hx hb dX7_areAlike_52 rfl (lv_at hl 2 rfl) ?_
        obtain ⟨r_7, hC, hM⟩ := oe1 hM
        refine cS_i (As := [.ref arA1, .int p3]) (rest := [.int p3, .ref arA1, .int r_6]) C0 hP hD hS [0] (kX7_tailFrom l G K arA1 ar1 p3 H.size r_7 hC) rfl rfl rfl tb1065 tb1066 tb9 tb1067 hdX7_tailFrom ⟨Nat.le_of_ble_eq_true rfl, Nat.le_of_ble_eq_true rfl⟩ rfl hl.1 (Nat.le_of_ble_eq_true rfl) rfl ⟨Nat.le_refl _, Nat.le_refl _⟩ dX7_areAlike_53 (fun H locs hP hD hS => ?_)
        have hP : va_P G vwCl (WX7_areAlike K arA1 ar1) H := hP
        have hD : va_D A (WX7_areAlike K arA1 ar1) := hD
        refine lv_iload hx hb dX7_areAlike_56 (lv_at hl 5 rfl) ?_
        refine lv_iadd hx hb dX7_areAlike_58 ?_
        obtain ⟨r_8, hC, hM⟩ := oe1 hM
        refine cS_i (As := [.ref arA1, .int p3, .int (r_7 + x5)]) (rest := [.int r_6]) C0 hP hD hS [0] (kX7_letterOf l G K arA1 ar1 p3 (r_7 + x5) H.size r_8 hC) rfl rfl rfl tb1033 tb1034 tb9 tb1035 hdX7_letterOf ⟨Nat.le_of_ble_eq_true rfl, Nat.le_of_ble_eq_true rfl⟩ rfl hl.1 (Nat.le_of_ble_eq_true rfl) rfl ⟨Nat.le_refl _, Nat.le_refl _⟩ dX7_areAlike_59 (fun H locs hP hD hS => ?_)
        have hP : va_P G vwCl (WX7_areAlike K arA1 ar1) H := hP
        have hD : va_D A (WX7_areAlike K arA1 ar1) := hD
        refine lv_icmp_ne (tgt := 69) hx hb dX7_areAlike_62 (by decide) (fun c_9 => ?_) (fun c_9 => ?_)
        · rw [if_neg c_9] at hM
          refine lv_iconst (v := 0) hx hb dX7_areAlike_69 (by decide) ?_
          refine lv_istore (lv' := [(4, .int (0 : Int32)), (0, .ref arA1), (1, .int p2), (2, .int p3), (3, .int x3), (5, .int x5)]) hx hb dX7_areAlike_70 hl (by decide) rfl (fun ls hl => ?_)
          refine lv_iinc (v := (x5 + 1)) (lv' := [(5, .int (x5 + 1)), (4, .int (0 : Int32)), (0, .ref arA1), (1, .int p2), (2, .int p3), (3, .int x3)]) hx hb dX7_areAlike_72 hl (k := 5) rfl rfl (by decide) rfl (fun ls hl => ?_)
          refine lv_goto (tgt := 25) hx hb dX7_areAlike_75 (by decide) ?_
          exact ih x3 (0 : Int32) (x5 + 1) hM _ _ _ hP hD hS (lv_sub hl [2, 3, 4, 5, 1, 0] rfl)
        · rw [if_pos c_9] at hM
          refine lv_iconst (v := 1) hx hb dX7_areAlike_65 (by decide) ?_
          refine lv_goto (tgt := 70) hx hb dX7_areAlike_66 (by decide) ?_
          refine lv_istore (lv' := [(4, .int (1 : Int32)), (0, .ref arA1), (1, .int p2), (2, .int p3), (3, .int x3), (5, .int x5)]) hx hb dX7_areAlike_70 hl (by decide) rfl (fun ls hl => ?_)
          refine lv_iinc (v := (x5 + 1)) (lv' := [(5, .int (x5 + 1)), (4, .int (1 : Int32)), (0, .ref arA1), (1, .int p2), (2, .int p3), (3, .int x3)]) hx hb dX7_areAlike_72 hl (k := 5) rfl rfl (by decide) rfl (fun ls hl => ?_)
          refine lv_goto (tgt := 25) hx hb dX7_areAlike_75 (by decide) ?_
          exact ih x3 (1 : Int32) (x5 + 1) hM _ _ _ hP hD hS (lv_sub hl [2, 3, 4, 5, 1, 0] rfl)
set_option maxHeartbeats 4000000 in
set_option maxRecDepth 100000 in
theorem wX7_areAlike_b0 {p : Program} {l : Launch} {e : Env} {s : State} {m : MethodId} {args : Array Value} {below : List Frame} {meth : Method} {c : Code} {Q : State → Prop} {G : va_G} {K : Nat → ClassId} {A : Nat → Prop} (C0 : CX p s m args c cX7_areAlike 6 RX7 G K E0 A) (arA1 : Nat) (ar1 : Nat → Int32) (p2 : Int32) (p3 : Int32) (r : Int32)  (kr : ∀ (H : Heap) (locs : List Loc) (ls : Array Slot) (pc : Nat), decode cX7_areAlike pc = .ok (.ireturn, 1) → (r = 0 ∨ r = 1) → va_P G vwCl (WX7_areAlike K arA1 ar1) H → va_D A (WX7_areAlike K arA1 ar1) → va_S A s.heap H locs → W p l e rmX7_areAlike s m args below meth c H locs 0 0 Q (F0 m pc ls [.int r]))  (hM : mX7_areAlike_b0 ar1 p2 p3   = some r) : ∀ (H : Heap) (locs : List Loc) (ls : Array Slot), va_P G vwCl (WX7_areAlike K arA1 ar1) H → va_D A (WX7_areAlike K arA1 ar1) → va_S A s.heap H locs → lv_has ls 6 [(0, .ref arA1), (1, .int p2), (2, .int p3)] → W p l e rmX7_areAlike s m args below meth c H locs 0 0 Q (F0 m 0 ls []) := by
  obtain ⟨hx, hb, hml, hown, hts, hK, hA, hEo, hE⟩ := id C0
  intro H locs ls hP hD hS hl
  unfold mX7_areAlike_b0 at hM
  refine lv_aload_n hx hb dX7_areAlike_0 rfl (lv_at hl 0 rfl) ?_
  refine lv_iload_n hx hb dX7_areAlike_1 rfl (lv_at hl 1 rfl) ?_
  obtain ⟨r_10, hC, hM⟩ := oe1 hM
  refine cS_i (As := [.ref arA1, .int p2]) (rest := []) C0 hP hD hS [0] (kX7_tailSize l G K arA1 ar1 p2 H.size r_10 hC) rfl rfl rfl tb1062 tb1063 tb9 tb1064 hdX7_tailSize ⟨Nat.le_of_ble_eq_true rfl, Nat.le_of_ble_eq_true rfl⟩ rfl hl.1 (Nat.le_of_ble_eq_true rfl) rfl ⟨Nat.le_refl _, Nat.le_refl _⟩ dX7_areAlike_2 (fun H locs hP hD hS => ?_)
  have hP : va_P G vwCl (WX7_areAlike K arA1 ar1) H := hP
  have hD : va_D A (WX7_areAlike K arA1 ar1) := hD
  refine lv_istore_n (lv' := [(3, .int r_10), (0, .ref arA1), (1, .int p2), (2, .int p3)]) hx hb dX7_areAlike_5 rfl hl (by decide) rfl (fun ls hl => ?_)
  refine lv_iload_n hx hb dX7_areAlike_6 rfl (lv_at hl 0 rfl) ?_
  refine lv_aload_n hx hb dX7_areAlike_7 rfl (lv_at hl 1 rfl) ?_
  refine lv_iload_n hx hb dX7_areAlike_8 rfl (lv_at hl 3 rfl) ?_
  obtain ⟨r_11, hC, hM⟩ := oe1 hM
  refine cS_i (As := [.ref arA1, .int p3]) (rest := [.int r_10]) C0 hP hD hS [0] (kX7_tailSize l G K arA1 ar1 p3 H.size r_11 hC) rfl rfl rfl tb1062 tb1063 tb9 tb1064 hdX7_tailSize ⟨Nat.le_of_ble_eq_true rfl, Nat.le_of_ble_eq_true rfl⟩ rfl hl.1 (Nat.le_of_ble_eq_true rfl) rfl ⟨Nat.le_refl _, Nat.le_refl _⟩ dX7_areAlike_9 (fun H locs hP hD hS => ?_)
  have hP : va_P G vwCl (WX7_areAlike K arA1 ar1) H := hP
  have hD : va_D A (WX7_areAlike K arA1 ar1) := hD
  refine lv_icmp_ne (tgt := 19) hx hb dX7_areAlike_12 (by decide) (fun c_12 => ?_) (fun c_12 => ?_)
  · rw [if_neg c_12] at hM
    refine lv_iconst (v := 0) hx hb dX7_areAlike_19 (by decide) ?_
    refine lv_istore (lv' := [(4, .int (0 : Int32)), (3, .int r_10), (0, .ref arA1), (1, .int p2), (2, .int p3)]) hx hb dX7_areAlike_20 hl (by decide) rfl (fun ls hl => ?_)
    refine lv_iconst (v := 0) hx hb dX7_areAlike_22 (by decide) ?_
    refine lv_istore (lv' := [(5, .int (0 : Int32)), (4, .int (0 : Int32)), (3, .int r_10), (0, .ref arA1), (1, .int p2), (2, .int p3)]) hx hb dX7_areAlike_23 hl (by decide) rfl (fun ls hl => ?_)
    exact wX7_areAlike_b25 C0 arA1 ar1 p2 p3 r kr  FU r_10 (0 : Int32) (0 : Int32) hM _ _ _ hP hD hS (lv_sub hl [3, 4, 5, 2, 1, 0] rfl)
  · rw [if_pos c_12] at hM
    refine lv_iconst (v := 1) hx hb dX7_areAlike_15 (by decide) ?_
    refine lv_goto (tgt := 20) hx hb dX7_areAlike_16 (by decide) ?_
    refine lv_istore (lv' := [(4, .int (1 : Int32)), (3, .int r_10), (0, .ref arA1), (1, .int p2), (2, .int p3)]) hx hb dX7_areAlike_20 hl (by decide) rfl (fun ls hl => ?_)
    refine lv_iconst (v := 0) hx hb dX7_areAlike_22 (by decide) ?_
    refine lv_istore (lv' := [(5, .int (0 : Int32)), (4, .int (1 : Int32)), (3, .int r_10), (0, .ref arA1), (1, .int p2), (2, .int p3)]) hx hb dX7_areAlike_23 hl (by decide) rfl (fun ls hl => ?_)
    exact wX7_areAlike_b25 C0 arA1 ar1 p2 p3 r kr  FU r_10 (1 : Int32) (0 : Int32) hM _ _ _ hP hD hS (lv_sub hl [3, 4, 5, 2, 1, 0] rfl)
set_option maxHeartbeats 4000000 in
set_option maxRecDepth 100000 in
theorem kX7_areAlike (l : Launch) (G : va_G) (K : Nat → ClassId) (arA1 : Nat) (ar1 : Nat → Int32) (p2 : Int32) (p3 : Int32) (sz : Nat) (r : Int32)  (hM : mX7_areAlike ar1 p2 p3 = some r) : Met l yX7_areAlike (mC yX7_areAlike cX7_areAlike 6 (some .boolean)) rmX7_areAlike (va_Pc [.ref arA1, .int p2, .int p3] (PCe G K E0 (WX7_areAlike K arA1 ar1) sz)) (va_Qi (fun (x : Int32) (_ : Unit) => x = r) (fun _ t => va_P G vwCl (WX7_areAlike K arA1 ar1) t.heap) (va_A (WX7_areAlike K arA1 ar1) sz)) rmX7_areAlike.cells rmX7_areAlike.slots (va_A (WX7_areAlike K arA1 ar1) sz) := by
  refine Met.ofW (cc := cX7_areAlike) (maxL := 6) (ret := (some .boolean)) (by decide) rfl ?_
  intro p e s m args below meth c s₁ B hml hv
  obtain ⟨rfl, hsz, hP, hK, hD0, hE⟩ := hv
  have hx := B.exec
  have hb := B.bytes
  have hr := B.returns
  have hts0 := atoms_spec (ws := mC yX7_areAlike cX7_areAlike 6 (some .boolean)) B.pre
  have hts : ∀ w ∈ tbG, w.before _ s = true := fun w h => hts0 w (List.mem_cons_of_mem _ h)
  have hown : s.vm.findClass RX7 = some m.cls := findClass_of_methodNamed B.named
  subst hsz
  have hD := hD0.self (sz := s.heap.size)
  generalize hAe : va_A (WX7_areAlike K arA1 ar1) s.heap.size = A at hD hE ⊢
  have hA : ∀ q : Nat, s.heap.size ≤ q → A q := fun q h => by rw [← hAe]; exact Or.inr h
  have hS : va_S A s.heap s.heap [] := va_S.rf
  have hl := lv_entry ([.ref arA1, .int p2, .int p3]) (n := 6) (Nat.le_of_ble_eq_true rfl)
  rw [lg_entry_eq]
  generalize (lg_sl ([.ref arA1, .int p2, .int p3]) ++ List.replicate (6 - (lg_sl ([.ref arA1, .int p2, .int p3])).length) Slot.unset).toArray = ls at hl ⊢
  have hl : lv_has ls 6 [(0, .ref arA1), (1, .int p2), (2, .int p3)] := hl
  exact wX7_areAlike_b0 ⟨hx, hb, hml, hown, hts, hK, hA, E0_ok, hE⟩ arA1 ar1 p2 p3 r (fun H locs ls pc hdg hz hP hD hS => W.zret (v := r) (ty := .boolean) hx hb hr (nar_b hz) (fun t ht hW => ⟨⟨r, (), rfl, rfl, (show va_P G vwCl _ t.heap by rw [ht]; exact hP)⟩, hS.F ht⟩) hS.2.2 hdg)   hM _ _ _ hP hD hS hl
abbrev WX7_endOf (K : Nat → ClassId) (arA1 : Nat) (ar1 : Nat → Int32) : va_W := [aI K arA1 207 ar1]
def rmX7_endOf : Room := { frames := 1, cells := 0, slots := 0, locals := 23 }
theorem hdX7_endOf : yX7_endOf.cls ≠ "java/lang/invoke/MethodHandle" ∧ yX7_endOf.cls ≠ "java/lang/invoke/VarHandle" ∧ (parseMethodDescriptor yX7_endOf.desc).map (fun d => d.parameters.length) = some 2 := by decide +kernel
set_option maxHeartbeats 4000000 in
set_option maxRecDepth 100000 in
theorem wX7_endOf_b0 {p : Program} {l : Launch} {e : Env} {s : State} {m : MethodId} {args : Array Value} {below : List Frame} {meth : Method} {c : Code} {Q : State → Prop} {G : va_G} {K : Nat → ClassId} {A : Nat → Prop} (C0 : CX p s m args c cX7_endOf 2 RX7 G K E0 A) (arA1 : Nat) (ar1 : Nat → Int32) (p2 : Int32) (r : Int32)  (kr : ∀ (H : Heap) (locs : List Loc) (ls : Array Slot) (pc : Nat), decode cX7_endOf pc = .ok (.ireturn, 1) → va_P G vwCl (WX7_endOf K arA1 ar1) H → va_D A (WX7_endOf K arA1 ar1) → va_S A s.heap H locs → W p l e rmX7_endOf s m args below meth c H locs 0 0 Q (F0 m pc ls [.int r]))  (hM : mX7_endOf_b0 ar1 p2   = some r) : ∀ (H : Heap) (locs : List Loc) (ls : Array Slot), va_P G vwCl (WX7_endOf K arA1 ar1) H → va_D A (WX7_endOf K arA1 ar1) → va_S A s.heap H locs → lv_has ls 2 [(0, .ref arA1), (1, .int p2)] → W p l e rmX7_endOf s m args below meth c H locs 0 0 Q (F0 m 0 ls []) := by
  obtain ⟨hx, hb, hml, hown, hts, hK, hA, hEo, hE⟩ := id C0
  intro H locs ls hP hD hS hl
  unfold mX7_endOf_b0 at hM
  refine lv_aload_n hx hb dX7_endOf_0 rfl (lv_at hl 0 rfl) ?_
  refine lv_iload_n hx hb dX7_endOf_1 rfl (lv_at hl 1 rfl) ?_
  refine lv_iconst (v := 1) hx hb dX7_endOf_2 (by decide) ?_
  refine lv_iadd hx hb dX7_endOf_3 ?_
  obtain ⟨r_1, hC, hM⟩ := oe1 hM
  refine cS_i (As := [.ref arA1, .int (p2 + (1 : Int32))]) (rest := []) C0 hP hD hS [0] (kX7_firstOf l G K arA1 ar1 (p2 + (1 : Int32)) H.size r_1 hC) rfl rfl rfl tb996 tb997 tb9 tb998 hdX7_firstOf ⟨Nat.le_of_ble_eq_true rfl, Nat.le_of_ble_eq_true rfl⟩ rfl hl.1 (Nat.le_of_ble_eq_true rfl) rfl ⟨Nat.le_refl _, Nat.le_refl _⟩ dX7_endOf_4 (fun H locs hP hD hS => ?_)
  have hP : va_P G vwCl (WX7_endOf K arA1 ar1) H := hP
  have hD : va_D A (WX7_endOf K arA1 ar1) := hD
  refine lv_iconst (v := 1) hx hb dX7_endOf_7 (by decide) ?_
  refine lv_isub hx hb dX7_endOf_8 ?_
  have q1 := Option.some.inj hM
  subst q1
  exact kr _ _ _ _ dX7_endOf_9 hP hD hS
set_option maxHeartbeats 4000000 in
set_option maxRecDepth 100000 in
theorem kX7_endOf (l : Launch) (G : va_G) (K : Nat → ClassId) (arA1 : Nat) (ar1 : Nat → Int32) (p2 : Int32) (sz : Nat) (r : Int32)  (hM : mX7_endOf ar1 p2 = some r) : Met l yX7_endOf (mC yX7_endOf cX7_endOf 2 (some .int)) rmX7_endOf (va_Pc [.ref arA1, .int p2] (PCe G K E0 (WX7_endOf K arA1 ar1) sz)) (va_Qi (fun (x : Int32) (_ : Unit) => x = r) (fun _ t => va_P G vwCl (WX7_endOf K arA1 ar1) t.heap) (va_A (WX7_endOf K arA1 ar1) sz)) rmX7_endOf.cells rmX7_endOf.slots (va_A (WX7_endOf K arA1 ar1) sz) := by
  refine Met.ofW (cc := cX7_endOf) (maxL := 2) (ret := (some .int)) (by decide) rfl ?_
  intro p e s m args below meth c s₁ B hml hv
  obtain ⟨rfl, hsz, hP, hK, hD0, hE⟩ := hv
  have hx := B.exec
  have hb := B.bytes
  have hr := B.returns
  have hts0 := atoms_spec (ws := mC yX7_endOf cX7_endOf 2 (some .int)) B.pre
  have hts : ∀ w ∈ tbG, w.before _ s = true := fun w h => hts0 w (List.mem_cons_of_mem _ h)
  have hown : s.vm.findClass RX7 = some m.cls := findClass_of_methodNamed B.named
  subst hsz
  have hD := hD0.self (sz := s.heap.size)
  generalize hAe : va_A (WX7_endOf K arA1 ar1) s.heap.size = A at hD hE ⊢
  have hA : ∀ q : Nat, s.heap.size ≤ q → A q := fun q h => by rw [← hAe]; exact Or.inr h
  have hS : va_S A s.heap s.heap [] := va_S.rf
  have hl := lv_entry ([.ref arA1, .int p2]) (n := 2) (Nat.le_of_ble_eq_true rfl)
  rw [lg_entry_eq]
  generalize (lg_sl ([.ref arA1, .int p2]) ++ List.replicate (2 - (lg_sl ([.ref arA1, .int p2])).length) Slot.unset).toArray = ls at hl ⊢
  have hl : lv_has ls 2 [(0, .ref arA1), (1, .int p2)] := hl
  exact wX7_endOf_b0 ⟨hx, hb, hml, hown, hts, hK, hA, E0_ok, hE⟩ arA1 ar1 p2 r (fun H locs ls pc hdg hP hD hS => W.iret (v := r) hx hb hr (fun t ht hW => ⟨⟨r, (), rfl, rfl, (show va_P G vwCl _ t.heap by rw [ht]; exact hP)⟩, hS.F ht⟩) hS.2.2 hdg)   hM _ _ _ hP hD hS hl
abbrev WX7_layScheme (K : Nat → ClassId) (m_a mA_lane mA_many mA_item mA_poem mA_fresh mA_then mA_was mA_tape mA_strengths mA_sounds mA_stand mA_scheme mA_isKept mA_kept mA_trace : Nat) (m_thrown : Int32) (m_status : Int32) (m_acts : Int32) (m_taped : Int32) (m_cursor : Int32) (m_start : Int32) (m_token : Int32) (m_value : Int32) (m_fault : Int32) (m_faultAt : Int32) (m_latest : Int32) (m_stands : Int32) (m_least : Int32) (m_ways : Int32) (m_nearFoot : Int32) (m_nearFeet : Int32) (m_nearCost : Int32) (m_traced : Int32) (m_poem : Nat → Int32) (m_scheme : Nat → Int32) : va_W := [(m_a, .inr (7, [.int m_thrown, .int m_status, .ref mA_lane, .ref mA_many, .ref mA_item, .ref mA_poem, .ref mA_fresh, .ref mA_then, .ref mA_was, .int m_acts, .ref mA_tape, .int m_taped, .int m_cursor, .int m_start, .int m_token, .int m_value, .int m_fault, .int m_faultAt, .int m_latest, .ref mA_strengths, .ref mA_sounds, .ref mA_stand, .int m_stands, .int m_least, .int m_ways, .ref mA_scheme, .int m_nearFoot, .int m_nearFeet, .int m_nearCost, .ref mA_isKept, .ref mA_kept, .ref mA_trace, .int m_traced])), aI K mA_poem 207 m_poem, aI K mA_scheme 4 m_scheme]
def rmX7_layScheme : Room := { frames := 9, cells := 0, slots := 0, locals := 202 }
theorem hdX7_layScheme : yX7_layScheme.cls = RX7 ∧ yX7_layScheme.cls ≠ "java/lang/invoke/MethodHandle" ∧ yX7_layScheme.cls ≠ "java/lang/invoke/VarHandle" ∧ (parseMethodDescriptor yX7_layScheme.desc).map (fun d => d.parameters.length) = some 0 := by decide +kernel
set_option maxHeartbeats 4000000 in
set_option maxRecDepth 100000 in
theorem wX7_layScheme_b25 {p : Program} {l : Launch} {e : Env} {s : State} {m : MethodId} {args : Array Value} {below : List Frame} {meth : Method} {c : Code} {Q : State → Prop} {G : va_G} {K : Nat → ClassId} {A : Nat → Prop} (C0 : CX p s m args c cX7_layScheme 4 RX7 G K E0 A) (m_a mA_lane mA_many mA_item mA_poem mA_fresh mA_then mA_was mA_tape mA_strengths mA_sounds mA_stand mA_scheme mA_isKept mA_kept mA_trace : Nat) (m_thrown : Int32) (m_status : Int32) (m_acts : Int32) (m_taped : Int32) (m_cursor : Int32) (m_start : Int32) (m_token : Int32) (m_value : Int32) (m_fault : Int32) (m_faultAt : Int32) (m_latest : Int32) (m_stands : Int32) (m_least : Int32) (m_ways : Int32) (m_nearFoot : Int32) (m_nearFeet : Int32) (m_nearCost : Int32) (m_traced : Int32) (m_poem : Nat → Int32)  (r : Int32) (o_m_scheme : Nat → Int32) (kr : ∀ (H : Heap) (locs : List Loc) (ls : Array Slot) (pc : Nat), decode cX7_layScheme pc = .ok (.ireturn, 1) → va_P G vwCl (WX7_layScheme K m_a mA_lane mA_many mA_item mA_poem mA_fresh mA_then mA_was mA_tape mA_strengths mA_sounds mA_stand mA_scheme mA_isKept mA_kept mA_trace m_thrown m_status m_acts m_taped m_cursor m_start m_token m_value m_fault m_faultAt m_latest m_stands m_least m_ways m_nearFoot m_nearFeet m_nearCost m_traced m_poem o_m_scheme) H → va_D A (WX7_layScheme K m_a mA_lane mA_many mA_item mA_poem mA_fresh mA_then mA_was mA_tape mA_strengths mA_sounds mA_stand mA_scheme mA_isKept mA_kept mA_trace m_thrown m_status m_acts m_taped m_cursor m_start m_token m_value m_fault m_faultAt m_latest m_stands m_least m_ways m_nearFoot m_nearFeet m_nearCost m_traced m_poem o_m_scheme) → va_S A s.heap H locs → W p l e rmX7_layScheme s m args below meth c H locs 0 0 Q (F0 m pc ls [.int r])) (k4 : (Nat → Int32) → Int32 → Int32 → Option (Int32 × (Nat → Int32))) (hk4 : ∀ (m_scheme : Nat → Int32) (x1 : Int32) (x2 : Int32), k4 m_scheme x1 x2 = some (r, o_m_scheme) → ∀ (H : Heap) (locs : List Loc) (ls : Array Slot), va_P G vwCl (WX7_layScheme K m_a mA_lane mA_many mA_item mA_poem mA_fresh mA_then mA_was mA_tape mA_strengths mA_sounds mA_stand mA_scheme mA_isKept mA_kept mA_trace m_thrown m_status m_acts m_taped m_cursor m_start m_token m_value m_fault m_faultAt m_latest m_stands m_least m_ways m_nearFoot m_nearFeet m_nearCost m_traced m_poem m_scheme) H → va_D A (WX7_layScheme K m_a mA_lane mA_many mA_item mA_poem mA_fresh mA_then mA_was mA_tape mA_strengths mA_sounds mA_stand mA_scheme mA_isKept mA_kept mA_trace m_thrown m_status m_acts m_taped m_cursor m_start m_token m_value m_fault m_faultAt m_latest m_stands m_least m_ways m_nearFoot m_nearFeet m_nearCost m_traced m_poem m_scheme) → va_S A s.heap H locs → lv_has ls 4 [(0, .ref m_a), (1, .int x1), (2, .int x2)] → W p l e rmX7_layScheme s m args below meth c H locs 0 0 Q (F0 m 4 ls [])) (n : Nat) : ∀ (m_scheme : Nat → Int32) (x1 : Int32) (x2 : Int32) (x3 : Int32), mX7_layScheme_b25 m_poem k4 n m_scheme x1 x2 x3 = some (r, o_m_scheme) → ∀ (H : Heap) (locs : List Loc) (ls : Array Slot), va_P G vwCl (WX7_layScheme K m_a mA_lane mA_many mA_item mA_poem mA_fresh mA_then mA_was mA_tape mA_strengths mA_sounds mA_stand mA_scheme mA_isKept mA_kept mA_trace m_thrown m_status m_acts m_taped m_cursor m_start m_token m_value m_fault m_faultAt m_latest m_stands m_least m_ways m_nearFoot m_nearFeet m_nearCost m_traced m_poem m_scheme) H → va_D A (WX7_layScheme K m_a mA_lane mA_many mA_item mA_poem mA_fresh mA_then mA_was mA_tape mA_strengths mA_sounds mA_stand mA_scheme mA_isKept mA_kept mA_trace m_thrown m_status m_acts m_taped m_cursor m_start m_token m_value m_fault m_faultAt m_latest m_stands m_least m_ways m_nearFoot m_nearFeet m_nearCost m_traced m_poem m_scheme) → va_S A s.heap H locs → lv_has ls 4 [(0, .ref m_a), (1, .int x1), (2, .int x2), (3, .int x3)] → W p l e rmX7_layScheme s m args below meth c H locs 0 0 Q (F0 m 25 ls []) := by
  obtain ⟨hx, hb, hml, hown, hts, hK, hA, hEo, hE⟩ := id C0
  induction n with
  | zero =>
    intro m_scheme x1 x2 x3 hM
    cases hM
  | succ n ih =>
    intro m_scheme x1 x2 x3 hM H locs ls hP hD hS hl
    rw [mX7_layScheme_b25] at hM
    refine lv_iload_n hx hb dX7_layScheme_25 rfl (lv_at hl 3 rfl) ?_
    refine lv_if_lt (tgt := 82) hx hb dX7_layScheme_26 (by decide) (fun c_1 => ?_) (fun c_1 => ?_)
    · rw [if_pos c_1] at hM
      refine lv_iload_n hx hb dX7_layScheme_82 rfl (lv_at hl 1 rfl) ?_
      refine lv_aload_n hx hb dX7_layScheme_83 rfl (lv_at hl 0 rfl) ?_
      refine va_get (D := G) (ci := 7) (v := .ref mA_scheme) (C := RX7) (T := TX7) (N := 33) hx hb hts inX7 hown hK hP 0 rfl rfl 25 (by decide) (hts _ tb789) (fun _ h9 => h9) rfl dX7_layScheme_84 ?_
      refine lv_iload_n hx hb dX7_layScheme_87 rfl (lv_at hl 2 rfl) ?_
      obtain ⟨g_2, hM⟩ := ng hM
      refine va_iald hx hb hK hP 2 0 rfl rfl g_2 dX7_layScheme_88 ?_
      refine lv_iload_n hx hb dX7_layScheme_89 rfl (lv_at hl 1 rfl) ?_
      refine lv_icmp_ne (tgt := 97) hx hb dX7_layScheme_90 (by decide) (fun c_3 => ?_) (fun c_3 => ?_)
      · rw [if_neg c_3] at hM
        refine lv_iconst (v := 0) hx hb dX7_layScheme_97 (by decide) ?_
        refine lv_iadd hx hb dX7_layScheme_98 ?_
        refine lv_istore_n (lv' := [(1, .int (x1 + (0 : Int32))), (0, .ref m_a), (2, .int x2), (3, .int x3)]) hx hb dX7_layScheme_99 rfl hl (by decide) rfl (fun ls hl => ?_)
        refine lv_iinc (v := (x2 + 1)) (lv' := [(2, .int (x2 + 1)), (1, .int (x1 + (0 : Int32))), (0, .ref m_a), (3, .int x3)]) hx hb dX7_layScheme_100 hl (k := 2) rfl rfl (by decide) rfl (fun ls hl => ?_)
        refine lv_goto (tgt := 4) hx hb dX7_layScheme_103 (by decide) ?_
        exact hk4 m_scheme (x1 + (0 : Int32)) (x2 + 1) hM _ _ _ hP hD hS (lv_sub hl [2, 1, 0] rfl)
      · rw [if_pos c_3] at hM
        refine lv_iconst (v := 1) hx hb dX7_layScheme_93 (by decide) ?_
        refine lv_goto (tgt := 98) hx hb dX7_layScheme_94 (by decide) ?_
        refine lv_iadd hx hb dX7_layScheme_98 ?_
        refine lv_istore_n (lv' := [(1, .int (x1 + (1 : Int32))), (0, .ref m_a), (2, .int x2), (3, .int x3)]) hx hb dX7_layScheme_99 rfl hl (by decide) rfl (fun ls hl => ?_)
        refine lv_iinc (v := (x2 + 1)) (lv' := [(2, .int (x2 + 1)), (1, .int (x1 + (1 : Int32))), (0, .ref m_a), (3, .int x3)]) hx hb dX7_layScheme_100 hl (k := 2) rfl rfl (by decide) rfl (fun ls hl => ?_)
        refine lv_goto (tgt := 4) hx hb dX7_layScheme_103 (by decide) ?_
        exact hk4 m_scheme (x1 + (1 : Int32)) (x2 + 1) hM _ _ _ hP hD hS (lv_sub hl [2, 1, 0] rfl)
    · rw [if_neg c_1] at hM
      refine lv_aload_n hx hb dX7_layScheme_29 rfl (lv_at hl 0 rfl) ?_
      refine va_get (D := G) (ci := 7) (v := .ref mA_scheme) (C := RX7) (T := TX7) (N := 33) hx hb hts inX7 hown hK hP 0 rfl rfl 25 (by decide) (hts _ tb789) (fun _ h9 => h9) rfl dX7_layScheme_30 ?_
      refine lv_iload_n hx hb dX7_layScheme_33 rfl (lv_at hl 2 rfl) ?_
      refine lv_aload_n hx hb dX7_layScheme_34 rfl (lv_at hl 0 rfl) ?_
      refine va_get (D := G) (ci := 7) (v := .ref mA_poem) (C := RX7) (T := TX7) (N := 33) hx hb hts inX7 hown hK hP 0 rfl rfl 5 (by decide) (hts _ tb769) (fun _ h9 => h9) rfl dX7_layScheme_35 ?_
      refine lv_aload_n hx hb dX7_layScheme_38 rfl (lv_at hl 0 rfl) ?_
      refine va_get (D := G) (ci := 7) (v := .ref mA_poem) (C := RX7) (T := TX7) (N := 33) hx hb hts inX7 hown hK hP 0 rfl rfl 5 (by decide) (hts _ tb769) (fun _ h9 => h9) rfl dX7_layScheme_39 ?_
      refine lv_iload_n hx hb dX7_layScheme_42 rfl (lv_at hl 2 rfl) ?_
      obtain ⟨r_4, hC, hM⟩ := oe1 hM
      refine cS_i (As := [.ref mA_poem, .int x2]) (rest := [.ref mA_poem, .int x2, .ref mA_scheme]) C0 hP hD hS [1] (kX7_endOf l G K mA_poem m_poem x2 H.size r_4 hC) rfl rfl rfl tb1059 tb1060 tb9 tb1061 hdX7_endOf ⟨Nat.le_of_ble_eq_true rfl, Nat.le_of_ble_eq_true rfl⟩ rfl hl.1 (Nat.le_of_ble_eq_true rfl) rfl ⟨Nat.le_refl _, Nat.le_refl _⟩ dX7_layScheme_43 (fun H locs hP hD hS => ?_)
      have hP : va_P G vwCl (WX7_layScheme K m_a mA_lane mA_many mA_item mA_poem mA_fresh mA_then mA_was mA_tape mA_strengths mA_sounds mA_stand mA_scheme mA_isKept mA_kept mA_trace m_thrown m_status m_acts m_taped m_cursor m_start m_token m_value m_fault m_faultAt m_latest m_stands m_least m_ways m_nearFoot m_nearFeet m_nearCost m_traced m_poem m_scheme) H := hP
      have hD : va_D A (WX7_layScheme K m_a mA_lane mA_many mA_item mA_poem mA_fresh mA_then mA_was mA_tape mA_strengths mA_sounds mA_stand mA_scheme mA_isKept mA_kept mA_trace m_thrown m_status m_acts m_taped m_cursor m_start m_token m_value m_fault m_faultAt m_latest m_stands m_least m_ways m_nearFoot m_nearFeet m_nearCost m_traced m_poem m_scheme) := hD
      refine lv_aload_n hx hb dX7_layScheme_46 rfl (lv_at hl 0 rfl) ?_
      refine va_get (D := G) (ci := 7) (v := .ref mA_poem) (C := RX7) (T := TX7) (N := 33) hx hb hts inX7 hown hK hP 0 rfl rfl 5 (by decide) (hts _ tb769) (fun _ h9 => h9) rfl dX7_layScheme_47 ?_
      refine lv_iload_n hx hb dX7_layScheme_50 rfl (lv_at hl 3 rfl) ?_
      obtain ⟨r_5, hC, hM⟩ := oe1 hM
      refine cS_i (As := [.ref mA_poem, .int x3]) (rest := [.int r_4, .ref mA_poem, .int x2, .ref mA_scheme]) C0 hP hD hS [1] (kX7_endOf l G K mA_poem m_poem x3 H.size r_5 hC) rfl rfl rfl tb1059 tb1060 tb9 tb1061 hdX7_endOf ⟨Nat.le_of_ble_eq_true rfl, Nat.le_of_ble_eq_true rfl⟩ rfl hl.1 (Nat.le_of_ble_eq_true rfl) rfl ⟨Nat.le_refl _, Nat.le_refl _⟩ dX7_layScheme_51 (fun H locs hP hD hS => ?_)
      have hP : va_P G vwCl (WX7_layScheme K m_a mA_lane mA_many mA_item mA_poem mA_fresh mA_then mA_was mA_tape mA_strengths mA_sounds mA_stand mA_scheme mA_isKept mA_kept mA_trace m_thrown m_status m_acts m_taped m_cursor m_start m_token m_value m_fault m_faultAt m_latest m_stands m_least m_ways m_nearFoot m_nearFeet m_nearCost m_traced m_poem m_scheme) H := hP
      have hD : va_D A (WX7_layScheme K m_a mA_lane mA_many mA_item mA_poem mA_fresh mA_then mA_was mA_tape mA_strengths mA_sounds mA_stand mA_scheme mA_isKept mA_kept mA_trace m_thrown m_status m_acts m_taped m_cursor m_start m_token m_value m_fault m_faultAt m_latest m_stands m_least m_ways m_nearFoot m_nearFeet m_nearCost m_traced m_poem m_scheme) := hD
      obtain ⟨r_6, hC, hM⟩ := oe1 hM
      refine cS_i (As := [.ref mA_poem, .int r_4, .int r_5]) (rest := [.int x2, .ref mA_scheme]) C0 hP hD hS [1] (kX7_areAlike l G K mA_poem m_poem r_4 r_5 H.size r_6 hC) rfl rfl rfl tb1072 tb1073 tb9 tb1074 hdX7_areAlike ⟨Nat.le_of_ble_eq_true rfl, Nat.le_of_ble_eq_true rfl⟩ rfl hl.1 (Nat.le_of_ble_eq_true rfl) rfl ⟨Nat.le_refl _, Nat.le_refl _⟩ dX7_layScheme_54 (fun H locs hP hD hS => ?_)
      have hP : va_P G vwCl (WX7_layScheme K m_a mA_lane mA_many mA_item mA_poem mA_fresh mA_then mA_was mA_tape mA_strengths mA_sounds mA_stand mA_scheme mA_isKept mA_kept mA_trace m_thrown m_status m_acts m_taped m_cursor m_start m_token m_value m_fault m_faultAt m_latest m_stands m_least m_ways m_nearFoot m_nearFeet m_nearCost m_traced m_poem m_scheme) H := hP
      have hD : va_D A (WX7_layScheme K m_a mA_lane mA_many mA_item mA_poem mA_fresh mA_then mA_was mA_tape mA_strengths mA_sounds mA_stand mA_scheme mA_isKept mA_kept mA_trace m_thrown m_status m_acts m_taped m_cursor m_start m_token m_value m_fault m_faultAt m_latest m_stands m_least m_ways m_nearFoot m_nearFeet m_nearCost m_traced m_poem m_scheme) := hD
      refine lv_if_eq (tgt := 69) hx hb dX7_layScheme_57 (by decide) (fun c_7 => ?_) (fun c_7 => ?_)
      · rw [if_pos c_7] at hM
        refine lv_aload_n hx hb dX7_layScheme_69 rfl (lv_at hl 0 rfl) ?_
        refine va_get (D := G) (ci := 7) (v := .ref mA_scheme) (C := RX7) (T := TX7) (N := 33) hx hb hts inX7 hown hK hP 0 rfl rfl 25 (by decide) (hts _ tb789) (fun _ h9 => h9) rfl dX7_layScheme_70 ?_
        refine lv_iload_n hx hb dX7_layScheme_73 rfl (lv_at hl 2 rfl) ?_
        obtain ⟨g_8, hM⟩ := ng hM
        refine va_iald hx hb hK hP 2 0 rfl rfl g_8 dX7_layScheme_74 ?_
        obtain ⟨g_9, hM⟩ := ng hM
        refine va_iast hx hb hK hP hD hS 2 0 rfl rfl g_9 dX7_layScheme_75 (fun H locs hP hD hS => ?_)
        have hP : va_P G vwCl (WX7_layScheme K m_a mA_lane mA_many mA_item mA_poem mA_fresh mA_then mA_was mA_tape mA_strengths mA_sounds mA_stand mA_scheme mA_isKept mA_kept mA_trace m_thrown m_status m_acts m_taped m_cursor m_start m_token m_value m_fault m_faultAt m_latest m_stands m_least m_ways m_nearFoot m_nearFeet m_nearCost m_traced m_poem (upd m_scheme x2.toNatClampNeg (m_scheme x2.toNatClampNeg))) H := hP
        have hD : va_D A (WX7_layScheme K m_a mA_lane mA_many mA_item mA_poem mA_fresh mA_then mA_was mA_tape mA_strengths mA_sounds mA_stand mA_scheme mA_isKept mA_kept mA_trace m_thrown m_status m_acts m_taped m_cursor m_start m_token m_value m_fault m_faultAt m_latest m_stands m_least m_ways m_nearFoot m_nearFeet m_nearCost m_traced m_poem (upd m_scheme x2.toNatClampNeg (m_scheme x2.toNatClampNeg))) := hD
        refine lv_iinc (v := (x3 + (-1))) (lv' := [(3, .int (x3 + (-1))), (0, .ref m_a), (1, .int x1), (2, .int x2)]) hx hb dX7_layScheme_76 hl (k := 3) rfl rfl (by decide) rfl (fun ls hl => ?_)
        refine lv_goto (tgt := 25) hx hb dX7_layScheme_79 (by decide) ?_
        exact ih (upd m_scheme x2.toNatClampNeg (m_scheme x2.toNatClampNeg)) x1 x2 (x3 + (-1)) hM _ _ _ hP hD hS (lv_sub hl [1, 2, 3, 0] rfl)
      · rw [if_neg c_7] at hM
        refine lv_aload_n hx hb dX7_layScheme_60 rfl (lv_at hl 0 rfl) ?_
        refine va_get (D := G) (ci := 7) (v := .ref mA_scheme) (C := RX7) (T := TX7) (N := 33) hx hb hts inX7 hown hK hP 0 rfl rfl 25 (by decide) (hts _ tb789) (fun _ h9 => h9) rfl dX7_layScheme_61 ?_
        refine lv_iload_n hx hb dX7_layScheme_64 rfl (lv_at hl 3 rfl) ?_
        obtain ⟨g_10, hM⟩ := ng hM
        refine va_iald hx hb hK hP 2 0 rfl rfl g_10 dX7_layScheme_65 ?_
        refine lv_goto (tgt := 75) hx hb dX7_layScheme_66 (by decide) ?_
        obtain ⟨g_11, hM⟩ := ng hM
        refine va_iast hx hb hK hP hD hS 2 0 rfl rfl g_11 dX7_layScheme_75 (fun H locs hP hD hS => ?_)
        have hP : va_P G vwCl (WX7_layScheme K m_a mA_lane mA_many mA_item mA_poem mA_fresh mA_then mA_was mA_tape mA_strengths mA_sounds mA_stand mA_scheme mA_isKept mA_kept mA_trace m_thrown m_status m_acts m_taped m_cursor m_start m_token m_value m_fault m_faultAt m_latest m_stands m_least m_ways m_nearFoot m_nearFeet m_nearCost m_traced m_poem (upd m_scheme x2.toNatClampNeg (m_scheme x3.toNatClampNeg))) H := hP
        have hD : va_D A (WX7_layScheme K m_a mA_lane mA_many mA_item mA_poem mA_fresh mA_then mA_was mA_tape mA_strengths mA_sounds mA_stand mA_scheme mA_isKept mA_kept mA_trace m_thrown m_status m_acts m_taped m_cursor m_start m_token m_value m_fault m_faultAt m_latest m_stands m_least m_ways m_nearFoot m_nearFeet m_nearCost m_traced m_poem (upd m_scheme x2.toNatClampNeg (m_scheme x3.toNatClampNeg))) := hD
        refine lv_iinc (v := (x3 + (-1))) (lv' := [(3, .int (x3 + (-1))), (0, .ref m_a), (1, .int x1), (2, .int x2)]) hx hb dX7_layScheme_76 hl (k := 3) rfl rfl (by decide) rfl (fun ls hl => ?_)
        refine lv_goto (tgt := 25) hx hb dX7_layScheme_79 (by decide) ?_
        exact ih (upd m_scheme x2.toNatClampNeg (m_scheme x3.toNatClampNeg)) x1 x2 (x3 + (-1)) hM _ _ _ hP hD hS (lv_sub hl [1, 2, 3, 0] rfl)
set_option maxHeartbeats 4000000 in
set_option maxRecDepth 100000 in
theorem wX7_layScheme_b4 {p : Program} {l : Launch} {e : Env} {s : State} {m : MethodId} {args : Array Value} {below : List Frame} {meth : Method} {c : Code} {Q : State → Prop} {G : va_G} {K : Nat → ClassId} {A : Nat → Prop} (C0 : CX p s m args c cX7_layScheme 4 RX7 G K E0 A) (m_a mA_lane mA_many mA_item mA_poem mA_fresh mA_then mA_was mA_tape mA_strengths mA_sounds mA_stand mA_scheme mA_isKept mA_kept mA_trace : Nat) (m_thrown : Int32) (m_status : Int32) (m_acts : Int32) (m_taped : Int32) (m_cursor : Int32) (m_start : Int32) (m_token : Int32) (m_value : Int32) (m_fault : Int32) (m_faultAt : Int32) (m_latest : Int32) (m_stands : Int32) (m_least : Int32) (m_ways : Int32) (m_nearFoot : Int32) (m_nearFeet : Int32) (m_nearCost : Int32) (m_traced : Int32) (m_poem : Nat → Int32)  (r : Int32) (o_m_scheme : Nat → Int32) (kr : ∀ (H : Heap) (locs : List Loc) (ls : Array Slot) (pc : Nat), decode cX7_layScheme pc = .ok (.ireturn, 1) → va_P G vwCl (WX7_layScheme K m_a mA_lane mA_many mA_item mA_poem mA_fresh mA_then mA_was mA_tape mA_strengths mA_sounds mA_stand mA_scheme mA_isKept mA_kept mA_trace m_thrown m_status m_acts m_taped m_cursor m_start m_token m_value m_fault m_faultAt m_latest m_stands m_least m_ways m_nearFoot m_nearFeet m_nearCost m_traced m_poem o_m_scheme) H → va_D A (WX7_layScheme K m_a mA_lane mA_many mA_item mA_poem mA_fresh mA_then mA_was mA_tape mA_strengths mA_sounds mA_stand mA_scheme mA_isKept mA_kept mA_trace m_thrown m_status m_acts m_taped m_cursor m_start m_token m_value m_fault m_faultAt m_latest m_stands m_least m_ways m_nearFoot m_nearFeet m_nearCost m_traced m_poem o_m_scheme) → va_S A s.heap H locs → W p l e rmX7_layScheme s m args below meth c H locs 0 0 Q (F0 m pc ls [.int r])) (n : Nat) : ∀ (m_scheme : Nat → Int32) (x1 : Int32) (x2 : Int32), mX7_layScheme_b4 m_poem  n m_scheme x1 x2 = some (r, o_m_scheme) → ∀ (H : Heap) (locs : List Loc) (ls : Array Slot), va_P G vwCl (WX7_layScheme K m_a mA_lane mA_many mA_item mA_poem mA_fresh mA_then mA_was mA_tape mA_strengths mA_sounds mA_stand mA_scheme mA_isKept mA_kept mA_trace m_thrown m_status m_acts m_taped m_cursor m_start m_token m_value m_fault m_faultAt m_latest m_stands m_least m_ways m_nearFoot m_nearFeet m_nearCost m_traced m_poem m_scheme) H → va_D A (WX7_layScheme K m_a mA_lane mA_many mA_item mA_poem mA_fresh mA_then mA_was mA_tape mA_strengths mA_sounds mA_stand mA_scheme mA_isKept mA_kept mA_trace m_thrown m_status m_acts m_taped m_cursor m_start m_token m_value m_fault m_faultAt m_latest m_stands m_least m_ways m_nearFoot m_nearFeet m_nearCost m_traced m_poem m_scheme) → va_S A s.heap H locs → lv_has ls 4 [(0, .ref m_a), (1, .int x1), (2, .int x2)] → W p l e rmX7_layScheme s m args below meth c H locs 0 0 Q (F0 m 4 ls []) := by
  obtain ⟨hx, hb, hml, hown, hts, hK, hA, hEo, hE⟩ := id C0
  induction n with
  | zero =>
    intro m_scheme x1 x2 hM
    cases hM
  | succ n ih =>
    intro m_scheme x1 x2 hM H locs ls hP hD hS hl
    rw [mX7_layScheme_b4] at hM
    refine lv_iload_n hx hb dX7_layScheme_4 rfl (lv_at hl 2 rfl) ?_
    refine lv_aload_n hx hb dX7_layScheme_5 rfl (lv_at hl 0 rfl) ?_
    refine va_get (D := G) (ci := 7) (v := .ref mA_poem) (C := RX7) (T := TX7) (N := 33) hx hb hts inX7 hown hK hP 0 rfl rfl 5 (by decide) (hts _ tb769) (fun _ h9 => h9) rfl dX7_layScheme_6 ?_
    refine lv_iconst (v := 0) hx hb dX7_layScheme_9 (by decide) ?_
    refine va_iald hx hb hK hP 1 0 rfl rfl (show ¬ ((0 : Int32) < 0 ∨ 207 ≤ ((0 : Int32)).toNatClampNeg) by decide) dX7_layScheme_10 ?_
    refine lv_icmp_ge (tgt := 106) hx hb dX7_layScheme_11 (by decide) (fun c_12 => ?_) (fun c_12 => ?_)
    · rw [if_pos c_12] at hM
      refine lv_iload_n hx hb dX7_layScheme_106 rfl (lv_at hl 1 rfl) ?_
      have t0 := Option.some.inj hM
      obtain ⟨q1, t1⟩ := Prod.mk.inj t0
      subst q1
      subst t1
      exact kr _ _ _ _ dX7_layScheme_107 hP hD hS
    · rw [if_neg c_12] at hM
      refine lv_aload_n hx hb dX7_layScheme_14 rfl (lv_at hl 0 rfl) ?_
      refine va_get (D := G) (ci := 7) (v := .ref mA_scheme) (C := RX7) (T := TX7) (N := 33) hx hb hts inX7 hown hK hP 0 rfl rfl 25 (by decide) (hts _ tb789) (fun _ h9 => h9) rfl dX7_layScheme_15 ?_
      refine lv_iload_n hx hb dX7_layScheme_18 rfl (lv_at hl 2 rfl) ?_
      refine lv_iload_n hx hb dX7_layScheme_19 rfl (lv_at hl 1 rfl) ?_
      obtain ⟨g_13, hM⟩ := ng hM
      refine va_iast hx hb hK hP hD hS 2 0 rfl rfl g_13 dX7_layScheme_20 (fun H locs hP hD hS => ?_)
      have hP : va_P G vwCl (WX7_layScheme K m_a mA_lane mA_many mA_item mA_poem mA_fresh mA_then mA_was mA_tape mA_strengths mA_sounds mA_stand mA_scheme mA_isKept mA_kept mA_trace m_thrown m_status m_acts m_taped m_cursor m_start m_token m_value m_fault m_faultAt m_latest m_stands m_least m_ways m_nearFoot m_nearFeet m_nearCost m_traced m_poem (upd m_scheme x2.toNatClampNeg x1)) H := hP
      have hD : va_D A (WX7_layScheme K m_a mA_lane mA_many mA_item mA_poem mA_fresh mA_then mA_was mA_tape mA_strengths mA_sounds mA_stand mA_scheme mA_isKept mA_kept mA_trace m_thrown m_status m_acts m_taped m_cursor m_start m_token m_value m_fault m_faultAt m_latest m_stands m_least m_ways m_nearFoot m_nearFeet m_nearCost m_traced m_poem (upd m_scheme x2.toNatClampNeg x1)) := hD
      refine lv_iload_n hx hb dX7_layScheme_21 rfl (lv_at hl 2 rfl) ?_
      refine lv_iconst (v := 1) hx hb dX7_layScheme_22 (by decide) ?_
      refine lv_isub hx hb dX7_layScheme_23 ?_
      refine lv_istore_n (lv' := [(3, .int (x2 - (1 : Int32))), (0, .ref m_a), (1, .int x1), (2, .int x2)]) hx hb dX7_layScheme_24 rfl hl (by decide) rfl (fun ls hl => ?_)
      exact wX7_layScheme_b25 C0 m_a mA_lane mA_many mA_item mA_poem mA_fresh mA_then mA_was mA_tape mA_strengths mA_sounds mA_stand mA_scheme mA_isKept mA_kept mA_trace m_thrown m_status m_acts m_taped m_cursor m_start m_token m_value m_fault m_faultAt m_latest m_stands m_least m_ways m_nearFoot m_nearFeet m_nearCost m_traced m_poem r o_m_scheme kr (mX7_layScheme_b4 m_poem  n) ih FU (upd m_scheme x2.toNatClampNeg x1) x1 x2 (x2 - (1 : Int32)) hM _ _ _ hP hD hS (lv_sub hl [1, 2, 3, 0] rfl)
set_option maxHeartbeats 4000000 in
set_option maxRecDepth 100000 in
theorem wX7_layScheme_b0 {p : Program} {l : Launch} {e : Env} {s : State} {m : MethodId} {args : Array Value} {below : List Frame} {meth : Method} {c : Code} {Q : State → Prop} {G : va_G} {K : Nat → ClassId} {A : Nat → Prop} (C0 : CX p s m args c cX7_layScheme 4 RX7 G K E0 A) (m_a mA_lane mA_many mA_item mA_poem mA_fresh mA_then mA_was mA_tape mA_strengths mA_sounds mA_stand mA_scheme mA_isKept mA_kept mA_trace : Nat) (m_thrown : Int32) (m_status : Int32) (m_acts : Int32) (m_taped : Int32) (m_cursor : Int32) (m_start : Int32) (m_token : Int32) (m_value : Int32) (m_fault : Int32) (m_faultAt : Int32) (m_latest : Int32) (m_stands : Int32) (m_least : Int32) (m_ways : Int32) (m_nearFoot : Int32) (m_nearFeet : Int32) (m_nearCost : Int32) (m_traced : Int32) (m_poem : Nat → Int32)  (r : Int32) (o_m_scheme : Nat → Int32) (kr : ∀ (H : Heap) (locs : List Loc) (ls : Array Slot) (pc : Nat), decode cX7_layScheme pc = .ok (.ireturn, 1) → va_P G vwCl (WX7_layScheme K m_a mA_lane mA_many mA_item mA_poem mA_fresh mA_then mA_was mA_tape mA_strengths mA_sounds mA_stand mA_scheme mA_isKept mA_kept mA_trace m_thrown m_status m_acts m_taped m_cursor m_start m_token m_value m_fault m_faultAt m_latest m_stands m_least m_ways m_nearFoot m_nearFeet m_nearCost m_traced m_poem o_m_scheme) H → va_D A (WX7_layScheme K m_a mA_lane mA_many mA_item mA_poem mA_fresh mA_then mA_was mA_tape mA_strengths mA_sounds mA_stand mA_scheme mA_isKept mA_kept mA_trace m_thrown m_status m_acts m_taped m_cursor m_start m_token m_value m_fault m_faultAt m_latest m_stands m_least m_ways m_nearFoot m_nearFeet m_nearCost m_traced m_poem o_m_scheme) → va_S A s.heap H locs → W p l e rmX7_layScheme s m args below meth c H locs 0 0 Q (F0 m pc ls [.int r])) (m_scheme : Nat → Int32) (hM : mX7_layScheme_b0 m_poem  m_scheme = some (r, o_m_scheme)) : ∀ (H : Heap) (locs : List Loc) (ls : Array Slot), va_P G vwCl (WX7_layScheme K m_a mA_lane mA_many mA_item mA_poem mA_fresh mA_then mA_was mA_tape mA_strengths mA_sounds mA_stand mA_scheme mA_isKept mA_kept mA_trace m_thrown m_status m_acts m_taped m_cursor m_start m_token m_value m_fault m_faultAt m_latest m_stands m_least m_ways m_nearFoot m_nearFeet m_nearCost m_traced m_poem m_scheme) H → va_D A (WX7_layScheme K m_a mA_lane mA_many mA_item mA_poem mA_fresh mA_then mA_was mA_tape mA_strengths mA_sounds mA_stand mA_scheme mA_isKept mA_kept mA_trace m_thrown m_status m_acts m_taped m_cursor m_start m_token m_value m_fault m_faultAt m_latest m_stands m_least m_ways m_nearFoot m_nearFeet m_nearCost m_traced m_poem m_scheme) → va_S A s.heap H locs → lv_has ls 4 [(0, .ref m_a)] → W p l e rmX7_layScheme s m args below meth c H locs 0 0 Q (F0 m 0 ls []) := by
  obtain ⟨hx, hb, hml, hown, hts, hK, hA, hEo, hE⟩ := id C0
  intro H locs ls hP hD hS hl
  unfold mX7_layScheme_b0 at hM
  refine lv_iconst (v := 0) hx hb dX7_layScheme_0 (by decide) ?_
  refine lv_istore_n (lv' := [(1, .int (0 : Int32)), (0, .ref m_a)]) hx hb dX7_layScheme_1 rfl hl (by decide) rfl (fun ls hl => ?_)
  refine lv_iconst (v := 0) hx hb dX7_layScheme_2 (by decide) ?_
  refine lv_istore_n (lv' := [(2, .int (0 : Int32)), (1, .int (0 : Int32)), (0, .ref m_a)]) hx hb dX7_layScheme_3 rfl hl (by decide) rfl (fun ls hl => ?_)
  exact wX7_layScheme_b4 C0 m_a mA_lane mA_many mA_item mA_poem mA_fresh mA_then mA_was mA_tape mA_strengths mA_sounds mA_stand mA_scheme mA_isKept mA_kept mA_trace m_thrown m_status m_acts m_taped m_cursor m_start m_token m_value m_fault m_faultAt m_latest m_stands m_least m_ways m_nearFoot m_nearFeet m_nearCost m_traced m_poem r o_m_scheme kr  FU m_scheme (0 : Int32) (0 : Int32) hM _ _ _ hP hD hS (lv_sub hl [2, 1, 0] rfl)
set_option maxHeartbeats 4000000 in
set_option maxRecDepth 100000 in
theorem kX7_layScheme (l : Launch) (G : va_G) (K : Nat → ClassId) (m_a mA_lane mA_many mA_item mA_poem mA_fresh mA_then mA_was mA_tape mA_strengths mA_sounds mA_stand mA_scheme mA_isKept mA_kept mA_trace : Nat) (m_thrown : Int32) (m_status : Int32) (m_acts : Int32) (m_taped : Int32) (m_cursor : Int32) (m_start : Int32) (m_token : Int32) (m_value : Int32) (m_fault : Int32) (m_faultAt : Int32) (m_latest : Int32) (m_stands : Int32) (m_least : Int32) (m_ways : Int32) (m_nearFoot : Int32) (m_nearFeet : Int32) (m_nearCost : Int32) (m_traced : Int32) (m_poem : Nat → Int32) (m_scheme : Nat → Int32)  (sz : Nat) (r : Int32) (o_m_scheme : Nat → Int32) (hM : mX7_layScheme m_poem m_scheme = some (r, o_m_scheme)) : Met l yX7_layScheme (mC yX7_layScheme cX7_layScheme 4 (some .int)) rmX7_layScheme (va_Pc [.ref m_a] (PCe G K E0 (WX7_layScheme K m_a mA_lane mA_many mA_item mA_poem mA_fresh mA_then mA_was mA_tape mA_strengths mA_sounds mA_stand mA_scheme mA_isKept mA_kept mA_trace m_thrown m_status m_acts m_taped m_cursor m_start m_token m_value m_fault m_faultAt m_latest m_stands m_least m_ways m_nearFoot m_nearFeet m_nearCost m_traced m_poem m_scheme) sz)) (va_Qi (fun (x : Int32) (_ : Unit) => x = r) (fun _ t => va_P G vwCl (WX7_layScheme K m_a mA_lane mA_many mA_item mA_poem mA_fresh mA_then mA_was mA_tape mA_strengths mA_sounds mA_stand mA_scheme mA_isKept mA_kept mA_trace m_thrown m_status m_acts m_taped m_cursor m_start m_token m_value m_fault m_faultAt m_latest m_stands m_least m_ways m_nearFoot m_nearFeet m_nearCost m_traced m_poem o_m_scheme) t.heap) (va_A (WX7_layScheme K m_a mA_lane mA_many mA_item mA_poem mA_fresh mA_then mA_was mA_tape mA_strengths mA_sounds mA_stand mA_scheme mA_isKept mA_kept mA_trace m_thrown m_status m_acts m_taped m_cursor m_start m_token m_value m_fault m_faultAt m_latest m_stands m_least m_ways m_nearFoot m_nearFeet m_nearCost m_traced m_poem m_scheme) sz)) rmX7_layScheme.cells rmX7_layScheme.slots (va_A (WX7_layScheme K m_a mA_lane mA_many mA_item mA_poem mA_fresh mA_then mA_was mA_tape mA_strengths mA_sounds mA_stand mA_scheme mA_isKept mA_kept mA_trace m_thrown m_status m_acts m_taped m_cursor m_start m_token m_value m_fault m_faultAt m_latest m_stands m_least m_ways m_nearFoot m_nearFeet m_nearCost m_traced m_poem m_scheme) sz) := by
  refine Met.ofW (cc := cX7_layScheme) (maxL := 4) (ret := (some .int)) (by decide) rfl ?_
  intro p e s m args below meth c s₁ B hml hv
  obtain ⟨rfl, hsz, hP, hK, hD0, hE⟩ := hv
  have hx := B.exec
  have hb := B.bytes
  have hr := B.returns
  have hts0 := atoms_spec (ws := mC yX7_layScheme cX7_layScheme 4 (some .int)) B.pre
  have hts : ∀ w ∈ tbG, w.before _ s = true := fun w h => hts0 w (List.mem_cons_of_mem _ h)
  have hown : s.vm.findClass RX7 = some m.cls := findClass_of_methodNamed B.named
  subst hsz
  have hD := hD0.self (sz := s.heap.size)
  generalize hAe : va_A (WX7_layScheme K m_a mA_lane mA_many mA_item mA_poem mA_fresh mA_then mA_was mA_tape mA_strengths mA_sounds mA_stand mA_scheme mA_isKept mA_kept mA_trace m_thrown m_status m_acts m_taped m_cursor m_start m_token m_value m_fault m_faultAt m_latest m_stands m_least m_ways m_nearFoot m_nearFeet m_nearCost m_traced m_poem m_scheme) s.heap.size = A at hD hE ⊢
  have hA : ∀ q : Nat, s.heap.size ≤ q → A q := fun q h => by rw [← hAe]; exact Or.inr h
  have hS : va_S A s.heap s.heap [] := va_S.rf
  have hl := lv_entry ([.ref m_a]) (n := 4) (Nat.le_of_ble_eq_true rfl)
  rw [lg_entry_eq]
  generalize (lg_sl ([.ref m_a]) ++ List.replicate (4 - (lg_sl ([.ref m_a])).length) Slot.unset).toArray = ls at hl ⊢
  have hl : lv_has ls 4 [(0, .ref m_a)] := hl
  exact wX7_layScheme_b0 ⟨hx, hb, hml, hown, hts, hK, hA, E0_ok, hE⟩ m_a mA_lane mA_many mA_item mA_poem mA_fresh mA_then mA_was mA_tape mA_strengths mA_sounds mA_stand mA_scheme mA_isKept mA_kept mA_trace m_thrown m_status m_acts m_taped m_cursor m_start m_token m_value m_fault m_faultAt m_latest m_stands m_least m_ways m_nearFoot m_nearFeet m_nearCost m_traced m_poem r o_m_scheme (fun H locs ls pc hdg hP hD hS => W.iret (v := r) hx hb hr (fun t ht hW => ⟨⟨r, (), rfl, rfl, (show va_P G vwCl _ t.heap by rw [ht]; exact hP)⟩, hS.F ht⟩) hS.2.2 hdg) m_scheme  hM _ _ _ hP hD hS hl
abbrev WX7_nameOf (K : Nat → ClassId) (m_a mA_lane mA_many mA_item mA_poem mA_fresh mA_then mA_was mA_tape mA_strengths mA_sounds mA_stand mA_scheme mA_isKept mA_kept mA_trace : Nat) (m_thrown : Int32) (m_status : Int32) (m_acts : Int32) (m_taped : Int32) (m_cursor : Int32) (m_start : Int32) (m_token : Int32) (m_value : Int32) (m_fault : Int32) (m_faultAt : Int32) (m_latest : Int32) (m_stands : Int32) (m_least : Int32) (m_ways : Int32) (m_nearFoot : Int32) (m_nearFeet : Int32) (m_nearCost : Int32) (m_traced : Int32) (m_poem : Nat → Int32) (m_scheme : Nat → Int32) : va_W := [(m_a, .inr (7, [.int m_thrown, .int m_status, .ref mA_lane, .ref mA_many, .ref mA_item, .ref mA_poem, .ref mA_fresh, .ref mA_then, .ref mA_was, .int m_acts, .ref mA_tape, .int m_taped, .int m_cursor, .int m_start, .int m_token, .int m_value, .int m_fault, .int m_faultAt, .int m_latest, .ref mA_strengths, .ref mA_sounds, .ref mA_stand, .int m_stands, .int m_least, .int m_ways, .ref mA_scheme, .int m_nearFoot, .int m_nearFeet, .int m_nearCost, .ref mA_isKept, .ref mA_kept, .ref mA_trace, .int m_traced])), aI K mA_poem 207 m_poem, aI K mA_scheme 4 m_scheme]
def rmX7_nameOf : Room := { frames := 10, cells := 0, slots := 0, locals := 225 }
theorem hdX7_nameOf : yX7_nameOf.cls = RX7 ∧ yX7_nameOf.cls ≠ "java/lang/invoke/MethodHandle" ∧ yX7_nameOf.cls ≠ "java/lang/invoke/VarHandle" ∧ (parseMethodDescriptor yX7_nameOf.desc).map (fun d => d.parameters.length) = some 0 := by decide +kernel
set_option maxHeartbeats 4000000 in
set_option maxRecDepth 100000 in
theorem wX7_nameOf_b0 {p : Program} {l : Launch} {e : Env} {s : State} {m : MethodId} {args : Array Value} {below : List Frame} {meth : Method} {c : Code} {Q : State → Prop} {G : va_G} {K : Nat → ClassId} {A : Nat → Prop} (C0 : CX p s m args c cX7_nameOf 3 RX7 G K E0 A) (m_a mA_lane mA_many mA_item mA_poem mA_fresh mA_then mA_was mA_tape mA_strengths mA_sounds mA_stand mA_scheme mA_isKept mA_kept mA_trace : Nat) (m_thrown : Int32) (m_status : Int32) (m_acts : Int32) (m_taped : Int32) (m_cursor : Int32) (m_start : Int32) (m_token : Int32) (m_value : Int32) (m_fault : Int32) (m_faultAt : Int32) (m_latest : Int32) (m_stands : Int32) (m_least : Int32) (m_ways : Int32) (m_nearFoot : Int32) (m_nearFeet : Int32) (m_nearCost : Int32) (m_traced : Int32) (m_poem : Nat → Int32)  (r : Int32) (o_m_scheme : Nat → Int32) (kr : ∀ (H : Heap) (locs : List Loc) (ls : Array Slot) (pc : Nat), decode cX7_nameOf pc = .ok (.ireturn, 1) → va_P G vwCl (WX7_nameOf K m_a mA_lane mA_many mA_item mA_poem mA_fresh mA_then mA_was mA_tape mA_strengths mA_sounds mA_stand mA_scheme mA_isKept mA_kept mA_trace m_thrown m_status m_acts m_taped m_cursor m_start m_token m_value m_fault m_faultAt m_latest m_stands m_least m_ways m_nearFoot m_nearFeet m_nearCost m_traced m_poem o_m_scheme) H → va_D A (WX7_nameOf K m_a mA_lane mA_many mA_item mA_poem mA_fresh mA_then mA_was mA_tape mA_strengths mA_sounds mA_stand mA_scheme mA_isKept mA_kept mA_trace m_thrown m_status m_acts m_taped m_cursor m_start m_token m_value m_fault m_faultAt m_latest m_stands m_least m_ways m_nearFoot m_nearFeet m_nearCost m_traced m_poem o_m_scheme) → va_S A s.heap H locs → W p l e rmX7_nameOf s m args below meth c H locs 0 0 Q (F0 m pc ls [.int r])) (m_scheme : Nat → Int32) (hM : mX7_nameOf_b0 m_poem  m_scheme = some (r, o_m_scheme)) : ∀ (H : Heap) (locs : List Loc) (ls : Array Slot), va_P G vwCl (WX7_nameOf K m_a mA_lane mA_many mA_item mA_poem mA_fresh mA_then mA_was mA_tape mA_strengths mA_sounds mA_stand mA_scheme mA_isKept mA_kept mA_trace m_thrown m_status m_acts m_taped m_cursor m_start m_token m_value m_fault m_faultAt m_latest m_stands m_least m_ways m_nearFoot m_nearFeet m_nearCost m_traced m_poem m_scheme) H → va_D A (WX7_nameOf K m_a mA_lane mA_many mA_item mA_poem mA_fresh mA_then mA_was mA_tape mA_strengths mA_sounds mA_stand mA_scheme mA_isKept mA_kept mA_trace m_thrown m_status m_acts m_taped m_cursor m_start m_token m_value m_fault m_faultAt m_latest m_stands m_least m_ways m_nearFoot m_nearFeet m_nearCost m_traced m_poem m_scheme) → va_S A s.heap H locs → lv_has ls 3 [(0, .ref m_a)] → W p l e rmX7_nameOf s m args below meth c H locs 0 0 Q (F0 m 0 ls []) := by
  obtain ⟨hx, hb, hml, hown, hts, hK, hA, hEo, hE⟩ := id C0
  intro H locs ls hP hD hS hl
  unfold mX7_nameOf_b0 at hM
  refine lv_aload_n hx hb dX7_nameOf_0 rfl (lv_at hl 0 rfl) ?_
  obtain ⟨r_1, u0_1, hC, hM⟩ := oe2 hM
  refine cV_i (As := []) (rest := []) C0 hP hD hS [0, 1, 2] (kX7_layScheme l G K m_a mA_lane mA_many mA_item mA_poem mA_fresh mA_then mA_was mA_tape mA_strengths mA_sounds mA_stand mA_scheme mA_isKept mA_kept mA_trace m_thrown m_status m_acts m_taped m_cursor m_start m_token m_value m_fault m_faultAt m_latest m_stands m_least m_ways m_nearFoot m_nearFeet m_nearCost m_traced m_poem m_scheme H.size r_1 u0_1 hC) rfl rfl rfl tb1068 tb1070 tp31 tb9 tb1071 hdX7_layScheme (va_recv hK hP (ci := 7) (q0 := 0) rfl rfl) ⟨Nat.le_of_ble_eq_true rfl, Nat.le_of_ble_eq_true rfl⟩ rfl hl.1 (Nat.le_of_ble_eq_true rfl) rfl ⟨Nat.le_refl _, Nat.le_refl _⟩ dX7_nameOf_1 (fun H locs hP hD hS => ?_)
  have hP : va_P G vwCl (WX7_nameOf K m_a mA_lane mA_many mA_item mA_poem mA_fresh mA_then mA_was mA_tape mA_strengths mA_sounds mA_stand mA_scheme mA_isKept mA_kept mA_trace m_thrown m_status m_acts m_taped m_cursor m_start m_token m_value m_fault m_faultAt m_latest m_stands m_least m_ways m_nearFoot m_nearFeet m_nearCost m_traced m_poem u0_1) H := hP
  have hD : va_D A (WX7_nameOf K m_a mA_lane mA_many mA_item mA_poem mA_fresh mA_then mA_was mA_tape mA_strengths mA_sounds mA_stand mA_scheme mA_isKept mA_kept mA_trace m_thrown m_status m_acts m_taped m_cursor m_start m_token m_value m_fault m_faultAt m_latest m_stands m_least m_ways m_nearFoot m_nearFeet m_nearCost m_traced m_poem u0_1) := hD
  refine lv_istore_n (lv' := [(1, .int r_1), (0, .ref m_a)]) hx hb dX7_nameOf_4 rfl hl (by decide) rfl (fun ls hl => ?_)
  refine lv_bipush (v := 100) hx hb dX7_nameOf_5 (by decide) ?_
  refine lv_aload_n hx hb dX7_nameOf_7 rfl (lv_at hl 1 rfl) ?_
  refine va_get (D := G) (ci := 7) (v := .ref mA_scheme) (C := RX7) (T := TX7) (N := 33) hx hb hts inX7 hown hK hP 0 rfl rfl 25 (by decide) (hts _ tb789) (fun _ h9 => h9) rfl dX7_nameOf_8 ?_
  refine lv_iconst (v := 1) hx hb dX7_nameOf_11 (by decide) ?_
  refine va_iald hx hb hK hP 2 0 rfl rfl (show ¬ ((1 : Int32) < 0 ∨ 4 ≤ ((1 : Int32)).toNatClampNeg) by decide) dX7_nameOf_12 ?_
  refine lv_imul hx hb dX7_nameOf_13 ?_
  refine lv_bipush (v := 10) hx hb dX7_nameOf_14 (by decide) ?_
  refine lv_aload_n hx hb dX7_nameOf_16 rfl (lv_at hl 1 rfl) ?_
  refine va_get (D := G) (ci := 7) (v := .ref mA_scheme) (C := RX7) (T := TX7) (N := 33) hx hb hts inX7 hown hK hP 0 rfl rfl 25 (by decide) (hts _ tb789) (fun _ h9 => h9) rfl dX7_nameOf_17 ?_
  refine lv_iconst (v := 2) hx hb dX7_nameOf_20 (by decide) ?_
  refine va_iald hx hb hK hP 2 0 rfl rfl (show ¬ ((2 : Int32) < 0 ∨ 4 ≤ ((2 : Int32)).toNatClampNeg) by decide) dX7_nameOf_21 ?_
  refine lv_imul hx hb dX7_nameOf_22 ?_
  refine lv_iadd hx hb dX7_nameOf_23 ?_
  refine lv_aload_n hx hb dX7_nameOf_24 rfl (lv_at hl 1 rfl) ?_
  refine va_get (D := G) (ci := 7) (v := .ref mA_scheme) (C := RX7) (T := TX7) (N := 33) hx hb hts inX7 hown hK hP 0 rfl rfl 25 (by decide) (hts _ tb789) (fun _ h9 => h9) rfl dX7_nameOf_25 ?_
  refine lv_iconst (v := 3) hx hb dX7_nameOf_28 (by decide) ?_
  refine va_iald hx hb hK hP 2 0 rfl rfl (show ¬ ((3 : Int32) < 0 ∨ 4 ≤ ((3 : Int32)).toNatClampNeg) by decide) dX7_nameOf_29 ?_
  refine lv_iadd hx hb dX7_nameOf_30 ?_
  refine lv_istore_n (lv' := [(2, .int ((((100 : Int32) * (u0_1 (1 : Int32).toNatClampNeg)) + ((10 : Int32) * (u0_1 (2 : Int32).toNatClampNeg))) + (u0_1 (3 : Int32).toNatClampNeg))), (1, .int r_1), (0, .ref m_a)]) hx hb dX7_nameOf_31 rfl hl (by decide) rfl (fun ls hl => ?_)
  refine lv_aload_n hx hb dX7_nameOf_32 rfl (lv_at hl 2 rfl) ?_
  refine va_get (D := G) (ci := 7) (v := .ref mA_poem) (C := RX7) (T := TX7) (N := 33) hx hb hts inX7 hown hK hP 0 rfl rfl 5 (by decide) (hts _ tb769) (fun _ h9 => h9) rfl dX7_nameOf_33 ?_
  refine lv_iconst (v := 0) hx hb dX7_nameOf_36 (by decide) ?_
  refine va_iald hx hb hK hP 1 0 rfl rfl (show ¬ ((0 : Int32) < 0 ∨ 207 ≤ ((0 : Int32)).toNatClampNeg) by decide) dX7_nameOf_37 ?_
  refine lv_iconst (v := 4) hx hb dX7_nameOf_38 (by decide) ?_
  refine lv_icmp_lt (tgt := 46) hx hb dX7_nameOf_39 (by decide) (fun c_2 => ?_) (fun c_2 => ?_)
  · rw [if_pos c_2] at hM
    refine lv_iconst (v := 0) hx hb dX7_nameOf_46 (by decide) ?_
    have t0 := Option.some.inj hM
    obtain ⟨q1, t1⟩ := Prod.mk.inj t0
    subst q1
    subst t1
    exact kr _ _ _ _ dX7_nameOf_47 hP hD hS
  · rw [if_neg c_2] at hM
    refine lv_iload_n hx hb dX7_nameOf_42 rfl (lv_at hl 1 rfl) ?_
    refine lv_if_ne (tgt := 48) hx hb dX7_nameOf_43 (by decide) (fun c_3 => ?_) (fun c_3 => ?_)
    · rw [if_neg c_3] at hM
      refine lv_iload_n hx hb dX7_nameOf_48 rfl (lv_at hl 0 rfl) ?_
      refine lv_bipush (v := 11) hx hb dX7_nameOf_49 (by decide) ?_
      refine lv_icmp_ne (tgt := 58) hx hb dX7_nameOf_51 (by decide) (fun c_4 => ?_) (fun c_4 => ?_)
      · rw [if_neg c_4] at hM
        refine lv_iload_n hx hb dX7_nameOf_58 rfl (lv_at hl 0 rfl) ?_
        refine lv_bipush (v := 101) hx hb dX7_nameOf_59 (by decide) ?_
        refine lv_icmp_ne (tgt := 68) hx hb dX7_nameOf_61 (by decide) (fun c_5 => ?_) (fun c_5 => ?_)
        · rw [if_neg c_5] at hM
          refine lv_iload_n hx hb dX7_nameOf_68 rfl (lv_at hl 0 rfl) ?_
          refine lv_bipush (v := 110) hx hb dX7_nameOf_69 (by decide) ?_
          refine lv_icmp_ne (tgt := 78) hx hb dX7_nameOf_71 (by decide) (fun c_6 => ?_) (fun c_6 => ?_)
          · rw [if_neg c_6] at hM
            refine lv_iload_n hx hb dX7_nameOf_78 rfl (lv_at hl 0 rfl) ?_
            refine lv_if_ne (tgt := 86) hx hb dX7_nameOf_79 (by decide) (fun c_7 => ?_) (fun c_7 => ?_)
            · rw [if_neg c_7] at hM
              refine lv_iload_n hx hb dX7_nameOf_86 rfl (lv_at hl 0 rfl) ?_
              refine lv_bipush (v := 121) hx hb dX7_nameOf_87 (by decide) ?_
              refine lv_icmp_ne (tgt := 96) hx hb dX7_nameOf_89 (by decide) (fun c_8 => ?_) (fun c_8 => ?_)
              · rw [if_neg c_8] at hM
                refine lv_iconst (v := 0) hx hb dX7_nameOf_96 (by decide) ?_
                have t0 := Option.some.inj hM
                obtain ⟨q1, t1⟩ := Prod.mk.inj t0
                subst q1
                subst t1
                exact kr _ _ _ _ dX7_nameOf_97 hP hD hS
              · rw [if_pos c_8] at hM
                refine lv_iconst (v := 5) hx hb dX7_nameOf_92 (by decide) ?_
                refine lv_goto (tgt := 97) hx hb dX7_nameOf_93 (by decide) ?_
                have t0 := Option.some.inj hM
                obtain ⟨q1, t1⟩ := Prod.mk.inj t0
                subst q1
                subst t1
                exact kr _ _ _ _ dX7_nameOf_97 hP hD hS
            · rw [if_pos c_7] at hM
              refine lv_iconst (v := 4) hx hb dX7_nameOf_82 (by decide) ?_
              refine lv_goto (tgt := 97) hx hb dX7_nameOf_83 (by decide) ?_
              have t0 := Option.some.inj hM
              obtain ⟨q1, t1⟩ := Prod.mk.inj t0
              subst q1
              subst t1
              exact kr _ _ _ _ dX7_nameOf_97 hP hD hS
          · rw [if_pos c_6] at hM
            refine lv_iconst (v := 3) hx hb dX7_nameOf_74 (by decide) ?_
            refine lv_goto (tgt := 97) hx hb dX7_nameOf_75 (by decide) ?_
            have t0 := Option.some.inj hM
            obtain ⟨q1, t1⟩ := Prod.mk.inj t0
            subst q1
            subst t1
            exact kr _ _ _ _ dX7_nameOf_97 hP hD hS
        · rw [if_pos c_5] at hM
          refine lv_iconst (v := 2) hx hb dX7_nameOf_64 (by decide) ?_
          refine lv_goto (tgt := 97) hx hb dX7_nameOf_65 (by decide) ?_
          have t0 := Option.some.inj hM
          obtain ⟨q1, t1⟩ := Prod.mk.inj t0
          subst q1
          subst t1
          exact kr _ _ _ _ dX7_nameOf_97 hP hD hS
      · rw [if_pos c_4] at hM
        refine lv_iconst (v := 1) hx hb dX7_nameOf_54 (by decide) ?_
        refine lv_goto (tgt := 97) hx hb dX7_nameOf_55 (by decide) ?_
        have t0 := Option.some.inj hM
        obtain ⟨q1, t1⟩ := Prod.mk.inj t0
        subst q1
        subst t1
        exact kr _ _ _ _ dX7_nameOf_97 hP hD hS
    · rw [if_pos c_3] at hM
      refine lv_iconst (v := 0) hx hb dX7_nameOf_46 (by decide) ?_
      have t0 := Option.some.inj hM
      obtain ⟨q1, t1⟩ := Prod.mk.inj t0
      subst q1
      subst t1
      exact kr _ _ _ _ dX7_nameOf_47 hP hD hS
set_option maxHeartbeats 4000000 in
set_option maxRecDepth 100000 in
theorem kX7_nameOf (l : Launch) (G : va_G) (K : Nat → ClassId) (m_a mA_lane mA_many mA_item mA_poem mA_fresh mA_then mA_was mA_tape mA_strengths mA_sounds mA_stand mA_scheme mA_isKept mA_kept mA_trace : Nat) (m_thrown : Int32) (m_status : Int32) (m_acts : Int32) (m_taped : Int32) (m_cursor : Int32) (m_start : Int32) (m_token : Int32) (m_value : Int32) (m_fault : Int32) (m_faultAt : Int32) (m_latest : Int32) (m_stands : Int32) (m_least : Int32) (m_ways : Int32) (m_nearFoot : Int32) (m_nearFeet : Int32) (m_nearCost : Int32) (m_traced : Int32) (m_poem : Nat → Int32) (m_scheme : Nat → Int32)  (sz : Nat) (r : Int32) (o_m_scheme : Nat → Int32) (hM : mX7_nameOf m_poem m_scheme = some (r, o_m_scheme)) : Met l yX7_nameOf (mC yX7_nameOf cX7_nameOf 3 (some .int)) rmX7_nameOf (va_Pc [.ref m_a] (PCe G K E0 (WX7_nameOf K m_a mA_lane mA_many mA_item mA_poem mA_fresh mA_then mA_was mA_tape mA_strengths mA_sounds mA_stand mA_scheme mA_isKept mA_kept mA_trace m_thrown m_status m_acts m_taped m_cursor m_start m_token m_value m_fault m_faultAt m_latest m_stands m_least m_ways m_nearFoot m_nearFeet m_nearCost m_traced m_poem m_scheme) sz)) (va_Qi (fun (x : Int32) (_ : Unit) => x = r) (fun _ t => va_P G vwCl (WX7_nameOf K m_a mA_lane mA_many mA_item mA_poem mA_fresh mA_then mA_was mA_tape mA_strengths mA_sounds mA_stand mA_scheme mA_isKept mA_kept mA_trace m_thrown m_status m_acts m_taped m_cursor m_start m_token m_value m_fault m_faultAt m_latest m_stands m_least m_ways m_nearFoot m_nearFeet m_nearCost m_traced m_poem o_m_scheme) t.heap) (va_A (WX7_nameOf K m_a mA_lane mA_many mA_item mA_poem mA_fresh mA_then mA_was mA_tape mA_strengths mA_sounds mA_stand mA_scheme mA_isKept mA_kept mA_trace m_thrown m_status m_acts m_taped m_cursor m_start m_token m_value m_fault m_faultAt m_latest m_stands m_least m_ways m_nearFoot m_nearFeet m_nearCost m_traced m_poem m_scheme) sz)) rmX7_nameOf.cells rmX7_nameOf.slots (va_A (WX7_nameOf K m_a mA_lane mA_many mA_item mA_poem mA_fresh mA_then mA_was mA_tape mA_strengths mA_sounds mA_stand mA_scheme mA_isKept mA_kept mA_trace m_thrown m_status m_acts m_taped m_cursor m_start m_token m_value m_fault m_faultAt m_latest m_stands m_least m_ways m_nearFoot m_nearFeet m_nearCost m_traced m_poem m_scheme) sz) := by
  refine Met.ofW (cc := cX7_nameOf) (maxL := 3) (ret := (some .int)) (by decide) rfl ?_
  intro p e s m args below meth c s₁ B hml hv
  obtain ⟨rfl, hsz, hP, hK, hD0, hE⟩ := hv
  have hx := B.exec
  have hb := B.bytes
  have hr := B.returns
  have hts0 := atoms_spec (ws := mC yX7_nameOf cX7_nameOf 3 (some .int)) B.pre
  have hts : ∀ w ∈ tbG, w.before _ s = true := fun w h => hts0 w (List.mem_cons_of_mem _ h)
  have hown : s.vm.findClass RX7 = some m.cls := findClass_of_methodNamed B.named
  subst hsz
  have hD := hD0.self (sz := s.heap.size)
  generalize hAe : va_A (WX7_nameOf K m_a mA_lane mA_many mA_item mA_poem mA_fresh mA_then mA_was mA_tape mA_strengths mA_sounds mA_stand mA_scheme mA_isKept mA_kept mA_trace m_thrown m_status m_acts m_taped m_cursor m_start m_token m_value m_fault m_faultAt m_latest m_stands m_least m_ways m_nearFoot m_nearFeet m_nearCost m_traced m_poem m_scheme) s.heap.size = A at hD hE ⊢
  have hA : ∀ q : Nat, s.heap.size ≤ q → A q := fun q h => by rw [← hAe]; exact Or.inr h
  have hS : va_S A s.heap s.heap [] := va_S.rf
  have hl := lv_entry ([.ref m_a]) (n := 3) (Nat.le_of_ble_eq_true rfl)
  rw [lg_entry_eq]
  generalize (lg_sl ([.ref m_a]) ++ List.replicate (3 - (lg_sl ([.ref m_a])).length) Slot.unset).toArray = ls at hl ⊢
  have hl : lv_has ls 3 [(0, .ref m_a)] := hl
  exact wX7_nameOf_b0 ⟨hx, hb, hml, hown, hts, hK, hA, E0_ok, hE⟩ m_a mA_lane mA_many mA_item mA_poem mA_fresh mA_then mA_was mA_tape mA_strengths mA_sounds mA_stand mA_scheme mA_isKept mA_kept mA_trace m_thrown m_status m_acts m_taped m_cursor m_start m_token m_value m_fault m_faultAt m_latest m_stands m_least m_ways m_nearFoot m_nearFeet m_nearCost m_traced m_poem r o_m_scheme (fun H locs ls pc hdg hP hD hS => W.iret (v := r) hx hb hr (fun t ht hW => ⟨⟨r, (), rfl, rfl, (show va_P G vwCl _ t.heap by rw [ht]; exact hP)⟩, hS.F ht⟩) hS.2.2 hdg) m_scheme  hM _ _ _ hP hD hS hl
abbrev WX7_layThen (K : Nat → ClassId) (m_a mA_lane mA_many mA_item mA_poem mA_fresh mA_then mA_was mA_tape mA_strengths mA_sounds mA_stand mA_scheme mA_isKept mA_kept mA_trace : Nat) (m_thrown : Int32) (m_status : Int32) (m_acts : Int32) (m_taped : Int32) (m_cursor : Int32) (m_start : Int32) (m_token : Int32) (m_value : Int32) (m_fault : Int32) (m_faultAt : Int32) (m_latest : Int32) (m_stands : Int32) (m_least : Int32) (m_ways : Int32) (m_nearFoot : Int32) (m_nearFeet : Int32) (m_nearCost : Int32) (m_traced : Int32) (m_poem : Nat → Int32) (m_then : Nat → Int32) : va_W := [(m_a, .inr (7, [.int m_thrown, .int m_status, .ref mA_lane, .ref mA_many, .ref mA_item, .ref mA_poem, .ref mA_fresh, .ref mA_then, .ref mA_was, .int m_acts, .ref mA_tape, .int m_taped, .int m_cursor, .int m_start, .int m_token, .int m_value, .int m_fault, .int m_faultAt, .int m_latest, .ref mA_strengths, .ref mA_sounds, .ref mA_stand, .int m_stands, .int m_least, .int m_ways, .ref mA_scheme, .int m_nearFoot, .int m_nearFeet, .int m_nearCost, .ref mA_isKept, .ref mA_kept, .ref mA_trace, .int m_traced])), aI K mA_poem 207 m_poem, aI K mA_then 207 m_then]
def rmX7_layThen : Room := { frames := 0, cells := 0, slots := 0, locals := 0 }
theorem hdX7_layThen : yX7_layThen.cls = RX7 ∧ yX7_layThen.cls ≠ "java/lang/invoke/MethodHandle" ∧ yX7_layThen.cls ≠ "java/lang/invoke/VarHandle" ∧ (parseMethodDescriptor yX7_layThen.desc).map (fun d => d.parameters.length) = some 0 := by decide +kernel
set_option maxHeartbeats 4000000 in
set_option maxRecDepth 100000 in
theorem wX7_layThen_b2 {p : Program} {l : Launch} {e : Env} {s : State} {m : MethodId} {args : Array Value} {below : List Frame} {meth : Method} {c : Code} {Q : State → Prop} {G : va_G} {K : Nat → ClassId} {A : Nat → Prop} (C0 : CX p s m args c cX7_layThen 2 RX7 G K E0 A) (m_a mA_lane mA_many mA_item mA_poem mA_fresh mA_then mA_was mA_tape mA_strengths mA_sounds mA_stand mA_scheme mA_isKept mA_kept mA_trace : Nat) (m_thrown : Int32) (m_status : Int32) (m_acts : Int32) (m_taped : Int32) (m_cursor : Int32) (m_start : Int32) (m_token : Int32) (m_value : Int32) (m_fault : Int32) (m_faultAt : Int32) (m_latest : Int32) (m_stands : Int32) (m_least : Int32) (m_ways : Int32) (m_nearFoot : Int32) (m_nearFeet : Int32) (m_nearCost : Int32) (m_traced : Int32) (m_poem : Nat → Int32)  (o_m_then : Nat → Int32) (kr : ∀ (H : Heap) (locs : List Loc) (ls : Array Slot) (pc : Nat), decode cX7_layThen pc = .ok (.return_, 1) → va_P G vwCl (WX7_layThen K m_a mA_lane mA_many mA_item mA_poem mA_fresh mA_then mA_was mA_tape mA_strengths mA_sounds mA_stand mA_scheme mA_isKept mA_kept mA_trace m_thrown m_status m_acts m_taped m_cursor m_start m_token m_value m_fault m_faultAt m_latest m_stands m_least m_ways m_nearFoot m_nearFeet m_nearCost m_traced m_poem o_m_then) H → va_D A (WX7_layThen K m_a mA_lane mA_many mA_item mA_poem mA_fresh mA_then mA_was mA_tape mA_strengths mA_sounds mA_stand mA_scheme mA_isKept mA_kept mA_trace m_thrown m_status m_acts m_taped m_cursor m_start m_token m_value m_fault m_faultAt m_latest m_stands m_least m_ways m_nearFoot m_nearFeet m_nearCost m_traced m_poem o_m_then) → va_S A s.heap H locs → W p l e rmX7_layThen s m args below meth c H locs 0 0 Q (F0 m pc ls [])) (n : Nat) : ∀ (m_then : Nat → Int32) (x1 : Int32), mX7_layThen_b2 m_poem  n m_then x1 = some o_m_then → ∀ (H : Heap) (locs : List Loc) (ls : Array Slot), va_P G vwCl (WX7_layThen K m_a mA_lane mA_many mA_item mA_poem mA_fresh mA_then mA_was mA_tape mA_strengths mA_sounds mA_stand mA_scheme mA_isKept mA_kept mA_trace m_thrown m_status m_acts m_taped m_cursor m_start m_token m_value m_fault m_faultAt m_latest m_stands m_least m_ways m_nearFoot m_nearFeet m_nearCost m_traced m_poem m_then) H → va_D A (WX7_layThen K m_a mA_lane mA_many mA_item mA_poem mA_fresh mA_then mA_was mA_tape mA_strengths mA_sounds mA_stand mA_scheme mA_isKept mA_kept mA_trace m_thrown m_status m_acts m_taped m_cursor m_start m_token m_value m_fault m_faultAt m_latest m_stands m_least m_ways m_nearFoot m_nearFeet m_nearCost m_traced m_poem m_then) → va_S A s.heap H locs → lv_has ls 2 [(0, .ref m_a), (1, .int x1)] → W p l e rmX7_layThen s m args below meth c H locs 0 0 Q (F0 m 2 ls []) := by
  obtain ⟨hx, hb, hml, hown, hts, hK, hA, hEo, hE⟩ := id C0
  induction n with
  | zero =>
    intro m_then x1 hM
    cases hM
  | succ n ih =>
    intro m_then x1 hM H locs ls hP hD hS hl
    rw [mX7_layThen_b2] at hM
    refine lv_iload_n hx hb dX7_layThen_2 rfl (lv_at hl 1 rfl) ?_
    refine lv_sipush (v := 207) hx hb dX7_layThen_3 (by decide) ?_
    refine lv_icmp_ge (tgt := 27) hx hb dX7_layThen_6 (by decide) (fun c_1 => ?_) (fun c_1 => ?_)
    · rw [if_pos c_1] at hM
      have q1 := Option.some.inj hM
      subst q1
      exact kr _ _ _ _ dX7_layThen_27 hP hD hS
    · rw [if_neg c_1] at hM
      refine lv_aload_n hx hb dX7_layThen_9 rfl (lv_at hl 0 rfl) ?_
      refine va_get (D := G) (ci := 7) (v := .ref mA_then) (C := RX7) (T := TX7) (N := 33) hx hb hts inX7 hown hK hP 0 rfl rfl 7 (by decide) (hts _ tb771) (fun _ h9 => h9) rfl dX7_layThen_10 ?_
      refine lv_iload_n hx hb dX7_layThen_13 rfl (lv_at hl 1 rfl) ?_
      refine lv_aload_n hx hb dX7_layThen_14 rfl (lv_at hl 0 rfl) ?_
      refine va_get (D := G) (ci := 7) (v := .ref mA_poem) (C := RX7) (T := TX7) (N := 33) hx hb hts inX7 hown hK hP 0 rfl rfl 5 (by decide) (hts _ tb769) (fun _ h9 => h9) rfl dX7_layThen_15 ?_
      refine lv_iload_n hx hb dX7_layThen_18 rfl (lv_at hl 1 rfl) ?_
      obtain ⟨g_2, hM⟩ := ng hM
      refine va_iald hx hb hK hP 1 0 rfl rfl g_2 dX7_layThen_19 ?_
      obtain ⟨g_3, hM⟩ := ng hM
      refine va_iast hx hb hK hP hD hS 2 0 rfl rfl g_3 dX7_layThen_20 (fun H locs hP hD hS => ?_)
      have hP : va_P G vwCl (WX7_layThen K m_a mA_lane mA_many mA_item mA_poem mA_fresh mA_then mA_was mA_tape mA_strengths mA_sounds mA_stand mA_scheme mA_isKept mA_kept mA_trace m_thrown m_status m_acts m_taped m_cursor m_start m_token m_value m_fault m_faultAt m_latest m_stands m_least m_ways m_nearFoot m_nearFeet m_nearCost m_traced m_poem (upd m_then x1.toNatClampNeg (m_poem x1.toNatClampNeg))) H := hP
      have hD : va_D A (WX7_layThen K m_a mA_lane mA_many mA_item mA_poem mA_fresh mA_then mA_was mA_tape mA_strengths mA_sounds mA_stand mA_scheme mA_isKept mA_kept mA_trace m_thrown m_status m_acts m_taped m_cursor m_start m_token m_value m_fault m_faultAt m_latest m_stands m_least m_ways m_nearFoot m_nearFeet m_nearCost m_traced m_poem (upd m_then x1.toNatClampNeg (m_poem x1.toNatClampNeg))) := hD
      refine lv_iinc (v := (x1 + 1)) (lv' := [(1, .int (x1 + 1)), (0, .ref m_a)]) hx hb dX7_layThen_21 hl (k := 1) rfl rfl (by decide) rfl (fun ls hl => ?_)
      refine lv_goto (tgt := 2) hx hb dX7_layThen_24 (by decide) ?_
      exact ih (upd m_then x1.toNatClampNeg (m_poem x1.toNatClampNeg)) (x1 + 1) hM _ _ _ hP hD hS (lv_sub hl [1, 0] rfl)
set_option maxHeartbeats 4000000 in
set_option maxRecDepth 100000 in
theorem wX7_layThen_b0 {p : Program} {l : Launch} {e : Env} {s : State} {m : MethodId} {args : Array Value} {below : List Frame} {meth : Method} {c : Code} {Q : State → Prop} {G : va_G} {K : Nat → ClassId} {A : Nat → Prop} (C0 : CX p s m args c cX7_layThen 2 RX7 G K E0 A) (m_a mA_lane mA_many mA_item mA_poem mA_fresh mA_then mA_was mA_tape mA_strengths mA_sounds mA_stand mA_scheme mA_isKept mA_kept mA_trace : Nat) (m_thrown : Int32) (m_status : Int32) (m_acts : Int32) (m_taped : Int32) (m_cursor : Int32) (m_start : Int32) (m_token : Int32) (m_value : Int32) (m_fault : Int32) (m_faultAt : Int32) (m_latest : Int32) (m_stands : Int32) (m_least : Int32) (m_ways : Int32) (m_nearFoot : Int32) (m_nearFeet : Int32) (m_nearCost : Int32) (m_traced : Int32) (m_poem : Nat → Int32)  (o_m_then : Nat → Int32) (kr : ∀ (H : Heap) (locs : List Loc) (ls : Array Slot) (pc : Nat), decode cX7_layThen pc = .ok (.return_, 1) → va_P G vwCl (WX7_layThen K m_a mA_lane mA_many mA_item mA_poem mA_fresh mA_then mA_was mA_tape mA_strengths mA_sounds mA_stand mA_scheme mA_isKept mA_kept mA_trace m_thrown m_status m_acts m_taped m_cursor m_start m_token m_value m_fault m_faultAt m_latest m_stands m_least m_ways m_nearFoot m_nearFeet m_nearCost m_traced m_poem o_m_then) H → va_D A (WX7_layThen K m_a mA_lane mA_many mA_item mA_poem mA_fresh mA_then mA_was mA_tape mA_strengths mA_sounds mA_stand mA_scheme mA_isKept mA_kept mA_trace m_thrown m_status m_acts m_taped m_cursor m_start m_token m_value m_fault m_faultAt m_latest m_stands m_least m_ways m_nearFoot m_nearFeet m_nearCost m_traced m_poem o_m_then) → va_S A s.heap H locs → W p l e rmX7_layThen s m args below meth c H locs 0 0 Q (F0 m pc ls [])) (m_then : Nat → Int32) (hM : mX7_layThen_b0 m_poem  m_then = some o_m_then) : ∀ (H : Heap) (locs : List Loc) (ls : Array Slot), va_P G vwCl (WX7_layThen K m_a mA_lane mA_many mA_item mA_poem mA_fresh mA_then mA_was mA_tape mA_strengths mA_sounds mA_stand mA_scheme mA_isKept mA_kept mA_trace m_thrown m_status m_acts m_taped m_cursor m_start m_token m_value m_fault m_faultAt m_latest m_stands m_least m_ways m_nearFoot m_nearFeet m_nearCost m_traced m_poem m_then) H → va_D A (WX7_layThen K m_a mA_lane mA_many mA_item mA_poem mA_fresh mA_then mA_was mA_tape mA_strengths mA_sounds mA_stand mA_scheme mA_isKept mA_kept mA_trace m_thrown m_status m_acts m_taped m_cursor m_start m_token m_value m_fault m_faultAt m_latest m_stands m_least m_ways m_nearFoot m_nearFeet m_nearCost m_traced m_poem m_then) → va_S A s.heap H locs → lv_has ls 2 [(0, .ref m_a)] → W p l e rmX7_layThen s m args below meth c H locs 0 0 Q (F0 m 0 ls []) := by
  obtain ⟨hx, hb, hml, hown, hts, hK, hA, hEo, hE⟩ := id C0
  intro H locs ls hP hD hS hl
  unfold mX7_layThen_b0 at hM
  refine lv_iconst (v := 0) hx hb dX7_layThen_0 (by decide) ?_
  refine lv_istore_n (lv' := [(1, .int (0 : Int32)), (0, .ref m_a)]) hx hb dX7_layThen_1 rfl hl (by decide) rfl (fun ls hl => ?_)
  exact wX7_layThen_b2 C0 m_a mA_lane mA_many mA_item mA_poem mA_fresh mA_then mA_was mA_tape mA_strengths mA_sounds mA_stand mA_scheme mA_isKept mA_kept mA_trace m_thrown m_status m_acts m_taped m_cursor m_start m_token m_value m_fault m_faultAt m_latest m_stands m_least m_ways m_nearFoot m_nearFeet m_nearCost m_traced m_poem o_m_then kr  FU m_then (0 : Int32) hM _ _ _ hP hD hS (lv_sub hl [1, 0] rfl)
set_option maxHeartbeats 4000000 in
set_option maxRecDepth 100000 in
theorem kX7_layThen (l : Launch) (G : va_G) (K : Nat → ClassId) (m_a mA_lane mA_many mA_item mA_poem mA_fresh mA_then mA_was mA_tape mA_strengths mA_sounds mA_stand mA_scheme mA_isKept mA_kept mA_trace : Nat) (m_thrown : Int32) (m_status : Int32) (m_acts : Int32) (m_taped : Int32) (m_cursor : Int32) (m_start : Int32) (m_token : Int32) (m_value : Int32) (m_fault : Int32) (m_faultAt : Int32) (m_latest : Int32) (m_stands : Int32) (m_least : Int32) (m_ways : Int32) (m_nearFoot : Int32) (m_nearFeet : Int32) (m_nearCost : Int32) (m_traced : Int32) (m_poem : Nat → Int32) (m_then : Nat → Int32)  (sz : Nat) (o_m_then : Nat → Int32) (hM : mX7_layThen m_poem m_then = some o_m_then) : Met l yX7_layThen (mC yX7_layThen cX7_layThen 2 none) rmX7_layThen (va_Pc [.ref m_a] (PCe G K E0 (WX7_layThen K m_a mA_lane mA_many mA_item mA_poem mA_fresh mA_then mA_was mA_tape mA_strengths mA_sounds mA_stand mA_scheme mA_isKept mA_kept mA_trace m_thrown m_status m_acts m_taped m_cursor m_start m_token m_value m_fault m_faultAt m_latest m_stands m_least m_ways m_nearFoot m_nearFeet m_nearCost m_traced m_poem m_then) sz)) (va_Qv (fun (_ : Unit) => True) (fun _ t => va_P G vwCl (WX7_layThen K m_a mA_lane mA_many mA_item mA_poem mA_fresh mA_then mA_was mA_tape mA_strengths mA_sounds mA_stand mA_scheme mA_isKept mA_kept mA_trace m_thrown m_status m_acts m_taped m_cursor m_start m_token m_value m_fault m_faultAt m_latest m_stands m_least m_ways m_nearFoot m_nearFeet m_nearCost m_traced m_poem o_m_then) t.heap) (va_A (WX7_layThen K m_a mA_lane mA_many mA_item mA_poem mA_fresh mA_then mA_was mA_tape mA_strengths mA_sounds mA_stand mA_scheme mA_isKept mA_kept mA_trace m_thrown m_status m_acts m_taped m_cursor m_start m_token m_value m_fault m_faultAt m_latest m_stands m_least m_ways m_nearFoot m_nearFeet m_nearCost m_traced m_poem m_then) sz)) rmX7_layThen.cells rmX7_layThen.slots (va_A (WX7_layThen K m_a mA_lane mA_many mA_item mA_poem mA_fresh mA_then mA_was mA_tape mA_strengths mA_sounds mA_stand mA_scheme mA_isKept mA_kept mA_trace m_thrown m_status m_acts m_taped m_cursor m_start m_token m_value m_fault m_faultAt m_latest m_stands m_least m_ways m_nearFoot m_nearFeet m_nearCost m_traced m_poem m_then) sz) := by
  refine Met.ofW (cc := cX7_layThen) (maxL := 2) (ret := none) (by decide) rfl ?_
  intro p e s m args below meth c s₁ B hml hv
  obtain ⟨rfl, hsz, hP, hK, hD0, hE⟩ := hv
  have hx := B.exec
  have hb := B.bytes
  have hr := B.returns
  have hts0 := atoms_spec (ws := mC yX7_layThen cX7_layThen 2 none) B.pre
  have hts : ∀ w ∈ tbG, w.before _ s = true := fun w h => hts0 w (List.mem_cons_of_mem _ h)
  have hown : s.vm.findClass RX7 = some m.cls := findClass_of_methodNamed B.named
  subst hsz
  have hD := hD0.self (sz := s.heap.size)
  generalize hAe : va_A (WX7_layThen K m_a mA_lane mA_many mA_item mA_poem mA_fresh mA_then mA_was mA_tape mA_strengths mA_sounds mA_stand mA_scheme mA_isKept mA_kept mA_trace m_thrown m_status m_acts m_taped m_cursor m_start m_token m_value m_fault m_faultAt m_latest m_stands m_least m_ways m_nearFoot m_nearFeet m_nearCost m_traced m_poem m_then) s.heap.size = A at hD hE ⊢
  have hA : ∀ q : Nat, s.heap.size ≤ q → A q := fun q h => by rw [← hAe]; exact Or.inr h
  have hS : va_S A s.heap s.heap [] := va_S.rf
  have hl := lv_entry ([.ref m_a]) (n := 2) (Nat.le_of_ble_eq_true rfl)
  rw [lg_entry_eq]
  generalize (lg_sl ([.ref m_a]) ++ List.replicate (2 - (lg_sl ([.ref m_a])).length) Slot.unset).toArray = ls at hl ⊢
  have hl : lv_has ls 2 [(0, .ref m_a)] := hl
  exact wX7_layThen_b0 ⟨hx, hb, hml, hown, hts, hK, hA, E0_ok, hE⟩ m_a mA_lane mA_many mA_item mA_poem mA_fresh mA_then mA_was mA_tape mA_strengths mA_sounds mA_stand mA_scheme mA_isKept mA_kept mA_trace m_thrown m_status m_acts m_taped m_cursor m_start m_token m_value m_fault m_faultAt m_latest m_stands m_least m_ways m_nearFoot m_nearFeet m_nearCost m_traced m_poem o_m_then (fun H locs ls pc hdg hP hD hS => W.vret hx hb hr (fun t ht hW => ⟨⟨(), rfl, trivial, (show va_P G vwCl _ t.heap by rw [ht]; exact hP)⟩, hS.F ht⟩) hS.2.2 hdg) m_then  hM _ _ _ hP hD hS hl
abbrev WX7_keep (K : Nat → ClassId) (m_a mA_lane mA_many mA_item mA_poem mA_fresh mA_then mA_was mA_tape mA_strengths mA_sounds mA_stand mA_scheme mA_isKept mA_kept mA_trace : Nat) (m_thrown : Int32) (m_status : Int32) (m_acts : Int32) (m_taped : Int32) (m_cursor : Int32) (m_start : Int32) (m_token : Int32) (m_value : Int32) (m_fault : Int32) (m_faultAt : Int32) (m_latest : Int32) (m_stands : Int32) (m_least : Int32) (m_ways : Int32) (m_nearFoot : Int32) (m_nearFeet : Int32) (m_nearCost : Int32) (m_traced : Int32) (m_poem : Nat → Int32) (m_was : Nat → Int32) : va_W := [(m_a, .inr (7, [.int m_thrown, .int m_status, .ref mA_lane, .ref mA_many, .ref mA_item, .ref mA_poem, .ref mA_fresh, .ref mA_then, .ref mA_was, .int m_acts, .ref mA_tape, .int m_taped, .int m_cursor, .int m_start, .int m_token, .int m_value, .int m_fault, .int m_faultAt, .int m_latest, .ref mA_strengths, .ref mA_sounds, .ref mA_stand, .int m_stands, .int m_least, .int m_ways, .ref mA_scheme, .int m_nearFoot, .int m_nearFeet, .int m_nearCost, .ref mA_isKept, .ref mA_kept, .ref mA_trace, .int m_traced])), aI K mA_poem 207 m_poem, aI K mA_was 4968 m_was]
def rmX7_keep : Room := { frames := 0, cells := 0, slots := 0, locals := 0 }
theorem hdX7_keep : yX7_keep.cls = RX7 ∧ yX7_keep.cls ≠ "java/lang/invoke/MethodHandle" ∧ yX7_keep.cls ≠ "java/lang/invoke/VarHandle" ∧ (parseMethodDescriptor yX7_keep.desc).map (fun d => d.parameters.length) = some 0 := by decide +kernel
set_option maxHeartbeats 4000000 in
set_option maxRecDepth 100000 in
theorem wX7_keep_b52 {p : Program} {l : Launch} {e : Env} {s : State} {m : MethodId} {args : Array Value} {below : List Frame} {meth : Method} {c : Code} {Q : State → Prop} {G : va_G} {K : Nat → ClassId} {A : Nat → Prop} (C0 : CX p s m args c cX7_keep 2 RX7 G K E0 A) (m_a mA_lane mA_many mA_item mA_poem mA_fresh mA_then mA_was mA_tape mA_strengths mA_sounds mA_stand mA_scheme mA_isKept mA_kept mA_trace : Nat) (m_thrown : Int32) (m_status : Int32) (m_taped : Int32) (m_cursor : Int32) (m_start : Int32) (m_token : Int32) (m_value : Int32) (m_fault : Int32) (m_faultAt : Int32) (m_latest : Int32) (m_stands : Int32) (m_least : Int32) (m_ways : Int32) (m_nearFoot : Int32) (m_nearFeet : Int32) (m_nearCost : Int32) (m_traced : Int32) (m_poem : Nat → Int32)  (o_m_acts : Int32) (o_m_was : Nat → Int32) (kr : ∀ (H : Heap) (locs : List Loc) (ls : Array Slot) (pc : Nat), decode cX7_keep pc = .ok (.return_, 1) → va_P G vwCl (WX7_keep K m_a mA_lane mA_many mA_item mA_poem mA_fresh mA_then mA_was mA_tape mA_strengths mA_sounds mA_stand mA_scheme mA_isKept mA_kept mA_trace m_thrown m_status o_m_acts m_taped m_cursor m_start m_token m_value m_fault m_faultAt m_latest m_stands m_least m_ways m_nearFoot m_nearFeet m_nearCost m_traced m_poem o_m_was) H → va_D A (WX7_keep K m_a mA_lane mA_many mA_item mA_poem mA_fresh mA_then mA_was mA_tape mA_strengths mA_sounds mA_stand mA_scheme mA_isKept mA_kept mA_trace m_thrown m_status o_m_acts m_taped m_cursor m_start m_token m_value m_fault m_faultAt m_latest m_stands m_least m_ways m_nearFoot m_nearFeet m_nearCost m_traced m_poem o_m_was) → va_S A s.heap H locs → W p l e rmX7_keep s m args below meth c H locs 0 0 Q (F0 m pc ls [])) (n : Nat) : ∀ (m_acts : Int32) (m_was : Nat → Int32) (x1 : Int32), mX7_keep_b52 m_poem  n m_acts m_was x1 = some (o_m_acts, o_m_was) → ∀ (H : Heap) (locs : List Loc) (ls : Array Slot), va_P G vwCl (WX7_keep K m_a mA_lane mA_many mA_item mA_poem mA_fresh mA_then mA_was mA_tape mA_strengths mA_sounds mA_stand mA_scheme mA_isKept mA_kept mA_trace m_thrown m_status m_acts m_taped m_cursor m_start m_token m_value m_fault m_faultAt m_latest m_stands m_least m_ways m_nearFoot m_nearFeet m_nearCost m_traced m_poem m_was) H → va_D A (WX7_keep K m_a mA_lane mA_many mA_item mA_poem mA_fresh mA_then mA_was mA_tape mA_strengths mA_sounds mA_stand mA_scheme mA_isKept mA_kept mA_trace m_thrown m_status m_acts m_taped m_cursor m_start m_token m_value m_fault m_faultAt m_latest m_stands m_least m_ways m_nearFoot m_nearFeet m_nearCost m_traced m_poem m_was) → va_S A s.heap H locs → lv_has ls 2 [(0, .ref m_a), (1, .int x1)] → W p l e rmX7_keep s m args below meth c H locs 0 0 Q (F0 m 52 ls []) := by
  obtain ⟨hx, hb, hml, hown, hts, hK, hA, hEo, hE⟩ := id C0
  induction n with
  | zero =>
    intro m_acts m_was x1 hM
    cases hM
  | succ n ih =>
    intro m_acts m_was x1 hM H locs ls hP hD hS hl
    rw [mX7_keep_b52] at hM
    refine lv_iload_n hx hb dX7_keep_52 rfl (lv_at hl 1 rfl) ?_
    refine lv_sipush (v := 207) hx hb dX7_keep_53 (by decide) ?_
    refine lv_icmp_ge (tgt := 86) hx hb dX7_keep_56 (by decide) (fun c_1 => ?_) (fun c_1 => ?_)
    · rw [if_pos c_1] at hM
      refine lv_aload_n hx hb dX7_keep_86 rfl (lv_at hl 0 rfl) ?_
      refine lv_dup hx hb dX7_keep_87 rfl ?_
      refine va_get (D := G) (ci := 7) (v := .int m_acts) (C := RX7) (T := TX7) (N := 33) hx hb hts inX7 hown hK hP 0 rfl rfl 9 (by decide) (hts _ tb773) (fun _ h9 => h9) rfl dX7_keep_88 ?_
      refine lv_iconst (v := 1) hx hb dX7_keep_91 (by decide) ?_
      refine lv_iadd hx hb dX7_keep_92 ?_
      refine va_put (D := G) (ci := 7) (v := .int (m_acts + (1 : Int32))) (ty := .int) (C := RX7) (T := TX7) (N := 33) hx hb hts inX7 tyX7 tyX7_ok nmX7 hown hK hP hD hS 0 rfl rfl 9 (by decide) (hts _ tb773) (fun _ h9 => h9) rfl (tyX7_ok 9 (by decide)) rfl rfl (Nat.le_of_ble_eq_true rfl) dX7_keep_93 (fun H locs hP hD hS => ?_)
      have hP : va_P G vwCl (WX7_keep K m_a mA_lane mA_many mA_item mA_poem mA_fresh mA_then mA_was mA_tape mA_strengths mA_sounds mA_stand mA_scheme mA_isKept mA_kept mA_trace m_thrown m_status (m_acts + (1 : Int32)) m_taped m_cursor m_start m_token m_value m_fault m_faultAt m_latest m_stands m_least m_ways m_nearFoot m_nearFeet m_nearCost m_traced m_poem m_was) H := hP
      have hD : va_D A (WX7_keep K m_a mA_lane mA_many mA_item mA_poem mA_fresh mA_then mA_was mA_tape mA_strengths mA_sounds mA_stand mA_scheme mA_isKept mA_kept mA_trace m_thrown m_status (m_acts + (1 : Int32)) m_taped m_cursor m_start m_token m_value m_fault m_faultAt m_latest m_stands m_least m_ways m_nearFoot m_nearFeet m_nearCost m_traced m_poem m_was) := hD
      have t0 := Option.some.inj hM
      obtain ⟨q1, t1⟩ := Prod.mk.inj t0
      subst q1
      subst t1
      exact kr _ _ _ _ dX7_keep_96 hP hD hS
    · rw [if_neg c_1] at hM
      refine lv_aload_n hx hb dX7_keep_59 rfl (lv_at hl 0 rfl) ?_
      refine va_get (D := G) (ci := 7) (v := .ref mA_was) (C := RX7) (T := TX7) (N := 33) hx hb hts inX7 hown hK hP 0 rfl rfl 8 (by decide) (hts _ tb772) (fun _ h9 => h9) rfl dX7_keep_60 ?_
      refine lv_sipush (v := 207) hx hb dX7_keep_63 (by decide) ?_
      refine lv_aload_n hx hb dX7_keep_66 rfl (lv_at hl 0 rfl) ?_
      refine va_get (D := G) (ci := 7) (v := .int m_acts) (C := RX7) (T := TX7) (N := 33) hx hb hts inX7 hown hK hP 0 rfl rfl 9 (by decide) (hts _ tb773) (fun _ h9 => h9) rfl dX7_keep_67 ?_
      refine lv_imul hx hb dX7_keep_70 ?_
      refine lv_iload_n hx hb dX7_keep_71 rfl (lv_at hl 1 rfl) ?_
      refine lv_iadd hx hb dX7_keep_72 ?_
      refine lv_aload_n hx hb dX7_keep_73 rfl (lv_at hl 0 rfl) ?_
      refine va_get (D := G) (ci := 7) (v := .ref mA_poem) (C := RX7) (T := TX7) (N := 33) hx hb hts inX7 hown hK hP 0 rfl rfl 5 (by decide) (hts _ tb769) (fun _ h9 => h9) rfl dX7_keep_74 ?_
      refine lv_iload_n hx hb dX7_keep_77 rfl (lv_at hl 1 rfl) ?_
      obtain ⟨g_2, hM⟩ := ng hM
      refine va_iald hx hb hK hP 1 0 rfl rfl g_2 dX7_keep_78 ?_
      obtain ⟨g_3, hM⟩ := ng hM
      refine va_iast hx hb hK hP hD hS 2 0 rfl rfl g_3 dX7_keep_79 (fun H locs hP hD hS => ?_)
      have hP : va_P G vwCl (WX7_keep K m_a mA_lane mA_many mA_item mA_poem mA_fresh mA_then mA_was mA_tape mA_strengths mA_sounds mA_stand mA_scheme mA_isKept mA_kept mA_trace m_thrown m_status m_acts m_taped m_cursor m_start m_token m_value m_fault m_faultAt m_latest m_stands m_least m_ways m_nearFoot m_nearFeet m_nearCost m_traced m_poem (upd m_was (((207 : Int32) * m_acts) + x1).toNatClampNeg (m_poem x1.toNatClampNeg))) H := hP
      have hD : va_D A (WX7_keep K m_a mA_lane mA_many mA_item mA_poem mA_fresh mA_then mA_was mA_tape mA_strengths mA_sounds mA_stand mA_scheme mA_isKept mA_kept mA_trace m_thrown m_status m_acts m_taped m_cursor m_start m_token m_value m_fault m_faultAt m_latest m_stands m_least m_ways m_nearFoot m_nearFeet m_nearCost m_traced m_poem (upd m_was (((207 : Int32) * m_acts) + x1).toNatClampNeg (m_poem x1.toNatClampNeg))) := hD
      refine lv_iinc (v := (x1 + 1)) (lv' := [(1, .int (x1 + 1)), (0, .ref m_a)]) hx hb dX7_keep_80 hl (k := 1) rfl rfl (by decide) rfl (fun ls hl => ?_)
      refine lv_goto (tgt := 52) hx hb dX7_keep_83 (by decide) ?_
      exact ih m_acts (upd m_was (((207 : Int32) * m_acts) + x1).toNatClampNeg (m_poem x1.toNatClampNeg)) (x1 + 1) hM _ _ _ hP hD hS (lv_sub hl [1, 0] rfl)
set_option maxHeartbeats 4000000 in
set_option maxRecDepth 100000 in
theorem wX7_keep_b11 {p : Program} {l : Launch} {e : Env} {s : State} {m : MethodId} {args : Array Value} {below : List Frame} {meth : Method} {c : Code} {Q : State → Prop} {G : va_G} {K : Nat → ClassId} {A : Nat → Prop} (C0 : CX p s m args c cX7_keep 2 RX7 G K E0 A) (m_a mA_lane mA_many mA_item mA_poem mA_fresh mA_then mA_was mA_tape mA_strengths mA_sounds mA_stand mA_scheme mA_isKept mA_kept mA_trace : Nat) (m_thrown : Int32) (m_status : Int32) (m_taped : Int32) (m_cursor : Int32) (m_start : Int32) (m_token : Int32) (m_value : Int32) (m_fault : Int32) (m_faultAt : Int32) (m_latest : Int32) (m_stands : Int32) (m_least : Int32) (m_ways : Int32) (m_nearFoot : Int32) (m_nearFeet : Int32) (m_nearCost : Int32) (m_traced : Int32) (m_poem : Nat → Int32)  (o_m_acts : Int32) (o_m_was : Nat → Int32) (kr : ∀ (H : Heap) (locs : List Loc) (ls : Array Slot) (pc : Nat), decode cX7_keep pc = .ok (.return_, 1) → va_P G vwCl (WX7_keep K m_a mA_lane mA_many mA_item mA_poem mA_fresh mA_then mA_was mA_tape mA_strengths mA_sounds mA_stand mA_scheme mA_isKept mA_kept mA_trace m_thrown m_status o_m_acts m_taped m_cursor m_start m_token m_value m_fault m_faultAt m_latest m_stands m_least m_ways m_nearFoot m_nearFeet m_nearCost m_traced m_poem o_m_was) H → va_D A (WX7_keep K m_a mA_lane mA_many mA_item mA_poem mA_fresh mA_then mA_was mA_tape mA_strengths mA_sounds mA_stand mA_scheme mA_isKept mA_kept mA_trace m_thrown m_status o_m_acts m_taped m_cursor m_start m_token m_value m_fault m_faultAt m_latest m_stands m_least m_ways m_nearFoot m_nearFeet m_nearCost m_traced m_poem o_m_was) → va_S A s.heap H locs → W p l e rmX7_keep s m args below meth c H locs 0 0 Q (F0 m pc ls [])) (n : Nat) : ∀ (m_acts : Int32) (m_was : Nat → Int32) (x1 : Int32), mX7_keep_b11 m_poem  n m_acts m_was x1 = some (o_m_acts, o_m_was) → ∀ (H : Heap) (locs : List Loc) (ls : Array Slot), va_P G vwCl (WX7_keep K m_a mA_lane mA_many mA_item mA_poem mA_fresh mA_then mA_was mA_tape mA_strengths mA_sounds mA_stand mA_scheme mA_isKept mA_kept mA_trace m_thrown m_status m_acts m_taped m_cursor m_start m_token m_value m_fault m_faultAt m_latest m_stands m_least m_ways m_nearFoot m_nearFeet m_nearCost m_traced m_poem m_was) H → va_D A (WX7_keep K m_a mA_lane mA_many mA_item mA_poem mA_fresh mA_then mA_was mA_tape mA_strengths mA_sounds mA_stand mA_scheme mA_isKept mA_kept mA_trace m_thrown m_status m_acts m_taped m_cursor m_start m_token m_value m_fault m_faultAt m_latest m_stands m_least m_ways m_nearFoot m_nearFeet m_nearCost m_traced m_poem m_was) → va_S A s.heap H locs → lv_has ls 2 [(0, .ref m_a), (1, .int x1)] → W p l e rmX7_keep s m args below meth c H locs 0 0 Q (F0 m 11 ls []) := by
  obtain ⟨hx, hb, hml, hown, hts, hK, hA, hEo, hE⟩ := id C0
  induction n with
  | zero =>
    intro m_acts m_was x1 hM
    cases hM
  | succ n ih =>
    intro m_acts m_was x1 hM H locs ls hP hD hS hl
    rw [mX7_keep_b11] at hM
    refine lv_iload_n hx hb dX7_keep_11 rfl (lv_at hl 1 rfl) ?_
    refine lv_sipush (v := 4761) hx hb dX7_keep_12 (by decide) ?_
    refine lv_icmp_ge (tgt := 40) hx hb dX7_keep_15 (by decide) (fun c_4 => ?_) (fun c_4 => ?_)
    · rw [if_pos c_4] at hM
      refine lv_aload_n hx hb dX7_keep_40 rfl (lv_at hl 0 rfl) ?_
      refine lv_dup hx hb dX7_keep_41 rfl ?_
      refine va_get (D := G) (ci := 7) (v := .int m_acts) (C := RX7) (T := TX7) (N := 33) hx hb hts inX7 hown hK hP 0 rfl rfl 9 (by decide) (hts _ tb773) (fun _ h9 => h9) rfl dX7_keep_42 ?_
      refine lv_iconst (v := 1) hx hb dX7_keep_45 (by decide) ?_
      refine lv_isub hx hb dX7_keep_46 ?_
      refine va_put (D := G) (ci := 7) (v := .int (m_acts - (1 : Int32))) (ty := .int) (C := RX7) (T := TX7) (N := 33) hx hb hts inX7 tyX7 tyX7_ok nmX7 hown hK hP hD hS 0 rfl rfl 9 (by decide) (hts _ tb773) (fun _ h9 => h9) rfl (tyX7_ok 9 (by decide)) rfl rfl (Nat.le_of_ble_eq_true rfl) dX7_keep_47 (fun H locs hP hD hS => ?_)
      have hP : va_P G vwCl (WX7_keep K m_a mA_lane mA_many mA_item mA_poem mA_fresh mA_then mA_was mA_tape mA_strengths mA_sounds mA_stand mA_scheme mA_isKept mA_kept mA_trace m_thrown m_status (m_acts - (1 : Int32)) m_taped m_cursor m_start m_token m_value m_fault m_faultAt m_latest m_stands m_least m_ways m_nearFoot m_nearFeet m_nearCost m_traced m_poem m_was) H := hP
      have hD : va_D A (WX7_keep K m_a mA_lane mA_many mA_item mA_poem mA_fresh mA_then mA_was mA_tape mA_strengths mA_sounds mA_stand mA_scheme mA_isKept mA_kept mA_trace m_thrown m_status (m_acts - (1 : Int32)) m_taped m_cursor m_start m_token m_value m_fault m_faultAt m_latest m_stands m_least m_ways m_nearFoot m_nearFeet m_nearCost m_traced m_poem m_was) := hD
      refine lv_iconst (v := 0) hx hb dX7_keep_50 (by decide) ?_
      refine lv_istore_n (lv' := [(1, .int (0 : Int32)), (0, .ref m_a)]) hx hb dX7_keep_51 rfl hl (by decide) rfl (fun ls hl => ?_)
      exact wX7_keep_b52 C0 m_a mA_lane mA_many mA_item mA_poem mA_fresh mA_then mA_was mA_tape mA_strengths mA_sounds mA_stand mA_scheme mA_isKept mA_kept mA_trace m_thrown m_status m_taped m_cursor m_start m_token m_value m_fault m_faultAt m_latest m_stands m_least m_ways m_nearFoot m_nearFeet m_nearCost m_traced m_poem o_m_acts o_m_was kr  FU (m_acts - (1 : Int32)) m_was (0 : Int32) hM _ _ _ hP hD hS (lv_sub hl [1, 0] rfl)
    · rw [if_neg c_4] at hM
      refine lv_aload_n hx hb dX7_keep_18 rfl (lv_at hl 0 rfl) ?_
      refine va_get (D := G) (ci := 7) (v := .ref mA_was) (C := RX7) (T := TX7) (N := 33) hx hb hts inX7 hown hK hP 0 rfl rfl 8 (by decide) (hts _ tb772) (fun _ h9 => h9) rfl dX7_keep_19 ?_
      refine lv_iload_n hx hb dX7_keep_22 rfl (lv_at hl 1 rfl) ?_
      refine lv_aload_n hx hb dX7_keep_23 rfl (lv_at hl 0 rfl) ?_
      refine va_get (D := G) (ci := 7) (v := .ref mA_was) (C := RX7) (T := TX7) (N := 33) hx hb hts inX7 hown hK hP 0 rfl rfl 8 (by decide) (hts _ tb772) (fun _ h9 => h9) rfl dX7_keep_24 ?_
      refine lv_iload_n hx hb dX7_keep_27 rfl (lv_at hl 1 rfl) ?_
      refine lv_sipush (v := 207) hx hb dX7_keep_28 (by decide) ?_
      refine lv_iadd hx hb dX7_keep_31 ?_
      obtain ⟨g_5, hM⟩ := ng hM
      refine va_iald hx hb hK hP 2 0 rfl rfl g_5 dX7_keep_32 ?_
      obtain ⟨g_6, hM⟩ := ng hM
      refine va_iast hx hb hK hP hD hS 2 0 rfl rfl g_6 dX7_keep_33 (fun H locs hP hD hS => ?_)
      have hP : va_P G vwCl (WX7_keep K m_a mA_lane mA_many mA_item mA_poem mA_fresh mA_then mA_was mA_tape mA_strengths mA_sounds mA_stand mA_scheme mA_isKept mA_kept mA_trace m_thrown m_status m_acts m_taped m_cursor m_start m_token m_value m_fault m_faultAt m_latest m_stands m_least m_ways m_nearFoot m_nearFeet m_nearCost m_traced m_poem (upd m_was x1.toNatClampNeg (m_was (x1 + (207 : Int32)).toNatClampNeg))) H := hP
      have hD : va_D A (WX7_keep K m_a mA_lane mA_many mA_item mA_poem mA_fresh mA_then mA_was mA_tape mA_strengths mA_sounds mA_stand mA_scheme mA_isKept mA_kept mA_trace m_thrown m_status m_acts m_taped m_cursor m_start m_token m_value m_fault m_faultAt m_latest m_stands m_least m_ways m_nearFoot m_nearFeet m_nearCost m_traced m_poem (upd m_was x1.toNatClampNeg (m_was (x1 + (207 : Int32)).toNatClampNeg))) := hD
      refine lv_iinc (v := (x1 + 1)) (lv' := [(1, .int (x1 + 1)), (0, .ref m_a)]) hx hb dX7_keep_34 hl (k := 1) rfl rfl (by decide) rfl (fun ls hl => ?_)
      refine lv_goto (tgt := 11) hx hb dX7_keep_37 (by decide) ?_
      exact ih m_acts (upd m_was x1.toNatClampNeg (m_was (x1 + (207 : Int32)).toNatClampNeg)) (x1 + 1) hM _ _ _ hP hD hS (lv_sub hl [1, 0] rfl)
set_option maxHeartbeats 4000000 in
set_option maxRecDepth 100000 in
theorem wX7_keep_b0 {p : Program} {l : Launch} {e : Env} {s : State} {m : MethodId} {args : Array Value} {below : List Frame} {meth : Method} {c : Code} {Q : State → Prop} {G : va_G} {K : Nat → ClassId} {A : Nat → Prop} (C0 : CX p s m args c cX7_keep 2 RX7 G K E0 A) (m_a mA_lane mA_many mA_item mA_poem mA_fresh mA_then mA_was mA_tape mA_strengths mA_sounds mA_stand mA_scheme mA_isKept mA_kept mA_trace : Nat) (m_thrown : Int32) (m_status : Int32) (m_taped : Int32) (m_cursor : Int32) (m_start : Int32) (m_token : Int32) (m_value : Int32) (m_fault : Int32) (m_faultAt : Int32) (m_latest : Int32) (m_stands : Int32) (m_least : Int32) (m_ways : Int32) (m_nearFoot : Int32) (m_nearFeet : Int32) (m_nearCost : Int32) (m_traced : Int32) (m_poem : Nat → Int32)  (o_m_acts : Int32) (o_m_was : Nat → Int32) (kr : ∀ (H : Heap) (locs : List Loc) (ls : Array Slot) (pc : Nat), decode cX7_keep pc = .ok (.return_, 1) → va_P G vwCl (WX7_keep K m_a mA_lane mA_many mA_item mA_poem mA_fresh mA_then mA_was mA_tape mA_strengths mA_sounds mA_stand mA_scheme mA_isKept mA_kept mA_trace m_thrown m_status o_m_acts m_taped m_cursor m_start m_token m_value m_fault m_faultAt m_latest m_stands m_least m_ways m_nearFoot m_nearFeet m_nearCost m_traced m_poem o_m_was) H → va_D A (WX7_keep K m_a mA_lane mA_many mA_item mA_poem mA_fresh mA_then mA_was mA_tape mA_strengths mA_sounds mA_stand mA_scheme mA_isKept mA_kept mA_trace m_thrown m_status o_m_acts m_taped m_cursor m_start m_token m_value m_fault m_faultAt m_latest m_stands m_least m_ways m_nearFoot m_nearFeet m_nearCost m_traced m_poem o_m_was) → va_S A s.heap H locs → W p l e rmX7_keep s m args below meth c H locs 0 0 Q (F0 m pc ls [])) (m_acts : Int32) (m_was : Nat → Int32) (hM : mX7_keep_b0 m_poem  m_acts m_was = some (o_m_acts, o_m_was)) : ∀ (H : Heap) (locs : List Loc) (ls : Array Slot), va_P G vwCl (WX7_keep K m_a mA_lane mA_many mA_item mA_poem mA_fresh mA_then mA_was mA_tape mA_strengths mA_sounds mA_stand mA_scheme mA_isKept mA_kept mA_trace m_thrown m_status m_acts m_taped m_cursor m_start m_token m_value m_fault m_faultAt m_latest m_stands m_least m_ways m_nearFoot m_nearFeet m_nearCost m_traced m_poem m_was) H → va_D A (WX7_keep K m_a mA_lane mA_many mA_item mA_poem mA_fresh mA_then mA_was mA_tape mA_strengths mA_sounds mA_stand mA_scheme mA_isKept mA_kept mA_trace m_thrown m_status m_acts m_taped m_cursor m_start m_token m_value m_fault m_faultAt m_latest m_stands m_least m_ways m_nearFoot m_nearFeet m_nearCost m_traced m_poem m_was) → va_S A s.heap H locs → lv_has ls 2 [(0, .ref m_a)] → W p l e rmX7_keep s m args below meth c H locs 0 0 Q (F0 m 0 ls []) := by
  obtain ⟨hx, hb, hml, hown, hts, hK, hA, hEo, hE⟩ := id C0
  intro H locs ls hP hD hS hl
  unfold mX7_keep_b0 at hM
  refine lv_aload_n hx hb dX7_keep_0 rfl (lv_at hl 0 rfl) ?_
  refine va_get (D := G) (ci := 7) (v := .int m_acts) (C := RX7) (T := TX7) (N := 33) hx hb hts inX7 hown hK hP 0 rfl rfl 9 (by decide) (hts _ tb773) (fun _ h9 => h9) rfl dX7_keep_1 ?_
  refine lv_bipush (v := 24) hx hb dX7_keep_4 (by decide) ?_
  refine lv_icmp_ne (tgt := 50) hx hb dX7_keep_6 (by decide) (fun c_7 => ?_) (fun c_7 => ?_)
  · rw [if_neg c_7] at hM
    refine lv_iconst (v := 0) hx hb dX7_keep_50 (by decide) ?_
    refine lv_istore_n (lv' := [(1, .int (0 : Int32)), (0, .ref m_a)]) hx hb dX7_keep_51 rfl hl (by decide) rfl (fun ls hl => ?_)
    exact wX7_keep_b52 C0 m_a mA_lane mA_many mA_item mA_poem mA_fresh mA_then mA_was mA_tape mA_strengths mA_sounds mA_stand mA_scheme mA_isKept mA_kept mA_trace m_thrown m_status m_taped m_cursor m_start m_token m_value m_fault m_faultAt m_latest m_stands m_least m_ways m_nearFoot m_nearFeet m_nearCost m_traced m_poem o_m_acts o_m_was kr  FU m_acts m_was (0 : Int32) hM _ _ _ hP hD hS (lv_sub hl [1, 0] rfl)
  · rw [if_pos c_7] at hM
    refine lv_iconst (v := 0) hx hb dX7_keep_9 (by decide) ?_
    refine lv_istore_n (lv' := [(1, .int (0 : Int32)), (0, .ref m_a)]) hx hb dX7_keep_10 rfl hl (by decide) rfl (fun ls hl => ?_)
    exact wX7_keep_b11 C0 m_a mA_lane mA_many mA_item mA_poem mA_fresh mA_then mA_was mA_tape mA_strengths mA_sounds mA_stand mA_scheme mA_isKept mA_kept mA_trace m_thrown m_status m_taped m_cursor m_start m_token m_value m_fault m_faultAt m_latest m_stands m_least m_ways m_nearFoot m_nearFeet m_nearCost m_traced m_poem o_m_acts o_m_was kr  FU m_acts m_was (0 : Int32) hM _ _ _ hP hD hS (lv_sub hl [1, 0] rfl)
set_option maxHeartbeats 4000000 in
set_option maxRecDepth 100000 in
theorem kX7_keep (l : Launch) (G : va_G) (K : Nat → ClassId) (m_a mA_lane mA_many mA_item mA_poem mA_fresh mA_then mA_was mA_tape mA_strengths mA_sounds mA_stand mA_scheme mA_isKept mA_kept mA_trace : Nat) (m_thrown : Int32) (m_status : Int32) (m_acts : Int32) (m_taped : Int32) (m_cursor : Int32) (m_start : Int32) (m_token : Int32) (m_value : Int32) (m_fault : Int32) (m_faultAt : Int32) (m_latest : Int32) (m_stands : Int32) (m_least : Int32) (m_ways : Int32) (m_nearFoot : Int32) (m_nearFeet : Int32) (m_nearCost : Int32) (m_traced : Int32) (m_poem : Nat → Int32) (m_was : Nat → Int32)  (sz : Nat) (o_m_acts : Int32) (o_m_was : Nat → Int32) (hM : mX7_keep m_poem m_acts m_was = some (o_m_acts, o_m_was)) : Met l yX7_keep (mC yX7_keep cX7_keep 2 none) rmX7_keep (va_Pc [.ref m_a] (PCe G K E0 (WX7_keep K m_a mA_lane mA_many mA_item mA_poem mA_fresh mA_then mA_was mA_tape mA_strengths mA_sounds mA_stand mA_scheme mA_isKept mA_kept mA_trace m_thrown m_status m_acts m_taped m_cursor m_start m_token m_value m_fault m_faultAt m_latest m_stands m_least m_ways m_nearFoot m_nearFeet m_nearCost m_traced m_poem m_was) sz)) (va_Qv (fun (_ : Unit) => True) (fun _ t => va_P G vwCl (WX7_keep K m_a mA_lane mA_many mA_item mA_poem mA_fresh mA_then mA_was mA_tape mA_strengths mA_sounds mA_stand mA_scheme mA_isKept mA_kept mA_trace m_thrown m_status o_m_acts m_taped m_cursor m_start m_token m_value m_fault m_faultAt m_latest m_stands m_least m_ways m_nearFoot m_nearFeet m_nearCost m_traced m_poem o_m_was) t.heap) (va_A (WX7_keep K m_a mA_lane mA_many mA_item mA_poem mA_fresh mA_then mA_was mA_tape mA_strengths mA_sounds mA_stand mA_scheme mA_isKept mA_kept mA_trace m_thrown m_status m_acts m_taped m_cursor m_start m_token m_value m_fault m_faultAt m_latest m_stands m_least m_ways m_nearFoot m_nearFeet m_nearCost m_traced m_poem m_was) sz)) rmX7_keep.cells rmX7_keep.slots (va_A (WX7_keep K m_a mA_lane mA_many mA_item mA_poem mA_fresh mA_then mA_was mA_tape mA_strengths mA_sounds mA_stand mA_scheme mA_isKept mA_kept mA_trace m_thrown m_status m_acts m_taped m_cursor m_start m_token m_value m_fault m_faultAt m_latest m_stands m_least m_ways m_nearFoot m_nearFeet m_nearCost m_traced m_poem m_was) sz) := by
  refine Met.ofW (cc := cX7_keep) (maxL := 2) (ret := none) (by decide) rfl ?_
  intro p e s m args below meth c s₁ B hml hv
  obtain ⟨rfl, hsz, hP, hK, hD0, hE⟩ := hv
  have hx := B.exec
  have hb := B.bytes
  have hr := B.returns
  have hts0 := atoms_spec (ws := mC yX7_keep cX7_keep 2 none) B.pre
  have hts : ∀ w ∈ tbG, w.before _ s = true := fun w h => hts0 w (List.mem_cons_of_mem _ h)
  have hown : s.vm.findClass RX7 = some m.cls := findClass_of_methodNamed B.named
  subst hsz
  have hD := hD0.self (sz := s.heap.size)
  generalize hAe : va_A (WX7_keep K m_a mA_lane mA_many mA_item mA_poem mA_fresh mA_then mA_was mA_tape mA_strengths mA_sounds mA_stand mA_scheme mA_isKept mA_kept mA_trace m_thrown m_status m_acts m_taped m_cursor m_start m_token m_value m_fault m_faultAt m_latest m_stands m_least m_ways m_nearFoot m_nearFeet m_nearCost m_traced m_poem m_was) s.heap.size = A at hD hE ⊢
  have hA : ∀ q : Nat, s.heap.size ≤ q → A q := fun q h => by rw [← hAe]; exact Or.inr h
  have hS : va_S A s.heap s.heap [] := va_S.rf
  have hl := lv_entry ([.ref m_a]) (n := 2) (Nat.le_of_ble_eq_true rfl)
  rw [lg_entry_eq]
  generalize (lg_sl ([.ref m_a]) ++ List.replicate (2 - (lg_sl ([.ref m_a])).length) Slot.unset).toArray = ls at hl ⊢
  have hl : lv_has ls 2 [(0, .ref m_a)] := hl
  exact wX7_keep_b0 ⟨hx, hb, hml, hown, hts, hK, hA, E0_ok, hE⟩ m_a mA_lane mA_many mA_item mA_poem mA_fresh mA_then mA_was mA_tape mA_strengths mA_sounds mA_stand mA_scheme mA_isKept mA_kept mA_trace m_thrown m_status m_taped m_cursor m_start m_token m_value m_fault m_faultAt m_latest m_stands m_least m_ways m_nearFoot m_nearFeet m_nearCost m_traced m_poem o_m_acts o_m_was (fun H locs ls pc hdg hP hD hS => W.vret hx hb hr (fun t ht hW => ⟨⟨(), rfl, trivial, (show va_P G vwCl _ t.heap by rw [ht]; exact hP)⟩, hS.F ht⟩) hS.2.2 hdg) m_acts m_was  hM _ _ _ hP hD hS hl
