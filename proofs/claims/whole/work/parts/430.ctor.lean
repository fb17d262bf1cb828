def rmX4_init : Room := { frames := 1, cells := 1, slots := 40, locals := 20 }
theorem hdX4_init : yX4_init.cls ≠ "java/lang/invoke/MethodHandle" ∧ yX4_init.cls ≠ "java/lang/invoke/VarHandle" ∧ (parseMethodDescriptor yX4_init.desc).map (fun d => d.parameters.length) = some 0 := by decide +kernel
set_option maxHeartbeats 40000000 in
set_option maxRecDepth 100000 in
theorem kX4_init (l : Launch) (G : va_G) (K : Nat → ClassId) (tt : Nat → Nat) (L : List Nat) (la : Nat → Nat) (sa : Nat → Nat) (ln : Nat → Int32) (sy : Nat → Int32) (sn : Nat → Int32) (lt : Nat → Nat → Int32) (st : Nat → Nat → Int32) (rw_a : Nat)   (sz : Nat)  : Met l yX4_init (mC yX4_init cX4_init 1 none) rmX4_init (va_Pc [.ref rw_a] (PCe G K (EC G K tt L la sa ln sy sn lt st) [(rw_a, .inr (4, [.null, .int 0, .int 0]))] sz)) (va_Qv (fun (_ : Nat → Nat) => True) (fun u t => va_P G vwCl ([(rw_a, .inr (4, [.ref (u 0), .int (-1 : Int32), .int 0]))] ++ [aI K (u 0) 40 (fun _ => 0)]) t.heap ∧ va_D (va_A [(rw_a, .inr (4, [.null, .int 0, .int 0]))] sz) ([(rw_a, .inr (4, [.ref (u 0), .int (-1 : Int32), .int 0]))] ++ [aI K (u 0) 40 (fun _ => 0)])) (va_A [(rw_a, .inr (4, [.null, .int 0, .int 0]))] sz)) rmX4_init.cells rmX4_init.slots (va_A [(rw_a, .inr (4, [.null, .int 0, .int 0]))] sz) := by
  refine Met.ofW (cc := cX4_init) (maxL := 1) (ret := none) (by decide) rfl ?_
  intro p e s m args below meth c s₁ B hml hv
  obtain ⟨rfl, hsz, hP, hK, hD0, hE⟩ := hv
  have hx := B.exec
  have hb := B.bytes
  have hr := B.returns
  have hts0 := atoms_spec (ws := mC yX4_init cX4_init 1 none) B.pre
  have hts : ∀ w ∈ tbG, w.before _ s = true := fun w h => hts0 w (List.mem_cons_of_mem _ h)
  have hown : s.vm.findClass RX4 = some m.cls := findClass_of_methodNamed B.named
  have hin : meth.name = "<init>" := (name_of_methodNamed B.named B.method).1
  subst hsz
  have hD := hD0.self (sz := s.heap.size)
  generalize hAe : va_A [(rw_a, .inr (4, [.null, .int 0, .int 0]))] s.heap.size = A at hD hE ⊢
  have hA : ∀ q : Nat, s.heap.size ≤ q → A q := fun q h => by rw [← hAe]; exact Or.inr h
  have hS : va_S A s.heap s.heap [] := va_S.rf
  have hl := lv_entry ([.ref rw_a]) (n := 1) (Nat.le_of_ble_eq_true rfl)
  rw [lg_entry_eq]
  generalize (lg_sl ([.ref rw_a]) ++ List.replicate (1 - (lg_sl ([.ref rw_a])).length) Slot.unset).toArray = ls at hl ⊢
  have hl : lv_has ls 1 [(0, .ref rw_a)] := hl
  have C0 : CX p s m _ c cX4_init 1 RX4 G K (EC G K tt L la sa ln sy sn lt st) A := ⟨hx, hb, hml, hown, hts, hK, hA, EC_ok _ _ _ _ _ _ _ _ _ _ _, hE⟩
  refine lv_aload_n hx hb dX4_init_0 rfl (lv_at hl 0 rfl) ?_
  refine W.objInit hx hb hown (hts _ tb152) (hts _ tb18) (hts _ tb19) rfl (by rw [hml]; exact hl.1) rfl dX4_init_1 (Nat.le_of_ble_eq_true rfl) (Nat.le_of_ble_eq_true rfl) ?_
  refine W.eq (g2 := F0 m 4 ls []) rfl ?_
  refine lv_aload_n hx hb dX4_init_4 rfl (lv_at hl 0 rfl) ?_
  refine lv_bipush (v := 40) hx hb dX4_init_5 (by decide) ?_
  refine va_newa (atype := .int) (ty := .int) (a0 := (40, .inl (fun _ => 0))) (N' := 40) hx hb (hts _ tb51) rfl hK hP hD hS hA (fun _ => rfl) (by decide) (by decide) (by decide) (Nat.le_of_ble_eq_true rfl) (Nat.le_of_ble_eq_true rfl) dX4_init_7 (fun q1 cA H hK2 hP hD hS => ?_)
  have eA := vn_ci hK hK2
  subst eA
  have hP : va_P G vwCl [(rw_a, .inr (4, [.null, .int 0, .int 0])), aI K q1 40 (fun _ => 0)] H := hP
  have hD : va_D A [(rw_a, .inr (4, [.null, .int 0, .int 0])), aI K q1 40 (fun _ => 0)] := hD
  refine va_putF (D := G) (ci := 4) (v := .ref q1) (ty := tyX4 0) (C := RX4) (T := TX4) (N := 3) hx hb hts inX4 tyX4 tyX4_ok nmX4 hown hK hP hD hS 0 rfl rfl 0 (by decide) (hts _ tb153) (fun _ h9 => h9) rfl hin rfl (tyX4_ok 0 (by decide)) rfl rfl (Nat.le_of_ble_eq_true rfl) dX4_init_9 (fun H locs hP hD hS => ?_)
  have hP : va_P G vwCl [(rw_a, .inr (4, [.ref q1, .int 0, .int 0])), aI K q1 40 (fun _ => 0)] H := hP
  have hD : va_D A [(rw_a, .inr (4, [.ref q1, .int 0, .int 0])), aI K q1 40 (fun _ => 0)] := hD
  refine lv_aload_n hx hb dX4_init_12 rfl (lv_at hl 0 rfl) ?_
  refine lv_iconst (v := -1) hx hb dX4_init_13 (by decide) ?_
  refine va_put (D := G) (ci := 4) (v := .int (-1 : Int32)) (ty := tyX4 1) (C := RX4) (T := TX4) (N := 3) hx hb hts inX4 tyX4 tyX4_ok nmX4 hown hK hP hD hS 0 rfl rfl 1 (by decide) (hts _ tb155) (fun _ h9 => h9) rfl (tyX4_ok 1 (by decide)) rfl rfl (Nat.le_of_ble_eq_true rfl) dX4_init_14 (fun H locs hP hD hS => ?_)
  have hP : va_P G vwCl [(rw_a, .inr (4, [.ref q1, .int (-1 : Int32), .int 0])), aI K q1 40 (fun _ => 0)] H := hP
  have hD : va_D A [(rw_a, .inr (4, [.ref q1, .int (-1 : Int32), .int 0])), aI K q1 40 (fun _ => 0)] := hD
  refine W.widen (k := 1) (n := 40) (Nat.le_of_ble_eq_true rfl) (Nat.le_of_ble_eq_true rfl) ?_
  exact W.vret hx hb hr (fun t ht hW => ⟨⟨(fun j => ([q1] : List Nat).getD j 0), rfl, trivial, (show va_P G vwCl _ t.heap by rw [ht]; exact hP), hD⟩, hS.F ht⟩) hS.2.2 dX4_init_17
def rmX1_init : Room := { frames := 1, cells := 5, slots := 133, locals := 20 }
theorem hdX1_init : yX1_init.cls ≠ "java/lang/invoke/MethodHandle" ∧ yX1_init.cls ≠ "java/lang/invoke/VarHandle" ∧ (parseMethodDescriptor yX1_init.desc).map (fun d => d.parameters.length) = some 0 := by decide +kernel
set_option maxHeartbeats 40000000 in
set_option maxRecDepth 100000 in
theorem kX1_init (l : Launch) (G : va_G) (K : Nat → ClassId) (tt : Nat → Nat) (L : List Nat) (la : Nat → Nat) (sa : Nat → Nat) (ln : Nat → Int32) (sy : Nat → Int32) (sn : Nat → Int32) (lt : Nat → Nat → Int32) (st : Nat → Nat → Int32) (er_a : Nat)   (sz : Nat)  : Met l yX1_init (mC yX1_init cX1_init 1 none) rmX1_init (va_Pc [.ref er_a] (PCe G K (EC G K tt L la sa ln sy sn lt st) [(er_a, .inr (1, [.int 0, .int 0, .int 0, .int 0, .int 0, .int 0, .null, .int 0, .null, .null, .null, .null, .int 0, .int 0]))] sz)) (va_Qv (fun (_ : Nat → Nat) => True) (fun u t => va_P G vwCl ([(er_a, .inr (1, [.int 0, .int 0, .int 0, .int 0, .int 0, .int 0, .ref (u 0), .int 0, .ref (u 1), .ref (u 2), .ref (u 3), .ref (u 4), .int 0, .int 0]))] ++ [aI K (u 0) 5 (fun _ => 0), aI K (u 1) 32 (fun _ => 0), aI K (u 2) 32 (fun _ => 0), aI K (u 3) 32 (fun _ => 0), aI K (u 4) 32 (fun _ => 0)]) t.heap ∧ va_D (va_A [(er_a, .inr (1, [.int 0, .int 0, .int 0, .int 0, .int 0, .int 0, .null, .int 0, .null, .null, .null, .null, .int 0, .int 0]))] sz) ([(er_a, .inr (1, [.int 0, .int 0, .int 0, .int 0, .int 0, .int 0, .ref (u 0), .int 0, .ref (u 1), .ref (u 2), .ref (u 3), .ref (u 4), .int 0, .int 0]))] ++ [aI K (u 0) 5 (fun _ => 0), aI K (u 1) 32 (fun _ => 0), aI K (u 2) 32 (fun _ => 0), aI K (u 3) 32 (fun _ => 0), aI K (u 4) 32 (fun _ => 0)])) (va_A [(er_a, .inr (1, [.int 0, .int 0, .int 0, .int 0, .int 0, .int 0, .null, .int 0, .null, .null, .null, .null, .int 0, .int 0]))] sz)) rmX1_init.cells rmX1_init.slots (va_A [(er_a, .inr (1, [.int 0, .int 0, .int 0, .int 0, .int 0, .int 0, .null, .int 0, .null, .null, .null, .null, .int 0, .int 0]))] sz) := by
  refine Met.ofW (cc := cX1_init) (maxL := 1) (ret := none) (by decide) rfl ?_
  intro p e s m args below meth c s₁ B hml hv
  obtain ⟨rfl, hsz, hP, hK, hD0, hE⟩ := hv
  have hx := B.exec
  have hb := B.bytes
  have hr := B.returns
  have hts0 := atoms_spec (ws := mC yX1_init cX1_init 1 none) B.pre
  have hts : ∀ w ∈ tbG, w.before _ s = true := fun w h => hts0 w (List.mem_cons_of_mem _ h)
  have hown : s.vm.findClass RX1 = some m.cls := findClass_of_methodNamed B.named
  have hin : meth.name = "<init>" := (name_of_methodNamed B.named B.method).1
  subst hsz
  have hD := hD0.self (sz := s.heap.size)
  generalize hAe : va_A [(er_a, .inr (1, [.int 0, .int 0, .int 0, .int 0, .int 0, .int 0, .null, .int 0, .null, .null, .null, .null, .int 0, .int 0]))] s.heap.size = A at hD hE ⊢
  have hA : ∀ q : Nat, s.heap.size ≤ q → A q := fun q h => by rw [← hAe]; exact Or.inr h
  have hS : va_S A s.heap s.heap [] := va_S.rf
  have hl := lv_entry ([.ref er_a]) (n := 1) (Nat.le_of_ble_eq_true rfl)
  rw [lg_entry_eq]
  generalize (lg_sl ([.ref er_a]) ++ List.replicate (1 - (lg_sl ([.ref er_a])).length) Slot.unset).toArray = ls at hl ⊢
  have hl : lv_has ls 1 [(0, .ref er_a)] := hl
  have C0 : CX p s m _ c cX1_init 1 RX1 G K (EC G K tt L la sa ln sy sn lt st) A := ⟨hx, hb, hml, hown, hts, hK, hA, EC_ok _ _ _ _ _ _ _ _ _ _ _, hE⟩
  refine lv_aload_n hx hb dX1_init_0 rfl (lv_at hl 0 rfl) ?_
  refine W.objInit hx hb hown (hts _ tb59) (hts _ tb18) (hts _ tb19) rfl (by rw [hml]; exact hl.1) rfl dX1_init_1 (Nat.le_of_ble_eq_true rfl) (Nat.le_of_ble_eq_true rfl) ?_
  refine W.eq (g2 := F0 m 4 ls []) rfl ?_
  refine lv_aload_n hx hb dX1_init_4 rfl (lv_at hl 0 rfl) ?_
  refine lv_iconst (v := 5) hx hb dX1_init_5 (by decide) ?_
  refine va_newa (atype := .int) (ty := .int) (a0 := (5, .inl (fun _ => 0))) (N' := 5) hx hb (hts _ tb51) rfl hK hP hD hS hA (fun _ => rfl) (by decide) (by decide) (by decide) (Nat.le_of_ble_eq_true rfl) (Nat.le_of_ble_eq_true rfl) dX1_init_6 (fun q1 cA H hK2 hP hD hS => ?_)
  have eA := vn_ci hK hK2
  subst eA
  have hP : va_P G vwCl [(er_a, .inr (1, [.int 0, .int 0, .int 0, .int 0, .int 0, .int 0, .null, .int 0, .null, .null, .null, .null, .int 0, .int 0])), aI K q1 5 (fun _ => 0)] H := hP
  have hD : va_D A [(er_a, .inr (1, [.int 0, .int 0, .int 0, .int 0, .int 0, .int 0, .null, .int 0, .null, .null, .null, .null, .int 0, .int 0])), aI K q1 5 (fun _ => 0)] := hD
  refine va_putF (D := G) (ci := 1) (v := .ref q1) (ty := tyX1 6) (C := RX1) (T := TX1) (N := 14) hx hb hts inX1 tyX1 tyX1_ok nmX1 hown hK hP hD hS 0 rfl rfl 6 (by decide) (hts _ tb68) (fun _ h9 => h9) rfl hin rfl (tyX1_ok 6 (by decide)) rfl rfl (Nat.le_of_ble_eq_true rfl) dX1_init_8 (fun H locs hP hD hS => ?_)
  have hP : va_P G vwCl [(er_a, .inr (1, [.int 0, .int 0, .int 0, .int 0, .int 0, .int 0, .ref q1, .int 0, .null, .null, .null, .null, .int 0, .int 0])), aI K q1 5 (fun _ => 0)] H := hP
  have hD : va_D A [(er_a, .inr (1, [.int 0, .int 0, .int 0, .int 0, .int 0, .int 0, .ref q1, .int 0, .null, .null, .null, .null, .int 0, .int 0])), aI K q1 5 (fun _ => 0)] := hD
  refine lv_aload_n hx hb dX1_init_11 rfl (lv_at hl 0 rfl) ?_
  refine lv_bipush (v := 32) hx hb dX1_init_12 (by decide) ?_
  refine va_newa (atype := .int) (ty := .int) (a0 := (32, .inl (fun _ => 0))) (N' := 32) hx hb (hts _ tb51) rfl hK hP hD hS hA (fun _ => rfl) (by decide) (by decide) (by decide) (Nat.le_of_ble_eq_true rfl) (Nat.le_of_ble_eq_true rfl) dX1_init_14 (fun q2 cA H hK2 hP hD hS => ?_)
  have eA := vn_ci hK hK2
  subst eA
  have hP : va_P G vwCl [(er_a, .inr (1, [.int 0, .int 0, .int 0, .int 0, .int 0, .int 0, .ref q1, .int 0, .null, .null, .null, .null, .int 0, .int 0])), aI K q1 5 (fun _ => 0), aI K q2 32 (fun _ => 0)] H := hP
  have hD : va_D A [(er_a, .inr (1, [.int 0, .int 0, .int 0, .int 0, .int 0, .int 0, .ref q1, .int 0, .null, .null, .null, .null, .int 0, .int 0])), aI K q1 5 (fun _ => 0), aI K q2 32 (fun _ => 0)] := hD
  refine va_putF (D := G) (ci := 1) (v := .ref q2) (ty := tyX1 8) (C := RX1) (T := TX1) (N := 14) hx hb hts inX1 tyX1 tyX1_ok nmX1 hown hK hP hD hS 0 rfl rfl 8 (by decide) (hts _ tb70) (fun _ h9 => h9) rfl hin rfl (tyX1_ok 8 (by decide)) rfl rfl (Nat.le_of_ble_eq_true rfl) dX1_init_16 (fun H locs hP hD hS => ?_)
  have hP : va_P G vwCl [(er_a, .inr (1, [.int 0, .int 0, .int 0, .int 0, .int 0, .int 0, .ref q1, .int 0, .ref q2, .null, .null, .null, .int 0, .int 0])), aI K q1 5 (fun _ => 0), aI K q2 32 (fun _ => 0)] H := hP
  have hD : va_D A [(er_a, .inr (1, [.int 0, .int 0, .int 0, .int 0, .int 0, .int 0, .ref q1, .int 0, .ref q2, .null, .null, .null, .int 0, .int 0])), aI K q1 5 (fun _ => 0), aI K q2 32 (fun _ => 0)] := hD
  refine lv_aload_n hx hb dX1_init_19 rfl (lv_at hl 0 rfl) ?_
  refine lv_bipush (v := 32) hx hb dX1_init_20 (by decide) ?_
  refine va_newa (atype := .int) (ty := .int) (a0 := (32, .inl (fun _ => 0))) (N' := 32) hx hb (hts _ tb51) rfl hK hP hD hS hA (fun _ => rfl) (by decide) (by decide) (by decide) (Nat.le_of_ble_eq_true rfl) (Nat.le_of_ble_eq_true rfl) dX1_init_22 (fun q3 cA H hK2 hP hD hS => ?_)
  have eA := vn_ci hK hK2
  subst eA
  have hP : va_P G vwCl [(er_a, .inr (1, [.int 0, .int 0, .int 0, .int 0, .int 0, .int 0, .ref q1, .int 0, .ref q2, .null, .null, .null, .int 0, .int 0])), aI K q1 5 (fun _ => 0), aI K q2 32 (fun _ => 0), aI K q3 32 (fun _ => 0)] H := hP
  have hD : va_D A [(er_a, .inr (1, [.int 0, .int 0, .int 0, .int 0, .int 0, .int 0, .ref q1, .int 0, .ref q2, .null, .null, .null, .int 0, .int 0])), aI K q1 5 (fun _ => 0), aI K q2 32 (fun _ => 0), aI K q3 32 (fun _ => 0)] := hD
  refine va_putF (D := G) (ci := 1) (v := .ref q3) (ty := tyX1 9) (C := RX1) (T := TX1) (N := 14) hx hb hts inX1 tyX1 tyX1_ok nmX1 hown hK hP hD hS 0 rfl rfl 9 (by decide) (hts _ tb71) (fun _ h9 => h9) rfl hin rfl (tyX1_ok 9 (by decide)) rfl rfl (Nat.le_of_ble_eq_true rfl) dX1_init_24 (fun H locs hP hD hS => ?_)
  have hP : va_P G vwCl [(er_a, .inr (1, [.int 0, .int 0, .int 0, .int 0, .int 0, .int 0, .ref q1, .int 0, .ref q2, .ref q3, .null, .null, .int 0, .int 0])), aI K q1 5 (fun _ => 0), aI K q2 32 (fun _ => 0), aI K q3 32 (fun _ => 0)] H := hP
  have hD : va_D A [(er_a, .inr (1, [.int 0, .int 0, .int 0, .int 0, .int 0, .int 0, .ref q1, .int 0, .ref q2, .ref q3, .null, .null, .int 0, .int 0])), aI K q1 5 (fun _ => 0), aI K q2 32 (fun _ => 0), aI K q3 32 (fun _ => 0)] := hD
  refine lv_aload_n hx hb dX1_init_27 rfl (lv_at hl 0 rfl) ?_
  refine lv_bipush (v := 32) hx hb dX1_init_28 (by decide) ?_
  refine va_newa (atype := .int) (ty := .int) (a0 := (32, .inl (fun _ => 0))) (N' := 32) hx hb (hts _ tb51) rfl hK hP hD hS hA (fun _ => rfl) (by decide) (by decide) (by decide) (Nat.le_of_ble_eq_true rfl) (Nat.le_of_ble_eq_true rfl) dX1_init_30 (fun q4 cA H hK2 hP hD hS => ?_)
  have eA := vn_ci hK hK2
  subst eA
  have hP : va_P G vwCl [(er_a, .inr (1, [.int 0, .int 0, .int 0, .int 0, .int 0, .int 0, .ref q1, .int 0, .ref q2, .ref q3, .null, .null, .int 0, .int 0])), aI K q1 5 (fun _ => 0), aI K q2 32 (fun _ => 0), aI K q3 32 (fun _ => 0), aI K q4 32 (fun _ => 0)] H := hP
  have hD : va_D A [(er_a, .inr (1, [.int 0, .int 0, .int 0, .int 0, .int 0, .int 0, .ref q1, .int 0, .ref q2, .ref q3, .null, .null, .int 0, .int 0])), aI K q1 5 (fun _ => 0), aI K q2 32 (fun _ => 0), aI K q3 32 (fun _ => 0), aI K q4 32 (fun _ => 0)] := hD
  refine va_putF (D := G) (ci := 1) (v := .ref q4) (ty := tyX1 10) (C := RX1) (T := TX1) (N := 14) hx hb hts inX1 tyX1 tyX1_ok nmX1 hown hK hP hD hS 0 rfl rfl 10 (by decide) (hts _ tb72) (fun _ h9 => h9) rfl hin rfl (tyX1_ok 10 (by decide)) rfl rfl (Nat.le_of_ble_eq_true rfl) dX1_init_32 (fun H locs hP hD hS => ?_)
  have hP : va_P G vwCl [(er_a, .inr (1, [.int 0, .int 0, .int 0, .int 0, .int 0, .int 0, .ref q1, .int 0, .ref q2, .ref q3, .ref q4, .null, .int 0, .int 0])), aI K q1 5 (fun _ => 0), aI K q2 32 (fun _ => 0), aI K q3 32 (fun _ => 0), aI K q4 32 (fun _ => 0)] H := hP
  have hD : va_D A [(er_a, .inr (1, [.int 0, .int 0, .int 0, .int 0, .int 0, .int 0, .ref q1, .int 0, .ref q2, .ref q3, .ref q4, .null, .int 0, .int 0])), aI K q1 5 (fun _ => 0), aI K q2 32 (fun _ => 0), aI K q3 32 (fun _ => 0), aI K q4 32 (fun _ => 0)] := hD
  refine lv_aload_n hx hb dX1_init_35 rfl (lv_at hl 0 rfl) ?_
  refine lv_bipush (v := 32) hx hb dX1_init_36 (by decide) ?_
  refine va_newa (atype := .int) (ty := .int) (a0 := (32, .inl (fun _ => 0))) (N' := 32) hx hb (hts _ tb51) rfl hK hP hD hS hA (fun _ => rfl) (by decide) (by decide) (by decide) (Nat.le_of_ble_eq_true rfl) (Nat.le_of_ble_eq_true rfl) dX1_init_38 (fun q5 cA H hK2 hP hD hS => ?_)
  have eA := vn_ci hK hK2
  subst eA
  have hP : va_P G vwCl [(er_a, .inr (1, [.int 0, .int 0, .int 0, .int 0, .int 0, .int 0, .ref q1, .int 0, .ref q2, .ref q3, .ref q4, .null, .int 0, .int 0])), aI K q1 5 (fun _ => 0), aI K q2 32 (fun _ => 0), aI K q3 32 (fun _ => 0), aI K q4 32 (fun _ => 0), aI K q5 32 (fun _ => 0)] H := hP
  have hD : va_D A [(er_a, .inr (1, [.int 0, .int 0, .int 0, .int 0, .int 0, .int 0, .ref q1, .int 0, .ref q2, .ref q3, .ref q4, .null, .int 0, .int 0])), aI K q1 5 (fun _ => 0), aI K q2 32 (fun _ => 0), aI K q3 32 (fun _ => 0), aI K q4 32 (fun _ => 0), aI K q5 32 (fun _ => 0)] := hD
  refine va_putF (D := G) (ci := 1) (v := .ref q5) (ty := tyX1 11) (C := RX1) (T := TX1) (N := 14) hx hb hts inX1 tyX1 tyX1_ok nmX1 hown hK hP hD hS 0 rfl rfl 11 (by decide) (hts _ tb73) (fun _ h9 => h9) rfl hin rfl (tyX1_ok 11 (by decide)) rfl rfl (Nat.le_of_ble_eq_true rfl) dX1_init_40 (fun H locs hP hD hS => ?_)
  have hP : va_P G vwCl [(er_a, .inr (1, [.int 0, .int 0, .int 0, .int 0, .int 0, .int 0, .ref q1, .int 0, .ref q2, .ref q3, .ref q4, .ref q5, .int 0, .int 0])), aI K q1 5 (fun _ => 0), aI K q2 32 (fun _ => 0), aI K q3 32 (fun _ => 0), aI K q4 32 (fun _ => 0), aI K q5 32 (fun _ => 0)] H := hP
  have hD : va_D A [(er_a, .inr (1, [.int 0, .int 0, .int 0, .int 0, .int 0, .int 0, .ref q1, .int 0, .ref q2, .ref q3, .ref q4, .ref q5, .int 0, .int 0])), aI K q1 5 (fun _ => 0), aI K q2 32 (fun _ => 0), aI K q3 32 (fun _ => 0), aI K q4 32 (fun _ => 0), aI K q5 32 (fun _ => 0)] := hD
  refine W.widen (k := 5) (n := 133) (Nat.le_of_ble_eq_true rfl) (Nat.le_of_ble_eq_true rfl) ?_
  exact W.vret hx hb hr (fun t ht hW => ⟨⟨(fun j => ([q1, q2, q3, q4, q5] : List Nat).getD j 0), rfl, trivial, (show va_P G vwCl _ t.heap by rw [ht]; exact hP), hD⟩, hS.F ht⟩) hS.2.2 dX1_init_43
def rmX3_init : Room := { frames := 1, cells := 2, slots := 138, locals := 20 }
theorem hdX3_init : yX3_init.cls ≠ "java/lang/invoke/MethodHandle" ∧ yX3_init.cls ≠ "java/lang/invoke/VarHandle" ∧ (parseMethodDescriptor yX3_init.desc).map (fun d => d.parameters.length) = some 0 := by decide +kernel
set_option maxHeartbeats 40000000 in
set_option maxRecDepth 100000 in
theorem kX3_init (l : Launch) (G : va_G) (K : Nat → ClassId) (tt : Nat → Nat) (L : List Nat) (la : Nat → Nat) (sa : Nat → Nat) (ln : Nat → Int32) (sy : Nat → Int32) (sn : Nat → Int32) (lt : Nat → Nat → Int32) (st : Nat → Nat → Int32) (rd_a : Nat)   (sz : Nat)  : Met l yX3_init (mC yX3_init cX3_init 1 none) rmX3_init (va_Pc [.ref rd_a] (PCe G K (EC G K tt L la sa ln sy sn lt st) [(rd_a, .inr (3, [.null, .null, .int 0, .int 0, .int 0, .int 0]))] sz)) (va_Qv (fun (_ : Nat → Nat) => True) (fun u t => va_P G vwCl ([(rd_a, .inr (3, [.ref (u 0), .ref (u 1), .int 0, .int 0, .int 0, .int 0]))] ++ [aI K (u 0) 8 (fun _ => 0), aI K (u 1) 130 (fun _ => 0)]) t.heap ∧ va_D (va_A [(rd_a, .inr (3, [.null, .null, .int 0, .int 0, .int 0, .int 0]))] sz) ([(rd_a, .inr (3, [.ref (u 0), .ref (u 1), .int 0, .int 0, .int 0, .int 0]))] ++ [aI K (u 0) 8 (fun _ => 0), aI K (u 1) 130 (fun _ => 0)])) (va_A [(rd_a, .inr (3, [.null, .null, .int 0, .int 0, .int 0, .int 0]))] sz)) rmX3_init.cells rmX3_init.slots (va_A [(rd_a, .inr (3, [.null, .null, .int 0, .int 0, .int 0, .int 0]))] sz) := by
  refine Met.ofW (cc := cX3_init) (maxL := 1) (ret := none) (by decide) rfl ?_
  intro p e s m args below meth c s₁ B hml hv
  obtain ⟨rfl, hsz, hP, hK, hD0, hE⟩ := hv
  have hx := B.exec
  have hb := B.bytes
  have hr := B.returns
  have hts0 := atoms_spec (ws := mC yX3_init cX3_init 1 none) B.pre
  have hts : ∀ w ∈ tbG, w.before _ s = true := fun w h => hts0 w (List.mem_cons_of_mem _ h)
  have hown : s.vm.findClass RX3 = some m.cls := findClass_of_methodNamed B.named
  have hin : meth.name = "<init>" := (name_of_methodNamed B.named B.method).1
  subst hsz
  have hD := hD0.self (sz := s.heap.size)
  generalize hAe : va_A [(rd_a, .inr (3, [.null, .null, .int 0, .int 0, .int 0, .int 0]))] s.heap.size = A at hD hE ⊢
  have hA : ∀ q : Nat, s.heap.size ≤ q → A q := fun q h => by rw [← hAe]; exact Or.inr h
  have hS : va_S A s.heap s.heap [] := va_S.rf
  have hl := lv_entry ([.ref rd_a]) (n := 1) (Nat.le_of_ble_eq_true rfl)
  rw [lg_entry_eq]
  generalize (lg_sl ([.ref rd_a]) ++ List.replicate (1 - (lg_sl ([.ref rd_a])).length) Slot.unset).toArray = ls at hl ⊢
  have hl : lv_has ls 1 [(0, .ref rd_a)] := hl
  have C0 : CX p s m _ c cX3_init 1 RX3 G K (EC G K tt L la sa ln sy sn lt st) A := ⟨hx, hb, hml, hown, hts, hK, hA, EC_ok _ _ _ _ _ _ _ _ _ _ _, hE⟩
  refine lv_aload_n hx hb dX3_init_0 rfl (lv_at hl 0 rfl) ?_
  refine W.objInit hx hb hown (hts _ tb27) (hts _ tb18) (hts _ tb19) rfl (by rw [hml]; exact hl.1) rfl dX3_init_1 (Nat.le_of_ble_eq_true rfl) (Nat.le_of_ble_eq_true rfl) ?_
  refine W.eq (g2 := F0 m 4 ls []) rfl ?_
  refine lv_aload_n hx hb dX3_init_4 rfl (lv_at hl 0 rfl) ?_
  refine lv_bipush (v := 8) hx hb dX3_init_5 (by decide) ?_
  refine va_newa (atype := .int) (ty := .int) (a0 := (8, .inl (fun _ => 0))) (N' := 8) hx hb (hts _ tb51) rfl hK hP hD hS hA (fun _ => rfl) (by decide) (by decide) (by decide) (Nat.le_of_ble_eq_true rfl) (Nat.le_of_ble_eq_true rfl) dX3_init_7 (fun q1 cA H hK2 hP hD hS => ?_)
  have eA := vn_ci hK hK2
  subst eA
  have hP : va_P G vwCl [(rd_a, .inr (3, [.null, .null, .int 0, .int 0, .int 0, .int 0])), aI K q1 8 (fun _ => 0)] H := hP
  have hD : va_D A [(rd_a, .inr (3, [.null, .null, .int 0, .int 0, .int 0, .int 0])), aI K q1 8 (fun _ => 0)] := hD
  refine va_putF (D := G) (ci := 3) (v := .ref q1) (ty := tyX3 0) (C := RX3) (T := TX3) (N := 6) hx hb hts inX3 tyX3 tyX3_ok nmX3 hown hK hP hD hS 0 rfl rfl 0 (by decide) (hts _ tb28) (fun _ h9 => h9) rfl hin rfl (tyX3_ok 0 (by decide)) rfl rfl (Nat.le_of_ble_eq_true rfl) dX3_init_9 (fun H locs hP hD hS => ?_)
  have hP : va_P G vwCl [(rd_a, .inr (3, [.ref q1, .null, .int 0, .int 0, .int 0, .int 0])), aI K q1 8 (fun _ => 0)] H := hP
  have hD : va_D A [(rd_a, .inr (3, [.ref q1, .null, .int 0, .int 0, .int 0, .int 0])), aI K q1 8 (fun _ => 0)] := hD
  refine lv_aload_n hx hb dX3_init_12 rfl (lv_at hl 0 rfl) ?_
  refine lv_sipush (v := 130) hx hb dX3_init_13 (by decide) ?_
  refine va_newa (atype := .int) (ty := .int) (a0 := (130, .inl (fun _ => 0))) (N' := 130) hx hb (hts _ tb51) rfl hK hP hD hS hA (fun _ => rfl) (by decide) (by decide) (by decide) (Nat.le_of_ble_eq_true rfl) (Nat.le_of_ble_eq_true rfl) dX3_init_16 (fun q2 cA H hK2 hP hD hS => ?_)
  have eA := vn_ci hK hK2
  subst eA
  have hP : va_P G vwCl [(rd_a, .inr (3, [.ref q1, .null, .int 0, .int 0, .int 0, .int 0])), aI K q1 8 (fun _ => 0), aI K q2 130 (fun _ => 0)] H := hP
  have hD : va_D A [(rd_a, .inr (3, [.ref q1, .null, .int 0, .int 0, .int 0, .int 0])), aI K q1 8 (fun _ => 0), aI K q2 130 (fun _ => 0)] := hD
  refine va_putF (D := G) (ci := 3) (v := .ref q2) (ty := tyX3 1) (C := RX3) (T := TX3) (N := 6) hx hb hts inX3 tyX3 tyX3_ok nmX3 hown hK hP hD hS 0 rfl rfl 1 (by decide) (hts _ tb29) (fun _ h9 => h9) rfl hin rfl (tyX3_ok 1 (by decide)) rfl rfl (Nat.le_of_ble_eq_true rfl) dX3_init_18 (fun H locs hP hD hS => ?_)
  have hP : va_P G vwCl [(rd_a, .inr (3, [.ref q1, .ref q2, .int 0, .int 0, .int 0, .int 0])), aI K q1 8 (fun _ => 0), aI K q2 130 (fun _ => 0)] H := hP
  have hD : va_D A [(rd_a, .inr (3, [.ref q1, .ref q2, .int 0, .int 0, .int 0, .int 0])), aI K q1 8 (fun _ => 0), aI K q2 130 (fun _ => 0)] := hD
  refine W.widen (k := 2) (n := 138) (Nat.le_of_ble_eq_true rfl) (Nat.le_of_ble_eq_true rfl) ?_
  exact W.vret hx hb hr (fun t ht hW => ⟨⟨(fun j => ([q1, q2] : List Nat).getD j 0), rfl, trivial, (show va_P G vwCl _ t.heap by rw [ht]; exact hP), hD⟩, hS.F ht⟩) hS.2.2 dX3_init_21
def rmX2_init : Room := { frames := 1, cells := 4, slots := 48, locals := 20 }
theorem hdX2_init : yX2_init.cls ≠ "java/lang/invoke/MethodHandle" ∧ yX2_init.cls ≠ "java/lang/invoke/VarHandle" ∧ (parseMethodDescriptor yX2_init.desc).map (fun d => d.parameters.length) = some 1 := by decide +kernel
set_option maxHeartbeats 40000000 in
set_option maxRecDepth 100000 in
theorem kX2_init (l : Launch) (G : va_G) (K : Nat → ClassId) (tt : Nat → Nat) (L : List Nat) (la : Nat → Nat) (sa : Nat → Nat) (ln : Nat → Int32) (sy : Nat → Int32) (sn : Nat → Int32) (lt : Nat → Nat → Int32) (st : Nat → Nat → Int32) (po_a p1 : Nat)   (sz : Nat) (hp : p1 ∈ L) : Met l yX2_init (mC yX2_init cX2_init 3 none) rmX2_init (va_Pc [.ref po_a, .ref p1] (PCe G K (EK G K tt L la sa ln sy sn lt st) [(po_a, .inr (2, [.int 0, .int 0, .int 0, .int 0, .null, .null, .null, .null]))] sz)) (va_Qv (fun (_ : Nat → Nat) => True) (fun u t => va_P G vwCl ([(po_a, .inr (2, [.int 0, .int 0, .int 0, .int 0, .ref (u 0), .ref (u 1), .ref (u 2), .ref (u 3)]))] ++ [aI K (u 0) 4 (fun _ => 0), aI K (u 1) 20 (fun _ => 0), aS K (u 2) 20 (fun _ => p1), aI K (u 3) 4 (fun _ => 0)]) t.heap ∧ va_D (va_A [(po_a, .inr (2, [.int 0, .int 0, .int 0, .int 0, .null, .null, .null, .null]))] sz) ([(po_a, .inr (2, [.int 0, .int 0, .int 0, .int 0, .ref (u 0), .ref (u 1), .ref (u 2), .ref (u 3)]))] ++ [aI K (u 0) 4 (fun _ => 0), aI K (u 1) 20 (fun _ => 0), aS K (u 2) 20 (fun _ => p1), aI K (u 3) 4 (fun _ => 0)])) (va_A [(po_a, .inr (2, [.int 0, .int 0, .int 0, .int 0, .null, .null, .null, .null]))] sz)) rmX2_init.cells rmX2_init.slots (va_A [(po_a, .inr (2, [.int 0, .int 0, .int 0, .int 0, .null, .null, .null, .null]))] sz) := by
  refine Met.ofW (cc := cX2_init) (maxL := 3) (ret := none) (by decide) rfl ?_
  intro p e s m args below meth c s₁ B hml hv
  obtain ⟨rfl, hsz, hP, hK, hD0, hE⟩ := hv
  have hx := B.exec
  have hb := B.bytes
  have hr := B.returns
  have hts0 := atoms_spec (ws := mC yX2_init cX2_init 3 none) B.pre
  have hts : ∀ w ∈ tbG, w.before _ s = true := fun w h => hts0 w (List.mem_cons_of_mem _ h)
  have hown : s.vm.findClass RX2 = some m.cls := findClass_of_methodNamed B.named
  have hin : meth.name = "<init>" := (name_of_methodNamed B.named B.method).1
  subst hsz
  have hD := hD0.self (sz := s.heap.size)
  generalize hAe : va_A [(po_a, .inr (2, [.int 0, .int 0, .int 0, .int 0, .null, .null, .null, .null]))] s.heap.size = A at hD hE ⊢
  have hA : ∀ q : Nat, s.heap.size ≤ q → A q := fun q h => by rw [← hAe]; exact Or.inr h
  have hS : va_S A s.heap s.heap [] := va_S.rf
  have hl := lv_entry ([.ref po_a, .ref p1]) (n := 3) (Nat.le_of_ble_eq_true rfl)
  rw [lg_entry_eq]
  generalize (lg_sl ([.ref po_a, .ref p1]) ++ List.replicate (3 - (lg_sl ([.ref po_a, .ref p1])).length) Slot.unset).toArray = ls at hl ⊢
  have hl : lv_has ls 3 [(0, .ref po_a), (1, .ref p1)] := hl
  have C0 : CX p s m _ c cX2_init 3 RX2 G K (EK G K tt L la sa ln sy sn lt st) A := ⟨hx, hb, hml, hown, hts, hK, hA, EK_ok _ _ _ _ _ _ _ _ _ _ _, hE⟩
  refine lv_aload_n hx hb dX2_init_0 rfl (lv_at hl 0 rfl) ?_
  refine W.objInit hx hb hown (hts _ tb170) (hts _ tb18) (hts _ tb19) rfl (by rw [hml]; exact hl.1) rfl dX2_init_1 (Nat.le_of_ble_eq_true rfl) (Nat.le_of_ble_eq_true rfl) ?_
  refine W.eq (g2 := F0 m 4 ls []) rfl ?_
  refine lv_aload_n hx hb dX2_init_4 rfl (lv_at hl 0 rfl) ?_
  refine lv_iconst (v := 4) hx hb dX2_init_5 (by decide) ?_
  refine va_newa (atype := .int) (ty := .int) (a0 := (4, .inl (fun _ => 0))) (N' := 4) hx hb (hts _ tb51) rfl hK hP hD hS hA (fun _ => rfl) (by decide) (by decide) (by decide) (Nat.le_of_ble_eq_true rfl) (Nat.le_of_ble_eq_true rfl) dX2_init_6 (fun q1 cA H hK2 hP hD hS => ?_)
  have eA := vn_ci hK hK2
  subst eA
  have hP : va_P G vwCl [(po_a, .inr (2, [.int 0, .int 0, .int 0, .int 0, .null, .null, .null, .null])), aI K q1 4 (fun _ => 0)] H := hP
  have hD : va_D A [(po_a, .inr (2, [.int 0, .int 0, .int 0, .int 0, .null, .null, .null, .null])), aI K q1 4 (fun _ => 0)] := hD
  refine va_putF (D := G) (ci := 2) (v := .ref q1) (ty := tyX2 4) (C := RX2) (T := TX2) (N := 8) hx hb hts inX2 tyX2 tyX2_ok nmX2 hown hK hP hD hS 0 rfl rfl 4 (by decide) (hts _ tb187) (fun _ h9 => h9) rfl hin rfl (tyX2_ok 4 (by decide)) rfl rfl (Nat.le_of_ble_eq_true rfl) dX2_init_8 (fun H locs hP hD hS => ?_)
  have hP : va_P G vwCl [(po_a, .inr (2, [.int 0, .int 0, .int 0, .int 0, .ref q1, .null, .null, .null])), aI K q1 4 (fun _ => 0)] H := hP
  have hD : va_D A [(po_a, .inr (2, [.int 0, .int 0, .int 0, .int 0, .ref q1, .null, .null, .null])), aI K q1 4 (fun _ => 0)] := hD
  refine lv_aload_n hx hb dX2_init_11 rfl (lv_at hl 0 rfl) ?_
  refine lv_bipush (v := 20) hx hb dX2_init_12 (by decide) ?_
  refine va_newa (atype := .int) (ty := .int) (a0 := (20, .inl (fun _ => 0))) (N' := 20) hx hb (hts _ tb51) rfl hK hP hD hS hA (fun _ => rfl) (by decide) (by decide) (by decide) (Nat.le_of_ble_eq_true rfl) (Nat.le_of_ble_eq_true rfl) dX2_init_14 (fun q2 cA H hK2 hP hD hS => ?_)
  have eA := vn_ci hK hK2
  subst eA
  have hP : va_P G vwCl [(po_a, .inr (2, [.int 0, .int 0, .int 0, .int 0, .ref q1, .null, .null, .null])), aI K q1 4 (fun _ => 0), aI K q2 20 (fun _ => 0)] H := hP
  have hD : va_D A [(po_a, .inr (2, [.int 0, .int 0, .int 0, .int 0, .ref q1, .null, .null, .null])), aI K q1 4 (fun _ => 0), aI K q2 20 (fun _ => 0)] := hD
  refine va_putF (D := G) (ci := 2) (v := .ref q2) (ty := tyX2 5) (C := RX2) (T := TX2) (N := 8) hx hb hts inX2 tyX2 tyX2_ok nmX2 hown hK hP hD hS 0 rfl rfl 5 (by decide) (hts _ tb190) (fun _ h9 => h9) rfl hin rfl (tyX2_ok 5 (by decide)) rfl rfl (Nat.le_of_ble_eq_true rfl) dX2_init_16 (fun H locs hP hD hS => ?_)
  have hP : va_P G vwCl [(po_a, .inr (2, [.int 0, .int 0, .int 0, .int 0, .ref q1, .ref q2, .null, .null])), aI K q1 4 (fun _ => 0), aI K q2 20 (fun _ => 0)] H := hP
  have hD : va_D A [(po_a, .inr (2, [.int 0, .int 0, .int 0, .int 0, .ref q1, .ref q2, .null, .null])), aI K q1 4 (fun _ => 0), aI K q2 20 (fun _ => 0)] := hD
  refine lv_aload_n hx hb dX2_init_19 rfl (lv_at hl 0 rfl) ?_
  refine lv_bipush (v := 20) hx hb dX2_init_20 (by decide) ?_
  refine va_newq (C := RX5) (N' := 20) hx hb hown (hts _ tb171) hE.2.2.1 hK hP hD hS hA (by decide) (by decide) (by decide) (Nat.le_of_ble_eq_true rfl) (Nat.le_of_ble_eq_true rfl) dX2_init_22 (fun q3 cA H hK2 hP hD hS => ?_)
  have eA := vn_cq (t := 2) hK rfl hK2
  subst eA
  have hP : va_P G vwCl [(po_a, .inr (2, [.int 0, .int 0, .int 0, .int 0, .ref q1, .ref q2, .null, .null])), aI K q1 4 (fun _ => 0), aI K q2 20 (fun _ => 0), (q3, .inl (K 2, 20, .inr (.inr (.inr (.inr (fun _ => none))))))] H := hP
  have hD : va_D A [(po_a, .inr (2, [.int 0, .int 0, .int 0, .int 0, .ref q1, .ref q2, .null, .null])), aI K q1 4 (fun _ => 0), aI K q2 20 (fun _ => 0), (q3, .inl (K 2, 20, .inr (.inr (.inr (.inr (fun _ => none))))))] := hD
  refine va_putF (D := G) (ci := 2) (v := .ref q3) (ty := tyX2 6) (C := RX2) (T := TX2) (N := 8) hx hb hts inX2 tyX2 tyX2_ok nmX2 hown hK hP hD hS 0 rfl rfl 6 (by decide) (hts _ tb193) (fun _ h9 => h9) rfl hin rfl (tyX2_ok 6 (by decide)) rfl rfl (Nat.le_of_ble_eq_true rfl) dX2_init_25 (fun H locs hP hD hS => ?_)
  have hP : va_P G vwCl [(po_a, .inr (2, [.int 0, .int 0, .int 0, .int 0, .ref q1, .ref q2, .ref q3, .null])), aI K q1 4 (fun _ => 0), aI K q2 20 (fun _ => 0), (q3, .inl (K 2, 20, .inr (.inr (.inr (.inr (fun _ => none))))))] H := hP
  have hD : va_D A [(po_a, .inr (2, [.int 0, .int 0, .int 0, .int 0, .ref q1, .ref q2, .ref q3, .null])), aI K q1 4 (fun _ => 0), aI K q2 20 (fun _ => 0), (q3, .inl (K 2, 20, .inr (.inr (.inr (.inr (fun _ => none))))))] := hD
  refine lv_aload_n hx hb dX2_init_28 rfl (lv_at hl 0 rfl) ?_
  refine lv_iconst (v := 4) hx hb dX2_init_29 (by decide) ?_
  refine va_newa (atype := .int) (ty := .int) (a0 := (4, .inl (fun _ => 0))) (N' := 4) hx hb (hts _ tb51) rfl hK hP hD hS hA (fun _ => rfl) (by decide) (by decide) (by decide) (Nat.le_of_ble_eq_true rfl) (Nat.le_of_ble_eq_true rfl) dX2_init_30 (fun q4 cA H hK2 hP hD hS => ?_)
  have eA := vn_ci hK hK2
  subst eA
  have hP : va_P G vwCl [(po_a, .inr (2, [.int 0, .int 0, .int 0, .int 0, .ref q1, .ref q2, .ref q3, .null])), aI K q1 4 (fun _ => 0), aI K q2 20 (fun _ => 0), (q3, .inl (K 2, 20, .inr (.inr (.inr (.inr (fun _ => none)))))), aI K q4 4 (fun _ => 0)] H := hP
  have hD : va_D A [(po_a, .inr (2, [.int 0, .int 0, .int 0, .int 0, .ref q1, .ref q2, .ref q3, .null])), aI K q1 4 (fun _ => 0), aI K q2 20 (fun _ => 0), (q3, .inl (K 2, 20, .inr (.inr (.inr (.inr (fun _ => none)))))), aI K q4 4 (fun _ => 0)] := hD
  refine va_putF (D := G) (ci := 2) (v := .ref q4) (ty := tyX2 7) (C := RX2) (T := TX2) (N := 8) hx hb hts inX2 tyX2 tyX2_ok nmX2 hown hK hP hD hS 0 rfl rfl 7 (by decide) (hts _ tb196) (fun _ h9 => h9) rfl hin rfl (tyX2_ok 7 (by decide)) rfl rfl (Nat.le_of_ble_eq_true rfl) dX2_init_32 (fun H locs hP hD hS => ?_)
  have hP : va_P G vwCl [(po_a, .inr (2, [.int 0, .int 0, .int 0, .int 0, .ref q1, .ref q2, .ref q3, .ref q4])), aI K q1 4 (fun _ => 0), aI K q2 20 (fun _ => 0), (q3, .inl (K 2, 20, .inr (.inr (.inr (.inr (fun _ => none)))))), aI K q4 4 (fun _ => 0)] H := hP
  have hD : va_D A [(po_a, .inr (2, [.int 0, .int 0, .int 0, .int 0, .ref q1, .ref q2, .ref q3, .ref q4])), aI K q1 4 (fun _ => 0), aI K q2 20 (fun _ => 0), (q3, .inl (K 2, 20, .inr (.inr (.inr (.inr (fun _ => none)))))), aI K q4 4 (fun _ => 0)] := hD
  refine lv_iconst (v := 0) hx hb dX2_init_35 (by decide) ?_
  refine lv_istore_n (lv' := [(2, .int (0 : Int32)), (0, .ref po_a), (1, .ref p1)]) hx hb dX2_init_36 rfl hl (by decide) rfl (fun ls hl => ?_)
  refine lv_iload_n hx hb dX2_init_37 rfl (lv_at hl 0 rfl) ?_
  refine lv_bipush (v := 20) hx hb dX2_init_38 (by decide) ?_
  refine lv_icmp_ge (tgt := 56) hx hb dX2_init_40 (by decide) (fun c9 => absurd c9 (by decide)) (fun _ => ?_)
  refine lv_aload_n hx hb dX2_init_43 rfl (lv_at hl 1 rfl) ?_
  refine va_get (D := G) (ci := 2) (v := .ref q3) (C := RX2) (T := TX2) (N := 8) hx hb hts inX2 hown hK hP 0 rfl rfl 6 (by decide) (hts _ tb193) (fun _ h9 => h9) rfl dX2_init_44 ?_
  refine lv_iload_n hx hb dX2_init_47 rfl (lv_at hl 0 rfl) ?_
  refine lv_aload_n hx hb dX2_init_48 rfl (lv_at hl 2 rfl) ?_
  refine va_astqM hx hb hK hP hD hS 3 2 rfl rfl (sp_any hK (sp_at hE.1 hS hp)) (show ¬ ((0 : Int32) < 0 ∨ 20 ≤ ((0 : Int32)).toNatClampNeg) by decide) dX2_init_49 (fun H locs hP hD hS => ?_)
  have hP : va_P G vwCl [(po_a, .inr (2, [.int 0, .int 0, .int 0, .int 0, .ref q1, .ref q2, .ref q3, .ref q4])), aI K q1 4 (fun _ => 0), aI K q2 20 (fun _ => 0), (q3, .inl (K 2, 20, .inr (.inr (.inr (.inr (va_up (fun _ => none) 0 (some p1))))))), aI K q4 4 (fun _ => 0)] H := hP
  have hD : va_D A [(po_a, .inr (2, [.int 0, .int 0, .int 0, .int 0, .ref q1, .ref q2, .ref q3, .ref q4])), aI K q1 4 (fun _ => 0), aI K q2 20 (fun _ => 0), (q3, .inl (K 2, 20, .inr (.inr (.inr (.inr (va_up (fun _ => none) 0 (some p1))))))), aI K q4 4 (fun _ => 0)] := hD
  refine lv_iinc (v := 1) (lv' := [(2, .int (1 : Int32)), (0, .ref po_a), (1, .ref p1)]) hx hb dX2_init_50 hl (k := 0) rfl (by decide) (by decide) rfl (fun ls hl => ?_)
  refine lv_goto (tgt := 37) hx hb dX2_init_53 (by decide) ?_
  refine lv_iload_n hx hb dX2_init_37 rfl (lv_at hl 0 rfl) ?_
  refine lv_bipush (v := 20) hx hb dX2_init_38 (by decide) ?_
  refine lv_icmp_ge (tgt := 56) hx hb dX2_init_40 (by decide) (fun c9 => absurd c9 (by decide)) (fun _ => ?_)
  refine lv_aload_n hx hb dX2_init_43 rfl (lv_at hl 1 rfl) ?_
  refine va_get (D := G) (ci := 2) (v := .ref q3) (C := RX2) (T := TX2) (N := 8) hx hb hts inX2 hown hK hP 0 rfl rfl 6 (by decide) (hts _ tb193) (fun _ h9 => h9) rfl dX2_init_44 ?_
  refine lv_iload_n hx hb dX2_init_47 rfl (lv_at hl 0 rfl) ?_
  refine lv_aload_n hx hb dX2_init_48 rfl (lv_at hl 2 rfl) ?_
  refine va_astqM hx hb hK hP hD hS 3 2 rfl rfl (sp_any hK (sp_at hE.1 hS hp)) (show ¬ ((1 : Int32) < 0 ∨ 20 ≤ ((1 : Int32)).toNatClampNeg) by decide) dX2_init_49 (fun H locs hP hD hS => ?_)
  have hP : va_P G vwCl [(po_a, .inr (2, [.int 0, .int 0, .int 0, .int 0, .ref q1, .ref q2, .ref q3, .ref q4])), aI K q1 4 (fun _ => 0), aI K q2 20 (fun _ => 0), (q3, .inl (K 2, 20, .inr (.inr (.inr (.inr (va_up (va_up (fun _ => none) 0 (some p1)) 1 (some p1))))))), aI K q4 4 (fun _ => 0)] H := hP
  have hD : va_D A [(po_a, .inr (2, [.int 0, .int 0, .int 0, .int 0, .ref q1, .ref q2, .ref q3, .ref q4])), aI K q1 4 (fun _ => 0), aI K q2 20 (fun _ => 0), (q3, .inl (K 2, 20, .inr (.inr (.inr (.inr (va_up (va_up (fun _ => none) 0 (some p1)) 1 (some p1))))))), aI K q4 4 (fun _ => 0)] := hD
  refine lv_iinc (v := 2) (lv' := [(2, .int (2 : Int32)), (0, .ref po_a), (1, .ref p1)]) hx hb dX2_init_50 hl (k := 0) rfl (by decide) (by decide) rfl (fun ls hl => ?_)
  refine lv_goto (tgt := 37) hx hb dX2_init_53 (by decide) ?_
  refine lv_iload_n hx hb dX2_init_37 rfl (lv_at hl 0 rfl) ?_
  refine lv_bipush (v := 20) hx hb dX2_init_38 (by decide) ?_
  refine lv_icmp_ge (tgt := 56) hx hb dX2_init_40 (by decide) (fun c9 => absurd c9 (by decide)) (fun _ => ?_)
  refine lv_aload_n hx hb dX2_init_43 rfl (lv_at hl 1 rfl) ?_
  refine va_get (D := G) (ci := 2) (v := .ref q3) (C := RX2) (T := TX2) (N := 8) hx hb hts inX2 hown hK hP 0 rfl rfl 6 (by decide) (hts _ tb193) (fun _ h9 => h9) rfl dX2_init_44 ?_
  refine lv_iload_n hx hb dX2_init_47 rfl (lv_at hl 0 rfl) ?_
  refine lv_aload_n hx hb dX2_init_48 rfl (lv_at hl 2 rfl) ?_
  refine va_astqM hx hb hK hP hD hS 3 2 rfl rfl (sp_any hK (sp_at hE.1 hS hp)) (show ¬ ((2 : Int32) < 0 ∨ 20 ≤ ((2 : Int32)).toNatClampNeg) by decide) dX2_init_49 (fun H locs hP hD hS => ?_)
  have hP : va_P G vwCl [(po_a, .inr (2, [.int 0, .int 0, .int 0, .int 0, .ref q1, .ref q2, .ref q3, .ref q4])), aI K q1 4 (fun _ => 0), aI K q2 20 (fun _ => 0), (q3, .inl (K 2, 20, .inr (.inr (.inr (.inr (va_up (va_up (va_up (fun _ => none) 0 (some p1)) 1 (some p1)) 2 (some p1))))))), aI K q4 4 (fun _ => 0)] H := hP
  have hD : va_D A [(po_a, .inr (2, [.int 0, .int 0, .int 0, .int 0, .ref q1, .ref q2, .ref q3, .ref q4])), aI K q1 4 (fun _ => 0), aI K q2 20 (fun _ => 0), (q3, .inl (K 2, 20, .inr (.inr (.inr (.inr (va_up (va_up (va_up (fun _ => none) 0 (some p1)) 1 (some p1)) 2 (some p1))))))), aI K q4 4 (fun _ => 0)] := hD
  refine lv_iinc (v := 3) (lv' := [(2, .int (3 : Int32)), (0, .ref po_a), (1, .ref p1)]) hx hb dX2_init_50 hl (k := 0) rfl (by decide) (by decide) rfl (fun ls hl => ?_)
  refine lv_goto (tgt := 37) hx hb dX2_init_53 (by decide) ?_
  refine lv_iload_n hx hb dX2_init_37 rfl (lv_at hl 0 rfl) ?_
  refine lv_bipush (v := 20) hx hb dX2_init_38 (by decide) ?_
  refine lv_icmp_ge (tgt := 56) hx hb dX2_init_40 (by decide) (fun c9 => absurd c9 (by decide)) (fun _ => ?_)
  refine lv_aload_n hx hb dX2_init_43 rfl (lv_at hl 1 rfl) ?_
  refine va_get (D := G) (ci := 2) (v := .ref q3) (C := RX2) (T := TX2) (N := 8) hx hb hts inX2 hown hK hP 0 rfl rfl 6 (by decide) (hts _ tb193) (fun _ h9 => h9) rfl dX2_init_44 ?_
  refine lv_iload_n hx hb dX2_init_47 rfl (lv_at hl 0 rfl) ?_
  refine lv_aload_n hx hb dX2_init_48 rfl (lv_at hl 2 rfl) ?_
  refine va_astqM hx hb hK hP hD hS 3 2 rfl rfl (sp_any hK (sp_at hE.1 hS hp)) (show ¬ ((3 : Int32) < 0 ∨ 20 ≤ ((3 : Int32)).toNatClampNeg) by decide) dX2_init_49 (fun H locs hP hD hS => ?_)
  have hP : va_P G vwCl [(po_a, .inr (2, [.int 0, .int 0, .int 0, .int 0, .ref q1, .ref q2, .ref q3, .ref q4])), aI K q1 4 (fun _ => 0), aI K q2 20 (fun _ => 0), (q3, .inl (K 2, 20, .inr (.inr (.inr (.inr (va_up (va_up (va_up (va_up (fun _ => none) 0 (some p1)) 1 (some p1)) 2 (some p1)) 3 (some p1))))))), aI K q4 4 (fun _ => 0)] H := hP
  have hD : va_D A [(po_a, .inr (2, [.int 0, .int 0, .int 0, .int 0, .ref q1, .ref q2, .ref q3, .ref q4])), aI K q1 4 (fun _ => 0), aI K q2 20 (fun _ => 0), (q3, .inl (K 2, 20, .inr (.inr (.inr (.inr (va_up (va_up (va_up (va_up (fun _ => none) 0 (some p1)) 1 (some p1)) 2 (some p1)) 3 (some p1))))))), aI K q4 4 (fun _ => 0)] := hD
  refine lv_iinc (v := 4) (lv' := [(2, .int (4 : Int32)), (0, .ref po_a), (1, .ref p1)]) hx hb dX2_init_50 hl (k := 0) rfl (by decide) (by decide) rfl (fun ls hl => ?_)
  refine lv_goto (tgt := 37) hx hb dX2_init_53 (by decide) ?_
  refine lv_iload_n hx hb dX2_init_37 rfl (lv_at hl 0 rfl) ?_
  refine lv_bipush (v := 20) hx hb dX2_init_38 (by decide) ?_
  refine lv_icmp_ge (tgt := 56) hx hb dX2_init_40 (by decide) (fun c9 => absurd c9 (by decide)) (fun _ => ?_)
  refine lv_aload_n hx hb dX2_init_43 rfl (lv_at hl 1 rfl) ?_
  refine va_get (D := G) (ci := 2) (v := .ref q3) (C := RX2) (T := TX2) (N := 8) hx hb hts inX2 hown hK hP 0 rfl rfl 6 (by decide) (hts _ tb193) (fun _ h9 => h9) rfl dX2_init_44 ?_
  refine lv_iload_n hx hb dX2_init_47 rfl (lv_at hl 0 rfl) ?_
  refine lv_aload_n hx hb dX2_init_48 rfl (lv_at hl 2 rfl) ?_
  refine va_astqM hx hb hK hP hD hS 3 2 rfl rfl (sp_any hK (sp_at hE.1 hS hp)) (show ¬ ((4 : Int32) < 0 ∨ 20 ≤ ((4 : Int32)).toNatClampNeg) by decide) dX2_init_49 (fun H locs hP hD hS => ?_)
  have hP : va_P G vwCl [(po_a, .inr (2, [.int 0, .int 0, .int 0, .int 0, .ref q1, .ref q2, .ref q3, .ref q4])), aI K q1 4 (fun _ => 0), aI K q2 20 (fun _ => 0), (q3, .inl (K 2, 20, .inr (.inr (.inr (.inr (va_up (va_up (va_up (va_up (va_up (fun _ => none) 0 (some p1)) 1 (some p1)) 2 (some p1)) 3 (some p1)) 4 (some p1))))))), aI K q4 4 (fun _ => 0)] H := hP
  have hD : va_D A [(po_a, .inr (2, [.int 0, .int 0, .int 0, .int 0, .ref q1, .ref q2, .ref q3, .ref q4])), aI K q1 4 (fun _ => 0), aI K q2 20 (fun _ => 0), (q3, .inl (K 2, 20, .inr (.inr (.inr (.inr (va_up (va_up (va_up (va_up (va_up (fun _ => none) 0 (some p1)) 1 (some p1)) 2 (some p1)) 3 (some p1)) 4 (some p1))))))), aI K q4 4 (fun _ => 0)] := hD
  refine lv_iinc (v := 5) (lv' := [(2, .int (5 : Int32)), (0, .ref po_a), (1, .ref p1)]) hx hb dX2_init_50 hl (k := 0) rfl (by decide) (by decide) rfl (fun ls hl => ?_)
  refine lv_goto (tgt := 37) hx hb dX2_init_53 (by decide) ?_
  refine lv_iload_n hx hb dX2_init_37 rfl (lv_at hl 0 rfl) ?_
  refine lv_bipush (v := 20) hx hb dX2_init_38 (by decide) ?_
  refine lv_icmp_ge (tgt := 56) hx hb dX2_init_40 (by decide) (fun c9 => absurd c9 (by decide)) (fun _ => ?_)
  refine lv_aload_n hx hb dX2_init_43 rfl (lv_at hl 1 rfl) ?_
  refine va_get (D := G) (ci := 2) (v := .ref q3) (C := RX2) (T := TX2) (N := 8) hx hb hts inX2 hown hK hP 0 rfl rfl 6 (by decide) (hts _ tb193) (fun _ h9 => h9) rfl dX2_init_44 ?_
  refine lv_iload_n hx hb dX2_init_47 rfl (lv_at hl 0 rfl) ?_
  refine lv_aload_n hx hb dX2_init_48 rfl (lv_at hl 2 rfl) ?_
  refine va_astqM hx hb hK hP hD hS 3 2 rfl rfl (sp_any hK (sp_at hE.1 hS hp)) (show ¬ ((5 : Int32) < 0 ∨ 20 ≤ ((5 : Int32)).toNatClampNeg) by decide) dX2_init_49 (fun H locs hP hD hS => ?_)
  have hP : va_P G vwCl [(po_a, .inr (2, [.int 0, .int 0, .int 0, .int 0, .ref q1, .ref q2, .ref q3, .ref q4])), aI K q1 4 (fun _ => 0), aI K q2 20 (fun _ => 0), (q3, .inl (K 2, 20, .inr (.inr (.inr (.inr (va_up (va_up (va_up (va_up (va_up (va_up (fun _ => none) 0 (some p1)) 1 (some p1)) 2 (some p1)) 3 (some p1)) 4 (some p1)) 5 (some p1))))))), aI K q4 4 (fun _ => 0)] H := hP
  have hD : va_D A [(po_a, .inr (2, [.int 0, .int 0, .int 0, .int 0, .ref q1, .ref q2, .ref q3, .ref q4])), aI K q1 4 (fun _ => 0), aI K q2 20 (fun _ => 0), (q3, .inl (K 2, 20, .inr (.inr (.inr (.inr (va_up (va_up (va_up (va_up (va_up (va_up (fun _ => none) 0 (some p1)) 1 (some p1)) 2 (some p1)) 3 (some p1)) 4 (some p1)) 5 (some p1))))))), aI K q4 4 (fun _ => 0)] := hD
  refine lv_iinc (v := 6) (lv' := [(2, .int (6 : Int32)), (0, .ref po_a), (1, .ref p1)]) hx hb dX2_init_50 hl (k := 0) rfl (by decide) (by decide) rfl (fun ls hl => ?_)
  refine lv_goto (tgt := 37) hx hb dX2_init_53 (by decide) ?_
  refine lv_iload_n hx hb dX2_init_37 rfl (lv_at hl 0 rfl) ?_
  refine lv_bipush (v := 20) hx hb dX2_init_38 (by decide) ?_
  refine lv_icmp_ge (tgt := 56) hx hb dX2_init_40 (by decide) (fun c9 => absurd c9 (by decide)) (fun _ => ?_)
  refine lv_aload_n hx hb dX2_init_43 rfl (lv_at hl 1 rfl) ?_
  refine va_get (D := G) (ci := 2) (v := .ref q3) (C := RX2) (T := TX2) (N := 8) hx hb hts inX2 hown hK hP 0 rfl rfl 6 (by decide) (hts _ tb193) (fun _ h9 => h9) rfl dX2_init_44 ?_
  refine lv_iload_n hx hb dX2_init_47 rfl (lv_at hl 0 rfl) ?_
  refine lv_aload_n hx hb dX2_init_48 rfl (lv_at hl 2 rfl) ?_
  refine va_astqM hx hb hK hP hD hS 3 2 rfl rfl (sp_any hK (sp_at hE.1 hS hp)) (show ¬ ((6 : Int32) < 0 ∨ 20 ≤ ((6 : Int32)).toNatClampNeg) by decide) dX2_init_49 (fun H locs hP hD hS => ?_)
  have hP : va_P G vwCl [(po_a, .inr (2, [.int 0, .int 0, .int 0, .int 0, .ref q1, .ref q2, .ref q3, .ref q4])), aI K q1 4 (fun _ => 0), aI K q2 20 (fun _ => 0), (q3, .inl (K 2, 20, .inr (.inr (.inr (.inr (va_up (va_up (va_up (va_up (va_up (va_up (va_up (fun _ => none) 0 (some p1)) 1 (some p1)) 2 (some p1)) 3 (some p1)) 4 (some p1)) 5 (some p1)) 6 (some p1))))))), aI K q4 4 (fun _ => 0)] H := hP
  have hD : va_D A [(po_a, .inr (2, [.int 0, .int 0, .int 0, .int 0, .ref q1, .ref q2, .ref q3, .ref q4])), aI K q1 4 (fun _ => 0), aI K q2 20 (fun _ => 0), (q3, .inl (K 2, 20, .inr (.inr (.inr (.inr (va_up (va_up (va_up (va_up (va_up (va_up (va_up (fun _ => none) 0 (some p1)) 1 (some p1)) 2 (some p1)) 3 (some p1)) 4 (some p1)) 5 (some p1)) 6 (some p1))))))), aI K q4 4 (fun _ => 0)] := hD
  refine lv_iinc (v := 7) (lv' := [(2, .int (7 : Int32)), (0, .ref po_a), (1, .ref p1)]) hx hb dX2_init_50 hl (k := 0) rfl (by decide) (by decide) rfl (fun ls hl => ?_)
  refine lv_goto (tgt := 37) hx hb dX2_init_53 (by decide) ?_
  refine lv_iload_n hx hb dX2_init_37 rfl (lv_at hl 0 rfl) ?_
  refine lv_bipush (v := 20) hx hb dX2_init_38 (by decide) ?_
  refine lv_icmp_ge (tgt := 56) hx hb dX2_init_40 (by decide) (fun c9 => absurd c9 (by decide)) (fun _ => ?_)
  refine lv_aload_n hx hb dX2_init_43 rfl (lv_at hl 1 rfl) ?_
  refine va_get (D := G) (ci := 2) (v := .ref q3) (C := RX2) (T := TX2) (N := 8) hx hb hts inX2 hown hK hP 0 rfl rfl 6 (by decide) (hts _ tb193) (fun _ h9 => h9) rfl dX2_init_44 ?_
  refine lv_iload_n hx hb dX2_init_47 rfl (lv_at hl 0 rfl) ?_
  refine lv_aload_n hx hb dX2_init_48 rfl (lv_at hl 2 rfl) ?_
  refine va_astqM hx hb hK hP hD hS 3 2 rfl rfl (sp_any hK (sp_at hE.1 hS hp)) (show ¬ ((7 : Int32) < 0 ∨ 20 ≤ ((7 : Int32)).toNatClampNeg) by decide) dX2_init_49 (fun H locs hP hD hS => ?_)
  have hP : va_P G vwCl [(po_a, .inr (2, [.int 0, .int 0, .int 0, .int 0, .ref q1, .ref q2, .ref q3, .ref q4])), aI K q1 4 (fun _ => 0), aI K q2 20 (fun _ => 0), (q3, .inl (K 2, 20, .inr (.inr (.inr (.inr (va_up (va_up (va_up (va_up (va_up (va_up (va_up (va_up (fun _ => none) 0 (some p1)) 1 (some p1)) 2 (some p1)) 3 (some p1)) 4 (some p1)) 5 (some p1)) 6 (some p1)) 7 (some p1))))))), aI K q4 4 (fun _ => 0)] H := hP
  have hD : va_D A [(po_a, .inr (2, [.int 0, .int 0, .int 0, .int 0, .ref q1, .ref q2, .ref q3, .ref q4])), aI K q1 4 (fun _ => 0), aI K q2 20 (fun _ => 0), (q3, .inl (K 2, 20, .inr (.inr (.inr (.inr (va_up (va_up (va_up (va_up (va_up (va_up (va_up (va_up (fun _ => none) 0 (some p1)) 1 (some p1)) 2 (some p1)) 3 (some p1)) 4 (some p1)) 5 (some p1)) 6 (some p1)) 7 (some p1))))))), aI K q4 4 (fun _ => 0)] := hD
  refine lv_iinc (v := 8) (lv' := [(2, .int (8 : Int32)), (0, .ref po_a), (1, .ref p1)]) hx hb dX2_init_50 hl (k := 0) rfl (by decide) (by decide) rfl (fun ls hl => ?_)
  refine lv_goto (tgt := 37) hx hb dX2_init_53 (by decide) ?_
  refine lv_iload_n hx hb dX2_init_37 rfl (lv_at hl 0 rfl) ?_
  refine lv_bipush (v := 20) hx hb dX2_init_38 (by decide) ?_
  refine lv_icmp_ge (tgt := 56) hx hb dX2_init_40 (by decide) (fun c9 => absurd c9 (by decide)) (fun _ => ?_)
  refine lv_aload_n hx hb dX2_init_43 rfl (lv_at hl 1 rfl) ?_
  refine va_get (D := G) (ci := 2) (v := .ref q3) (C := RX2) (T := TX2) (N := 8) hx hb hts inX2 hown hK hP 0 rfl rfl 6 (by decide) (hts _ tb193) (fun _ h9 => h9) rfl dX2_init_44 ?_
  refine lv_iload_n hx hb dX2_init_47 rfl (lv_at hl 0 rfl) ?_
  refine lv_aload_n hx hb dX2_init_48 rfl (lv_at hl 2 rfl) ?_
  refine va_astqM hx hb hK hP hD hS 3 2 rfl rfl (sp_any hK (sp_at hE.1 hS hp)) (show ¬ ((8 : Int32) < 0 ∨ 20 ≤ ((8 : Int32)).toNatClampNeg) by decide) dX2_init_49 (fun H locs hP hD hS => ?_)
  have hP : va_P G vwCl [(po_a, .inr (2, [.int 0, .int 0, .int 0, .int 0, .ref q1, .ref q2, .ref q3, .ref q4])), aI K q1 4 (fun _ => 0), aI K q2 20 (fun _ => 0), (q3, .inl (K 2, 20, .inr (.inr (.inr (.inr (va_up (va_up (va_up (va_up (va_up (va_up (va_up (va_up (va_up (fun _ => none) 0 (some p1)) 1 (some p1)) 2 (some p1)) 3 (some p1)) 4 (some p1)) 5 (some p1)) 6 (some p1)) 7 (some p1)) 8 (some p1))))))), aI K q4 4 (fun _ => 0)] H := hP
  have hD : va_D A [(po_a, .inr (2, [.int 0, .int 0, .int 0, .int 0, .ref q1, .ref q2, .ref q3, .ref q4])), aI K q1 4 (fun _ => 0), aI K q2 20 (fun _ => 0), (q3, .inl (K 2, 20, .inr (.inr (.inr (.inr (va_up (va_up (va_up (va_up (va_up (va_up (va_up (va_up (va_up (fun _ => none) 0 (some p1)) 1 (some p1)) 2 (some p1)) 3 (some p1)) 4 (some p1)) 5 (some p1)) 6 (some p1)) 7 (some p1)) 8 (some p1))))))), aI K q4 4 (fun _ => 0)] := hD
  refine lv_iinc (v := 9) (lv' := [(2, .int (9 : Int32)), (0, .ref po_a), (1, .ref p1)]) hx hb dX2_init_50 hl (k := 0) rfl (by decide) (by decide) rfl (fun ls hl => ?_)
  refine lv_goto (tgt := 37) hx hb dX2_init_53 (by decide) ?_
  refine lv_iload_n hx hb dX2_init_37 rfl (lv_at hl 0 rfl) ?_
  refine lv_bipush (v := 20) hx hb dX2_init_38 (by decide) ?_
  refine lv_icmp_ge (tgt := 56) hx hb dX2_init_40 (by decide) (fun c9 => absurd c9 (by decide)) (fun _ => ?_)
  refine lv_aload_n hx hb dX2_init_43 rfl (lv_at hl 1 rfl) ?_
  refine va_get (D := G) (ci := 2) (v := .ref q3) (C := RX2) (T := TX2) (N := 8) hx hb hts inX2 hown hK hP 0 rfl rfl 6 (by decide) (hts _ tb193) (fun _ h9 => h9) rfl dX2_init_44 ?_
  refine lv_iload_n hx hb dX2_init_47 rfl (lv_at hl 0 rfl) ?_
  refine lv_aload_n hx hb dX2_init_48 rfl (lv_at hl 2 rfl) ?_
  refine va_astqM hx hb hK hP hD hS 3 2 rfl rfl (sp_any hK (sp_at hE.1 hS hp)) (show ¬ ((9 : Int32) < 0 ∨ 20 ≤ ((9 : Int32)).toNatClampNeg) by decide) dX2_init_49 (fun H locs hP hD hS => ?_)
  have hP : va_P G vwCl [(po_a, .inr (2, [.int 0, .int 0, .int 0, .int 0, .ref q1, .ref q2, .ref q3, .ref q4])), aI K q1 4 (fun _ => 0), aI K q2 20 (fun _ => 0), (q3, .inl (K 2, 20, .inr (.inr (.inr (.inr (va_up (va_up (va_up (va_up (va_up (va_up (va_up (va_up (va_up (va_up (fun _ => none) 0 (some p1)) 1 (some p1)) 2 (some p1)) 3 (some p1)) 4 (some p1)) 5 (some p1)) 6 (some p1)) 7 (some p1)) 8 (some p1)) 9 (some p1))))))), aI K q4 4 (fun _ => 0)] H := hP
  have hD : va_D A [(po_a, .inr (2, [.int 0, .int 0, .int 0, .int 0, .ref q1, .ref q2, .ref q3, .ref q4])), aI K q1 4 (fun _ => 0), aI K q2 20 (fun _ => 0), (q3, .inl (K 2, 20, .inr (.inr (.inr (.inr (va_up (va_up (va_up (va_up (va_up (va_up (va_up (va_up (va_up (va_up (fun _ => none) 0 (some p1)) 1 (some p1)) 2 (some p1)) 3 (some p1)) 4 (some p1)) 5 (some p1)) 6 (some p1)) 7 (some p1)) 8 (some p1)) 9 (some p1))))))), aI K q4 4 (fun _ => 0)] := hD
  refine lv_iinc (v := 10) (lv' := [(2, .int (10 : Int32)), (0, .ref po_a), (1, .ref p1)]) hx hb dX2_init_50 hl (k := 0) rfl (by decide) (by decide) rfl (fun ls hl => ?_)
  refine lv_goto (tgt := 37) hx hb dX2_init_53 (by decide) ?_
  refine lv_iload_n hx hb dX2_init_37 rfl (lv_at hl 0 rfl) ?_
  refine lv_bipush (v := 20) hx hb dX2_init_38 (by decide) ?_
  refine lv_icmp_ge (tgt := 56) hx hb dX2_init_40 (by decide) (fun c9 => absurd c9 (by decide)) (fun _ => ?_)
  refine lv_aload_n hx hb dX2_init_43 rfl (lv_at hl 1 rfl) ?_
  refine va_get (D := G) (ci := 2) (v := .ref q3) (C := RX2) (T := TX2) (N := 8) hx hb hts inX2 hown hK hP 0 rfl rfl 6 (by decide) (hts _ tb193) (fun _ h9 => h9) rfl dX2_init_44 ?_
  refine lv_iload_n hx hb dX2_init_47 rfl (lv_at hl 0 rfl) ?_
  refine lv_aload_n hx hb dX2_init_48 rfl (lv_at hl 2 rfl) ?_
  refine va_astqM hx hb hK hP hD hS 3 2 rfl rfl (sp_any hK (sp_at hE.1 hS hp)) (show ¬ ((10 : Int32) < 0 ∨ 20 ≤ ((10 : Int32)).toNatClampNeg) by decide) dX2_init_49 (fun H locs hP hD hS => ?_)
  have hP : va_P G vwCl [(po_a, .inr (2, [.int 0, .int 0, .int 0, .int 0, .ref q1, .ref q2, .ref q3, .ref q4])), aI K q1 4 (fun _ => 0), aI K q2 20 (fun _ => 0), (q3, .inl (K 2, 20, .inr (.inr (.inr (.inr (va_up (va_up (va_up (va_up (va_up (va_up (va_up (va_up (va_up (va_up (va_up (fun _ => none) 0 (some p1)) 1 (some p1)) 2 (some p1)) 3 (some p1)) 4 (some p1)) 5 (some p1)) 6 (some p1)) 7 (some p1)) 8 (some p1)) 9 (some p1)) 10 (some p1))))))), aI K q4 4 (fun _ => 0)] H := hP
  have hD : va_D A [(po_a, .inr (2, [.int 0, .int 0, .int 0, .int 0, .ref q1, .ref q2, .ref q3, .ref q4])), aI K q1 4 (fun _ => 0), aI K q2 20 (fun _ => 0), (q3, .inl (K 2, 20, .inr (.inr (.inr (.inr (va_up (va_up (va_up (va_up (va_up (va_up (va_up (va_up (va_up (va_up (va_up (fun _ => none) 0 (some p1)) 1 (some p1)) 2 (some p1)) 3 (some p1)) 4 (some p1)) 5 (some p1)) 6 (some p1)) 7 (some p1)) 8 (some p1)) 9 (some p1)) 10 (some p1))))))), aI K q4 4 (fun _ => 0)] := hD
  refine lv_iinc (v := 11) (lv' := [(2, .int (11 : Int32)), (0, .ref po_a), (1, .ref p1)]) hx hb dX2_init_50 hl (k := 0) rfl (by decide) (by decide) rfl (fun ls hl => ?_)
  refine lv_goto (tgt := 37) hx hb dX2_init_53 (by decide) ?_
  refine lv_iload_n hx hb dX2_init_37 rfl (lv_at hl 0 rfl) ?_
  refine lv_bipush (v := 20) hx hb dX2_init_38 (by decide) ?_
  refine lv_icmp_ge (tgt := 56) hx hb dX2_init_40 (by decide) (fun c9 => absurd c9 (by decide)) (fun _ => ?_)
  refine lv_aload_n hx hb dX2_init_43 rfl (lv_at hl 1 rfl) ?_
  refine va_get (D := G) (ci := 2) (v := .ref q3) (C := RX2) (T := TX2) (N := 8) hx hb hts inX2 hown hK hP 0 rfl rfl 6 (by decide) (hts _ tb193) (fun _ h9 => h9) rfl dX2_init_44 ?_
  refine lv_iload_n hx hb dX2_init_47 rfl (lv_at hl 0 rfl) ?_
  refine lv_aload_n hx hb dX2_init_48 rfl (lv_at hl 2 rfl) ?_
  refine va_astqM hx hb hK hP hD hS 3 2 rfl rfl (sp_any hK (sp_at hE.1 hS hp)) (show ¬ ((11 : Int32) < 0 ∨ 20 ≤ ((11 : Int32)).toNatClampNeg) by decide) dX2_init_49 (fun H locs hP hD hS => ?_)
  have hP : va_P G vwCl [(po_a, .inr (2, [.int 0, .int 0, .int 0, .int 0, .ref q1, .ref q2, .ref q3, .ref q4])), aI K q1 4 (fun _ => 0), aI K q2 20 (fun _ => 0), (q3, .inl (K 2, 20, .inr (.inr (.inr (.inr (va_up (va_up (va_up (va_up (va_up (va_up (va_up (va_up (va_up (va_up (va_up (va_up (fun _ => none) 0 (some p1)) 1 (some p1)) 2 (some p1)) 3 (some p1)) 4 (some p1)) 5 (some p1)) 6 (some p1)) 7 (some p1)) 8 (some p1)) 9 (some p1)) 10 (some p1)) 11 (some p1))))))), aI K q4 4 (fun _ => 0)] H := hP
  have hD : va_D A [(po_a, .inr (2, [.int 0, .int 0, .int 0, .int 0, .ref q1, .ref q2, .ref q3, .ref q4])), aI K q1 4 (fun _ => 0), aI K q2 20 (fun _ => 0), (q3, .inl (K 2, 20, .inr (.inr (.inr (.inr (va_up (va_up (va_up (va_up (va_up (va_up (va_up (va_up (va_up (va_up (va_up (va_up (fun _ => none) 0 (some p1)) 1 (some p1)) 2 (some p1)) 3 (some p1)) 4 (some p1)) 5 (some p1)) 6 (some p1)) 7 (some p1)) 8 (some p1)) 9 (some p1)) 10 (some p1)) 11 (some p1))))))), aI K q4 4 (fun _ => 0)] := hD
  refine lv_iinc (v := 12) (lv' := [(2, .int (12 : Int32)), (0, .ref po_a), (1, .ref p1)]) hx hb dX2_init_50 hl (k := 0) rfl (by decide) (by decide) rfl (fun ls hl => ?_)
  refine lv_goto (tgt := 37) hx hb dX2_init_53 (by decide) ?_
  refine lv_iload_n hx hb dX2_init_37 rfl (lv_at hl 0 rfl) ?_
  refine lv_bipush (v := 20) hx hb dX2_init_38 (by decide) ?_
  refine lv_icmp_ge (tgt := 56) hx hb dX2_init_40 (by decide) (fun c9 => absurd c9 (by decide)) (fun _ => ?_)
  refine lv_aload_n hx hb dX2_init_43 rfl (lv_at hl 1 rfl) ?_
  refine va_get (D := G) (ci := 2) (v := .ref q3) (C := RX2) (T := TX2) (N := 8) hx hb hts inX2 hown hK hP 0 rfl rfl 6 (by decide) (hts _ tb193) (fun _ h9 => h9) rfl dX2_init_44 ?_
  refine lv_iload_n hx hb dX2_init_47 rfl (lv_at hl 0 rfl) ?_
  refine lv_aload_n hx hb dX2_init_48 rfl (lv_at hl 2 rfl) ?_
  refine va_astqM hx hb hK hP hD hS 3 2 rfl rfl (sp_any hK (sp_at hE.1 hS hp)) (show ¬ ((12 : Int32) < 0 ∨ 20 ≤ ((12 : Int32)).toNatClampNeg) by decide) dX2_init_49 (fun H locs hP hD hS => ?_)
  have hP : va_P G vwCl [(po_a, .inr (2, [.int 0, .int 0, .int 0, .int 0, .ref q1, .ref q2, .ref q3, .ref q4])), aI K q1 4 (fun _ => 0), aI K q2 20 (fun _ => 0), (q3, .inl (K 2, 20, .inr (.inr (.inr (.inr (va_up (va_up (va_up (va_up (va_up (va_up (va_up (va_up (va_up (va_up (va_up (va_up (va_up (fun _ => none) 0 (some p1)) 1 (some p1)) 2 (some p1)) 3 (some p1)) 4 (some p1)) 5 (some p1)) 6 (some p1)) 7 (some p1)) 8 (some p1)) 9 (some p1)) 10 (some p1)) 11 (some p1)) 12 (some p1))))))), aI K q4 4 (fun _ => 0)] H := hP
  have hD : va_D A [(po_a, .inr (2, [.int 0, .int 0, .int 0, .int 0, .ref q1, .ref q2, .ref q3, .ref q4])), aI K q1 4 (fun _ => 0), aI K q2 20 (fun _ => 0), (q3, .inl (K 2, 20, .inr (.inr (.inr (.inr (va_up (va_up (va_up (va_up (va_up (va_up (va_up (va_up (va_up (va_up (va_up (va_up (va_up (fun _ => none) 0 (some p1)) 1 (some p1)) 2 (some p1)) 3 (some p1)) 4 (some p1)) 5 (some p1)) 6 (some p1)) 7 (some p1)) 8 (some p1)) 9 (some p1)) 10 (some p1)) 11 (some p1)) 12 (some p1))))))), aI K q4 4 (fun _ => 0)] := hD
  refine lv_iinc (v := 13) (lv' := [(2, .int (13 : Int32)), (0, .ref po_a), (1, .ref p1)]) hx hb dX2_init_50 hl (k := 0) rfl (by decide) (by decide) rfl (fun ls hl => ?_)
  refine lv_goto (tgt := 37) hx hb dX2_init_53 (by decide) ?_
  refine lv_iload_n hx hb dX2_init_37 rfl (lv_at hl 0 rfl) ?_
  refine lv_bipush (v := 20) hx hb dX2_init_38 (by decide) ?_
  refine lv_icmp_ge (tgt := 56) hx hb dX2_init_40 (by decide) (fun c9 => absurd c9 (by decide)) (fun _ => ?_)
  refine lv_aload_n hx hb dX2_init_43 rfl (lv_at hl 1 rfl) ?_
  refine va_get (D := G) (ci := 2) (v := .ref q3) (C := RX2) (T := TX2) (N := 8) hx hb hts inX2 hown hK hP 0 rfl rfl 6 (by decide) (hts _ tb193) (fun _ h9 => h9) rfl dX2_init_44 ?_
  refine lv_iload_n hx hb dX2_init_47 rfl (lv_at hl 0 rfl) ?_
  refine lv_aload_n hx hb dX2_init_48 rfl (lv_at hl 2 rfl) ?_
  refine va_astqM hx hb hK hP hD hS 3 2 rfl rfl (sp_any hK (sp_at hE.1 hS hp)) (show ¬ ((13 : Int32) < 0 ∨ 20 ≤ ((13 : Int32)).toNatClampNeg) by decide) dX2_init_49 (fun H locs hP hD hS => ?_)
  have hP : va_P G vwCl [(po_a, .inr (2, [.int 0, .int 0, .int 0, .int 0, .ref q1, .ref q2, .ref q3, .ref q4])), aI K q1 4 (fun _ => 0), aI K q2 20 (fun _ => 0), (q3, .inl (K 2, 20, .inr (.inr (.inr (.inr (va_up (va_up (va_up (va_up (va_up (va_up (va_up (va_up (va_up (va_up (va_up (va_up (va_up (va_up (fun _ => none) 0 (some p1)) 1 (some p1)) 2 (some p1)) 3 (some p1)) 4 (some p1)) 5 (some p1)) 6 (some p1)) 7 (some p1)) 8 (some p1)) 9 (some p1)) 10 (some p1)) 11 (some p1)) 12 (some p1)) 13 (some p1))))))), aI K q4 4 (fun _ => 0)] H := hP
  have hD : va_D A [(po_a, .inr (2, [.int 0, .int 0, .int 0, .int 0, .ref q1, .ref q2, .ref q3, .ref q4])), aI K q1 4 (fun _ => 0), aI K q2 20 (fun _ => 0), (q3, .inl (K 2, 20, .inr (.inr (.inr (.inr (va_up (va_up (va_up (va_up (va_up (va_up (va_up (va_up (va_up (va_up (va_up (va_up (va_up (va_up (fun _ => none) 0 (some p1)) 1 (some p1)) 2 (some p1)) 3 (some p1)) 4 (some p1)) 5 (some p1)) 6 (some p1)) 7 (some p1)) 8 (some p1)) 9 (some p1)) 10 (some p1)) 11 (some p1)) 12 (some p1)) 13 (some p1))))))), aI K q4 4 (fun _ => 0)] := hD
  refine lv_iinc (v := 14) (lv' := [(2, .int (14 : Int32)), (0, .ref po_a), (1, .ref p1)]) hx hb dX2_init_50 hl (k := 0) rfl (by decide) (by decide) rfl (fun ls hl => ?_)
  refine lv_goto (tgt := 37) hx hb dX2_init_53 (by decide) ?_
  refine lv_iload_n hx hb dX2_init_37 rfl (lv_at hl 0 rfl) ?_
  refine lv_bipush (v := 20) hx hb dX2_init_38 (by decide) ?_
  refine lv_icmp_ge (tgt := 56) hx hb dX2_init_40 (by decide) (fun c9 => absurd c9 (by decide)) (fun _ => ?_)
  refine lv_aload_n hx hb dX2_init_43 rfl (lv_at hl 1 rfl) ?_
  refine va_get (D := G) (ci := 2) (v := .ref q3) (C := RX2) (T := TX2) (N := 8) hx hb hts inX2 hown hK hP 0 rfl rfl 6 (by decide) (hts _ tb193) (fun _ h9 => h9) rfl dX2_init_44 ?_
  refine lv_iload_n hx hb dX2_init_47 rfl (lv_at hl 0 rfl) ?_
  refine lv_aload_n hx hb dX2_init_48 rfl (lv_at hl 2 rfl) ?_
  refine va_astqM hx hb hK hP hD hS 3 2 rfl rfl (sp_any hK (sp_at hE.1 hS hp)) (show ¬ ((14 : Int32) < 0 ∨ 20 ≤ ((14 : Int32)).toNatClampNeg) by decide) dX2_init_49 (fun H locs hP hD hS => ?_)
  have hP : va_P G vwCl [(po_a, .inr (2, [.int 0, .int 0, .int 0, .int 0, .ref q1, .ref q2, .ref q3, .ref q4])), aI K q1 4 (fun _ => 0), aI K q2 20 (fun _ => 0), (q3, .inl (K 2, 20, .inr (.inr (.inr (.inr (va_up (va_up (va_up (va_up (va_up (va_up (va_up (va_up (va_up (va_up (va_up (va_up (va_up (va_up (va_up (fun _ => none) 0 (some p1)) 1 (some p1)) 2 (some p1)) 3 (some p1)) 4 (some p1)) 5 (some p1)) 6 (some p1)) 7 (some p1)) 8 (some p1)) 9 (some p1)) 10 (some p1)) 11 (some p1)) 12 (some p1)) 13 (some p1)) 14 (some p1))))))), aI K q4 4 (fun _ => 0)] H := hP
  have hD : va_D A [(po_a, .inr (2, [.int 0, .int 0, .int 0, .int 0, .ref q1, .ref q2, .ref q3, .ref q4])), aI K q1 4 (fun _ => 0), aI K q2 20 (fun _ => 0), (q3, .inl (K 2, 20, .inr (.inr (.inr (.inr (va_up (va_up (va_up (va_up (va_up (va_up (va_up (va_up (va_up (va_up (va_up (va_up (va_up (va_up (va_up (fun _ => none) 0 (some p1)) 1 (some p1)) 2 (some p1)) 3 (some p1)) 4 (some p1)) 5 (some p1)) 6 (some p1)) 7 (some p1)) 8 (some p1)) 9 (some p1)) 10 (some p1)) 11 (some p1)) 12 (some p1)) 13 (some p1)) 14 (some p1))))))), aI K q4 4 (fun _ => 0)] := hD
  refine lv_iinc (v := 15) (lv' := [(2, .int (15 : Int32)), (0, .ref po_a), (1, .ref p1)]) hx hb dX2_init_50 hl (k := 0) rfl (by decide) (by decide) rfl (fun ls hl => ?_)
  refine lv_goto (tgt := 37) hx hb dX2_init_53 (by decide) ?_
  refine lv_iload_n hx hb dX2_init_37 rfl (lv_at hl 0 rfl) ?_
  refine lv_bipush (v := 20) hx hb dX2_init_38 (by decide) ?_
  refine lv_icmp_ge (tgt := 56) hx hb dX2_init_40 (by decide) (fun c9 => absurd c9 (by decide)) (fun _ => ?_)
  refine lv_aload_n hx hb dX2_init_43 rfl (lv_at hl 1 rfl) ?_
  refine va_get (D := G) (ci := 2) (v := .ref q3) (C := RX2) (T := TX2) (N := 8) hx hb hts inX2 hown hK hP 0 rfl rfl 6 (by decide) (hts _ tb193) (fun _ h9 => h9) rfl dX2_init_44 ?_
  refine lv_iload_n hx hb dX2_init_47 rfl (lv_at hl 0 rfl) ?_
  refine lv_aload_n hx hb dX2_init_48 rfl (lv_at hl 2 rfl) ?_
  refine va_astqM hx hb hK hP hD hS 3 2 rfl rfl (sp_any hK (sp_at hE.1 hS hp)) (show ¬ ((15 : Int32) < 0 ∨ 20 ≤ ((15 : Int32)).toNatClampNeg) by decide) dX2_init_49 (fun H locs hP hD hS => ?_)
  have hP : va_P G vwCl [(po_a, .inr (2, [.int 0, .int 0, .int 0, .int 0, .ref q1, .ref q2, .ref q3, .ref q4])), aI K q1 4 (fun _ => 0), aI K q2 20 (fun _ => 0), (q3, .inl (K 2, 20, .inr (.inr (.inr (.inr (va_up (va_up (va_up (va_up (va_up (va_up (va_up (va_up (va_up (va_up (va_up (va_up (va_up (va_up (va_up (va_up (fun _ => none) 0 (some p1)) 1 (some p1)) 2 (some p1)) 3 (some p1)) 4 (some p1)) 5 (some p1)) 6 (some p1)) 7 (some p1)) 8 (some p1)) 9 (some p1)) 10 (some p1)) 11 (some p1)) 12 (some p1)) 13 (some p1)) 14 (some p1)) 15 (some p1))))))), aI K q4 4 (fun _ => 0)] H := hP
  have hD : va_D A [(po_a, .inr (2, [.int 0, .int 0, .int 0, .int 0, .ref q1, .ref q2, .ref q3, .ref q4])), aI K q1 4 (fun _ => 0), aI K q2 20 (fun _ => 0), (q3, .inl (K 2, 20, .inr (.inr (.inr (.inr (va_up (va_up (va_up (va_up (va_up (va_up (va_up (va_up (va_up (va_up (va_up (va_up (va_up (va_up (va_up (va_up (fun _ => none) 0 (some p1)) 1 (some p1)) 2 (some p1)) 3 (some p1)) 4 (some p1)) 5 (some p1)) 6 (some p1)) 7 (some p1)) 8 (some p1)) 9 (some p1)) 10 (some p1)) 11 (some p1)) 12 (some p1)) 13 (some p1)) 14 (some p1)) 15 (some p1))))))), aI K q4 4 (fun _ => 0)] := hD
  refine lv_iinc (v := 16) (lv' := [(2, .int (16 : Int32)), (0, .ref po_a), (1, .ref p1)]) hx hb dX2_init_50 hl (k := 0) rfl (by decide) (by decide) rfl (fun ls hl => ?_)
  refine lv_goto (tgt := 37) hx hb dX2_init_53 (by decide) ?_
  refine lv_iload_n hx hb dX2_init_37 rfl (lv_at hl 0 rfl) ?_
  refine lv_bipush (v := 20) hx hb dX2_init_38 (by decide) ?_
  refine lv_icmp_ge (tgt := 56) hx hb dX2_init_40 (by decide) (fun c9 => absurd c9 (by decide)) (fun _ => ?_)
  refine lv_aload_n hx hb dX2_init_43 rfl (lv_at hl 1 rfl) ?_
  refine va_get (D := G) (ci := 2) (v := .ref q3) (C := RX2) (T := TX2) (N := 8) hx hb hts inX2 hown hK hP 0 rfl rfl 6 (by decide) (hts _ tb193) (fun _ h9 => h9) rfl dX2_init_44 ?_
  refine lv_iload_n hx hb dX2_init_47 rfl (lv_at hl 0 rfl) ?_
  refine lv_aload_n hx hb dX2_init_48 rfl (lv_at hl 2 rfl) ?_
  refine va_astqM hx hb hK hP hD hS 3 2 rfl rfl (sp_any hK (sp_at hE.1 hS hp)) (show ¬ ((16 : Int32) < 0 ∨ 20 ≤ ((16 : Int32)).toNatClampNeg) by decide) dX2_init_49 (fun H locs hP hD hS => ?_)
  have hP : va_P G vwCl [(po_a, .inr (2, [.int 0, .int 0, .int 0, .int 0, .ref q1, .ref q2, .ref q3, .ref q4])), aI K q1 4 (fun _ => 0), aI K q2 20 (fun _ => 0), (q3, .inl (K 2, 20, .inr (.inr (.inr (.inr (va_up (va_up (va_up (va_up (va_up (va_up (va_up (va_up (va_up (va_up (va_up (va_up (va_up (va_up (va_up (va_up (va_up (fun _ => none) 0 (some p1)) 1 (some p1)) 2 (some p1)) 3 (some p1)) 4 (some p1)) 5 (some p1)) 6 (some p1)) 7 (some p1)) 8 (some p1)) 9 (some p1)) 10 (some p1)) 11 (some p1)) 12 (some p1)) 13 (some p1)) 14 (some p1)) 15 (some p1)) 16 (some p1))))))), aI K q4 4 (fun _ => 0)] H := hP
  have hD : va_D A [(po_a, .inr (2, [.int 0, .int 0, .int 0, .int 0, .ref q1, .ref q2, .ref q3, .ref q4])), aI K q1 4 (fun _ => 0), aI K q2 20 (fun _ => 0), (q3, .inl (K 2, 20, .inr (.inr (.inr (.inr (va_up (va_up (va_up (va_up (va_up (va_up (va_up (va_up (va_up (va_up (va_up (va_up (va_up (va_up (va_up (va_up (va_up (fun _ => none) 0 (some p1)) 1 (some p1)) 2 (some p1)) 3 (some p1)) 4 (some p1)) 5 (some p1)) 6 (some p1)) 7 (some p1)) 8 (some p1)) 9 (some p1)) 10 (some p1)) 11 (some p1)) 12 (some p1)) 13 (some p1)) 14 (some p1)) 15 (some p1)) 16 (some p1))))))), aI K q4 4 (fun _ => 0)] := hD
  refine lv_iinc (v := 17) (lv' := [(2, .int (17 : Int32)), (0, .ref po_a), (1, .ref p1)]) hx hb dX2_init_50 hl (k := 0) rfl (by decide) (by decide) rfl (fun ls hl => ?_)
  refine lv_goto (tgt := 37) hx hb dX2_init_53 (by decide) ?_
  refine lv_iload_n hx hb dX2_init_37 rfl (lv_at hl 0 rfl) ?_
  refine lv_bipush (v := 20) hx hb dX2_init_38 (by decide) ?_
  refine lv_icmp_ge (tgt := 56) hx hb dX2_init_40 (by decide) (fun c9 => absurd c9 (by decide)) (fun _ => ?_)
  refine lv_aload_n hx hb dX2_init_43 rfl (lv_at hl 1 rfl) ?_
  refine va_get (D := G) (ci := 2) (v := .ref q3) (C := RX2) (T := TX2) (N := 8) hx hb hts inX2 hown hK hP 0 rfl rfl 6 (by decide) (hts _ tb193) (fun _ h9 => h9) rfl dX2_init_44 ?_
  refine lv_iload_n hx hb dX2_init_47 rfl (lv_at hl 0 rfl) ?_
  refine lv_aload_n hx hb dX2_init_48 rfl (lv_at hl 2 rfl) ?_
  refine va_astqM hx hb hK hP hD hS 3 2 rfl rfl (sp_any hK (sp_at hE.1 hS hp)) (show ¬ ((17 : Int32) < 0 ∨ 20 ≤ ((17 : Int32)).toNatClampNeg) by decide) dX2_init_49 (fun H locs hP hD hS => ?_)
  have hP : va_P G vwCl [(po_a, .inr (2, [.int 0, .int 0, .int 0, .int 0, .ref q1, .ref q2, .ref q3, .ref q4])), aI K q1 4 (fun _ => 0), aI K q2 20 (fun _ => 0), (q3, .inl (K 2, 20, .inr (.inr (.inr (.inr (va_up (va_up (va_up (va_up (va_up (va_up (va_up (va_up (va_up (va_up (va_up (va_up (va_up (va_up (va_up (va_up (va_up (va_up (fun _ => none) 0 (some p1)) 1 (some p1)) 2 (some p1)) 3 (some p1)) 4 (some p1)) 5 (some p1)) 6 (some p1)) 7 (some p1)) 8 (some p1)) 9 (some p1)) 10 (some p1)) 11 (some p1)) 12 (some p1)) 13 (some p1)) 14 (some p1)) 15 (some p1)) 16 (some p1)) 17 (some p1))))))), aI K q4 4 (fun _ => 0)] H := hP
  have hD : va_D A [(po_a, .inr (2, [.int 0, .int 0, .int 0, .int 0, .ref q1, .ref q2, .ref q3, .ref q4])), aI K q1 4 (fun _ => 0), aI K q2 20 (fun _ => 0), (q3, .inl (K 2, 20, .inr (.inr (.inr (.inr (va_up (va_up (va_up (va_up (va_up (va_up (va_up (va_up (va_up (va_up (va_up (va_up (va_up (va_up (va_up (va_up (va_up (va_up (fun _ => none) 0 (some p1)) 1 (some p1)) 2 (some p1)) 3 (some p1)) 4 (some p1)) 5 (some p1)) 6 (some p1)) 7 (some p1)) 8 (some p1)) 9 (some p1)) 10 (some p1)) 11 (some p1)) 12 (some p1)) 13 (some p1)) 14 (some p1)) 15 (some p1)) 16 (some p1)) 17 (some p1))))))), aI K q4 4 (fun _ => 0)] := hD
  refine lv_iinc (v := 18) (lv' := [(2, .int (18 : Int32)), (0, .ref po_a), (1, .ref p1)]) hx hb dX2_init_50 hl (k := 0) rfl (by decide) (by decide) rfl (fun ls hl => ?_)
  refine lv_goto (tgt := 37) hx hb dX2_init_53 (by decide) ?_
  refine lv_iload_n hx hb dX2_init_37 rfl (lv_at hl 0 rfl) ?_
  refine lv_bipush (v := 20) hx hb dX2_init_38 (by decide) ?_
  refine lv_icmp_ge (tgt := 56) hx hb dX2_init_40 (by decide) (fun c9 => absurd c9 (by decide)) (fun _ => ?_)
  refine lv_aload_n hx hb dX2_init_43 rfl (lv_at hl 1 rfl) ?_
  refine va_get (D := G) (ci := 2) (v := .ref q3) (C := RX2) (T := TX2) (N := 8) hx hb hts inX2 hown hK hP 0 rfl rfl 6 (by decide) (hts _ tb193) (fun _ h9 => h9) rfl dX2_init_44 ?_
  refine lv_iload_n hx hb dX2_init_47 rfl (lv_at hl 0 rfl) ?_
  refine lv_aload_n hx hb dX2_init_48 rfl (lv_at hl 2 rfl) ?_
  refine va_astqM hx hb hK hP hD hS 3 2 rfl rfl (sp_any hK (sp_at hE.1 hS hp)) (show ¬ ((18 : Int32) < 0 ∨ 20 ≤ ((18 : Int32)).toNatClampNeg) by decide) dX2_init_49 (fun H locs hP hD hS => ?_)
  have hP : va_P G vwCl [(po_a, .inr (2, [.int 0, .int 0, .int 0, .int 0, .ref q1, .ref q2, .ref q3, .ref q4])), aI K q1 4 (fun _ => 0), aI K q2 20 (fun _ => 0), (q3, .inl (K 2, 20, .inr (.inr (.inr (.inr (va_up (va_up (va_up (va_up (va_up (va_up (va_up (va_up (va_up (va_up (va_up (va_up (va_up (va_up (va_up (va_up (va_up (va_up (va_up (fun _ => none) 0 (some p1)) 1 (some p1)) 2 (some p1)) 3 (some p1)) 4 (some p1)) 5 (some p1)) 6 (some p1)) 7 (some p1)) 8 (some p1)) 9 (some p1)) 10 (some p1)) 11 (some p1)) 12 (some p1)) 13 (some p1)) 14 (some p1)) 15 (some p1)) 16 (some p1)) 17 (some p1)) 18 (some p1))))))), aI K q4 4 (fun _ => 0)] H := hP
  have hD : va_D A [(po_a, .inr (2, [.int 0, .int 0, .int 0, .int 0, .ref q1, .ref q2, .ref q3, .ref q4])), aI K q1 4 (fun _ => 0), aI K q2 20 (fun _ => 0), (q3, .inl (K 2, 20, .inr (.inr (.inr (.inr (va_up (va_up (va_up (va_up (va_up (va_up (va_up (va_up (va_up (va_up (va_up (va_up (va_up (va_up (va_up (va_up (va_up (va_up (va_up (fun _ => none) 0 (some p1)) 1 (some p1)) 2 (some p1)) 3 (some p1)) 4 (some p1)) 5 (some p1)) 6 (some p1)) 7 (some p1)) 8 (some p1)) 9 (some p1)) 10 (some p1)) 11 (some p1)) 12 (some p1)) 13 (some p1)) 14 (some p1)) 15 (some p1)) 16 (some p1)) 17 (some p1)) 18 (some p1))))))), aI K q4 4 (fun _ => 0)] := hD
  refine lv_iinc (v := 19) (lv' := [(2, .int (19 : Int32)), (0, .ref po_a), (1, .ref p1)]) hx hb dX2_init_50 hl (k := 0) rfl (by decide) (by decide) rfl (fun ls hl => ?_)
  refine lv_goto (tgt := 37) hx hb dX2_init_53 (by decide) ?_
  refine lv_iload_n hx hb dX2_init_37 rfl (lv_at hl 0 rfl) ?_
  refine lv_bipush (v := 20) hx hb dX2_init_38 (by decide) ?_
  refine lv_icmp_ge (tgt := 56) hx hb dX2_init_40 (by decide) (fun c9 => absurd c9 (by decide)) (fun _ => ?_)
  refine lv_aload_n hx hb dX2_init_43 rfl (lv_at hl 1 rfl) ?_
  refine va_get (D := G) (ci := 2) (v := .ref q3) (C := RX2) (T := TX2) (N := 8) hx hb hts inX2 hown hK hP 0 rfl rfl 6 (by decide) (hts _ tb193) (fun _ h9 => h9) rfl dX2_init_44 ?_
  refine lv_iload_n hx hb dX2_init_47 rfl (lv_at hl 0 rfl) ?_
  refine lv_aload_n hx hb dX2_init_48 rfl (lv_at hl 2 rfl) ?_
  refine va_astqM hx hb hK hP hD hS 3 2 rfl rfl (sp_any hK (sp_at hE.1 hS hp)) (show ¬ ((19 : Int32) < 0 ∨ 20 ≤ ((19 : Int32)).toNatClampNeg) by decide) dX2_init_49 (fun H locs hP hD hS => ?_)
  have hP : va_P G vwCl [(po_a, .inr (2, [.int 0, .int 0, .int 0, .int 0, .ref q1, .ref q2, .ref q3, .ref q4])), aI K q1 4 (fun _ => 0), aI K q2 20 (fun _ => 0), (q3, .inl (K 2, 20, .inr (.inr (.inr (.inr (va_up (va_up (va_up (va_up (va_up (va_up (va_up (va_up (va_up (va_up (va_up (va_up (va_up (va_up (va_up (va_up (va_up (va_up (va_up (va_up (fun _ => none) 0 (some p1)) 1 (some p1)) 2 (some p1)) 3 (some p1)) 4 (some p1)) 5 (some p1)) 6 (some p1)) 7 (some p1)) 8 (some p1)) 9 (some p1)) 10 (some p1)) 11 (some p1)) 12 (some p1)) 13 (some p1)) 14 (some p1)) 15 (some p1)) 16 (some p1)) 17 (some p1)) 18 (some p1)) 19 (some p1))))))), aI K q4 4 (fun _ => 0)] H := hP
  have hD : va_D A [(po_a, .inr (2, [.int 0, .int 0, .int 0, .int 0, .ref q1, .ref q2, .ref q3, .ref q4])), aI K q1 4 (fun _ => 0), aI K q2 20 (fun _ => 0), (q3, .inl (K 2, 20, .inr (.inr (.inr (.inr (va_up (va_up (va_up (va_up (va_up (va_up (va_up (va_up (va_up (va_up (va_up (va_up (va_up (va_up (va_up (va_up (va_up (va_up (va_up (va_up (fun _ => none) 0 (some p1)) 1 (some p1)) 2 (some p1)) 3 (some p1)) 4 (some p1)) 5 (some p1)) 6 (some p1)) 7 (some p1)) 8 (some p1)) 9 (some p1)) 10 (some p1)) 11 (some p1)) 12 (some p1)) 13 (some p1)) 14 (some p1)) 15 (some p1)) 16 (some p1)) 17 (some p1)) 18 (some p1)) 19 (some p1))))))), aI K q4 4 (fun _ => 0)] := hD
  refine lv_iinc (v := 20) (lv' := [(2, .int (20 : Int32)), (0, .ref po_a), (1, .ref p1)]) hx hb dX2_init_50 hl (k := 0) rfl (by decide) (by decide) rfl (fun ls hl => ?_)
  refine lv_goto (tgt := 37) hx hb dX2_init_53 (by decide) ?_
  refine lv_iload_n hx hb dX2_init_37 rfl (lv_at hl 0 rfl) ?_
  refine lv_bipush (v := 20) hx hb dX2_init_38 (by decide) ?_
  refine lv_icmp_ge (tgt := 56) hx hb dX2_init_40 (by decide) (fun _ => ?_) (fun c9 => absurd (by decide) c9)
  have hP := va_P_tell hP 3 (aS K q3 20 (fun _ => p1)) (vp_same (f := (va_up (va_up (va_up (va_up (va_up (va_up (va_up (va_up (va_up (va_up (va_up (va_up (va_up (va_up (va_up (va_up (va_up (va_up (va_up (va_up (fun _ => none) 0 (some p1)) 1 (some p1)) 2 (some p1)) 3 (some p1)) 4 (some p1)) 5 (some p1)) 6 (some p1)) 7 (some p1)) 8 (some p1)) 9 (some p1)) 10 (some p1)) 11 (some p1)) 12 (some p1)) 13 (some p1)) 14 (some p1)) 15 (some p1)) 16 (some p1)) 17 (some p1)) 18 (some p1)) 19 (some p1))) (fun j hj => by rcases (show j = 0 ∨ j = 1 ∨ j = 2 ∨ j = 3 ∨ j = 4 ∨ j = 5 ∨ j = 6 ∨ j = 7 ∨ j = 8 ∨ j = 9 ∨ j = 10 ∨ j = 11 ∨ j = 12 ∨ j = 13 ∨ j = 14 ∨ j = 15 ∨ j = 16 ∨ j = 17 ∨ j = 18 ∨ j = 19 by omega) with rfl | rfl | rfl | rfl | rfl | rfl | rfl | rfl | rfl | rfl | rfl | rfl | rfl | rfl | rfl | rfl | rfl | rfl | rfl | rfl <;> rfl) (hP 3 _ rfl))
  have hP : va_P G vwCl [(po_a, .inr (2, [.int 0, .int 0, .int 0, .int 0, .ref q1, .ref q2, .ref q3, .ref q4])), aI K q1 4 (fun _ => 0), aI K q2 20 (fun _ => 0), aS K q3 20 (fun _ => p1), aI K q4 4 (fun _ => 0)] H := hP
  have hD : va_D A [(po_a, .inr (2, [.int 0, .int 0, .int 0, .int 0, .ref q1, .ref q2, .ref q3, .ref q4])), aI K q1 4 (fun _ => 0), aI K q2 20 (fun _ => 0), aS K q3 20 (fun _ => p1), aI K q4 4 (fun _ => 0)] := va_D_adr (ws := [(po_a, .inr (2, [.int 0, .int 0, .int 0, .int 0, .ref q1, .ref q2, .ref q3, .ref q4])), aI K q1 4 (fun _ => 0), aI K q2 20 (fun _ => 0), (q3, .inl (K 2, 20, .inr (.inr (.inr (.inr (va_up (va_up (va_up (va_up (va_up (va_up (va_up (va_up (va_up (va_up (va_up (va_up (va_up (va_up (va_up (va_up (va_up (va_up (va_up (va_up (fun _ => none) 0 (some p1)) 1 (some p1)) 2 (some p1)) 3 (some p1)) 4 (some p1)) 5 (some p1)) 6 (some p1)) 7 (some p1)) 8 (some p1)) 9 (some p1)) 10 (some p1)) 11 (some p1)) 12 (some p1)) 13 (some p1)) 14 (some p1)) 15 (some p1)) 16 (some p1)) 17 (some p1)) 18 (some p1)) 19 (some p1))))))), aI K q4 4 (fun _ => 0)]) rfl hD
  refine W.widen (k := 4) (n := 48) (Nat.le_of_ble_eq_true rfl) (Nat.le_of_ble_eq_true rfl) ?_
  exact W.vret hx hb hr (fun t ht hW => ⟨⟨(fun j => ([q1, q2, q3, q4] : List Nat).getD j 0), rfl, trivial, (show va_P G vwCl _ t.heap by rw [ht]; exact hP), hD⟩, hS.F ht⟩) hS.2.2 dX2_init_56
def rmX0_init : Room := { frames := 1, cells := 5, slots := 120, locals := 20 }
theorem hdX0_init : yX0_init.cls ≠ "java/lang/invoke/MethodHandle" ∧ yX0_init.cls ≠ "java/lang/invoke/VarHandle" ∧ (parseMethodDescriptor yX0_init.desc).map (fun d => d.parameters.length) = some 1 := by decide +kernel
set_option maxHeartbeats 40000000 in
set_option maxRecDepth 100000 in
theorem kX0_init (l : Launch) (G : va_G) (K : Nat → ClassId) (tt : Nat → Nat) (L : List Nat) (la : Nat → Nat) (sa : Nat → Nat) (ln : Nat → Int32) (sy : Nat → Int32) (sn : Nat → Int32) (lt : Nat → Nat → Int32) (st : Nat → Nat → Int32) (ac_a p1 : Nat)   (sz : Nat) (hp : p1 ∈ L) : Met l yX0_init (mC yX0_init cX0_init 3 none) rmX0_init (va_Pc [.ref ac_a, .ref p1] (PCe G K (EK G K tt L la sa ln sy sn lt st) [(ac_a, .inr (0, [.null, .null, .null, .null, .null, .int 0, .int 0]))] sz)) (va_Qv (fun (_ : Nat → Nat) => True) (fun u t => va_P G vwCl ([(ac_a, .inr (0, [.ref (u 0), .ref (u 1), .ref (u 2), .ref (u 3), .ref (u 4), .int 0, .int 0]))] ++ [aI K (u 0) 24 (fun _ => 0), aI K (u 1) 24 (fun _ => 0), aI K (u 2) 24 (fun _ => 0), aI K (u 3) 24 (fun _ => 0), aS K (u 4) 24 (fun _ => p1)]) t.heap ∧ va_D (va_A [(ac_a, .inr (0, [.null, .null, .null, .null, .null, .int 0, .int 0]))] sz) ([(ac_a, .inr (0, [.ref (u 0), .ref (u 1), .ref (u 2), .ref (u 3), .ref (u 4), .int 0, .int 0]))] ++ [aI K (u 0) 24 (fun _ => 0), aI K (u 1) 24 (fun _ => 0), aI K (u 2) 24 (fun _ => 0), aI K (u 3) 24 (fun _ => 0), aS K (u 4) 24 (fun _ => p1)])) (va_A [(ac_a, .inr (0, [.null, .null, .null, .null, .null, .int 0, .int 0]))] sz)) rmX0_init.cells rmX0_init.slots (va_A [(ac_a, .inr (0, [.null, .null, .null, .null, .null, .int 0, .int 0]))] sz) := by
  refine Met.ofW (cc := cX0_init) (maxL := 3) (ret := none) (by decide) rfl ?_
  intro p e s m args below meth c s₁ B hml hv
  obtain ⟨rfl, hsz, hP, hK, hD0, hE⟩ := hv
  have hx := B.exec
  have hb := B.bytes
  have hr := B.returns
  have hts0 := atoms_spec (ws := mC yX0_init cX0_init 3 none) B.pre
  have hts : ∀ w ∈ tbG, w.before _ s = true := fun w h => hts0 w (List.mem_cons_of_mem _ h)
  have hown : s.vm.findClass RX0 = some m.cls := findClass_of_methodNamed B.named
  have hin : meth.name = "<init>" := (name_of_methodNamed B.named B.method).1
  subst hsz
  have hD := hD0.self (sz := s.heap.size)
  generalize hAe : va_A [(ac_a, .inr (0, [.null, .null, .null, .null, .null, .int 0, .int 0]))] s.heap.size = A at hD hE ⊢
  have hA : ∀ q : Nat, s.heap.size ≤ q → A q := fun q h => by rw [← hAe]; exact Or.inr h
  have hS : va_S A s.heap s.heap [] := va_S.rf
  have hl := lv_entry ([.ref ac_a, .ref p1]) (n := 3) (Nat.le_of_ble_eq_true rfl)
  rw [lg_entry_eq]
  generalize (lg_sl ([.ref ac_a, .ref p1]) ++ List.replicate (3 - (lg_sl ([.ref ac_a, .ref p1])).length) Slot.unset).toArray = ls at hl ⊢
  have hl : lv_has ls 3 [(0, .ref ac_a), (1, .ref p1)] := hl
  have C0 : CX p s m _ c cX0_init 3 RX0 G K (EK G K tt L la sa ln sy sn lt st) A := ⟨hx, hb, hml, hown, hts, hK, hA, EK_ok _ _ _ _ _ _ _ _ _ _ _, hE⟩
  refine lv_aload_n hx hb dX0_init_0 rfl (lv_at hl 0 rfl) ?_
  refine W.objInit hx hb hown (hts _ tb220) (hts _ tb18) (hts _ tb19) rfl (by rw [hml]; exact hl.1) rfl dX0_init_1 (Nat.le_of_ble_eq_true rfl) (Nat.le_of_ble_eq_true rfl) ?_
  refine W.eq (g2 := F0 m 4 ls []) rfl ?_
  refine lv_aload_n hx hb dX0_init_4 rfl (lv_at hl 0 rfl) ?_
  refine lv_bipush (v := 24) hx hb dX0_init_5 (by decide) ?_
  refine va_newa (atype := .int) (ty := .int) (a0 := (24, .inl (fun _ => 0))) (N' := 24) hx hb (hts _ tb51) rfl hK hP hD hS hA (fun _ => rfl) (by decide) (by decide) (by decide) (Nat.le_of_ble_eq_true rfl) (Nat.le_of_ble_eq_true rfl) dX0_init_7 (fun q1 cA H hK2 hP hD hS => ?_)
  have eA := vn_ci hK hK2
  subst eA
  have hP : va_P G vwCl [(ac_a, .inr (0, [.null, .null, .null, .null, .null, .int 0, .int 0])), aI K q1 24 (fun _ => 0)] H := hP
  have hD : va_D A [(ac_a, .inr (0, [.null, .null, .null, .null, .null, .int 0, .int 0])), aI K q1 24 (fun _ => 0)] := hD
  refine va_putF (D := G) (ci := 0) (v := .ref q1) (ty := tyX0 0) (C := RX0) (T := TX0) (N := 7) hx hb hts inX0 tyX0 tyX0_ok nmX0 hown hK hP hD hS 0 rfl rfl 0 (by decide) (hts _ tb222) (fun _ h9 => h9) rfl hin rfl (tyX0_ok 0 (by decide)) rfl rfl (Nat.le_of_ble_eq_true rfl) dX0_init_9 (fun H locs hP hD hS => ?_)
  have hP : va_P G vwCl [(ac_a, .inr (0, [.ref q1, .null, .null, .null, .null, .int 0, .int 0])), aI K q1 24 (fun _ => 0)] H := hP
  have hD : va_D A [(ac_a, .inr (0, [.ref q1, .null, .null, .null, .null, .int 0, .int 0])), aI K q1 24 (fun _ => 0)] := hD
  refine lv_aload_n hx hb dX0_init_12 rfl (lv_at hl 0 rfl) ?_
  refine lv_bipush (v := 24) hx hb dX0_init_13 (by decide) ?_
  refine va_newa (atype := .int) (ty := .int) (a0 := (24, .inl (fun _ => 0))) (N' := 24) hx hb (hts _ tb51) rfl hK hP hD hS hA (fun _ => rfl) (by decide) (by decide) (by decide) (Nat.le_of_ble_eq_true rfl) (Nat.le_of_ble_eq_true rfl) dX0_init_15 (fun q2 cA H hK2 hP hD hS => ?_)
  have eA := vn_ci hK hK2
  subst eA
  have hP : va_P G vwCl [(ac_a, .inr (0, [.ref q1, .null, .null, .null, .null, .int 0, .int 0])), aI K q1 24 (fun _ => 0), aI K q2 24 (fun _ => 0)] H := hP
  have hD : va_D A [(ac_a, .inr (0, [.ref q1, .null, .null, .null, .null, .int 0, .int 0])), aI K q1 24 (fun _ => 0), aI K q2 24 (fun _ => 0)] := hD
  refine va_putF (D := G) (ci := 0) (v := .ref q2) (ty := tyX0 1) (C := RX0) (T := TX0) (N := 7) hx hb hts inX0 tyX0 tyX0_ok nmX0 hown hK hP hD hS 0 rfl rfl 1 (by decide) (hts _ tb223) (fun _ h9 => h9) rfl hin rfl (tyX0_ok 1 (by decide)) rfl rfl (Nat.le_of_ble_eq_true rfl) dX0_init_17 (fun H locs hP hD hS => ?_)
  have hP : va_P G vwCl [(ac_a, .inr (0, [.ref q1, .ref q2, .null, .null, .null, .int 0, .int 0])), aI K q1 24 (fun _ => 0), aI K q2 24 (fun _ => 0)] H := hP
  have hD : va_D A [(ac_a, .inr (0, [.ref q1, .ref q2, .null, .null, .null, .int 0, .int 0])), aI K q1 24 (fun _ => 0), aI K q2 24 (fun _ => 0)] := hD
  refine lv_aload_n hx hb dX0_init_20 rfl (lv_at hl 0 rfl) ?_
  refine lv_bipush (v := 24) hx hb dX0_init_21 (by decide) ?_
  refine va_newa (atype := .int) (ty := .int) (a0 := (24, .inl (fun _ => 0))) (N' := 24) hx hb (hts _ tb51) rfl hK hP hD hS hA (fun _ => rfl) (by decide) (by decide) (by decide) (Nat.le_of_ble_eq_true rfl) (Nat.le_of_ble_eq_true rfl) dX0_init_23 (fun q3 cA H hK2 hP hD hS => ?_)
  have eA := vn_ci hK hK2
  subst eA
  have hP : va_P G vwCl [(ac_a, .inr (0, [.ref q1, .ref q2, .null, .null, .null, .int 0, .int 0])), aI K q1 24 (fun _ => 0), aI K q2 24 (fun _ => 0), aI K q3 24 (fun _ => 0)] H := hP
  have hD : va_D A [(ac_a, .inr (0, [.ref q1, .ref q2, .null, .null, .null, .int 0, .int 0])), aI K q1 24 (fun _ => 0), aI K q2 24 (fun _ => 0), aI K q3 24 (fun _ => 0)] := hD
  refine va_putF (D := G) (ci := 0) (v := .ref q3) (ty := tyX0 2) (C := RX0) (T := TX0) (N := 7) hx hb hts inX0 tyX0 tyX0_ok nmX0 hown hK hP hD hS 0 rfl rfl 2 (by decide) (hts _ tb224) (fun _ h9 => h9) rfl hin rfl (tyX0_ok 2 (by decide)) rfl rfl (Nat.le_of_ble_eq_true rfl) dX0_init_25 (fun H locs hP hD hS => ?_)
  have hP : va_P G vwCl [(ac_a, .inr (0, [.ref q1, .ref q2, .ref q3, .null, .null, .int 0, .int 0])), aI K q1 24 (fun _ => 0), aI K q2 24 (fun _ => 0), aI K q3 24 (fun _ => 0)] H := hP
  have hD : va_D A [(ac_a, .inr (0, [.ref q1, .ref q2, .ref q3, .null, .null, .int 0, .int 0])), aI K q1 24 (fun _ => 0), aI K q2 24 (fun _ => 0), aI K q3 24 (fun _ => 0)] := hD
  refine lv_aload_n hx hb dX0_init_28 rfl (lv_at hl 0 rfl) ?_
  refine lv_bipush (v := 24) hx hb dX0_init_29 (by decide) ?_
  refine va_newa (atype := .int) (ty := .int) (a0 := (24, .inl (fun _ => 0))) (N' := 24) hx hb (hts _ tb51) rfl hK hP hD hS hA (fun _ => rfl) (by decide) (by decide) (by decide) (Nat.le_of_ble_eq_true rfl) (Nat.le_of_ble_eq_true rfl) dX0_init_31 (fun q4 cA H hK2 hP hD hS => ?_)
  have eA := vn_ci hK hK2
  subst eA
  have hP : va_P G vwCl [(ac_a, .inr (0, [.ref q1, .ref q2, .ref q3, .null, .null, .int 0, .int 0])), aI K q1 24 (fun _ => 0), aI K q2 24 (fun _ => 0), aI K q3 24 (fun _ => 0), aI K q4 24 (fun _ => 0)] H := hP
  have hD : va_D A [(ac_a, .inr (0, [.ref q1, .ref q2, .ref q3, .null, .null, .int 0, .int 0])), aI K q1 24 (fun _ => 0), aI K q2 24 (fun _ => 0), aI K q3 24 (fun _ => 0), aI K q4 24 (fun _ => 0)] := hD
  refine va_putF (D := G) (ci := 0) (v := .ref q4) (ty := tyX0 3) (C := RX0) (T := TX0) (N := 7) hx hb hts inX0 tyX0 tyX0_ok nmX0 hown hK hP hD hS 0 rfl rfl 3 (by decide) (hts _ tb225) (fun _ h9 => h9) rfl hin rfl (tyX0_ok 3 (by decide)) rfl rfl (Nat.le_of_ble_eq_true rfl) dX0_init_33 (fun H locs hP hD hS => ?_)
  have hP : va_P G vwCl [(ac_a, .inr (0, [.ref q1, .ref q2, .ref q3, .ref q4, .null, .int 0, .int 0])), aI K q1 24 (fun _ => 0), aI K q2 24 (fun _ => 0), aI K q3 24 (fun _ => 0), aI K q4 24 (fun _ => 0)] H := hP
  have hD : va_D A [(ac_a, .inr (0, [.ref q1, .ref q2, .ref q3, .ref q4, .null, .int 0, .int 0])), aI K q1 24 (fun _ => 0), aI K q2 24 (fun _ => 0), aI K q3 24 (fun _ => 0), aI K q4 24 (fun _ => 0)] := hD
  refine lv_aload_n hx hb dX0_init_36 rfl (lv_at hl 0 rfl) ?_
  refine lv_bipush (v := 24) hx hb dX0_init_37 (by decide) ?_
  refine va_newq (C := RX5) (N' := 24) hx hb hown (hts _ tb221) hE.2.2.1 hK hP hD hS hA (by decide) (by decide) (by decide) (Nat.le_of_ble_eq_true rfl) (Nat.le_of_ble_eq_true rfl) dX0_init_39 (fun q5 cA H hK2 hP hD hS => ?_)
  have eA := vn_cq (t := 2) hK rfl hK2
  subst eA
  have hP : va_P G vwCl [(ac_a, .inr (0, [.ref q1, .ref q2, .ref q3, .ref q4, .null, .int 0, .int 0])), aI K q1 24 (fun _ => 0), aI K q2 24 (fun _ => 0), aI K q3 24 (fun _ => 0), aI K q4 24 (fun _ => 0), (q5, .inl (K 2, 24, .inr (.inr (.inr (.inr (fun _ => none))))))] H := hP
  have hD : va_D A [(ac_a, .inr (0, [.ref q1, .ref q2, .ref q3, .ref q4, .null, .int 0, .int 0])), aI K q1 24 (fun _ => 0), aI K q2 24 (fun _ => 0), aI K q3 24 (fun _ => 0), aI K q4 24 (fun _ => 0), (q5, .inl (K 2, 24, .inr (.inr (.inr (.inr (fun _ => none))))))] := hD
  refine va_putF (D := G) (ci := 0) (v := .ref q5) (ty := tyX0 4) (C := RX0) (T := TX0) (N := 7) hx hb hts inX0 tyX0 tyX0_ok nmX0 hown hK hP hD hS 0 rfl rfl 4 (by decide) (hts _ tb226) (fun _ h9 => h9) rfl hin rfl (tyX0_ok 4 (by decide)) rfl rfl (Nat.le_of_ble_eq_true rfl) dX0_init_42 (fun H locs hP hD hS => ?_)
  have hP : va_P G vwCl [(ac_a, .inr (0, [.ref q1, .ref q2, .ref q3, .ref q4, .ref q5, .int 0, .int 0])), aI K q1 24 (fun _ => 0), aI K q2 24 (fun _ => 0), aI K q3 24 (fun _ => 0), aI K q4 24 (fun _ => 0), (q5, .inl (K 2, 24, .inr (.inr (.inr (.inr (fun _ => none))))))] H := hP
  have hD : va_D A [(ac_a, .inr (0, [.ref q1, .ref q2, .ref q3, .ref q4, .ref q5, .int 0, .int 0])), aI K q1 24 (fun _ => 0), aI K q2 24 (fun _ => 0), aI K q3 24 (fun _ => 0), aI K q4 24 (fun _ => 0), (q5, .inl (K 2, 24, .inr (.inr (.inr (.inr (fun _ => none))))))] := hD
  refine lv_iconst (v := 0) hx hb dX0_init_45 (by decide) ?_
  refine lv_istore_n (lv' := [(2, .int (0 : Int32)), (0, .ref ac_a), (1, .ref p1)]) hx hb dX0_init_46 rfl hl (by decide) rfl (fun ls hl => ?_)
  refine lv_iload_n hx hb dX0_init_47 rfl (lv_at hl 0 rfl) ?_
  refine lv_bipush (v := 24) hx hb dX0_init_48 (by decide) ?_
  refine lv_icmp_ge (tgt := 66) hx hb dX0_init_50 (by decide) (fun c9 => absurd c9 (by decide)) (fun _ => ?_)
  refine lv_aload_n hx hb dX0_init_53 rfl (lv_at hl 1 rfl) ?_
  refine va_get (D := G) (ci := 0) (v := .ref q5) (C := RX0) (T := TX0) (N := 7) hx hb hts inX0 hown hK hP 0 rfl rfl 4 (by decide) (hts _ tb226) (fun _ h9 => h9) rfl dX0_init_54 ?_
  refine lv_iload_n hx hb dX0_init_57 rfl (lv_at hl 0 rfl) ?_
  refine lv_aload_n hx hb dX0_init_58 rfl (lv_at hl 2 rfl) ?_
  refine va_astqM hx hb hK hP hD hS 5 2 rfl rfl (sp_any hK (sp_at hE.1 hS hp)) (show ¬ ((0 : Int32) < 0 ∨ 24 ≤ ((0 : Int32)).toNatClampNeg) by decide) dX0_init_59 (fun H locs hP hD hS => ?_)
  have hP : va_P G vwCl [(ac_a, .inr (0, [.ref q1, .ref q2, .ref q3, .ref q4, .ref q5, .int 0, .int 0])), aI K q1 24 (fun _ => 0), aI K q2 24 (fun _ => 0), aI K q3 24 (fun _ => 0), aI K q4 24 (fun _ => 0), (q5, .inl (K 2, 24, .inr (.inr (.inr (.inr (va_up (fun _ => none) 0 (some p1)))))))] H := hP
  have hD : va_D A [(ac_a, .inr (0, [.ref q1, .ref q2, .ref q3, .ref q4, .ref q5, .int 0, .int 0])), aI K q1 24 (fun _ => 0), aI K q2 24 (fun _ => 0), aI K q3 24 (fun _ => 0), aI K q4 24 (fun _ => 0), (q5, .inl (K 2, 24, .inr (.inr (.inr (.inr (va_up (fun _ => none) 0 (some p1)))))))] := hD
  refine lv_iinc (v := 1) (lv' := [(2, .int (1 : Int32)), (0, .ref ac_a), (1, .ref p1)]) hx hb dX0_init_60 hl (k := 0) rfl (by decide) (by decide) rfl (fun ls hl => ?_)
  refine lv_goto (tgt := 47) hx hb dX0_init_63 (by decide) ?_
  refine lv_iload_n hx hb dX0_init_47 rfl (lv_at hl 0 rfl) ?_
  refine lv_bipush (v := 24) hx hb dX0_init_48 (by decide) ?_
  refine lv_icmp_ge (tgt := 66) hx hb dX0_init_50 (by decide) (fun c9 => absurd c9 (by decide)) (fun _ => ?_)
  refine lv_aload_n hx hb dX0_init_53 rfl (lv_at hl 1 rfl) ?_
  refine va_get (D := G) (ci := 0) (v := .ref q5) (C := RX0) (T := TX0) (N := 7) hx hb hts inX0 hown hK hP 0 rfl rfl 4 (by decide) (hts _ tb226) (fun _ h9 => h9) rfl dX0_init_54 ?_
  refine lv_iload_n hx hb dX0_init_57 rfl (lv_at hl 0 rfl) ?_
  refine lv_aload_n hx hb dX0_init_58 rfl (lv_at hl 2 rfl) ?_
  refine va_astqM hx hb hK hP hD hS 5 2 rfl rfl (sp_any hK (sp_at hE.1 hS hp)) (show ¬ ((1 : Int32) < 0 ∨ 24 ≤ ((1 : Int32)).toNatClampNeg) by decide) dX0_init_59 (fun H locs hP hD hS => ?_)
  have hP : va_P G vwCl [(ac_a, .inr (0, [.ref q1, .ref q2, .ref q3, .ref q4, .ref q5, .int 0, .int 0])), aI K q1 24 (fun _ => 0), aI K q2 24 (fun _ => 0), aI K q3 24 (fun _ => 0), aI K q4 24 (fun _ => 0), (q5, .inl (K 2, 24, .inr (.inr (.inr (.inr (va_up (va_up (fun _ => none) 0 (some p1)) 1 (some p1)))))))] H := hP
  have hD : va_D A [(ac_a, .inr (0, [.ref q1, .ref q2, .ref q3, .ref q4, .ref q5, .int 0, .int 0])), aI K q1 24 (fun _ => 0), aI K q2 24 (fun _ => 0), aI K q3 24 (fun _ => 0), aI K q4 24 (fun _ => 0), (q5, .inl (K 2, 24, .inr (.inr (.inr (.inr (va_up (va_up (fun _ => none) 0 (some p1)) 1 (some p1)))))))] := hD
  refine lv_iinc (v := 2) (lv' := [(2, .int (2 : Int32)), (0, .ref ac_a), (1, .ref p1)]) hx hb dX0_init_60 hl (k := 0) rfl (by decide) (by decide) rfl (fun ls hl => ?_)
  refine lv_goto (tgt := 47) hx hb dX0_init_63 (by decide) ?_
  refine lv_iload_n hx hb dX0_init_47 rfl (lv_at hl 0 rfl) ?_
  refine lv_bipush (v := 24) hx hb dX0_init_48 (by decide) ?_
  refine lv_icmp_ge (tgt := 66) hx hb dX0_init_50 (by decide) (fun c9 => absurd c9 (by decide)) (fun _ => ?_)
  refine lv_aload_n hx hb dX0_init_53 rfl (lv_at hl 1 rfl) ?_
  refine va_get (D := G) (ci := 0) (v := .ref q5) (C := RX0) (T := TX0) (N := 7) hx hb hts inX0 hown hK hP 0 rfl rfl 4 (by decide) (hts _ tb226) (fun _ h9 => h9) rfl dX0_init_54 ?_
  refine lv_iload_n hx hb dX0_init_57 rfl (lv_at hl 0 rfl) ?_
  refine lv_aload_n hx hb dX0_init_58 rfl (lv_at hl 2 rfl) ?_
  refine va_astqM hx hb hK hP hD hS 5 2 rfl rfl (sp_any hK (sp_at hE.1 hS hp)) (show ¬ ((2 : Int32) < 0 ∨ 24 ≤ ((2 : Int32)).toNatClampNeg) by decide) dX0_init_59 (fun H locs hP hD hS => ?_)
  have hP : va_P G vwCl [(ac_a, .inr (0, [.ref q1, .ref q2, .ref q3, .ref q4, .ref q5, .int 0, .int 0])), aI K q1 24 (fun _ => 0), aI K q2 24 (fun _ => 0), aI K q3 24 (fun _ => 0), aI K q4 24 (fun _ => 0), (q5, .inl (K 2, 24, .inr (.inr (.inr (.inr (va_up (va_up (va_up (fun _ => none) 0 (some p1)) 1 (some p1)) 2 (some p1)))))))] H := hP
  have hD : va_D A [(ac_a, .inr (0, [.ref q1, .ref q2, .ref q3, .ref q4, .ref q5, .int 0, .int 0])), aI K q1 24 (fun _ => 0), aI K q2 24 (fun _ => 0), aI K q3 24 (fun _ => 0), aI K q4 24 (fun _ => 0), (q5, .inl (K 2, 24, .inr (.inr (.inr (.inr (va_up (va_up (va_up (fun _ => none) 0 (some p1)) 1 (some p1)) 2 (some p1)))))))] := hD
  refine lv_iinc (v := 3) (lv' := [(2, .int (3 : Int32)), (0, .ref ac_a), (1, .ref p1)]) hx hb dX0_init_60 hl (k := 0) rfl (by decide) (by decide) rfl (fun ls hl => ?_)
  refine lv_goto (tgt := 47) hx hb dX0_init_63 (by decide) ?_
  refine lv_iload_n hx hb dX0_init_47 rfl (lv_at hl 0 rfl) ?_
  refine lv_bipush (v := 24) hx hb dX0_init_48 (by decide) ?_
  refine lv_icmp_ge (tgt := 66) hx hb dX0_init_50 (by decide) (fun c9 => absurd c9 (by decide)) (fun _ => ?_)
  refine lv_aload_n hx hb dX0_init_53 rfl (lv_at hl 1 rfl) ?_
  refine va_get (D := G) (ci := 0) (v := .ref q5) (C := RX0) (T := TX0) (N := 7) hx hb hts inX0 hown hK hP 0 rfl rfl 4 (by decide) (hts _ tb226) (fun _ h9 => h9) rfl dX0_init_54 ?_
  refine lv_iload_n hx hb dX0_init_57 rfl (lv_at hl 0 rfl) ?_
  refine lv_aload_n hx hb dX0_init_58 rfl (lv_at hl 2 rfl) ?_
  refine va_astqM hx hb hK hP hD hS 5 2 rfl rfl (sp_any hK (sp_at hE.1 hS hp)) (show ¬ ((3 : Int32) < 0 ∨ 24 ≤ ((3 : Int32)).toNatClampNeg) by decide) dX0_init_59 (fun H locs hP hD hS => ?_)
  have hP : va_P G vwCl [(ac_a, .inr (0, [.ref q1, .ref q2, .ref q3, .ref q4, .ref q5, .int 0, .int 0])), aI K q1 24 (fun _ => 0), aI K q2 24 (fun _ => 0), aI K q3 24 (fun _ => 0), aI K q4 24 (fun _ => 0), (q5, .inl (K 2, 24, .inr (.inr (.inr (.inr (va_up (va_up (va_up (va_up (fun _ => none) 0 (some p1)) 1 (some p1)) 2 (some p1)) 3 (some p1)))))))] H := hP
  have hD : va_D A [(ac_a, .inr (0, [.ref q1, .ref q2, .ref q3, .ref q4, .ref q5, .int 0, .int 0])), aI K q1 24 (fun _ => 0), aI K q2 24 (fun _ => 0), aI K q3 24 (fun _ => 0), aI K q4 24 (fun _ => 0), (q5, .inl (K 2, 24, .inr (.inr (.inr (.inr (va_up (va_up (va_up (va_up (fun _ => none) 0 (some p1)) 1 (some p1)) 2 (some p1)) 3 (some p1)))))))] := hD
  refine lv_iinc (v := 4) (lv' := [(2, .int (4 : Int32)), (0, .ref ac_a), (1, .ref p1)]) hx hb dX0_init_60 hl (k := 0) rfl (by decide) (by decide) rfl (fun ls hl => ?_)
  refine lv_goto (tgt := 47) hx hb dX0_init_63 (by decide) ?_
  refine lv_iload_n hx hb dX0_init_47 rfl (lv_at hl 0 rfl) ?_
  refine lv_bipush (v := 24) hx hb dX0_init_48 (by decide) ?_
  refine lv_icmp_ge (tgt := 66) hx hb dX0_init_50 (by decide) (fun c9 => absurd c9 (by decide)) (fun _ => ?_)
  refine lv_aload_n hx hb dX0_init_53 rfl (lv_at hl 1 rfl) ?_
  refine va_get (D := G) (ci := 0) (v := .ref q5) (C := RX0) (T := TX0) (N := 7) hx hb hts inX0 hown hK hP 0 rfl rfl 4 (by decide) (hts _ tb226) (fun _ h9 => h9) rfl dX0_init_54 ?_
  refine lv_iload_n hx hb dX0_init_57 rfl (lv_at hl 0 rfl) ?_
  refine lv_aload_n hx hb dX0_init_58 rfl (lv_at hl 2 rfl) ?_
  refine va_astqM hx hb hK hP hD hS 5 2 rfl rfl (sp_any hK (sp_at hE.1 hS hp)) (show ¬ ((4 : Int32) < 0 ∨ 24 ≤ ((4 : Int32)).toNatClampNeg) by decide) dX0_init_59 (fun H locs hP hD hS => ?_)
  have hP : va_P G vwCl [(ac_a, .inr (0, [.ref q1, .ref q2, .ref q3, .ref q4, .ref q5, .int 0, .int 0])), aI K q1 24 (fun _ => 0), aI K q2 24 (fun _ => 0), aI K q3 24 (fun _ => 0), aI K q4 24 (fun _ => 0), (q5, .inl (K 2, 24, .inr (.inr (.inr (.inr (va_up (va_up (va_up (va_up (va_up (fun _ => none) 0 (some p1)) 1 (some p1)) 2 (some p1)) 3 (some p1)) 4 (some p1)))))))] H := hP
  have hD : va_D A [(ac_a, .inr (0, [.ref q1, .ref q2, .ref q3, .ref q4, .ref q5, .int 0, .int 0])), aI K q1 24 (fun _ => 0), aI K q2 24 (fun _ => 0), aI K q3 24 (fun _ => 0), aI K q4 24 (fun _ => 0), (q5, .inl (K 2, 24, .inr (.inr (.inr (.inr (va_up (va_up (va_up (va_up (va_up (fun _ => none) 0 (some p1)) 1 (some p1)) 2 (some p1)) 3 (some p1)) 4 (some p1)))))))] := hD
  refine lv_iinc (v := 5) (lv' := [(2, .int (5 : Int32)), (0, .ref ac_a), (1, .ref p1)]) hx hb dX0_init_60 hl (k := 0) rfl (by decide) (by decide) rfl (fun ls hl => ?_)
  refine lv_goto (tgt := 47) hx hb dX0_init_63 (by decide) ?_
  refine lv_iload_n hx hb dX0_init_47 rfl (lv_at hl 0 rfl) ?_
  refine lv_bipush (v := 24) hx hb dX0_init_48 (by decide) ?_
  refine lv_icmp_ge (tgt := 66) hx hb dX0_init_50 (by decide) (fun c9 => absurd c9 (by decide)) (fun _ => ?_)
  refine lv_aload_n hx hb dX0_init_53 rfl (lv_at hl 1 rfl) ?_
  refine va_get (D := G) (ci := 0) (v := .ref q5) (C := RX0) (T := TX0) (N := 7) hx hb hts inX0 hown hK hP 0 rfl rfl 4 (by decide) (hts _ tb226) (fun _ h9 => h9) rfl dX0_init_54 ?_
  refine lv_iload_n hx hb dX0_init_57 rfl (lv_at hl 0 rfl) ?_
  refine lv_aload_n hx hb dX0_init_58 rfl (lv_at hl 2 rfl) ?_
  refine va_astqM hx hb hK hP hD hS 5 2 rfl rfl (sp_any hK (sp_at hE.1 hS hp)) (show ¬ ((5 : Int32) < 0 ∨ 24 ≤ ((5 : Int32)).toNatClampNeg) by decide) dX0_init_59 (fun H locs hP hD hS => ?_)
  have hP : va_P G vwCl [(ac_a, .inr (0, [.ref q1, .ref q2, .ref q3, .ref q4, .ref q5, .int 0, .int 0])), aI K q1 24 (fun _ => 0), aI K q2 24 (fun _ => 0), aI K q3 24 (fun _ => 0), aI K q4 24 (fun _ => 0), (q5, .inl (K 2, 24, .inr (.inr (.inr (.inr (va_up (va_up (va_up (va_up (va_up (va_up (fun _ => none) 0 (some p1)) 1 (some p1)) 2 (some p1)) 3 (some p1)) 4 (some p1)) 5 (some p1)))))))] H := hP
  have hD : va_D A [(ac_a, .inr (0, [.ref q1, .ref q2, .ref q3, .ref q4, .ref q5, .int 0, .int 0])), aI K q1 24 (fun _ => 0), aI K q2 24 (fun _ => 0), aI K q3 24 (fun _ => 0), aI K q4 24 (fun _ => 0), (q5, .inl (K 2, 24, .inr (.inr (.inr (.inr (va_up (va_up (va_up (va_up (va_up (va_up (fun _ => none) 0 (some p1)) 1 (some p1)) 2 (some p1)) 3 (some p1)) 4 (some p1)) 5 (some p1)))))))] := hD
  refine lv_iinc (v := 6) (lv' := [(2, .int (6 : Int32)), (0, .ref ac_a), (1, .ref p1)]) hx hb dX0_init_60 hl (k := 0) rfl (by decide) (by decide) rfl (fun ls hl => ?_)
  refine lv_goto (tgt := 47) hx hb dX0_init_63 (by decide) ?_
  refine lv_iload_n hx hb dX0_init_47 rfl (lv_at hl 0 rfl) ?_
  refine lv_bipush (v := 24) hx hb dX0_init_48 (by decide) ?_
  refine lv_icmp_ge (tgt := 66) hx hb dX0_init_50 (by decide) (fun c9 => absurd c9 (by decide)) (fun _ => ?_)
  refine lv_aload_n hx hb dX0_init_53 rfl (lv_at hl 1 rfl) ?_
  refine va_get (D := G) (ci := 0) (v := .ref q5) (C := RX0) (T := TX0) (N := 7) hx hb hts inX0 hown hK hP 0 rfl rfl 4 (by decide) (hts _ tb226) (fun _ h9 => h9) rfl dX0_init_54 ?_
  refine lv_iload_n hx hb dX0_init_57 rfl (lv_at hl 0 rfl) ?_
  refine lv_aload_n hx hb dX0_init_58 rfl (lv_at hl 2 rfl) ?_
  refine va_astqM hx hb hK hP hD hS 5 2 rfl rfl (sp_any hK (sp_at hE.1 hS hp)) (show ¬ ((6 : Int32) < 0 ∨ 24 ≤ ((6 : Int32)).toNatClampNeg) by decide) dX0_init_59 (fun H locs hP hD hS => ?_)
  have hP : va_P G vwCl [(ac_a, .inr (0, [.ref q1, .ref q2, .ref q3, .ref q4, .ref q5, .int 0, .int 0])), aI K q1 24 (fun _ => 0), aI K q2 24 (fun _ => 0), aI K q3 24 (fun _ => 0), aI K q4 24 (fun _ => 0), (q5, .inl (K 2, 24, .inr (.inr (.inr (.inr (va_up (va_up (va_up (va_up (va_up (va_up (va_up (fun _ => none) 0 (some p1)) 1 (some p1)) 2 (some p1)) 3 (some p1)) 4 (some p1)) 5 (some p1)) 6 (some p1)))))))] H := hP
  have hD : va_D A [(ac_a, .inr (0, [.ref q1, .ref q2, .ref q3, .ref q4, .ref q5, .int 0, .int 0])), aI K q1 24 (fun _ => 0), aI K q2 24 (fun _ => 0), aI K q3 24 (fun _ => 0), aI K q4 24 (fun _ => 0), (q5, .inl (K 2, 24, .inr (.inr (.inr (.inr (va_up (va_up (va_up (va_up (va_up (va_up (va_up (fun _ => none) 0 (some p1)) 1 (some p1)) 2 (some p1)) 3 (some p1)) 4 (some p1)) 5 (some p1)) 6 (some p1)))))))] := hD
  refine lv_iinc (v := 7) (lv' := [(2, .int (7 : Int32)), (0, .ref ac_a), (1, .ref p1)]) hx hb dX0_init_60 hl (k := 0) rfl (by decide) (by decide) rfl (fun ls hl => ?_)
  refine lv_goto (tgt := 47) hx hb dX0_init_63 (by decide) ?_
  refine lv_iload_n hx hb dX0_init_47 rfl (lv_at hl 0 rfl) ?_
  refine lv_bipush (v := 24) hx hb dX0_init_48 (by decide) ?_
  refine lv_icmp_ge (tgt := 66) hx hb dX0_init_50 (by decide) (fun c9 => absurd c9 (by decide)) (fun _ => ?_)
  refine lv_aload_n hx hb dX0_init_53 rfl (lv_at hl 1 rfl) ?_
  refine va_get (D := G) (ci := 0) (v := .ref q5) (C := RX0) (T := TX0) (N := 7) hx hb hts inX0 hown hK hP 0 rfl rfl 4 (by decide) (hts _ tb226) (fun _ h9 => h9) rfl dX0_init_54 ?_
  refine lv_iload_n hx hb dX0_init_57 rfl (lv_at hl 0 rfl) ?_
  refine lv_aload_n hx hb dX0_init_58 rfl (lv_at hl 2 rfl) ?_
  refine va_astqM hx hb hK hP hD hS 5 2 rfl rfl (sp_any hK (sp_at hE.1 hS hp)) (show ¬ ((7 : Int32) < 0 ∨ 24 ≤ ((7 : Int32)).toNatClampNeg) by decide) dX0_init_59 (fun H locs hP hD hS => ?_)
  have hP : va_P G vwCl [(ac_a, .inr (0, [.ref q1, .ref q2, .ref q3, .ref q4, .ref q5, .int 0, .int 0])), aI K q1 24 (fun _ => 0), aI K q2 24 (fun _ => 0), aI K q3 24 (fun _ => 0), aI K q4 24 (fun _ => 0), (q5, .inl (K 2, 24, .inr (.inr (.inr (.inr (va_up (va_up (va_up (va_up (va_up (va_up (va_up (va_up (fun _ => none) 0 (some p1)) 1 (some p1)) 2 (some p1)) 3 (some p1)) 4 (some p1)) 5 (some p1)) 6 (some p1)) 7 (some p1)))))))] H := hP
  have hD : va_D A [(ac_a, .inr (0, [.ref q1, .ref q2, .ref q3, .ref q4, .ref q5, .int 0, .int 0])), aI K q1 24 (fun _ => 0), aI K q2 24 (fun _ => 0), aI K q3 24 (fun _ => 0), aI K q4 24 (fun _ => 0), (q5, .inl (K 2, 24, .inr (.inr (.inr (.inr (va_up (va_up (va_up (va_up (va_up (va_up (va_up (va_up (fun _ => none) 0 (some p1)) 1 (some p1)) 2 (some p1)) 3 (some p1)) 4 (some p1)) 5 (some p1)) 6 (some p1)) 7 (some p1)))))))] := hD
  refine lv_iinc (v := 8) (lv' := [(2, .int (8 : Int32)), (0, .ref ac_a), (1, .ref p1)]) hx hb dX0_init_60 hl (k := 0) rfl (by decide) (by decide) rfl (fun ls hl => ?_)
  refine lv_goto (tgt := 47) hx hb dX0_init_63 (by decide) ?_
  refine lv_iload_n hx hb dX0_init_47 rfl (lv_at hl 0 rfl) ?_
  refine lv_bipush (v := 24) hx hb dX0_init_48 (by decide) ?_
  refine lv_icmp_ge (tgt := 66) hx hb dX0_init_50 (by decide) (fun c9 => absurd c9 (by decide)) (fun _ => ?_)
  refine lv_aload_n hx hb dX0_init_53 rfl (lv_at hl 1 rfl) ?_
  refine va_get (D := G) (ci := 0) (v := .ref q5) (C := RX0) (T := TX0) (N := 7) hx hb hts inX0 hown hK hP 0 rfl rfl 4 (by decide) (hts _ tb226) (fun _ h9 => h9) rfl dX0_init_54 ?_
  refine lv_iload_n hx hb dX0_init_57 rfl (lv_at hl 0 rfl) ?_
  refine lv_aload_n hx hb dX0_init_58 rfl (lv_at hl 2 rfl) ?_
  refine va_astqM hx hb hK hP hD hS 5 2 rfl rfl (sp_any hK (sp_at hE.1 hS hp)) (show ¬ ((8 : Int32) < 0 ∨ 24 ≤ ((8 : Int32)).toNatClampNeg) by decide) dX0_init_59 (fun H locs hP hD hS => ?_)
  have hP : va_P G vwCl [(ac_a, .inr (0, [.ref q1, .ref q2, .ref q3, .ref q4, .ref q5, .int 0, .int 0])), aI K q1 24 (fun _ => 0), aI K q2 24 (fun _ => 0), aI K q3 24 (fun _ => 0), aI K q4 24 (fun _ => 0), (q5, .inl (K 2, 24, .inr (.inr (.inr (.inr (va_up (va_up (va_up (va_up (va_up (va_up (va_up (va_up (va_up (fun _ => none) 0 (some p1)) 1 (some p1)) 2 (some p1)) 3 (some p1)) 4 (some p1)) 5 (some p1)) 6 (some p1)) 7 (some p1)) 8 (some p1)))))))] H := hP
  have hD : va_D A [(ac_a, .inr (0, [.ref q1, .ref q2, .ref q3, .ref q4, .ref q5, .int 0, .int 0])), aI K q1 24 (fun _ => 0), aI K q2 24 (fun _ => 0), aI K q3 24 (fun _ => 0), aI K q4 24 (fun _ => 0), (q5, .inl (K 2, 24, .inr (.inr (.inr (.inr (va_up (va_up (va_up (va_up (va_up (va_up (va_up (va_up (va_up (fun _ => none) 0 (some p1)) 1 (some p1)) 2 (some p1)) 3 (some p1)) 4 (some p1)) 5 (some p1)) 6 (some p1)) 7 (some p1)) 8 (some p1)))))))] := hD
  refine lv_iinc (v := 9) (lv' := [(2, .int (9 : Int32)), (0, .ref ac_a), (1, .ref p1)]) hx hb dX0_init_60 hl (k := 0) rfl (by decide) (by decide) rfl (fun ls hl => ?_)
  refine lv_goto (tgt := 47) hx hb dX0_init_63 (by decide) ?_
  refine lv_iload_n hx hb dX0_init_47 rfl (lv_at hl 0 rfl) ?_
  refine lv_bipush (v := 24) hx hb dX0_init_48 (by decide) ?_
  refine lv_icmp_ge (tgt := 66) hx hb dX0_init_50 (by decide) (fun c9 => absurd c9 (by decide)) (fun _ => ?_)
  refine lv_aload_n hx hb dX0_init_53 rfl (lv_at hl 1 rfl) ?_
  refine va_get (D := G) (ci := 0) (v := .ref q5) (C := RX0) (T := TX0) (N := 7) hx hb hts inX0 hown hK hP 0 rfl rfl 4 (by decide) (hts _ tb226) (fun _ h9 => h9) rfl dX0_init_54 ?_
  refine lv_iload_n hx hb dX0_init_57 rfl (lv_at hl 0 rfl) ?_
  refine lv_aload_n hx hb dX0_init_58 rfl (lv_at hl 2 rfl) ?_
  refine va_astqM hx hb hK hP hD hS 5 2 rfl rfl (sp_any hK (sp_at hE.1 hS hp)) (show ¬ ((9 : Int32) < 0 ∨ 24 ≤ ((9 : Int32)).toNatClampNeg) by decide) dX0_init_59 (fun H locs hP hD hS => ?_)
  have hP : va_P G vwCl [(ac_a, .inr (0, [.ref q1, .ref q2, .ref q3, .ref q4, .ref q5, .int 0, .int 0])), aI K q1 24 (fun _ => 0), aI K q2 24 (fun _ => 0), aI K q3 24 (fun _ => 0), aI K q4 24 (fun _ => 0), (q5, .inl (K 2, 24, .inr (.inr (.inr (.inr (va_up (va_up (va_up (va_up (va_up (va_up (va_up (va_up (va_up (va_up (fun _ => none) 0 (some p1)) 1 (some p1)) 2 (some p1)) 3 (some p1)) 4 (some p1)) 5 (some p1)) 6 (some p1)) 7 (some p1)) 8 (some p1)) 9 (some p1)))))))] H := hP
  have hD : va_D A [(ac_a, .inr (0, [.ref q1, .ref q2, .ref q3, .ref q4, .ref q5, .int 0, .int 0])), aI K q1 24 (fun _ => 0), aI K q2 24 (fun _ => 0), aI K q3 24 (fun _ => 0), aI K q4 24 (fun _ => 0), (q5, .inl (K 2, 24, .inr (.inr (.inr (.inr (va_up (va_up (va_up (va_up (va_up (va_up (va_up (va_up (va_up (va_up (fun _ => none) 0 (some p1)) 1 (some p1)) 2 (some p1)) 3 (some p1)) 4 (some p1)) 5 (some p1)) 6 (some p1)) 7 (some p1)) 8 (some p1)) 9 (some p1)))))))] := hD
  refine lv_iinc (v := 10) (lv' := [(2, .int (10 : Int32)), (0, .ref ac_a), (1, .ref p1)]) hx hb dX0_init_60 hl (k := 0) rfl (by decide) (by decide) rfl (fun ls hl => ?_)
  refine lv_goto (tgt := 47) hx hb dX0_init_63 (by decide) ?_
  refine lv_iload_n hx hb dX0_init_47 rfl (lv_at hl 0 rfl) ?_
  refine lv_bipush (v := 24) hx hb dX0_init_48 (by decide) ?_
  refine lv_icmp_ge (tgt := 66) hx hb dX0_init_50 (by decide) (fun c9 => absurd c9 (by decide)) (fun _ => ?_)
  refine lv_aload_n hx hb dX0_init_53 rfl (lv_at hl 1 rfl) ?_
  refine va_get (D := G) (ci := 0) (v := .ref q5) (C := RX0) (T := TX0) (N := 7) hx hb hts inX0 hown hK hP 0 rfl rfl 4 (by decide) (hts _ tb226) (fun _ h9 => h9) rfl dX0_init_54 ?_
  refine lv_iload_n hx hb dX0_init_57 rfl (lv_at hl 0 rfl) ?_
  refine lv_aload_n hx hb dX0_init_58 rfl (lv_at hl 2 rfl) ?_
  refine va_astqM hx hb hK hP hD hS 5 2 rfl rfl (sp_any hK (sp_at hE.1 hS hp)) (show ¬ ((10 : Int32) < 0 ∨ 24 ≤ ((10 : Int32)).toNatClampNeg) by decide) dX0_init_59 (fun H locs hP hD hS => ?_)
  have hP : va_P G vwCl [(ac_a, .inr (0, [.ref q1, .ref q2, .ref q3, .ref q4, .ref q5, .int 0, .int 0])), aI K q1 24 (fun _ => 0), aI K q2 24 (fun _ => 0), aI K q3 24 (fun _ => 0), aI K q4 24 (fun _ => 0), (q5, .inl (K 2, 24, .inr (.inr (.inr (.inr (va_up (va_up (va_up (va_up (va_up (va_up (va_up (va_up (va_up (va_up (va_up (fun _ => none) 0 (some p1)) 1 (some p1)) 2 (some p1)) 3 (some p1)) 4 (some p1)) 5 (some p1)) 6 (some p1)) 7 (some p1)) 8 (some p1)) 9 (some p1)) 10 (some p1)))))))] H := hP
  have hD : va_D A [(ac_a, .inr (0, [.ref q1, .ref q2, .ref q3, .ref q4, .ref q5, .int 0, .int 0])), aI K q1 24 (fun _ => 0), aI K q2 24 (fun _ => 0), aI K q3 24 (fun _ => 0), aI K q4 24 (fun _ => 0), (q5, .inl (K 2, 24, .inr (.inr (.inr (.inr (va_up (va_up (va_up (va_up (va_up (va_up (va_up (va_up (va_up (va_up (va_up (fun _ => none) 0 (some p1)) 1 (some p1)) 2 (some p1)) 3 (some p1)) 4 (some p1)) 5 (some p1)) 6 (some p1)) 7 (some p1)) 8 (some p1)) 9 (some p1)) 10 (some p1)))))))] := hD
  refine lv_iinc (v := 11) (lv' := [(2, .int (11 : Int32)), (0, .ref ac_a), (1, .ref p1)]) hx hb dX0_init_60 hl (k := 0) rfl (by decide) (by decide) rfl (fun ls hl => ?_)
  refine lv_goto (tgt := 47) hx hb dX0_init_63 (by decide) ?_
  refine lv_iload_n hx hb dX0_init_47 rfl (lv_at hl 0 rfl) ?_
  refine lv_bipush (v := 24) hx hb dX0_init_48 (by decide) ?_
  refine lv_icmp_ge (tgt := 66) hx hb dX0_init_50 (by decide) (fun c9 => absurd c9 (by decide)) (fun _ => ?_)
  refine lv_aload_n hx hb dX0_init_53 rfl (lv_at hl 1 rfl) ?_
  refine va_get (D := G) (ci := 0) (v := .ref q5) (C := RX0) (T := TX0) (N := 7) hx hb hts inX0 hown hK hP 0 rfl rfl 4 (by decide) (hts _ tb226) (fun _ h9 => h9) rfl dX0_init_54 ?_
  refine lv_iload_n hx hb dX0_init_57 rfl (lv_at hl 0 rfl) ?_
  refine lv_aload_n hx hb dX0_init_58 rfl (lv_at hl 2 rfl) ?_
  refine va_astqM hx hb hK hP hD hS 5 2 rfl rfl (sp_any hK (sp_at hE.1 hS hp)) (show ¬ ((11 : Int32) < 0 ∨ 24 ≤ ((11 : Int32)).toNatClampNeg) by decide) dX0_init_59 (fun H locs hP hD hS => ?_)
  have hP : va_P G vwCl [(ac_a, .inr (0, [.ref q1, .ref q2, .ref q3, .ref q4, .ref q5, .int 0, .int 0])), aI K q1 24 (fun _ => 0), aI K q2 24 (fun _ => 0), aI K q3 24 (fun _ => 0), aI K q4 24 (fun _ => 0), (q5, .inl (K 2, 24, .inr (.inr (.inr (.inr (va_up (va_up (va_up (va_up (va_up (va_up (va_up (va_up (va_up (va_up (va_up (va_up (fun _ => none) 0 (some p1)) 1 (some p1)) 2 (some p1)) 3 (some p1)) 4 (some p1)) 5 (some p1)) 6 (some p1)) 7 (some p1)) 8 (some p1)) 9 (some p1)) 10 (some p1)) 11 (some p1)))))))] H := hP
  have hD : va_D A [(ac_a, .inr (0, [.ref q1, .ref q2, .ref q3, .ref q4, .ref q5, .int 0, .int 0])), aI K q1 24 (fun _ => 0), aI K q2 24 (fun _ => 0), aI K q3 24 (fun _ => 0), aI K q4 24 (fun _ => 0), (q5, .inl (K 2, 24, .inr (.inr (.inr (.inr (va_up (va_up (va_up (va_up (va_up (va_up (va_up (va_up (va_up (va_up (va_up (va_up (fun _ => none) 0 (some p1)) 1 (some p1)) 2 (some p1)) 3 (some p1)) 4 (some p1)) 5 (some p1)) 6 (some p1)) 7 (some p1)) 8 (some p1)) 9 (some p1)) 10 (some p1)) 11 (some p1)))))))] := hD
  refine lv_iinc (v := 12) (lv' := [(2, .int (12 : Int32)), (0, .ref ac_a), (1, .ref p1)]) hx hb dX0_init_60 hl (k := 0) rfl (by decide) (by decide) rfl (fun ls hl => ?_)
  refine lv_goto (tgt := 47) hx hb dX0_init_63 (by decide) ?_
  refine lv_iload_n hx hb dX0_init_47 rfl (lv_at hl 0 rfl) ?_
  refine lv_bipush (v := 24) hx hb dX0_init_48 (by decide) ?_
  refine lv_icmp_ge (tgt := 66) hx hb dX0_init_50 (by decide) (fun c9 => absurd c9 (by decide)) (fun _ => ?_)
  refine lv_aload_n hx hb dX0_init_53 rfl (lv_at hl 1 rfl) ?_
  refine va_get (D := G) (ci := 0) (v := .ref q5) (C := RX0) (T := TX0) (N := 7) hx hb hts inX0 hown hK hP 0 rfl rfl 4 (by decide) (hts _ tb226) (fun _ h9 => h9) rfl dX0_init_54 ?_
  refine lv_iload_n hx hb dX0_init_57 rfl (lv_at hl 0 rfl) ?_
  refine lv_aload_n hx hb dX0_init_58 rfl (lv_at hl 2 rfl) ?_
  refine va_astqM hx hb hK hP hD hS 5 2 rfl rfl (sp_any hK (sp_at hE.1 hS hp)) (show ¬ ((12 : Int32) < 0 ∨ 24 ≤ ((12 : Int32)).toNatClampNeg) by decide) dX0_init_59 (fun H locs hP hD hS => ?_)
  have hP : va_P G vwCl [(ac_a, .inr (0, [.ref q1, .ref q2, .ref q3, .ref q4, .ref q5, .int 0, .int 0])), aI K q1 24 (fun _ => 0), aI K q2 24 (fun _ => 0), aI K q3 24 (fun _ => 0), aI K q4 24 (fun _ => 0), (q5, .inl (K 2, 24, .inr (.inr (.inr (.inr (va_up (va_up (va_up (va_up (va_up (va_up (va_up (va_up (va_up (va_up (va_up (va_up (va_up (fun _ => none) 0 (some p1)) 1 (some p1)) 2 (some p1)) 3 (some p1)) 4 (some p1)) 5 (some p1)) 6 (some p1)) 7 (some p1)) 8 (some p1)) 9 (some p1)) 10 (some p1)) 11 (some p1)) 12 (some p1)))))))] H := hP
  have hD : va_D A [(ac_a, .inr (0, [.ref q1, .ref q2, .ref q3, .ref q4, .ref q5, .int 0, .int 0])), aI K q1 24 (fun _ => 0), aI K q2 24 (fun _ => 0), aI K q3 24 (fun _ => 0), aI K q4 24 (fun _ => 0), (q5, .inl (K 2, 24, .inr (.inr (.inr (.inr (va_up (va_up (va_up (va_up (va_up (va_up (va_up (va_up (va_up (va_up (va_up (va_up (va_up (fun _ => none) 0 (some p1)) 1 (some p1)) 2 (some p1)) 3 (some p1)) 4 (some p1)) 5 (some p1)) 6 (some p1)) 7 (some p1)) 8 (some p1)) 9 (some p1)) 10 (some p1)) 11 (some p1)) 12 (some p1)))))))] := hD
  refine lv_iinc (v := 13) (lv' := [(2, .int (13 : Int32)), (0, .ref ac_a), (1, .ref p1)]) hx hb dX0_init_60 hl (k := 0) rfl (by decide) (by decide) rfl (fun ls hl => ?_)
  refine lv_goto (tgt := 47) hx hb dX0_init_63 (by decide) ?_
  refine lv_iload_n hx hb dX0_init_47 rfl (lv_at hl 0 rfl) ?_
  refine lv_bipush (v := 24) hx hb dX0_init_48 (by decide) ?_
  refine lv_icmp_ge (tgt := 66) hx hb dX0_init_50 (by decide) (fun c9 => absurd c9 (by decide)) (fun _ => ?_)
  refine lv_aload_n hx hb dX0_init_53 rfl (lv_at hl 1 rfl) ?_
  refine va_get (D := G) (ci := 0) (v := .ref q5) (C := RX0) (T := TX0) (N := 7) hx hb hts inX0 hown hK hP 0 rfl rfl 4 (by decide) (hts _ tb226) (fun _ h9 => h9) rfl dX0_init_54 ?_
  refine lv_iload_n hx hb dX0_init_57 rfl (lv_at hl 0 rfl) ?_
  refine lv_aload_n hx hb dX0_init_58 rfl (lv_at hl 2 rfl) ?_
  refine va_astqM hx hb hK hP hD hS 5 2 rfl rfl (sp_any hK (sp_at hE.1 hS hp)) (show ¬ ((13 : Int32) < 0 ∨ 24 ≤ ((13 : Int32)).toNatClampNeg) by decide) dX0_init_59 (fun H locs hP hD hS => ?_)
  have hP : va_P G vwCl [(ac_a, .inr (0, [.ref q1, .ref q2, .ref q3, .ref q4, .ref q5, .int 0, .int 0])), aI K q1 24 (fun _ => 0), aI K q2 24 (fun _ => 0), aI K q3 24 (fun _ => 0), aI K q4 24 (fun _ => 0), (q5, .inl (K 2, 24, .inr (.inr (.inr (.inr (va_up (va_up (va_up (va_up (va_up (va_up (va_up (va_up (va_up (va_up (va_up (va_up (va_up (va_up (fun _ => none) 0 (some p1)) 1 (some p1)) 2 (some p1)) 3 (some p1)) 4 (some p1)) 5 (some p1)) 6 (some p1)) 7 (some p1)) 8 (some p1)) 9 (some p1)) 10 (some p1)) 11 (some p1)) 12 (some p1)) 13 (some p1)))))))] H := hP
  have hD : va_D A [(ac_a, .inr (0, [.ref q1, .ref q2, .ref q3, .ref q4, .ref q5, .int 0, .int 0])), aI K q1 24 (fun _ => 0), aI K q2 24 (fun _ => 0), aI K q3 24 (fun _ => 0), aI K q4 24 (fun _ => 0), (q5, .inl (K 2, 24, .inr (.inr (.inr (.inr (va_up (va_up (va_up (va_up (va_up (va_up (va_up (va_up (va_up (va_up (va_up (va_up (va_up (va_up (fun _ => none) 0 (some p1)) 1 (some p1)) 2 (some p1)) 3 (some p1)) 4 (some p1)) 5 (some p1)) 6 (some p1)) 7 (some p1)) 8 (some p1)) 9 (some p1)) 10 (some p1)) 11 (some p1)) 12 (some p1)) 13 (some p1)))))))] := hD
  refine lv_iinc (v := 14) (lv' := [(2, .int (14 : Int32)), (0, .ref ac_a), (1, .ref p1)]) hx hb dX0_init_60 hl (k := 0) rfl (by decide) (by decide) rfl (fun ls hl => ?_)
  refine lv_goto (tgt := 47) hx hb dX0_init_63 (by decide) ?_
  refine lv_iload_n hx hb dX0_init_47 rfl (lv_at hl 0 rfl) ?_
  refine lv_bipush (v := 24) hx hb dX0_init_48 (by decide) ?_
  refine lv_icmp_ge (tgt := 66) hx hb dX0_init_50 (by decide) (fun c9 => absurd c9 (by decide)) (fun _ => ?_)
  refine lv_aload_n hx hb dX0_init_53 rfl (lv_at hl 1 rfl) ?_
  refine va_get (D := G) (ci := 0) (v := .ref q5) (C := RX0) (T := TX0) (N := 7) hx hb hts inX0 hown hK hP 0 rfl rfl 4 (by decide) (hts _ tb226) (fun _ h9 => h9) rfl dX0_init_54 ?_
  refine lv_iload_n hx hb dX0_init_57 rfl (lv_at hl 0 rfl) ?_
  refine lv_aload_n hx hb dX0_init_58 rfl (lv_at hl 2 rfl) ?_
  refine va_astqM hx hb hK hP hD hS 5 2 rfl rfl (sp_any hK (sp_at hE.1 hS hp)) (show ¬ ((14 : Int32) < 0 ∨ 24 ≤ ((14 : Int32)).toNatClampNeg) by decide) dX0_init_59 (fun H locs hP hD hS => ?_)
  have hP : va_P G vwCl [(ac_a, .inr (0, [.ref q1, .ref q2, .ref q3, .ref q4, .ref q5, .int 0, .int 0])), aI K q1 24 (fun _ => 0), aI K q2 24 (fun _ => 0), aI K q3 24 (fun _ => 0), aI K q4 24 (fun _ => 0), (q5, .inl (K 2, 24, .inr (.inr (.inr (.inr (va_up (va_up (va_up (va_up (va_up (va_up (va_up (va_up (va_up (va_up (va_up (va_up (va_up (va_up (va_up (fun _ => none) 0 (some p1)) 1 (some p1)) 2 (some p1)) 3 (some p1)) 4 (some p1)) 5 (some p1)) 6 (some p1)) 7 (some p1)) 8 (some p1)) 9 (some p1)) 10 (some p1)) 11 (some p1)) 12 (some p1)) 13 (some p1)) 14 (some p1)))))))] H := hP
  have hD : va_D A [(ac_a, .inr (0, [.ref q1, .ref q2, .ref q3, .ref q4, .ref q5, .int 0, .int 0])), aI K q1 24 (fun _ => 0), aI K q2 24 (fun _ => 0), aI K q3 24 (fun _ => 0), aI K q4 24 (fun _ => 0), (q5, .inl (K 2, 24, .inr (.inr (.inr (.inr (va_up (va_up (va_up (va_up (va_up (va_up (va_up (va_up (va_up (va_up (va_up (va_up (va_up (va_up (va_up (fun _ => none) 0 (some p1)) 1 (some p1)) 2 (some p1)) 3 (some p1)) 4 (some p1)) 5 (some p1)) 6 (some p1)) 7 (some p1)) 8 (some p1)) 9 (some p1)) 10 (some p1)) 11 (some p1)) 12 (some p1)) 13 (some p1)) 14 (some p1)))))))] := hD
  refine lv_iinc (v := 15) (lv' := [(2, .int (15 : Int32)), (0, .ref ac_a), (1, .ref p1)]) hx hb dX0_init_60 hl (k := 0) rfl (by decide) (by decide) rfl (fun ls hl => ?_)
  refine lv_goto (tgt := 47) hx hb dX0_init_63 (by decide) ?_
  refine lv_iload_n hx hb dX0_init_47 rfl (lv_at hl 0 rfl) ?_
  refine lv_bipush (v := 24) hx hb dX0_init_48 (by decide) ?_
  refine lv_icmp_ge (tgt := 66) hx hb dX0_init_50 (by decide) (fun c9 => absurd c9 (by decide)) (fun _ => ?_)
  refine lv_aload_n hx hb dX0_init_53 rfl (lv_at hl 1 rfl) ?_
  refine va_get (D := G) (ci := 0) (v := .ref q5) (C := RX0) (T := TX0) (N := 7) hx hb hts inX0 hown hK hP 0 rfl rfl 4 (by decide) (hts _ tb226) (fun _ h9 => h9) rfl dX0_init_54 ?_
  refine lv_iload_n hx hb dX0_init_57 rfl (lv_at hl 0 rfl) ?_
  refine lv_aload_n hx hb dX0_init_58 rfl (lv_at hl 2 rfl) ?_
  refine va_astqM hx hb hK hP hD hS 5 2 rfl rfl (sp_any hK (sp_at hE.1 hS hp)) (show ¬ ((15 : Int32) < 0 ∨ 24 ≤ ((15 : Int32)).toNatClampNeg) by decide) dX0_init_59 (fun H locs hP hD hS => ?_)
  have hP : va_P G vwCl [(ac_a, .inr (0, [.ref q1, .ref q2, .ref q3, .ref q4, .ref q5, .int 0, .int 0])), aI K q1 24 (fun _ => 0), aI K q2 24 (fun _ => 0), aI K q3 24 (fun _ => 0), aI K q4 24 (fun _ => 0), (q5, .inl (K 2, 24, .inr (.inr (.inr (.inr (va_up (va_up (va_up (va_up (va_up (va_up (va_up (va_up (va_up (va_up (va_up (va_up (va_up (va_up (va_up (va_up (fun _ => none) 0 (some p1)) 1 (some p1)) 2 (some p1)) 3 (some p1)) 4 (some p1)) 5 (some p1)) 6 (some p1)) 7 (some p1)) 8 (some p1)) 9 (some p1)) 10 (some p1)) 11 (some p1)) 12 (some p1)) 13 (some p1)) 14 (some p1)) 15 (some p1)))))))] H := hP
  have hD : va_D A [(ac_a, .inr (0, [.ref q1, .ref q2, .ref q3, .ref q4, .ref q5, .int 0, .int 0])), aI K q1 24 (fun _ => 0), aI K q2 24 (fun _ => 0), aI K q3 24 (fun _ => 0), aI K q4 24 (fun _ => 0), (q5, .inl (K 2, 24, .inr (.inr (.inr (.inr (va_up (va_up (va_up (va_up (va_up (va_up (va_up (va_up (va_up (va_up (va_up (va_up (va_up (va_up (va_up (va_up (fun _ => none) 0 (some p1)) 1 (some p1)) 2 (some p1)) 3 (some p1)) 4 (some p1)) 5 (some p1)) 6 (some p1)) 7 (some p1)) 8 (some p1)) 9 (some p1)) 10 (some p1)) 11 (some p1)) 12 (some p1)) 13 (some p1)) 14 (some p1)) 15 (some p1)))))))] := hD
  refine lv_iinc (v := 16) (lv' := [(2, .int (16 : Int32)), (0, .ref ac_a), (1, .ref p1)]) hx hb dX0_init_60 hl (k := 0) rfl (by decide) (by decide) rfl (fun ls hl => ?_)
  refine lv_goto (tgt := 47) hx hb dX0_init_63 (by decide) ?_
  refine lv_iload_n hx hb dX0_init_47 rfl (lv_at hl 0 rfl) ?_
  refine lv_bipush (v := 24) hx hb dX0_init_48 (by decide) ?_
  refine lv_icmp_ge (tgt := 66) hx hb dX0_init_50 (by decide) (fun c9 => absurd c9 (by decide)) (fun _ => ?_)
  refine lv_aload_n hx hb dX0_init_53 rfl (lv_at hl 1 rfl) ?_
  refine va_get (D := G) (ci := 0) (v := .ref q5) (C := RX0) (T := TX0) (N := 7) hx hb hts inX0 hown hK hP 0 rfl rfl 4 (by decide) (hts _ tb226) (fun _ h9 => h9) rfl dX0_init_54 ?_
  refine lv_iload_n hx hb dX0_init_57 rfl (lv_at hl 0 rfl) ?_
  refine lv_aload_n hx hb dX0_init_58 rfl (lv_at hl 2 rfl) ?_
  refine va_astqM hx hb hK hP hD hS 5 2 rfl rfl (sp_any hK (sp_at hE.1 hS hp)) (show ¬ ((16 : Int32) < 0 ∨ 24 ≤ ((16 : Int32)).toNatClampNeg) by decide) dX0_init_59 (fun H locs hP hD hS => ?_)
  have hP : va_P G vwCl [(ac_a, .inr (0, [.ref q1, .ref q2, .ref q3, .ref q4, .ref q5, .int 0, .int 0])), aI K q1 24 (fun _ => 0), aI K q2 24 (fun _ => 0), aI K q3 24 (fun _ => 0), aI K q4 24 (fun _ => 0), (q5, .inl (K 2, 24, .inr (.inr (.inr (.inr (va_up (va_up (va_up (va_up (va_up (va_up (va_up (va_up (va_up (va_up (va_up (va_up (va_up (va_up (va_up (va_up (va_up (fun _ => none) 0 (some p1)) 1 (some p1)) 2 (some p1)) 3 (some p1)) 4 (some p1)) 5 (some p1)) 6 (some p1)) 7 (some p1)) 8 (some p1)) 9 (some p1)) 10 (some p1)) 11 (some p1)) 12 (some p1)) 13 (some p1)) 14 (some p1)) 15 (some p1)) 16 (some p1)))))))] H := hP
  have hD : va_D A [(ac_a, .inr (0, [.ref q1, .ref q2, .ref q3, .ref q4, .ref q5, .int 0, .int 0])), aI K q1 24 (fun _ => 0), aI K q2 24 (fun _ => 0), aI K q3 24 (fun _ => 0), aI K q4 24 (fun _ => 0), (q5, .inl (K 2, 24, .inr (.inr (.inr (.inr (va_up (va_up (va_up (va_up (va_up (va_up (va_up (va_up (va_up (va_up (va_up (va_up (va_up (va_up (va_up (va_up (va_up (fun _ => none) 0 (some p1)) 1 (some p1)) 2 (some p1)) 3 (some p1)) 4 (some p1)) 5 (some p1)) 6 (some p1)) 7 (some p1)) 8 (some p1)) 9 (some p1)) 10 (some p1)) 11 (some p1)) 12 (some p1)) 13 (some p1)) 14 (some p1)) 15 (some p1)) 16 (some p1)))))))] := hD
  refine lv_iinc (v := 17) (lv' := [(2, .int (17 : Int32)), (0, .ref ac_a), (1, .ref p1)]) hx hb dX0_init_60 hl (k := 0) rfl (by decide) (by decide) rfl (fun ls hl => ?_)
  refine lv_goto (tgt := 47) hx hb dX0_init_63 (by decide) ?_
  refine lv_iload_n hx hb dX0_init_47 rfl (lv_at hl 0 rfl) ?_
  refine lv_bipush (v := 24) hx hb dX0_init_48 (by decide) ?_
  refine lv_icmp_ge (tgt := 66) hx hb dX0_init_50 (by decide) (fun c9 => absurd c9 (by decide)) (fun _ => ?_)
  refine lv_aload_n hx hb dX0_init_53 rfl (lv_at hl 1 rfl) ?_
  refine va_get (D := G) (ci := 0) (v := .ref q5) (C := RX0) (T := TX0) (N := 7) hx hb hts inX0 hown hK hP 0 rfl rfl 4 (by decide) (hts _ tb226) (fun _ h9 => h9) rfl dX0_init_54 ?_
  refine lv_iload_n hx hb dX0_init_57 rfl (lv_at hl 0 rfl) ?_
  refine lv_aload_n hx hb dX0_init_58 rfl (lv_at hl 2 rfl) ?_
  refine va_astqM hx hb hK hP hD hS 5 2 rfl rfl (sp_any hK (sp_at hE.1 hS hp)) (show ¬ ((17 : Int32) < 0 ∨ 24 ≤ ((17 : Int32)).toNatClampNeg) by decide) dX0_init_59 (fun H locs hP hD hS => ?_)
  have hP : va_P G vwCl [(ac_a, .inr (0, [.ref q1, .ref q2, .ref q3, .ref q4, .ref q5, .int 0, .int 0])), aI K q1 24 (fun _ => 0), aI K q2 24 (fun _ => 0), aI K q3 24 (fun _ => 0), aI K q4 24 (fun _ => 0), (q5, .inl (K 2, 24, .inr (.inr (.inr (.inr (va_up (va_up (va_up (va_up (va_up (va_up (va_up (va_up (va_up (va_up (va_up (va_up (va_up (va_up (va_up (va_up (va_up (va_up (fun _ => none) 0 (some p1)) 1 (some p1)) 2 (some p1)) 3 (some p1)) 4 (some p1)) 5 (some p1)) 6 (some p1)) 7 (some p1)) 8 (some p1)) 9 (some p1)) 10 (some p1)) 11 (some p1)) 12 (some p1)) 13 (some p1)) 14 (some p1)) 15 (some p1)) 16 (some p1)) 17 (some p1)))))))] H := hP
  have hD : va_D A [(ac_a, .inr (0, [.ref q1, .ref q2, .ref q3, .ref q4, .ref q5, .int 0, .int 0])), aI K q1 24 (fun _ => 0), aI K q2 24 (fun _ => 0), aI K q3 24 (fun _ => 0), aI K q4 24 (fun _ => 0), (q5, .inl (K 2, 24, .inr (.inr (.inr (.inr (va_up (va_up (va_up (va_up (va_up (va_up (va_up (va_up (va_up (va_up (va_up (va_up (va_up (va_up (va_up (va_up (va_up (va_up (fun _ => none) 0 (some p1)) 1 (some p1)) 2 (some p1)) 3 (some p1)) 4 (some p1)) 5 (some p1)) 6 (some p1)) 7 (some p1)) 8 (some p1)) 9 (some p1)) 10 (some p1)) 11 (some p1)) 12 (some p1)) 13 (some p1)) 14 (some p1)) 15 (some p1)) 16 (some p1)) 17 (some p1)))))))] := hD
  refine lv_iinc (v := 18) (lv' := [(2, .int (18 : Int32)), (0, .ref ac_a), (1, .ref p1)]) hx hb dX0_init_60 hl (k := 0) rfl (by decide) (by decide) rfl (fun ls hl => ?_)
  refine lv_goto (tgt := 47) hx hb dX0_init_63 (by decide) ?_
  refine lv_iload_n hx hb dX0_init_47 rfl (lv_at hl 0 rfl) ?_
  refine lv_bipush (v := 24) hx hb dX0_init_48 (by decide) ?_
  refine lv_icmp_ge (tgt := 66) hx hb dX0_init_50 (by decide) (fun c9 => absurd c9 (by decide)) (fun _ => ?_)
  refine lv_aload_n hx hb dX0_init_53 rfl (lv_at hl 1 rfl) ?_
  refine va_get (D := G) (ci := 0) (v := .ref q5) (C := RX0) (T := TX0) (N := 7) hx hb hts inX0 hown hK hP 0 rfl rfl 4 (by decide) (hts _ tb226) (fun _ h9 => h9) rfl dX0_init_54 ?_
  refine lv_iload_n hx hb dX0_init_57 rfl (lv_at hl 0 rfl) ?_
  refine lv_aload_n hx hb dX0_init_58 rfl (lv_at hl 2 rfl) ?_
  refine va_astqM hx hb hK hP hD hS 5 2 rfl rfl (sp_any hK (sp_at hE.1 hS hp)) (show ¬ ((18 : Int32) < 0 ∨ 24 ≤ ((18 : Int32)).toNatClampNeg) by decide) dX0_init_59 (fun H locs hP hD hS => ?_)
  have hP : va_P G vwCl [(ac_a, .inr (0, [.ref q1, .ref q2, .ref q3, .ref q4, .ref q5, .int 0, .int 0])), aI K q1 24 (fun _ => 0), aI K q2 24 (fun _ => 0), aI K q3 24 (fun _ => 0), aI K q4 24 (fun _ => 0), (q5, .inl (K 2, 24, .inr (.inr (.inr (.inr (va_up (va_up (va_up (va_up (va_up (va_up (va_up (va_up (va_up (va_up (va_up (va_up (va_up (va_up (va_up (va_up (va_up (va_up (va_up (fun _ => none) 0 (some p1)) 1 (some p1)) 2 (some p1)) 3 (some p1)) 4 (some p1)) 5 (some p1)) 6 (some p1)) 7 (some p1)) 8 (some p1)) 9 (some p1)) 10 (some p1)) 11 (some p1)) 12 (some p1)) 13 (some p1)) 14 (some p1)) 15 (some p1)) 16 (some p1)) 17 (some p1)) 18 (some p1)))))))] H := hP
  have hD : va_D A [(ac_a, .inr (0, [.ref q1, .ref q2, .ref q3, .ref q4, .ref q5, .int 0, .int 0])), aI K q1 24 (fun _ => 0), aI K q2 24 (fun _ => 0), aI K q3 24 (fun _ => 0), aI K q4 24 (fun _ => 0), (q5, .inl (K 2, 24, .inr (.inr (.inr (.inr (va_up (va_up (va_up (va_up (va_up (va_up (va_up (va_up (va_up (va_up (va_up (va_up (va_up (va_up (va_up (va_up (va_up (va_up (va_up (fun _ => none) 0 (some p1)) 1 (some p1)) 2 (some p1)) 3 (some p1)) 4 (some p1)) 5 (some p1)) 6 (some p1)) 7 (some p1)) 8 (some p1)) 9 (some p1)) 10 (some p1)) 11 (some p1)) 12 (some p1)) 13 (some p1)) 14 (some p1)) 15 (some p1)) 16 (some p1)) 17 (some p1)) 18 (some p1)))))))] := hD
  refine lv_iinc (v := 19) (lv' := [(2, .int (19 : Int32)), (0, .ref ac_a), (1, .ref p1)]) hx hb dX0_init_60 hl (k := 0) rfl (by decide) (by decide) rfl (fun ls hl => ?_)
  refine lv_goto (tgt := 47) hx hb dX0_init_63 (by decide) ?_
  refine lv_iload_n hx hb dX0_init_47 rfl (lv_at hl 0 rfl) ?_
  refine lv_bipush (v := 24) hx hb dX0_init_48 (by decide) ?_
  refine lv_icmp_ge (tgt := 66) hx hb dX0_init_50 (by decide) (fun c9 => absurd c9 (by decide)) (fun _ => ?_)
  refine lv_aload_n hx hb dX0_init_53 rfl (lv_at hl 1 rfl) ?_
  refine va_get (D := G) (ci := 0) (v := .ref q5) (C := RX0) (T := TX0) (N := 7) hx hb hts inX0 hown hK hP 0 rfl rfl 4 (by decide) (hts _ tb226) (fun _ h9 => h9) rfl dX0_init_54 ?_
  refine lv_iload_n hx hb dX0_init_57 rfl (lv_at hl 0 rfl) ?_
  refine lv_aload_n hx hb dX0_init_58 rfl (lv_at hl 2 rfl) ?_
  refine va_astqM hx hb hK hP hD hS 5 2 rfl rfl (sp_any hK (sp_at hE.1 hS hp)) (show ¬ ((19 : Int32) < 0 ∨ 24 ≤ ((19 : Int32)).toNatClampNeg) by decide) dX0_init_59 (fun H locs hP hD hS => ?_)
  have hP : va_P G vwCl [(ac_a, .inr (0, [.ref q1, .ref q2, .ref q3, .ref q4, .ref q5, .int 0, .int 0])), aI K q1 24 (fun _ => 0), aI K q2 24 (fun _ => 0), aI K q3 24 (fun _ => 0), aI K q4 24 (fun _ => 0), (q5, .inl (K 2, 24, .inr (.inr (.inr (.inr (va_up (va_up (va_up (va_up (va_up (va_up (va_up (va_up (va_up (va_up (va_up (va_up (va_up (va_up (va_up (va_up (va_up (va_up (va_up (va_up (fun _ => none) 0 (some p1)) 1 (some p1)) 2 (some p1)) 3 (some p1)) 4 (some p1)) 5 (some p1)) 6 (some p1)) 7 (some p1)) 8 (some p1)) 9 (some p1)) 10 (some p1)) 11 (some p1)) 12 (some p1)) 13 (some p1)) 14 (some p1)) 15 (some p1)) 16 (some p1)) 17 (some p1)) 18 (some p1)) 19 (some p1)))))))] H := hP
  have hD : va_D A [(ac_a, .inr (0, [.ref q1, .ref q2, .ref q3, .ref q4, .ref q5, .int 0, .int 0])), aI K q1 24 (fun _ => 0), aI K q2 24 (fun _ => 0), aI K q3 24 (fun _ => 0), aI K q4 24 (fun _ => 0), (q5, .inl (K 2, 24, .inr (.inr (.inr (.inr (va_up (va_up (va_up (va_up (va_up (va_up (va_up (va_up (va_up (va_up (va_up (va_up (va_up (va_up (va_up (va_up (va_up (va_up (va_up (va_up (fun _ => none) 0 (some p1)) 1 (some p1)) 2 (some p1)) 3 (some p1)) 4 (some p1)) 5 (some p1)) 6 (some p1)) 7 (some p1)) 8 (some p1)) 9 (some p1)) 10 (some p1)) 11 (some p1)) 12 (some p1)) 13 (some p1)) 14 (some p1)) 15 (some p1)) 16 (some p1)) 17 (some p1)) 18 (some p1)) 19 (some p1)))))))] := hD
  refine lv_iinc (v := 20) (lv' := [(2, .int (20 : Int32)), (0, .ref ac_a), (1, .ref p1)]) hx hb dX0_init_60 hl (k := 0) rfl (by decide) (by decide) rfl (fun ls hl => ?_)
  refine lv_goto (tgt := 47) hx hb dX0_init_63 (by decide) ?_
  refine lv_iload_n hx hb dX0_init_47 rfl (lv_at hl 0 rfl) ?_
  refine lv_bipush (v := 24) hx hb dX0_init_48 (by decide) ?_
  refine lv_icmp_ge (tgt := 66) hx hb dX0_init_50 (by decide) (fun c9 => absurd c9 (by decide)) (fun _ => ?_)
  refine lv_aload_n hx hb dX0_init_53 rfl (lv_at hl 1 rfl) ?_
  refine va_get (D := G) (ci := 0) (v := .ref q5) (C := RX0) (T := TX0) (N := 7) hx hb hts inX0 hown hK hP 0 rfl rfl 4 (by decide) (hts _ tb226) (fun _ h9 => h9) rfl dX0_init_54 ?_
  refine lv_iload_n hx hb dX0_init_57 rfl (lv_at hl 0 rfl) ?_
  refine lv_aload_n hx hb dX0_init_58 rfl (lv_at hl 2 rfl) ?_
  refine va_astqM hx hb hK hP hD hS 5 2 rfl rfl (sp_any hK (sp_at hE.1 hS hp)) (show ¬ ((20 : Int32) < 0 ∨ 24 ≤ ((20 : Int32)).toNatClampNeg) by decide) dX0_init_59 (fun H locs hP hD hS => ?_)
  have hP : va_P G vwCl [(ac_a, .inr (0, [.ref q1, .ref q2, .ref q3, .ref q4, .ref q5, .int 0, .int 0])), aI K q1 24 (fun _ => 0), aI K q2 24 (fun _ => 0), aI K q3 24 (fun _ => 0), aI K q4 24 (fun _ => 0), (q5, .inl (K 2, 24, .inr (.inr (.inr (.inr (va_up (va_up (va_up (va_up (va_up (va_up (va_up (va_up (va_up (va_up (va_up (va_up (va_up (va_up (va_up (va_up (va_up (va_up (va_up (va_up (va_up (fun _ => none) 0 (some p1)) 1 (some p1)) 2 (some p1)) 3 (some p1)) 4 (some p1)) 5 (some p1)) 6 (some p1)) 7 (some p1)) 8 (some p1)) 9 (some p1)) 10 (some p1)) 11 (some p1)) 12 (some p1)) 13 (some p1)) 14 (some p1)) 15 (some p1)) 16 (some p1)) 17 (some p1)) 18 (some p1)) 19 (some p1)) 20 (some p1)))))))] H := hP
  have hD : va_D A [(ac_a, .inr (0, [.ref q1, .ref q2, .ref q3, .ref q4, .ref q5, .int 0, .int 0])), aI K q1 24 (fun _ => 0), aI K q2 24 (fun _ => 0), aI K q3 24 (fun _ => 0), aI K q4 24 (fun _ => 0), (q5, .inl (K 2, 24, .inr (.inr (.inr (.inr (va_up (va_up (va_up (va_up (va_up (va_up (va_up (va_up (va_up (va_up (va_up (va_up (va_up (va_up (va_up (va_up (va_up (va_up (va_up (va_up (va_up (fun _ => none) 0 (some p1)) 1 (some p1)) 2 (some p1)) 3 (some p1)) 4 (some p1)) 5 (some p1)) 6 (some p1)) 7 (some p1)) 8 (some p1)) 9 (some p1)) 10 (some p1)) 11 (some p1)) 12 (some p1)) 13 (some p1)) 14 (some p1)) 15 (some p1)) 16 (some p1)) 17 (some p1)) 18 (some p1)) 19 (some p1)) 20 (some p1)))))))] := hD
  refine lv_iinc (v := 21) (lv' := [(2, .int (21 : Int32)), (0, .ref ac_a), (1, .ref p1)]) hx hb dX0_init_60 hl (k := 0) rfl (by decide) (by decide) rfl (fun ls hl => ?_)
  refine lv_goto (tgt := 47) hx hb dX0_init_63 (by decide) ?_
  refine lv_iload_n hx hb dX0_init_47 rfl (lv_at hl 0 rfl) ?_
  refine lv_bipush (v := 24) hx hb dX0_init_48 (by decide) ?_
  refine lv_icmp_ge (tgt := 66) hx hb dX0_init_50 (by decide) (fun c9 => absurd c9 (by decide)) (fun _ => ?_)
  refine lv_aload_n hx hb dX0_init_53 rfl (lv_at hl 1 rfl) ?_
  refine va_get (D := G) (ci := 0) (v := .ref q5) (C := RX0) (T := TX0) (N := 7) hx hb hts inX0 hown hK hP 0 rfl rfl 4 (by decide) (hts _ tb226) (fun _ h9 => h9) rfl dX0_init_54 ?_
  refine lv_iload_n hx hb dX0_init_57 rfl (lv_at hl 0 rfl) ?_
  refine lv_aload_n hx hb dX0_init_58 rfl (lv_at hl 2 rfl) ?_
  refine va_astqM hx hb hK hP hD hS 5 2 rfl rfl (sp_any hK (sp_at hE.1 hS hp)) (show ¬ ((21 : Int32) < 0 ∨ 24 ≤ ((21 : Int32)).toNatClampNeg) by decide) dX0_init_59 (fun H locs hP hD hS => ?_)
  have hP : va_P G vwCl [(ac_a, .inr (0, [.ref q1, .ref q2, .ref q3, .ref q4, .ref q5, .int 0, .int 0])), aI K q1 24 (fun _ => 0), aI K q2 24 (fun _ => 0), aI K q3 24 (fun _ => 0), aI K q4 24 (fun _ => 0), (q5, .inl (K 2, 24, .inr (.inr (.inr (.inr (va_up (va_up (va_up (va_up (va_up (va_up (va_up (va_up (va_up (va_up (va_up (va_up (va_up (va_up (va_up (va_up (va_up (va_up (va_up (va_up (va_up (va_up (fun _ => none) 0 (some p1)) 1 (some p1)) 2 (some p1)) 3 (some p1)) 4 (some p1)) 5 (some p1)) 6 (some p1)) 7 (some p1)) 8 (some p1)) 9 (some p1)) 10 (some p1)) 11 (some p1)) 12 (some p1)) 13 (some p1)) 14 (some p1)) 15 (some p1)) 16 (some p1)) 17 (some p1)) 18 (some p1)) 19 (some p1)) 20 (some p1)) 21 (some p1)))))))] H := hP
  have hD : va_D A [(ac_a, .inr (0, [.ref q1, .ref q2, .ref q3, .ref q4, .ref q5, .int 0, .int 0])), aI K q1 24 (fun _ => 0), aI K q2 24 (fun _ => 0), aI K q3 24 (fun _ => 0), aI K q4 24 (fun _ => 0), (q5, .inl (K 2, 24, .inr (.inr (.inr (.inr (va_up (va_up (va_up (va_up (va_up (va_up (va_up (va_up (va_up (va_up (va_up (va_up (va_up (va_up (va_up (va_up (va_up (va_up (va_up (va_up (va_up (va_up (fun _ => none) 0 (some p1)) 1 (some p1)) 2 (some p1)) 3 (some p1)) 4 (some p1)) 5 (some p1)) 6 (some p1)) 7 (some p1)) 8 (some p1)) 9 (some p1)) 10 (some p1)) 11 (some p1)) 12 (some p1)) 13 (some p1)) 14 (some p1)) 15 (some p1)) 16 (some p1)) 17 (some p1)) 18 (some p1)) 19 (some p1)) 20 (some p1)) 21 (some p1)))))))] := hD
  refine lv_iinc (v := 22) (lv' := [(2, .int (22 : Int32)), (0, .ref ac_a), (1, .ref p1)]) hx hb dX0_init_60 hl (k := 0) rfl (by decide) (by decide) rfl (fun ls hl => ?_)
  refine lv_goto (tgt := 47) hx hb dX0_init_63 (by decide) ?_
  refine lv_iload_n hx hb dX0_init_47 rfl (lv_at hl 0 rfl) ?_
  refine lv_bipush (v := 24) hx hb dX0_init_48 (by decide) ?_
  refine lv_icmp_ge (tgt := 66) hx hb dX0_init_50 (by decide) (fun c9 => absurd c9 (by decide)) (fun _ => ?_)
  refine lv_aload_n hx hb dX0_init_53 rfl (lv_at hl 1 rfl) ?_
  refine va_get (D := G) (ci := 0) (v := .ref q5) (C := RX0) (T := TX0) (N := 7) hx hb hts inX0 hown hK hP 0 rfl rfl 4 (by decide) (hts _ tb226) (fun _ h9 => h9) rfl dX0_init_54 ?_
  refine lv_iload_n hx hb dX0_init_57 rfl (lv_at hl 0 rfl) ?_
  refine lv_aload_n hx hb dX0_init_58 rfl (lv_at hl 2 rfl) ?_
  refine va_astqM hx hb hK hP hD hS 5 2 rfl rfl (sp_any hK (sp_at hE.1 hS hp)) (show ¬ ((22 : Int32) < 0 ∨ 24 ≤ ((22 : Int32)).toNatClampNeg) by decide) dX0_init_59 (fun H locs hP hD hS => ?_)
  have hP : va_P G vwCl [(ac_a, .inr (0, [.ref q1, .ref q2, .ref q3, .ref q4, .ref q5, .int 0, .int 0])), aI K q1 24 (fun _ => 0), aI K q2 24 (fun _ => 0), aI K q3 24 (fun _ => 0), aI K q4 24 (fun _ => 0), (q5, .inl (K 2, 24, .inr (.inr (.inr (.inr (va_up (va_up (va_up (va_up (va_up (va_up (va_up (va_up (va_up (va_up (va_up (va_up (va_up (va_up (va_up (va_up (va_up (va_up (va_up (va_up (va_up (va_up (va_up (fun _ => none) 0 (some p1)) 1 (some p1)) 2 (some p1)) 3 (some p1)) 4 (some p1)) 5 (some p1)) 6 (some p1)) 7 (some p1)) 8 (some p1)) 9 (some p1)) 10 (some p1)) 11 (some p1)) 12 (some p1)) 13 (some p1)) 14 (some p1)) 15 (some p1)) 16 (some p1)) 17 (some p1)) 18 (some p1)) 19 (some p1)) 20 (some p1)) 21 (some p1)) 22 (some p1)))))))] H := hP
  have hD : va_D A [(ac_a, .inr (0, [.ref q1, .ref q2, .ref q3, .ref q4, .ref q5, .int 0, .int 0])), aI K q1 24 (fun _ => 0), aI K q2 24 (fun _ => 0), aI K q3 24 (fun _ => 0), aI K q4 24 (fun _ => 0), (q5, .inl (K 2, 24, .inr (.inr (.inr (.inr (va_up (va_up (va_up (va_up (va_up (va_up (va_up (va_up (va_up (va_up (va_up (va_up (va_up (va_up (va_up (va_up (va_up (va_up (va_up (va_up (va_up (va_up (va_up (fun _ => none) 0 (some p1)) 1 (some p1)) 2 (some p1)) 3 (some p1)) 4 (some p1)) 5 (some p1)) 6 (some p1)) 7 (some p1)) 8 (some p1)) 9 (some p1)) 10 (some p1)) 11 (some p1)) 12 (some p1)) 13 (some p1)) 14 (some p1)) 15 (some p1)) 16 (some p1)) 17 (some p1)) 18 (some p1)) 19 (some p1)) 20 (some p1)) 21 (some p1)) 22 (some p1)))))))] := hD
  refine lv_iinc (v := 23) (lv' := [(2, .int (23 : Int32)), (0, .ref ac_a), (1, .ref p1)]) hx hb dX0_init_60 hl (k := 0) rfl (by decide) (by decide) rfl (fun ls hl => ?_)
  refine lv_goto (tgt := 47) hx hb dX0_init_63 (by decide) ?_
  refine lv_iload_n hx hb dX0_init_47 rfl (lv_at hl 0 rfl) ?_
  refine lv_bipush (v := 24) hx hb dX0_init_48 (by decide) ?_
  refine lv_icmp_ge (tgt := 66) hx hb dX0_init_50 (by decide) (fun c9 => absurd c9 (by decide)) (fun _ => ?_)
  refine lv_aload_n hx hb dX0_init_53 rfl (lv_at hl 1 rfl) ?_
  refine va_get (D := G) (ci := 0) (v := .ref q5) (C := RX0) (T := TX0) (N := 7) hx hb hts inX0 hown hK hP 0 rfl rfl 4 (by decide) (hts _ tb226) (fun _ h9 => h9) rfl dX0_init_54 ?_
  refine lv_iload_n hx hb dX0_init_57 rfl (lv_at hl 0 rfl) ?_
  refine lv_aload_n hx hb dX0_init_58 rfl (lv_at hl 2 rfl) ?_
  refine va_astqM hx hb hK hP hD hS 5 2 rfl rfl (sp_any hK (sp_at hE.1 hS hp)) (show ¬ ((23 : Int32) < 0 ∨ 24 ≤ ((23 : Int32)).toNatClampNeg) by decide) dX0_init_59 (fun H locs hP hD hS => ?_)
  have hP : va_P G vwCl [(ac_a, .inr (0, [.ref q1, .ref q2, .ref q3, .ref q4, .ref q5, .int 0, .int 0])), aI K q1 24 (fun _ => 0), aI K q2 24 (fun _ => 0), aI K q3 24 (fun _ => 0), aI K q4 24 (fun _ => 0), (q5, .inl (K 2, 24, .inr (.inr (.inr (.inr (va_up (va_up (va_up (va_up (va_up (va_up (va_up (va_up (va_up (va_up (va_up (va_up (va_up (va_up (va_up (va_up (va_up (va_up (va_up (va_up (va_up (va_up (va_up (va_up (fun _ => none) 0 (some p1)) 1 (some p1)) 2 (some p1)) 3 (some p1)) 4 (some p1)) 5 (some p1)) 6 (some p1)) 7 (some p1)) 8 (some p1)) 9 (some p1)) 10 (some p1)) 11 (some p1)) 12 (some p1)) 13 (some p1)) 14 (some p1)) 15 (some p1)) 16 (some p1)) 17 (some p1)) 18 (some p1)) 19 (some p1)) 20 (some p1)) 21 (some p1)) 22 (some p1)) 23 (some p1)))))))] H := hP
  have hD : va_D A [(ac_a, .inr (0, [.ref q1, .ref q2, .ref q3, .ref q4, .ref q5, .int 0, .int 0])), aI K q1 24 (fun _ => 0), aI K q2 24 (fun _ => 0), aI K q3 24 (fun _ => 0), aI K q4 24 (fun _ => 0), (q5, .inl (K 2, 24, .inr (.inr (.inr (.inr (va_up (va_up (va_up (va_up (va_up (va_up (va_up (va_up (va_up (va_up (va_up (va_up (va_up (va_up (va_up (va_up (va_up (va_up (va_up (va_up (va_up (va_up (va_up (va_up (fun _ => none) 0 (some p1)) 1 (some p1)) 2 (some p1)) 3 (some p1)) 4 (some p1)) 5 (some p1)) 6 (some p1)) 7 (some p1)) 8 (some p1)) 9 (some p1)) 10 (some p1)) 11 (some p1)) 12 (some p1)) 13 (some p1)) 14 (some p1)) 15 (some p1)) 16 (some p1)) 17 (some p1)) 18 (some p1)) 19 (some p1)) 20 (some p1)) 21 (some p1)) 22 (some p1)) 23 (some p1)))))))] := hD
  refine lv_iinc (v := 24) (lv' := [(2, .int (24 : Int32)), (0, .ref ac_a), (1, .ref p1)]) hx hb dX0_init_60 hl (k := 0) rfl (by decide) (by decide) rfl (fun ls hl => ?_)
  refine lv_goto (tgt := 47) hx hb dX0_init_63 (by decide) ?_
  refine lv_iload_n hx hb dX0_init_47 rfl (lv_at hl 0 rfl) ?_
  refine lv_bipush (v := 24) hx hb dX0_init_48 (by decide) ?_
  refine lv_icmp_ge (tgt := 66) hx hb dX0_init_50 (by decide) (fun _ => ?_) (fun c9 => absurd (by decide) c9)
  have hP := va_P_tell hP 5 (aS K q5 24 (fun _ => p1)) (vp_same (f := (va_up (va_up (va_up (va_up (va_up (va_up (va_up (va_up (va_up (va_up (va_up (va_up (va_up (va_up (va_up (va_up (va_up (va_up (va_up (va_up (va_up (va_up (va_up (va_up (fun _ => none) 0 (some p1)) 1 (some p1)) 2 (some p1)) 3 (some p1)) 4 (some p1)) 5 (some p1)) 6 (some p1)) 7 (some p1)) 8 (some p1)) 9 (some p1)) 10 (some p1)) 11 (some p1)) 12 (some p1)) 13 (some p1)) 14 (some p1)) 15 (some p1)) 16 (some p1)) 17 (some p1)) 18 (some p1)) 19 (some p1)) 20 (some p1)) 21 (some p1)) 22 (some p1)) 23 (some p1))) (fun j hj => by rcases (show j = 0 ∨ j = 1 ∨ j = 2 ∨ j = 3 ∨ j = 4 ∨ j = 5 ∨ j = 6 ∨ j = 7 ∨ j = 8 ∨ j = 9 ∨ j = 10 ∨ j = 11 ∨ j = 12 ∨ j = 13 ∨ j = 14 ∨ j = 15 ∨ j = 16 ∨ j = 17 ∨ j = 18 ∨ j = 19 ∨ j = 20 ∨ j = 21 ∨ j = 22 ∨ j = 23 by omega) with rfl | rfl | rfl | rfl | rfl | rfl | rfl | rfl | rfl | rfl | rfl | rfl | rfl | rfl | rfl | rfl | rfl | rfl | rfl | rfl | rfl | rfl | rfl | rfl <;> rfl) (hP 5 _ rfl))
  have hP : va_P G vwCl [(ac_a, .inr (0, [.ref q1, .ref q2, .ref q3, .ref q4, .ref q5, .int 0, .int 0])), aI K q1 24 (fun _ => 0), aI K q2 24 (fun _ => 0), aI K q3 24 (fun _ => 0), aI K q4 24 (fun _ => 0), aS K q5 24 (fun _ => p1)] H := hP
  have hD : va_D A [(ac_a, .inr (0, [.ref q1, .ref q2, .ref q3, .ref q4, .ref q5, .int 0, .int 0])), aI K q1 24 (fun _ => 0), aI K q2 24 (fun _ => 0), aI K q3 24 (fun _ => 0), aI K q4 24 (fun _ => 0), aS K q5 24 (fun _ => p1)] := va_D_adr (ws := [(ac_a, .inr (0, [.ref q1, .ref q2, .ref q3, .ref q4, .ref q5, .int 0, .int 0])), aI K q1 24 (fun _ => 0), aI K q2 24 (fun _ => 0), aI K q3 24 (fun _ => 0), aI K q4 24 (fun _ => 0), (q5, .inl (K 2, 24, .inr (.inr (.inr (.inr (va_up (va_up (va_up (va_up (va_up (va_up (va_up (va_up (va_up (va_up (va_up (va_up (va_up (va_up (va_up (va_up (va_up (va_up (va_up (va_up (va_up (va_up (va_up (va_up (fun _ => none) 0 (some p1)) 1 (some p1)) 2 (some p1)) 3 (some p1)) 4 (some p1)) 5 (some p1)) 6 (some p1)) 7 (some p1)) 8 (some p1)) 9 (some p1)) 10 (some p1)) 11 (some p1)) 12 (some p1)) 13 (some p1)) 14 (some p1)) 15 (some p1)) 16 (some p1)) 17 (some p1)) 18 (some p1)) 19 (some p1)) 20 (some p1)) 21 (some p1)) 22 (some p1)) 23 (some p1)))))))]) rfl hD
  refine W.widen (k := 5) (n := 120) (Nat.le_of_ble_eq_true rfl) (Nat.le_of_ble_eq_true rfl) ?_
  exact W.vret hx hb hr (fun t ht hW => ⟨⟨(fun j => ([q1, q2, q3, q4, q5] : List Nat).getD j 0), rfl, trivial, (show va_P G vwCl _ t.heap by rw [ht]; exact hP), hD⟩, hS.F ht⟩) hS.2.2 dX0_init_66
def rmX7_init : Room := { frames := 1, cells := 15, slots := 6536, locals := 20 }
theorem hdX7_init : yX7_init.cls ≠ "java/lang/invoke/MethodHandle" ∧ yX7_init.cls ≠ "java/lang/invoke/VarHandle" ∧ (parseMethodDescriptor yX7_init.desc).map (fun d => d.parameters.length) = some 0 := by decide +kernel
set_option maxHeartbeats 40000000 in
set_option maxRecDepth 100000 in
theorem kX7_init (l : Launch) (G : va_G) (K : Nat → ClassId) (m_a : Nat)   (sz : Nat)  : Met l yX7_init (mC yX7_init cX7_init 1 none) rmX7_init (va_Pc [.ref m_a] (PCe G K E0 [(m_a, .inr (7, [.int 0, .int 0, .null, .null, .null, .null, .null, .null, .null, .int 0, .null, .int 0, .int 0, .int 0, .int 0, .int 0, .int 0, .int 0, .int 0, .null, .null, .null, .int 0, .int 0, .int 0, .null, .int 0, .int 0, .int 0, .null, .null, .null, .int 0]))] sz)) (va_Qv (fun (_ : Nat → Nat) => True) (fun u t => va_P G vwCl ([(m_a, .inr (7, [.int 0, .int 0, .ref (u 0), .ref (u 1), .ref (u 2), .ref (u 3), .ref (u 4), .ref (u 5), .ref (u 6), .int 0, .ref (u 7), .int 0, .int 0, .int 0, .int 0, .int 0, .int 0, .int 0, .int 0, .ref (u 8), .ref (u 9), .ref (u 10), .int 0, .int 0, .int 0, .ref (u 11), .int 0, .int 0, .int 0, .ref (u 12), .ref (u 13), .ref (u 14), .int 0]))] ++ [aI K (u 0) 8 (upd (upd (upd (upd (upd (upd (upd (upd (fun _ => 0) (0 : Int32).toNatClampNeg (-1 : Int32)) (1 : Int32).toNatClampNeg (-1 : Int32)) (2 : Int32).toNatClampNeg (-1 : Int32)) (3 : Int32).toNatClampNeg (-1 : Int32)) (4 : Int32).toNatClampNeg (-1 : Int32)) (5 : Int32).toNatClampNeg (-1 : Int32)) (6 : Int32).toNatClampNeg (-1 : Int32)) (7 : Int32).toNatClampNeg (-1 : Int32)), aI K (u 1) 8 (fun _ => 0), aI K (u 2) 320 (fun _ => 0), aI K (u 3) 207 (fun _ => 0), aI K (u 4) 207 (fun _ => 0), aI K (u 5) 207 (fun _ => 0), aI K (u 6) 4968 (fun _ => 0), aI K (u 7) 130 (fun _ => 0), aI K (u 8) 20 (fun _ => 0), aI K (u 9) 5 (fun _ => 0), aI K (u 10) 20 (fun _ => 0), aI K (u 11) 4 (fun _ => 0), aZ K (u 12) 2 (fun _ => 0), aI K (u 13) 414 (fun _ => 0), aI K (u 14) 16 (fun _ => 0)]) t.heap ∧ va_D (va_A [(m_a, .inr (7, [.int 0, .int 0, .null, .null, .null, .null, .null, .null, .null, .int 0, .null, .int 0, .int 0, .int 0, .int 0, .int 0, .int 0, .int 0, .int 0, .null, .null, .null, .int 0, .int 0, .int 0, .null, .int 0, .int 0, .int 0, .null, .null, .null, .int 0]))] sz) ([(m_a, .inr (7, [.int 0, .int 0, .ref (u 0), .ref (u 1), .ref (u 2), .ref (u 3), .ref (u 4), .ref (u 5), .ref (u 6), .int 0, .ref (u 7), .int 0, .int 0, .int 0, .int 0, .int 0, .int 0, .int 0, .int 0, .ref (u 8), .ref (u 9), .ref (u 10), .int 0, .int 0, .int 0, .ref (u 11), .int 0, .int 0, .int 0, .ref (u 12), .ref (u 13), .ref (u 14), .int 0]))] ++ [aI K (u 0) 8 (upd (upd (upd (upd (upd (upd (upd (upd (fun _ => 0) (0 : Int32).toNatClampNeg (-1 : Int32)) (1 : Int32).toNatClampNeg (-1 : Int32)) (2 : Int32).toNatClampNeg (-1 : Int32)) (3 : Int32).toNatClampNeg (-1 : Int32)) (4 : Int32).toNatClampNeg (-1 : Int32)) (5 : Int32).toNatClampNeg (-1 : Int32)) (6 : Int32).toNatClampNeg (-1 : Int32)) (7 : Int32).toNatClampNeg (-1 : Int32)), aI K (u 1) 8 (fun _ => 0), aI K (u 2) 320 (fun _ => 0), aI K (u 3) 207 (fun _ => 0), aI K (u 4) 207 (fun _ => 0), aI K (u 5) 207 (fun _ => 0), aI K (u 6) 4968 (fun _ => 0), aI K (u 7) 130 (fun _ => 0), aI K (u 8) 20 (fun _ => 0), aI K (u 9) 5 (fun _ => 0), aI K (u 10) 20 (fun _ => 0), aI K (u 11) 4 (fun _ => 0), aZ K (u 12) 2 (fun _ => 0), aI K (u 13) 414 (fun _ => 0), aI K (u 14) 16 (fun _ => 0)])) (va_A [(m_a, .inr (7, [.int 0, .int 0, .null, .null, .null, .null, .null, .null, .null, .int 0, .null, .int 0, .int 0, .int 0, .int 0, .int 0, .int 0, .int 0, .int 0, .null, .null, .null, .int 0, .int 0, .int 0, .null, .int 0, .int 0, .int 0, .null, .null, .null, .int 0]))] sz)) rmX7_init.cells rmX7_init.slots (va_A [(m_a, .inr (7, [.int 0, .int 0, .null, .null, .null, .null, .null, .null, .null, .int 0, .null, .int 0, .int 0, .int 0, .int 0, .int 0, .int 0, .int 0, .int 0, .null, .null, .null, .int 0, .int 0, .int 0, .null, .int 0, .int 0, .int 0, .null, .null, .null, .int 0]))] sz) := by
  refine Met.ofW (cc := cX7_init) (maxL := 1) (ret := none) (by decide) rfl ?_
  intro p e s m args below meth c s₁ B hml hv
  obtain ⟨rfl, hsz, hP, hK, hD0, hE⟩ := hv
  have hx := B.exec
  have hb := B.bytes
  have hr := B.returns
  have hts0 := atoms_spec (ws := mC yX7_init cX7_init 1 none) B.pre
  have hts : ∀ w ∈ tbG, w.before _ s = true := fun w h => hts0 w (List.mem_cons_of_mem _ h)
  have hown : s.vm.findClass RX7 = some m.cls := findClass_of_methodNamed B.named
  have hin : meth.name = "<init>" := (name_of_methodNamed B.named B.method).1
  subst hsz
  have hD := hD0.self (sz := s.heap.size)
  generalize hAe : va_A [(m_a, .inr (7, [.int 0, .int 0, .null, .null, .null, .null, .null, .null, .null, .int 0, .null, .int 0, .int 0, .int 0, .int 0, .int 0, .int 0, .int 0, .int 0, .null, .null, .null, .int 0, .int 0, .int 0, .null, .int 0, .int 0, .int 0, .null, .null, .null, .int 0]))] s.heap.size = A at hD hE ⊢
  have hA : ∀ q : Nat, s.heap.size ≤ q → A q := fun q h => by rw [← hAe]; exact Or.inr h
  have hS : va_S A s.heap s.heap [] := va_S.rf
  have hl := lv_entry ([.ref m_a]) (n := 1) (Nat.le_of_ble_eq_true rfl)
  rw [lg_entry_eq]
  generalize (lg_sl ([.ref m_a]) ++ List.replicate (1 - (lg_sl ([.ref m_a])).length) Slot.unset).toArray = ls at hl ⊢
  have hl : lv_has ls 1 [(0, .ref m_a)] := hl
  have C0 : CX p s m _ c cX7_init 1 RX7 G K E0 A := ⟨hx, hb, hml, hown, hts, hK, hA, E0_ok, hE⟩
  refine lv_aload_n hx hb dX7_init_0 rfl (lv_at hl 0 rfl) ?_
  refine W.objInit hx hb hown (hts _ tb763) (hts _ tb18) (hts _ tb19) rfl (by rw [hml]; exact hl.1) rfl dX7_init_1 (Nat.le_of_ble_eq_true rfl) (Nat.le_of_ble_eq_true rfl) ?_
  refine W.eq (g2 := F0 m 4 ls []) rfl ?_
  refine lv_aload_n hx hb dX7_init_4 rfl (lv_at hl 0 rfl) ?_
  refine lv_bipush (v := 8) hx hb dX7_init_5 (by decide) ?_
  refine va_newa (atype := .int) (ty := .int) (a0 := (8, .inl (fun _ => 0))) (N' := 8) hx hb (hts _ tb51) rfl hK hP hD hS hA (fun _ => rfl) (by decide) (by decide) (by decide) (Nat.le_of_ble_eq_true rfl) (Nat.le_of_ble_eq_true rfl) dX7_init_7 (fun q1 cA H hK2 hP hD hS => ?_)
  have eA := vn_ci hK hK2
  subst eA
  have hP : va_P G vwCl [(m_a, .inr (7, [.int 0, .int 0, .null, .null, .null, .null, .null, .null, .null, .int 0, .null, .int 0, .int 0, .int 0, .int 0, .int 0, .int 0, .int 0, .int 0, .null, .null, .null, .int 0, .int 0, .int 0, .null, .int 0, .int 0, .int 0, .null, .null, .null, .int 0])), aI K q1 8 (fun _ => 0)] H := hP
  have hD : va_D A [(m_a, .inr (7, [.int 0, .int 0, .null, .null, .null, .null, .null, .null, .null, .int 0, .null, .int 0, .int 0, .int 0, .int 0, .int 0, .int 0, .int 0, .int 0, .null, .null, .null, .int 0, .int 0, .int 0, .null, .int 0, .int 0, .int 0, .null, .null, .null, .int 0])), aI K q1 8 (fun _ => 0)] := hD
  refine lv_dup hx hb dX7_init_9 rfl ?_
  refine lv_iconst (v := 0) hx hb dX7_init_10 (by decide) ?_
  refine lv_iconst (v := -1) hx hb dX7_init_11 (by decide) ?_
  refine va_iast hx hb hK hP hD hS 1 0 rfl rfl (show ¬ ((0 : Int32) < 0 ∨ 8 ≤ ((0 : Int32)).toNatClampNeg) by decide) dX7_init_12 (fun H locs hP hD hS => ?_)
  have hP : va_P G vwCl [(m_a, .inr (7, [.int 0, .int 0, .null, .null, .null, .null, .null, .null, .null, .int 0, .null, .int 0, .int 0, .int 0, .int 0, .int 0, .int 0, .int 0, .int 0, .null, .null, .null, .int 0, .int 0, .int 0, .null, .int 0, .int 0, .int 0, .null, .null, .null, .int 0])), aI K q1 8 (upd (fun _ => 0) (0 : Int32).toNatClampNeg (-1 : Int32))] H := hP
  have hD : va_D A [(m_a, .inr (7, [.int 0, .int 0, .null, .null, .null, .null, .null, .null, .null, .int 0, .null, .int 0, .int 0, .int 0, .int 0, .int 0, .int 0, .int 0, .int 0, .null, .null, .null, .int 0, .int 0, .int 0, .null, .int 0, .int 0, .int 0, .null, .null, .null, .int 0])), aI K q1 8 (upd (fun _ => 0) (0 : Int32).toNatClampNeg (-1 : Int32))] := hD
  refine lv_dup hx hb dX7_init_13 rfl ?_
  refine lv_iconst (v := 1) hx hb dX7_init_14 (by decide) ?_
  refine lv_iconst (v := -1) hx hb dX7_init_15 (by decide) ?_
  refine va_iast hx hb hK hP hD hS 1 0 rfl rfl (show ¬ ((1 : Int32) < 0 ∨ 8 ≤ ((1 : Int32)).toNatClampNeg) by decide) dX7_init_16 (fun H locs hP hD hS => ?_)
  have hP : va_P G vwCl [(m_a, .inr (7, [.int 0, .int 0, .null, .null, .null, .null, .null, .null, .null, .int 0, .null, .int 0, .int 0, .int 0, .int 0, .int 0, .int 0, .int 0, .int 0, .null, .null, .null, .int 0, .int 0, .int 0, .null, .int 0, .int 0, .int 0, .null, .null, .null, .int 0])), aI K q1 8 (upd (upd (fun _ => 0) (0 : Int32).toNatClampNeg (-1 : Int32)) (1 : Int32).toNatClampNeg (-1 : Int32))] H := hP
  have hD : va_D A [(m_a, .inr (7, [.int 0, .int 0, .null, .null, .null, .null, .null, .null, .null, .int 0, .null, .int 0, .int 0, .int 0, .int 0, .int 0, .int 0, .int 0, .int 0, .null, .null, .null, .int 0, .int 0, .int 0, .null, .int 0, .int 0, .int 0, .null, .null, .null, .int 0])), aI K q1 8 (upd (upd (fun _ => 0) (0 : Int32).toNatClampNeg (-1 : Int32)) (1 : Int32).toNatClampNeg (-1 : Int32))] := hD
  refine lv_dup hx hb dX7_init_17 rfl ?_
  refine lv_iconst (v := 2) hx hb dX7_init_18 (by decide) ?_
  refine lv_iconst (v := -1) hx hb dX7_init_19 (by decide) ?_
  refine va_iast hx hb hK hP hD hS 1 0 rfl rfl (show ¬ ((2 : Int32) < 0 ∨ 8 ≤ ((2 : Int32)).toNatClampNeg) by decide) dX7_init_20 (fun H locs hP hD hS => ?_)
  have hP : va_P G vwCl [(m_a, .inr (7, [.int 0, .int 0, .null, .null, .null, .null, .null, .null, .null, .int 0, .null, .int 0, .int 0, .int 0, .int 0, .int 0, .int 0, .int 0, .int 0, .null, .null, .null, .int 0, .int 0, .int 0, .null, .int 0, .int 0, .int 0, .null, .null, .null, .int 0])), aI K q1 8 (upd (upd (upd (fun _ => 0) (0 : Int32).toNatClampNeg (-1 : Int32)) (1 : Int32).toNatClampNeg (-1 : Int32)) (2 : Int32).toNatClampNeg (-1 : Int32))] H := hP
  have hD : va_D A [(m_a, .inr (7, [.int 0, .int 0, .null, .null, .null, .null, .null, .null, .null, .int 0, .null, .int 0, .int 0, .int 0, .int 0, .int 0, .int 0, .int 0, .int 0, .null, .null, .null, .int 0, .int 0, .int 0, .null, .int 0, .int 0, .int 0, .null, .null, .null, .int 0])), aI K q1 8 (upd (upd (upd (fun _ => 0) (0 : Int32).toNatClampNeg (-1 : Int32)) (1 : Int32).toNatClampNeg (-1 : Int32)) (2 : Int32).toNatClampNeg (-1 : Int32))] := hD
  refine lv_dup hx hb dX7_init_21 rfl ?_
  refine lv_iconst (v := 3) hx hb dX7_init_22 (by decide) ?_
  refine lv_iconst (v := -1) hx hb dX7_init_23 (by decide) ?_
  refine va_iast hx hb hK hP hD hS 1 0 rfl rfl (show ¬ ((3 : Int32) < 0 ∨ 8 ≤ ((3 : Int32)).toNatClampNeg) by decide) dX7_init_24 (fun H locs hP hD hS => ?_)
  have hP : va_P G vwCl [(m_a, .inr (7, [.int 0, .int 0, .null, .null, .null, .null, .null, .null, .null, .int 0, .null, .int 0, .int 0, .int 0, .int 0, .int 0, .int 0, .int 0, .int 0, .null, .null, .null, .int 0, .int 0, .int 0, .null, .int 0, .int 0, .int 0, .null, .null, .null, .int 0])), aI K q1 8 (upd (upd (upd (upd (fun _ => 0) (0 : Int32).toNatClampNeg (-1 : Int32)) (1 : Int32).toNatClampNeg (-1 : Int32)) (2 : Int32).toNatClampNeg (-1 : Int32)) (3 : Int32).toNatClampNeg (-1 : Int32))] H := hP
  have hD : va_D A [(m_a, .inr (7, [.int 0, .int 0, .null, .null, .null, .null, .null, .null, .null, .int 0, .null, .int 0, .int 0, .int 0, .int 0, .int 0, .int 0, .int 0, .int 0, .null, .null, .null, .int 0, .int 0, .int 0, .null, .int 0, .int 0, .int 0, .null, .null, .null, .int 0])), aI K q1 8 (upd (upd (upd (upd (fun _ => 0) (0 : Int32).toNatClampNeg (-1 : Int32)) (1 : Int32).toNatClampNeg (-1 : Int32)) (2 : Int32).toNatClampNeg (-1 : Int32)) (3 : Int32).toNatClampNeg (-1 : Int32))] := hD
  refine lv_dup hx hb dX7_init_25 rfl ?_
  refine lv_iconst (v := 4) hx hb dX7_init_26 (by decide) ?_
  refine lv_iconst (v := -1) hx hb dX7_init_27 (by decide) ?_
  refine va_iast hx hb hK hP hD hS 1 0 rfl rfl (show ¬ ((4 : Int32) < 0 ∨ 8 ≤ ((4 : Int32)).toNatClampNeg) by decide) dX7_init_28 (fun H locs hP hD hS => ?_)
  have hP : va_P G vwCl [(m_a, .inr (7, [.int 0, .int 0, .null, .null, .null, .null, .null, .null, .null, .int 0, .null, .int 0, .int 0, .int 0, .int 0, .int 0, .int 0, .int 0, .int 0, .null, .null, .null, .int 0, .int 0, .int 0, .null, .int 0, .int 0, .int 0, .null, .null, .null, .int 0])), aI K q1 8 (upd (upd (upd (upd (upd (fun _ => 0) (0 : Int32).toNatClampNeg (-1 : Int32)) (1 : Int32).toNatClampNeg (-1 : Int32)) (2 : Int32).toNatClampNeg (-1 : Int32)) (3 : Int32).toNatClampNeg (-1 : Int32)) (4 : Int32).toNatClampNeg (-1 : Int32))] H := hP
  have hD : va_D A [(m_a, .inr (7, [.int 0, .int 0, .null, .null, .null, .null, .null, .null, .null, .int 0, .null, .int 0, .int 0, .int 0, .int 0, .int 0, .int 0, .int 0, .int 0, .null, .null, .null, .int 0, .int 0, .int 0, .null, .int 0, .int 0, .int 0, .null, .null, .null, .int 0])), aI K q1 8 (upd (upd (upd (upd (upd (fun _ => 0) (0 : Int32).toNatClampNeg (-1 : Int32)) (1 : Int32).toNatClampNeg (-1 : Int32)) (2 : Int32).toNatClampNeg (-1 : Int32)) (3 : Int32).toNatClampNeg (-1 : Int32)) (4 : Int32).toNatClampNeg (-1 : Int32))] := hD
  refine lv_dup hx hb dX7_init_29 rfl ?_
  refine lv_iconst (v := 5) hx hb dX7_init_30 (by decide) ?_
  refine lv_iconst (v := -1) hx hb dX7_init_31 (by decide) ?_
  refine va_iast hx hb hK hP hD hS 1 0 rfl rfl (show ¬ ((5 : Int32) < 0 ∨ 8 ≤ ((5 : Int32)).toNatClampNeg) by decide) dX7_init_32 (fun H locs hP hD hS => ?_)
  have hP : va_P G vwCl [(m_a, .inr (7, [.int 0, .int 0, .null, .null, .null, .null, .null, .null, .null, .int 0, .null, .int 0, .int 0, .int 0, .int 0, .int 0, .int 0, .int 0, .int 0, .null, .null, .null, .int 0, .int 0, .int 0, .null, .int 0, .int 0, .int 0, .null, .null, .null, .int 0])), aI K q1 8 (upd (upd (upd (upd (upd (upd (fun _ => 0) (0 : Int32).toNatClampNeg (-1 : Int32)) (1 : Int32).toNatClampNeg (-1 : Int32)) (2 : Int32).toNatClampNeg (-1 : Int32)) (3 : Int32).toNatClampNeg (-1 : Int32)) (4 : Int32).toNatClampNeg (-1 : Int32)) (5 : Int32).toNatClampNeg (-1 : Int32))] H := hP
  have hD : va_D A [(m_a, .inr (7, [.int 0, .int 0, .null, .null, .null, .null, .null, .null, .null, .int 0, .null, .int 0, .int 0, .int 0, .int 0, .int 0, .int 0, .int 0, .int 0, .null, .null, .null, .int 0, .int 0, .int 0, .null, .int 0, .int 0, .int 0, .null, .null, .null, .int 0])), aI K q1 8 (upd (upd (upd (upd (upd (upd (fun _ => 0) (0 : Int32).toNatClampNeg (-1 : Int32)) (1 : Int32).toNatClampNeg (-1 : Int32)) (2 : Int32).toNatClampNeg (-1 : Int32)) (3 : Int32).toNatClampNeg (-1 : Int32)) (4 : Int32).toNatClampNeg (-1 : Int32)) (5 : Int32).toNatClampNeg (-1 : Int32))] := hD
  refine lv_dup hx hb dX7_init_33 rfl ?_
  refine lv_bipush (v := 6) hx hb dX7_init_34 (by decide) ?_
  refine lv_iconst (v := -1) hx hb dX7_init_36 (by decide) ?_
  refine va_iast hx hb hK hP hD hS 1 0 rfl rfl (show ¬ ((6 : Int32) < 0 ∨ 8 ≤ ((6 : Int32)).toNatClampNeg) by decide) dX7_init_37 (fun H locs hP hD hS => ?_)
  have hP : va_P G vwCl [(m_a, .inr (7, [.int 0, .int 0, .null, .null, .null, .null, .null, .null, .null, .int 0, .null, .int 0, .int 0, .int 0, .int 0, .int 0, .int 0, .int 0, .int 0, .null, .null, .null, .int 0, .int 0, .int 0, .null, .int 0, .int 0, .int 0, .null, .null, .null, .int 0])), aI K q1 8 (upd (upd (upd (upd (upd (upd (upd (fun _ => 0) (0 : Int32).toNatClampNeg (-1 : Int32)) (1 : Int32).toNatClampNeg (-1 : Int32)) (2 : Int32).toNatClampNeg (-1 : Int32)) (3 : Int32).toNatClampNeg (-1 : Int32)) (4 : Int32).toNatClampNeg (-1 : Int32)) (5 : Int32).toNatClampNeg (-1 : Int32)) (6 : Int32).toNatClampNeg (-1 : Int32))] H := hP
  have hD : va_D A [(m_a, .inr (7, [.int 0, .int 0, .null, .null, .null, .null, .null, .null, .null, .int 0, .null, .int 0, .int 0, .int 0, .int 0, .int 0, .int 0, .int 0, .int 0, .null, .null, .null, .int 0, .int 0, .int 0, .null, .int 0, .int 0, .int 0, .null, .null, .null, .int 0])), aI K q1 8 (upd (upd (upd (upd (upd (upd (upd (fun _ => 0) (0 : Int32).toNatClampNeg (-1 : Int32)) (1 : Int32).toNatClampNeg (-1 : Int32)) (2 : Int32).toNatClampNeg (-1 : Int32)) (3 : Int32).toNatClampNeg (-1 : Int32)) (4 : Int32).toNatClampNeg (-1 : Int32)) (5 : Int32).toNatClampNeg (-1 : Int32)) (6 : Int32).toNatClampNeg (-1 : Int32))] := hD
  refine lv_dup hx hb dX7_init_38 rfl ?_
  refine lv_bipush (v := 7) hx hb dX7_init_39 (by decide) ?_
  refine lv_iconst (v := -1) hx hb dX7_init_41 (by decide) ?_
  refine va_iast hx hb hK hP hD hS 1 0 rfl rfl (show ¬ ((7 : Int32) < 0 ∨ 8 ≤ ((7 : Int32)).toNatClampNeg) by decide) dX7_init_42 (fun H locs hP hD hS => ?_)
  have hP : va_P G vwCl [(m_a, .inr (7, [.int 0, .int 0, .null, .null, .null, .null, .null, .null, .null, .int 0, .null, .int 0, .int 0, .int 0, .int 0, .int 0, .int 0, .int 0, .int 0, .null, .null, .null, .int 0, .int 0, .int 0, .null, .int 0, .int 0, .int 0, .null, .null, .null, .int 0])), aI K q1 8 (upd (upd (upd (upd (upd (upd (upd (upd (fun _ => 0) (0 : Int32).toNatClampNeg (-1 : Int32)) (1 : Int32).toNatClampNeg (-1 : Int32)) (2 : Int32).toNatClampNeg (-1 : Int32)) (3 : Int32).toNatClampNeg (-1 : Int32)) (4 : Int32).toNatClampNeg (-1 : Int32)) (5 : Int32).toNatClampNeg (-1 : Int32)) (6 : Int32).toNatClampNeg (-1 : Int32)) (7 : Int32).toNatClampNeg (-1 : Int32))] H := hP
  have hD : va_D A [(m_a, .inr (7, [.int 0, .int 0, .null, .null, .null, .null, .null, .null, .null, .int 0, .null, .int 0, .int 0, .int 0, .int 0, .int 0, .int 0, .int 0, .int 0, .null, .null, .null, .int 0, .int 0, .int 0, .null, .int 0, .int 0, .int 0, .null, .null, .null, .int 0])), aI K q1 8 (upd (upd (upd (upd (upd (upd (upd (upd (fun _ => 0) (0 : Int32).toNatClampNeg (-1 : Int32)) (1 : Int32).toNatClampNeg (-1 : Int32)) (2 : Int32).toNatClampNeg (-1 : Int32)) (3 : Int32).toNatClampNeg (-1 : Int32)) (4 : Int32).toNatClampNeg (-1 : Int32)) (5 : Int32).toNatClampNeg (-1 : Int32)) (6 : Int32).toNatClampNeg (-1 : Int32)) (7 : Int32).toNatClampNeg (-1 : Int32))] := hD
  refine va_putF (D := G) (ci := 7) (v := .ref q1) (ty := tyX7 2) (C := RX7) (T := TX7) (N := 33) hx hb hts inX7 tyX7 tyX7_ok nmX7 hown hK hP hD hS 0 rfl rfl 2 (by decide) (hts _ tb766) (fun _ h9 => h9) rfl hin rfl (tyX7_ok 2 (by decide)) rfl rfl (Nat.le_of_ble_eq_true rfl) dX7_init_43 (fun H locs hP hD hS => ?_)
  have hP : va_P G vwCl [(m_a, .inr (7, [.int 0, .int 0, .ref q1, .null, .null, .null, .null, .null, .null, .int 0, .null, .int 0, .int 0, .int 0, .int 0, .int 0, .int 0, .int 0, .int 0, .null, .null, .null, .int 0, .int 0, .int 0, .null, .int 0, .int 0, .int 0, .null, .null, .null, .int 0])), aI K q1 8 (upd (upd (upd (upd (upd (upd (upd (upd (fun _ => 0) (0 : Int32).toNatClampNeg (-1 : Int32)) (1 : Int32).toNatClampNeg (-1 : Int32)) (2 : Int32).toNatClampNeg (-1 : Int32)) (3 : Int32).toNatClampNeg (-1 : Int32)) (4 : Int32).toNatClampNeg (-1 : Int32)) (5 : Int32).toNatClampNeg (-1 : Int32)) (6 : Int32).toNatClampNeg (-1 : Int32)) (7 : Int32).toNatClampNeg (-1 : Int32))] H := hP
  have hD : va_D A [(m_a, .inr (7, [.int 0, .int 0, .ref q1, .null, .null, .null, .null, .null, .null, .int 0, .null, .int 0, .int 0, .int 0, .int 0, .int 0, .int 0, .int 0, .int 0, .null, .null, .null, .int 0, .int 0, .int 0, .null, .int 0, .int 0, .int 0, .null, .null, .null, .int 0])), aI K q1 8 (upd (upd (upd (upd (upd (upd (upd (upd (fun _ => 0) (0 : Int32).toNatClampNeg (-1 : Int32)) (1 : Int32).toNatClampNeg (-1 : Int32)) (2 : Int32).toNatClampNeg (-1 : Int32)) (3 : Int32).toNatClampNeg (-1 : Int32)) (4 : Int32).toNatClampNeg (-1 : Int32)) (5 : Int32).toNatClampNeg (-1 : Int32)) (6 : Int32).toNatClampNeg (-1 : Int32)) (7 : Int32).toNatClampNeg (-1 : Int32))] := hD
  refine lv_aload_n hx hb dX7_init_46 rfl (lv_at hl 0 rfl) ?_
  refine lv_bipush (v := 8) hx hb dX7_init_47 (by decide) ?_
  refine va_newa (atype := .int) (ty := .int) (a0 := (8, .inl (fun _ => 0))) (N' := 8) hx hb (hts _ tb51) rfl hK hP hD hS hA (fun _ => rfl) (by decide) (by decide) (by decide) (Nat.le_of_ble_eq_true rfl) (Nat.le_of_ble_eq_true rfl) dX7_init_49 (fun q2 cA H hK2 hP hD hS => ?_)
  have eA := vn_ci hK hK2
  subst eA
  have hP : va_P G vwCl [(m_a, .inr (7, [.int 0, .int 0, .ref q1, .null, .null, .null, .null, .null, .null, .int 0, .null, .int 0, .int 0, .int 0, .int 0, .int 0, .int 0, .int 0, .int 0, .null, .null, .null, .int 0, .int 0, .int 0, .null, .int 0, .int 0, .int 0, .null, .null, .null, .int 0])), aI K q1 8 (upd (upd (upd (upd (upd (upd (upd (upd (fun _ => 0) (0 : Int32).toNatClampNeg (-1 : Int32)) (1 : Int32).toNatClampNeg (-1 : Int32)) (2 : Int32).toNatClampNeg (-1 : Int32)) (3 : Int32).toNatClampNeg (-1 : Int32)) (4 : Int32).toNatClampNeg (-1 : Int32)) (5 : Int32).toNatClampNeg (-1 : Int32)) (6 : Int32).toNatClampNeg (-1 : Int32)) (7 : Int32).toNatClampNeg (-1 : Int32)), aI K q2 8 (fun _ => 0)] H := hP
  have hD : va_D A [(m_a, .inr (7, [.int 0, .int 0, .ref q1, .null, .null, .null, .null, .null, .null, .int 0, .null, .int 0, .int 0, .int 0, .int 0, .int 0, .int 0, .int 0, .int 0, .null, .null, .null, .int 0, .int 0, .int 0, .null, .int 0, .int 0, .int 0, .null, .null, .null, .int 0])), aI K q1 8 (upd (upd (upd (upd (upd (upd (upd (upd (fun _ => 0) (0 : Int32).toNatClampNeg (-1 : Int32)) (1 : Int32).toNatClampNeg (-1 : Int32)) (2 : Int32).toNatClampNeg (-1 : Int32)) (3 : Int32).toNatClampNeg (-1 : Int32)) (4 : Int32).toNatClampNeg (-1 : Int32)) (5 : Int32).toNatClampNeg (-1 : Int32)) (6 : Int32).toNatClampNeg (-1 : Int32)) (7 : Int32).toNatClampNeg (-1 : Int32)), aI K q2 8 (fun _ => 0)] := hD
  refine va_putF (D := G) (ci := 7) (v := .ref q2) (ty := tyX7 3) (C := RX7) (T := TX7) (N := 33) hx hb hts inX7 tyX7 tyX7_ok nmX7 hown hK hP hD hS 0 rfl rfl 3 (by decide) (hts _ tb767) (fun _ h9 => h9) rfl hin rfl (tyX7_ok 3 (by decide)) rfl rfl (Nat.le_of_ble_eq_true rfl) dX7_init_51 (fun H locs hP hD hS => ?_)
  have hP : va_P G vwCl [(m_a, .inr (7, [.int 0, .int 0, .ref q1, .ref q2, .null, .null, .null, .null, .null, .int 0, .null, .int 0, .int 0, .int 0, .int 0, .int 0, .int 0, .int 0, .int 0, .null, .null, .null, .int 0, .int 0, .int 0, .null, .int 0, .int 0, .int 0, .null, .null, .null, .int 0])), aI K q1 8 (upd (upd (upd (upd (upd (upd (upd (upd (fun _ => 0) (0 : Int32).toNatClampNeg (-1 : Int32)) (1 : Int32).toNatClampNeg (-1 : Int32)) (2 : Int32).toNatClampNeg (-1 : Int32)) (3 : Int32).toNatClampNeg (-1 : Int32)) (4 : Int32).toNatClampNeg (-1 : Int32)) (5 : Int32).toNatClampNeg (-1 : Int32)) (6 : Int32).toNatClampNeg (-1 : Int32)) (7 : Int32).toNatClampNeg (-1 : Int32)), aI K q2 8 (fun _ => 0)] H := hP
  have hD : va_D A [(m_a, .inr (7, [.int 0, .int 0, .ref q1, .ref q2, .null, .null, .null, .null, .null, .int 0, .null, .int 0, .int 0, .int 0, .int 0, .int 0, .int 0, .int 0, .int 0, .null, .null, .null, .int 0, .int 0, .int 0, .null, .int 0, .int 0, .int 0, .null, .null, .null, .int 0])), aI K q1 8 (upd (upd (upd (upd (upd (upd (upd (upd (fun _ => 0) (0 : Int32).toNatClampNeg (-1 : Int32)) (1 : Int32).toNatClampNeg (-1 : Int32)) (2 : Int32).toNatClampNeg (-1 : Int32)) (3 : Int32).toNatClampNeg (-1 : Int32)) (4 : Int32).toNatClampNeg (-1 : Int32)) (5 : Int32).toNatClampNeg (-1 : Int32)) (6 : Int32).toNatClampNeg (-1 : Int32)) (7 : Int32).toNatClampNeg (-1 : Int32)), aI K q2 8 (fun _ => 0)] := hD
  refine lv_aload_n hx hb dX7_init_54 rfl (lv_at hl 0 rfl) ?_
  refine lv_sipush (v := 320) hx hb dX7_init_55 (by decide) ?_
  refine va_newa (atype := .int) (ty := .int) (a0 := (320, .inl (fun _ => 0))) (N' := 320) hx hb (hts _ tb51) rfl hK hP hD hS hA (fun _ => rfl) (by decide) (by decide) (by decide) (Nat.le_of_ble_eq_true rfl) (Nat.le_of_ble_eq_true rfl) dX7_init_58 (fun q3 cA H hK2 hP hD hS => ?_)
  have eA := vn_ci hK hK2
  subst eA
  have hP : va_P G vwCl [(m_a, .inr (7, [.int 0, .int 0, .ref q1, .ref q2, .null, .null, .null, .null, .null, .int 0, .null, .int 0, .int 0, .int 0, .int 0, .int 0, .int 0, .int 0, .int 0, .null, .null, .null, .int 0, .int 0, .int 0, .null, .int 0, .int 0, .int 0, .null, .null, .null, .int 0])), aI K q1 8 (upd (upd (upd (upd (upd (upd (upd (upd (fun _ => 0) (0 : Int32).toNatClampNeg (-1 : Int32)) (1 : Int32).toNatClampNeg (-1 : Int32)) (2 : Int32).toNatClampNeg (-1 : Int32)) (3 : Int32).toNatClampNeg (-1 : Int32)) (4 : Int32).toNatClampNeg (-1 : Int32)) (5 : Int32).toNatClampNeg (-1 : Int32)) (6 : Int32).toNatClampNeg (-1 : Int32)) (7 : Int32).toNatClampNeg (-1 : Int32)), aI K q2 8 (fun _ => 0), aI K q3 320 (fun _ => 0)] H := hP
  have hD : va_D A [(m_a, .inr (7, [.int 0, .int 0, .ref q1, .ref q2, .null, .null, .null, .null, .null, .int 0, .null, .int 0, .int 0, .int 0, .int 0, .int 0, .int 0, .int 0, .int 0, .null, .null, .null, .int 0, .int 0, .int 0, .null, .int 0, .int 0, .int 0, .null, .null, .null, .int 0])), aI K q1 8 (upd (upd (upd (upd (upd (upd (upd (upd (fun _ => 0) (0 : Int32).toNatClampNeg (-1 : Int32)) (1 : Int32).toNatClampNeg (-1 : Int32)) (2 : Int32).toNatClampNeg (-1 : Int32)) (3 : Int32).toNatClampNeg (-1 : Int32)) (4 : Int32).toNatClampNeg (-1 : Int32)) (5 : Int32).toNatClampNeg (-1 : Int32)) (6 : Int32).toNatClampNeg (-1 : Int32)) (7 : Int32).toNatClampNeg (-1 : Int32)), aI K q2 8 (fun _ => 0), aI K q3 320 (fun _ => 0)] := hD
  refine va_putF (D := G) (ci := 7) (v := .ref q3) (ty := tyX7 4) (C := RX7) (T := TX7) (N := 33) hx hb hts inX7 tyX7 tyX7_ok nmX7 hown hK hP hD hS 0 rfl rfl 4 (by decide) (hts _ tb768) (fun _ h9 => h9) rfl hin rfl (tyX7_ok 4 (by decide)) rfl rfl (Nat.le_of_ble_eq_true rfl) dX7_init_60 (fun H locs hP hD hS => ?_)
  have hP : va_P G vwCl [(m_a, .inr (7, [.int 0, .int 0, .ref q1, .ref q2, .ref q3, .null, .null, .null, .null, .int 0, .null, .int 0, .int 0, .int 0, .int 0, .int 0, .int 0, .int 0, .int 0, .null, .null, .null, .int 0, .int 0, .int 0, .null, .int 0, .int 0, .int 0, .null, .null, .null, .int 0])), aI K q1 8 (upd (upd (upd (upd (upd (upd (upd (upd (fun _ => 0) (0 : Int32).toNatClampNeg (-1 : Int32)) (1 : Int32).toNatClampNeg (-1 : Int32)) (2 : Int32).toNatClampNeg (-1 : Int32)) (3 : Int32).toNatClampNeg (-1 : Int32)) (4 : Int32).toNatClampNeg (-1 : Int32)) (5 : Int32).toNatClampNeg (-1 : Int32)) (6 : Int32).toNatClampNeg (-1 : Int32)) (7 : Int32).toNatClampNeg (-1 : Int32)), aI K q2 8 (fun _ => 0), aI K q3 320 (fun _ => 0)] H := hP
  have hD : va_D A [(m_a, .inr (7, [.int 0, .int 0, .ref q1, .ref q2, .ref q3, .null, .null, .null, .null, .int 0, .null, .int 0, .int 0, .int 0, .int 0, .int 0, .int 0, .int 0, .int 0, .null, .null, .null, .int 0, .int 0, .int 0, .null, .int 0, .int 0, .int 0, .null, .null, .null, .int 0])), aI K q1 8 (upd (upd (upd (upd (upd (upd (upd (upd (fun _ => 0) (0 : Int32).toNatClampNeg (-1 : Int32)) (1 : Int32).toNatClampNeg (-1 : Int32)) (2 : Int32).toNatClampNeg (-1 : Int32)) (3 : Int32).toNatClampNeg (-1 : Int32)) (4 : Int32).toNatClampNeg (-1 : Int32)) (5 : Int32).toNatClampNeg (-1 : Int32)) (6 : Int32).toNatClampNeg (-1 : Int32)) (7 : Int32).toNatClampNeg (-1 : Int32)), aI K q2 8 (fun _ => 0), aI K q3 320 (fun _ => 0)] := hD
  refine lv_aload_n hx hb dX7_init_63 rfl (lv_at hl 0 rfl) ?_
  refine lv_sipush (v := 207) hx hb dX7_init_64 (by decide) ?_
  refine va_newa (atype := .int) (ty := .int) (a0 := (207, .inl (fun _ => 0))) (N' := 207) hx hb (hts _ tb51) rfl hK hP hD hS hA (fun _ => rfl) (by decide) (by decide) (by decide) (Nat.le_of_ble_eq_true rfl) (Nat.le_of_ble_eq_true rfl) dX7_init_67 (fun q4 cA H hK2 hP hD hS => ?_)
  have eA := vn_ci hK hK2
  subst eA
  have hP : va_P G vwCl [(m_a, .inr (7, [.int 0, .int 0, .ref q1, .ref q2, .ref q3, .null, .null, .null, .null, .int 0, .null, .int 0, .int 0, .int 0, .int 0, .int 0, .int 0, .int 0, .int 0, .null, .null, .null, .int 0, .int 0, .int 0, .null, .int 0, .int 0, .int 0, .null, .null, .null, .int 0])), aI K q1 8 (upd (upd (upd (upd (upd (upd (upd (upd (fun _ => 0) (0 : Int32).toNatClampNeg (-1 : Int32)) (1 : Int32).toNatClampNeg (-1 : Int32)) (2 : Int32).toNatClampNeg (-1 : Int32)) (3 : Int32).toNatClampNeg (-1 : Int32)) (4 : Int32).toNatClampNeg (-1 : Int32)) (5 : Int32).toNatClampNeg (-1 : Int32)) (6 : Int32).toNatClampNeg (-1 : Int32)) (7 : Int32).toNatClampNeg (-1 : Int32)), aI K q2 8 (fun _ => 0), aI K q3 320 (fun _ => 0), aI K q4 207 (fun _ => 0)] H := hP
  have hD : va_D A [(m_a, .inr (7, [.int 0, .int 0, .ref q1, .ref q2, .ref q3, .null, .null, .null, .null, .int 0, .null, .int 0, .int 0, .int 0, .int 0, .int 0, .int 0, .int 0, .int 0, .null, .null, .null, .int 0, .int 0, .int 0, .null, .int 0, .int 0, .int 0, .null, .null, .null, .int 0])), aI K q1 8 (upd (upd (upd (upd (upd (upd (upd (upd (fun _ => 0) (0 : Int32).toNatClampNeg (-1 : Int32)) (1 : Int32).toNatClampNeg (-1 : Int32)) (2 : Int32).toNatClampNeg (-1 : Int32)) (3 : Int32).toNatClampNeg (-1 : Int32)) (4 : Int32).toNatClampNeg (-1 : Int32)) (5 : Int32).toNatClampNeg (-1 : Int32)) (6 : Int32).toNatClampNeg (-1 : Int32)) (7 : Int32).toNatClampNeg (-1 : Int32)), aI K q2 8 (fun _ => 0), aI K q3 320 (fun _ => 0), aI K q4 207 (fun _ => 0)] := hD
  refine va_putF (D := G) (ci := 7) (v := .ref q4) (ty := tyX7 5) (C := RX7) (T := TX7) (N := 33) hx hb hts inX7 tyX7 tyX7_ok nmX7 hown hK hP hD hS 0 rfl rfl 5 (by decide) (hts _ tb769) (fun _ h9 => h9) rfl hin rfl (tyX7_ok 5 (by decide)) rfl rfl (Nat.le_of_ble_eq_true rfl) dX7_init_69 (fun H locs hP hD hS => ?_)
  have hP : va_P G vwCl [(m_a, .inr (7, [.int 0, .int 0, .ref q1, .ref q2, .ref q3, .ref q4, .null, .null, .null, .int 0, .null, .int 0, .int 0, .int 0, .int 0, .int 0, .int 0, .int 0, .int 0, .null, .null, .null, .int 0, .int 0, .int 0, .null, .int 0, .int 0, .int 0, .null, .null, .null, .int 0])), aI K q1 8 (upd (upd (upd (upd (upd (upd (upd (upd (fun _ => 0) (0 : Int32).toNatClampNeg (-1 : Int32)) (1 : Int32).toNatClampNeg (-1 : Int32)) (2 : Int32).toNatClampNeg (-1 : Int32)) (3 : Int32).toNatClampNeg (-1 : Int32)) (4 : Int32).toNatClampNeg (-1 : Int32)) (5 : Int32).toNatClampNeg (-1 : Int32)) (6 : Int32).toNatClampNeg (-1 : Int32)) (7 : Int32).toNatClampNeg (-1 : Int32)), aI K q2 8 (fun _ => 0), aI K q3 320 (fun _ => 0), aI K q4 207 (fun _ => 0)] H := hP
  have hD : va_D A [(m_a, .inr (7, [.int 0, .int 0, .ref q1, .ref q2, .ref q3, .ref q4, .null, .null, .null, .int 0, .null, .int 0, .int 0, .int 0, .int 0, .int 0, .int 0, .int 0, .int 0, .null, .null, .null, .int 0, .int 0, .int 0, .null, .int 0, .int 0, .int 0, .null, .null, .null, .int 0])), aI K q1 8 (upd (upd (upd (upd (upd (upd (upd (upd (fun _ => 0) (0 : Int32).toNatClampNeg (-1 : Int32)) (1 : Int32).toNatClampNeg (-1 : Int32)) (2 : Int32).toNatClampNeg (-1 : Int32)) (3 : Int32).toNatClampNeg (-1 : Int32)) (4 : Int32).toNatClampNeg (-1 : Int32)) (5 : Int32).toNatClampNeg (-1 : Int32)) (6 : Int32).toNatClampNeg (-1 : Int32)) (7 : Int32).toNatClampNeg (-1 : Int32)), aI K q2 8 (fun _ => 0), aI K q3 320 (fun _ => 0), aI K q4 207 (fun _ => 0)] := hD
  refine lv_aload_n hx hb dX7_init_72 rfl (lv_at hl 0 rfl) ?_
  refine lv_sipush (v := 207) hx hb dX7_init_73 (by decide) ?_
  refine va_newa (atype := .int) (ty := .int) (a0 := (207, .inl (fun _ => 0))) (N' := 207) hx hb (hts _ tb51) rfl hK hP hD hS hA (fun _ => rfl) (by decide) (by decide) (by decide) (Nat.le_of_ble_eq_true rfl) (Nat.le_of_ble_eq_true rfl) dX7_init_76 (fun q5 cA H hK2 hP hD hS => ?_)
  have eA := vn_ci hK hK2
  subst eA
  have hP : va_P G vwCl [(m_a, .inr (7, [.int 0, .int 0, .ref q1, .ref q2, .ref q3, .ref q4, .null, .null, .null, .int 0, .null, .int 0, .int 0, .int 0, .int 0, .int 0, .int 0, .int 0, .int 0, .null, .null, .null, .int 0, .int 0, .int 0, .null, .int 0, .int 0, .int 0, .null, .null, .null, .int 0])), aI K q1 8 (upd (upd (upd (upd (upd (upd (upd (upd (fun _ => 0) (0 : Int32).toNatClampNeg (-1 : Int32)) (1 : Int32).toNatClampNeg (-1 : Int32)) (2 : Int32).toNatClampNeg (-1 : Int32)) (3 : Int32).toNatClampNeg (-1 : Int32)) (4 : Int32).toNatClampNeg (-1 : Int32)) (5 : Int32).toNatClampNeg (-1 : Int32)) (6 : Int32).toNatClampNeg (-1 : Int32)) (7 : Int32).toNatClampNeg (-1 : Int32)), aI K q2 8 (fun _ => 0), aI K q3 320 (fun _ => 0), aI K q4 207 (fun _ => 0), aI K q5 207 (fun _ => 0)] H := hP
  have hD : va_D A [(m_a, .inr (7, [.int 0, .int 0, .ref q1, .ref q2, .ref q3, .ref q4, .null, .null, .null, .int 0, .null, .int 0, .int 0, .int 0, .int 0, .int 0, .int 0, .int 0, .int 0, .null, .null, .null, .int 0, .int 0, .int 0, .null, .int 0, .int 0, .int 0, .null, .null, .null, .int 0])), aI K q1 8 (upd (upd (upd (upd (upd (upd (upd (upd (fun _ => 0) (0 : Int32).toNatClampNeg (-1 : Int32)) (1 : Int32).toNatClampNeg (-1 : Int32)) (2 : Int32).toNatClampNeg (-1 : Int32)) (3 : Int32).toNatClampNeg (-1 : Int32)) (4 : Int32).toNatClampNeg (-1 : Int32)) (5 : Int32).toNatClampNeg (-1 : Int32)) (6 : Int32).toNatClampNeg (-1 : Int32)) (7 : Int32).toNatClampNeg (-1 : Int32)), aI K q2 8 (fun _ => 0), aI K q3 320 (fun _ => 0), aI K q4 207 (fun _ => 0), aI K q5 207 (fun _ => 0)] := hD
  refine va_putF (D := G) (ci := 7) (v := .ref q5) (ty := tyX7 6) (C := RX7) (T := TX7) (N := 33) hx hb hts inX7 tyX7 tyX7_ok nmX7 hown hK hP hD hS 0 rfl rfl 6 (by decide) (hts _ tb770) (fun _ h9 => h9) rfl hin rfl (tyX7_ok 6 (by decide)) rfl rfl (Nat.le_of_ble_eq_true rfl) dX7_init_78 (fun H locs hP hD hS => ?_)
  have hP : va_P G vwCl [(m_a, .inr (7, [.int 0, .int 0, .ref q1, .ref q2, .ref q3, .ref q4, .ref q5, .null, .null, .int 0, .null, .int 0, .int 0, .int 0, .int 0, .int 0, .int 0, .int 0, .int 0, .null, .null, .null, .int 0, .int 0, .int 0, .null, .int 0, .int 0, .int 0, .null, .null, .null, .int 0])), aI K q1 8 (upd (upd (upd (upd (upd (upd (upd (upd (fun _ => 0) (0 : Int32).toNatClampNeg (-1 : Int32)) (1 : Int32).toNatClampNeg (-1 : Int32)) (2 : Int32).toNatClampNeg (-1 : Int32)) (3 : Int32).toNatClampNeg (-1 : Int32)) (4 : Int32).toNatClampNeg (-1 : Int32)) (5 : Int32).toNatClampNeg (-1 : Int32)) (6 : Int32).toNatClampNeg (-1 : Int32)) (7 : Int32).toNatClampNeg (-1 : Int32)), aI K q2 8 (fun _ => 0), aI K q3 320 (fun _ => 0), aI K q4 207 (fun _ => 0), aI K q5 207 (fun _ => 0)] H := hP
  have hD : va_D A [(m_a, .inr (7, [.int 0, .int 0, .ref q1, .ref q2, .ref q3, .ref q4, .ref q5, .null, .null, .int 0, .null, .int 0, .int 0, .int 0, .int 0, .int 0, .int 0, .int 0, .int 0, .null, .null, .null, .int 0, .int 0, .int 0, .null, .int 0, .int 0, .int 0, .null, .null, .null, .int 0])), aI K q1 8 (upd (upd (upd (upd (upd (upd (upd (upd (fun _ => 0) (0 : Int32).toNatClampNeg (-1 : Int32)) (1 : Int32).toNatClampNeg (-1 : Int32)) (2 : Int32).toNatClampNeg (-1 : Int32)) (3 : Int32).toNatClampNeg (-1 : Int32)) (4 : Int32).toNatClampNeg (-1 : Int32)) (5 : Int32).toNatClampNeg (-1 : Int32)) (6 : Int32).toNatClampNeg (-1 : Int32)) (7 : Int32).toNatClampNeg (-1 : Int32)), aI K q2 8 (fun _ => 0), aI K q3 320 (fun _ => 0), aI K q4 207 (fun _ => 0), aI K q5 207 (fun _ => 0)] := hD
  refine lv_aload_n hx hb dX7_init_81 rfl (lv_at hl 0 rfl) ?_
  refine lv_sipush (v := 207) hx hb dX7_init_82 (by decide) ?_
  refine va_newa (atype := .int) (ty := .int) (a0 := (207, .inl (fun _ => 0))) (N' := 207) hx hb (hts _ tb51) rfl hK hP hD hS hA (fun _ => rfl) (by decide) (by decide) (by decide) (Nat.le_of_ble_eq_true rfl) (Nat.le_of_ble_eq_true rfl) dX7_init_85 (fun q6 cA H hK2 hP hD hS => ?_)
  have eA := vn_ci hK hK2
  subst eA
  have hP : va_P G vwCl [(m_a, .inr (7, [.int 0, .int 0, .ref q1, .ref q2, .ref q3, .ref q4, .ref q5, .null, .null, .int 0, .null, .int 0, .int 0, .int 0, .int 0, .int 0, .int 0, .int 0, .int 0, .null, .null, .null, .int 0, .int 0, .int 0, .null, .int 0, .int 0, .int 0, .null, .null, .null, .int 0])), aI K q1 8 (upd (upd (upd (upd (upd (upd (upd (upd (fun _ => 0) (0 : Int32).toNatClampNeg (-1 : Int32)) (1 : Int32).toNatClampNeg (-1 : Int32)) (2 : Int32).toNatClampNeg (-1 : Int32)) (3 : Int32).toNatClampNeg (-1 : Int32)) (4 : Int32).toNatClampNeg (-1 : Int32)) (5 : Int32).toNatClampNeg (-1 : Int32)) (6 : Int32).toNatClampNeg (-1 : Int32)) (7 : Int32).toNatClampNeg (-1 : Int32)), aI K q2 8 (fun _ => 0), aI K q3 320 (fun _ => 0), aI K q4 207 (fun _ => 0), aI K q5 207 (fun _ => 0), aI K q6 207 (fun _ => 0)] H := hP
  have hD : va_D A [(m_a, .inr (7, [.int 0, .int 0, .ref q1, .ref q2, .ref q3, .ref q4, .ref q5, .null, .null, .int 0, .null, .int 0, .int 0, .int 0, .int 0, .int 0, .int 0, .int 0, .int 0, .null, .null, .null, .int 0, .int 0, .int 0, .null, .int 0, .int 0, .int 0, .null, .null, .null, .int 0])), aI K q1 8 (upd (upd (upd (upd (upd (upd (upd (upd (fun _ => 0) (0 : Int32).toNatClampNeg (-1 : Int32)) (1 : Int32).toNatClampNeg (-1 : Int32)) (2 : Int32).toNatClampNeg (-1 : Int32)) (3 : Int32).toNatClampNeg (-1 : Int32)) (4 : Int32).toNatClampNeg (-1 : Int32)) (5 : Int32).toNatClampNeg (-1 : Int32)) (6 : Int32).toNatClampNeg (-1 : Int32)) (7 : Int32).toNatClampNeg (-1 : Int32)), aI K q2 8 (fun _ => 0), aI K q3 320 (fun _ => 0), aI K q4 207 (fun _ => 0), aI K q5 207 (fun _ => 0), aI K q6 207 (fun _ => 0)] := hD
  refine va_putF (D := G) (ci := 7) (v := .ref q6) (ty := tyX7 7) (C := RX7) (T := TX7) (N := 33) hx hb hts inX7 tyX7 tyX7_ok nmX7 hown hK hP hD hS 0 rfl rfl 7 (by decide) (hts _ tb771) (fun _ h9 => h9) rfl hin rfl (tyX7_ok 7 (by decide)) rfl rfl (Nat.le_of_ble_eq_true rfl) dX7_init_87 (fun H locs hP hD hS => ?_)
  have hP : va_P G vwCl [(m_a, .inr (7, [.int 0, .int 0, .ref q1, .ref q2, .ref q3, .ref q4, .ref q5, .ref q6, .null, .int 0, .null, .int 0, .int 0, .int 0, .int 0, .int 0, .int 0, .int 0, .int 0, .null, .null, .null, .int 0, .int 0, .int 0, .null, .int 0, .int 0, .int 0, .null, .null, .null, .int 0])), aI K q1 8 (upd (upd (upd (upd (upd (upd (upd (upd (fun _ => 0) (0 : Int32).toNatClampNeg (-1 : Int32)) (1 : Int32).toNatClampNeg (-1 : Int32)) (2 : Int32).toNatClampNeg (-1 : Int32)) (3 : Int32).toNatClampNeg (-1 : Int32)) (4 : Int32).toNatClampNeg (-1 : Int32)) (5 : Int32).toNatClampNeg (-1 : Int32)) (6 : Int32).toNatClampNeg (-1 : Int32)) (7 : Int32).toNatClampNeg (-1 : Int32)), aI K q2 8 (fun _ => 0), aI K q3 320 (fun _ => 0), aI K q4 207 (fun _ => 0), aI K q5 207 (fun _ => 0), aI K q6 207 (fun _ => 0)] H := hP
  have hD : va_D A [(m_a, .inr (7, [.int 0, .int 0, .ref q1, .ref q2, .ref q3, .ref q4, .ref q5, .ref q6, .null, .int 0, .null, .int 0, .int 0, .int 0, .int 0, .int 0, .int 0, .int 0, .int 0, .null, .null, .null, .int 0, .int 0, .int 0, .null, .int 0, .int 0, .int 0, .null, .null, .null, .int 0])), aI K q1 8 (upd (upd (upd (upd (upd (upd (upd (upd (fun _ => 0) (0 : Int32).toNatClampNeg (-1 : Int32)) (1 : Int32).toNatClampNeg (-1 : Int32)) (2 : Int32).toNatClampNeg (-1 : Int32)) (3 : Int32).toNatClampNeg (-1 : Int32)) (4 : Int32).toNatClampNeg (-1 : Int32)) (5 : Int32).toNatClampNeg (-1 : Int32)) (6 : Int32).toNatClampNeg (-1 : Int32)) (7 : Int32).toNatClampNeg (-1 : Int32)), aI K q2 8 (fun _ => 0), aI K q3 320 (fun _ => 0), aI K q4 207 (fun _ => 0), aI K q5 207 (fun _ => 0), aI K q6 207 (fun _ => 0)] := hD
  refine lv_aload_n hx hb dX7_init_90 rfl (lv_at hl 0 rfl) ?_
  refine lv_sipush (v := 4968) hx hb dX7_init_91 (by decide) ?_
  refine va_newa (atype := .int) (ty := .int) (a0 := (4968, .inl (fun _ => 0))) (N' := 4968) hx hb (hts _ tb51) rfl hK hP hD hS hA (fun _ => rfl) (by decide) (by decide) (by decide) (Nat.le_of_ble_eq_true rfl) (Nat.le_of_ble_eq_true rfl) dX7_init_94 (fun q7 cA H hK2 hP hD hS => ?_)
  have eA := vn_ci hK hK2
  subst eA
  have hP : va_P G vwCl [(m_a, .inr (7, [.int 0, .int 0, .ref q1, .ref q2, .ref q3, .ref q4, .ref q5, .ref q6, .null, .int 0, .null, .int 0, .int 0, .int 0, .int 0, .int 0, .int 0, .int 0, .int 0, .null, .null, .null, .int 0, .int 0, .int 0, .null, .int 0, .int 0, .int 0, .null, .null, .null, .int 0])), aI K q1 8 (upd (upd (upd (upd (upd (upd (upd (upd (fun _ => 0) (0 : Int32).toNatClampNeg (-1 : Int32)) (1 : Int32).toNatClampNeg (-1 : Int32)) (2 : Int32).toNatClampNeg (-1 : Int32)) (3 : Int32).toNatClampNeg (-1 : Int32)) (4 : Int32).toNatClampNeg (-1 : Int32)) (5 : Int32).toNatClampNeg (-1 : Int32)) (6 : Int32).toNatClampNeg (-1 : Int32)) (7 : Int32).toNatClampNeg (-1 : Int32)), aI K q2 8 (fun _ => 0), aI K q3 320 (fun _ => 0), aI K q4 207 (fun _ => 0), aI K q5 207 (fun _ => 0), aI K q6 207 (fun _ => 0), aI K q7 4968 (fun _ => 0)] H := hP
  have hD : va_D A [(m_a, .inr (7, [.int 0, .int 0, .ref q1, .ref q2, .ref q3, .ref q4, .ref q5, .ref q6, .null, .int 0, .null, .int 0, .int 0, .int 0, .int 0, .int 0, .int 0, .int 0, .int 0, .null, .null, .null, .int 0, .int 0, .int 0, .null, .int 0, .int 0, .int 0, .null, .null, .null, .int 0])), aI K q1 8 (upd (upd (upd (upd (upd (upd (upd (upd (fun _ => 0) (0 : Int32).toNatClampNeg (-1 : Int32)) (1 : Int32).toNatClampNeg (-1 : Int32)) (2 : Int32).toNatClampNeg (-1 : Int32)) (3 : Int32).toNatClampNeg (-1 : Int32)) (4 : Int32).toNatClampNeg (-1 : Int32)) (5 : Int32).toNatClampNeg (-1 : Int32)) (6 : Int32).toNatClampNeg (-1 : Int32)) (7 : Int32).toNatClampNeg (-1 : Int32)), aI K q2 8 (fun _ => 0), aI K q3 320 (fun _ => 0), aI K q4 207 (fun _ => 0), aI K q5 207 (fun _ => 0), aI K q6 207 (fun _ => 0), aI K q7 4968 (fun _ => 0)] := hD
  refine va_putF (D := G) (ci := 7) (v := .ref q7) (ty := tyX7 8) (C := RX7) (T := TX7) (N := 33) hx hb hts inX7 tyX7 tyX7_ok nmX7 hown hK hP hD hS 0 rfl rfl 8 (by decide) (hts _ tb772) (fun _ h9 => h9) rfl hin rfl (tyX7_ok 8 (by decide)) rfl rfl (Nat.le_of_ble_eq_true rfl) dX7_init_96 (fun H locs hP hD hS => ?_)
  have hP : va_P G vwCl [(m_a, .inr (7, [.int 0, .int 0, .ref q1, .ref q2, .ref q3, .ref q4, .ref q5, .ref q6, .ref q7, .int 0, .null, .int 0, .int 0, .int 0, .int 0, .int 0, .int 0, .int 0, .int 0, .null, .null, .null, .int 0, .int 0, .int 0, .null, .int 0, .int 0, .int 0, .null, .null, .null, .int 0])), aI K q1 8 (upd (upd (upd (upd (upd (upd (upd (upd (fun _ => 0) (0 : Int32).toNatClampNeg (-1 : Int32)) (1 : Int32).toNatClampNeg (-1 : Int32)) (2 : Int32).toNatClampNeg (-1 : Int32)) (3 : Int32).toNatClampNeg (-1 : Int32)) (4 : Int32).toNatClampNeg (-1 : Int32)) (5 : Int32).toNatClampNeg (-1 : Int32)) (6 : Int32).toNatClampNeg (-1 : Int32)) (7 : Int32).toNatClampNeg (-1 : Int32)), aI K q2 8 (fun _ => 0), aI K q3 320 (fun _ => 0), aI K q4 207 (fun _ => 0), aI K q5 207 (fun _ => 0), aI K q6 207 (fun _ => 0), aI K q7 4968 (fun _ => 0)] H := hP
  have hD : va_D A [(m_a, .inr (7, [.int 0, .int 0, .ref q1, .ref q2, .ref q3, .ref q4, .ref q5, .ref q6, .ref q7, .int 0, .null, .int 0, .int 0, .int 0, .int 0, .int 0, .int 0, .int 0, .int 0, .null, .null, .null, .int 0, .int 0, .int 0, .null, .int 0, .int 0, .int 0, .null, .null, .null, .int 0])), aI K q1 8 (upd (upd (upd (upd (upd (upd (upd (upd (fun _ => 0) (0 : Int32).toNatClampNeg (-1 : Int32)) (1 : Int32).toNatClampNeg (-1 : Int32)) (2 : Int32).toNatClampNeg (-1 : Int32)) (3 : Int32).toNatClampNeg (-1 : Int32)) (4 : Int32).toNatClampNeg (-1 : Int32)) (5 : Int32).toNatClampNeg (-1 : Int32)) (6 : Int32).toNatClampNeg (-1 : Int32)) (7 : Int32).toNatClampNeg (-1 : Int32)), aI K q2 8 (fun _ => 0), aI K q3 320 (fun _ => 0), aI K q4 207 (fun _ => 0), aI K q5 207 (fun _ => 0), aI K q6 207 (fun _ => 0), aI K q7 4968 (fun _ => 0)] := hD
  refine lv_aload_n hx hb dX7_init_99 rfl (lv_at hl 0 rfl) ?_
  refine lv_sipush (v := 130) hx hb dX7_init_100 (by decide) ?_
  refine va_newa (atype := .int) (ty := .int) (a0 := (130, .inl (fun _ => 0))) (N' := 130) hx hb (hts _ tb51) rfl hK hP hD hS hA (fun _ => rfl) (by decide) (by decide) (by decide) (Nat.le_of_ble_eq_true rfl) (Nat.le_of_ble_eq_true rfl) dX7_init_103 (fun q8 cA H hK2 hP hD hS => ?_)
  have eA := vn_ci hK hK2
  subst eA
  have hP : va_P G vwCl [(m_a, .inr (7, [.int 0, .int 0, .ref q1, .ref q2, .ref q3, .ref q4, .ref q5, .ref q6, .ref q7, .int 0, .null, .int 0, .int 0, .int 0, .int 0, .int 0, .int 0, .int 0, .int 0, .null, .null, .null, .int 0, .int 0, .int 0, .null, .int 0, .int 0, .int 0, .null, .null, .null, .int 0])), aI K q1 8 (upd (upd (upd (upd (upd (upd (upd (upd (fun _ => 0) (0 : Int32).toNatClampNeg (-1 : Int32)) (1 : Int32).toNatClampNeg (-1 : Int32)) (2 : Int32).toNatClampNeg (-1 : Int32)) (3 : Int32).toNatClampNeg (-1 : Int32)) (4 : Int32).toNatClampNeg (-1 : Int32)) (5 : Int32).toNatClampNeg (-1 : Int32)) (6 : Int32).toNatClampNeg (-1 : Int32)) (7 : Int32).toNatClampNeg (-1 : Int32)), aI K q2 8 (fun _ => 0), aI K q3 320 (fun _ => 0), aI K q4 207 (fun _ => 0), aI K q5 207 (fun _ => 0), aI K q6 207 (fun _ => 0), aI K q7 4968 (fun _ => 0), aI K q8 130 (fun _ => 0)] H := hP
  have hD : va_D A [(m_a, .inr (7, [.int 0, .int 0, .ref q1, .ref q2, .ref q3, .ref q4, .ref q5, .ref q6, .ref q7, .int 0, .null, .int 0, .int 0, .int 0, .int 0, .int 0, .int 0, .int 0, .int 0, .null, .null, .null, .int 0, .int 0, .int 0, .null, .int 0, .int 0, .int 0, .null, .null, .null, .int 0])), aI K q1 8 (upd (upd (upd (upd (upd (upd (upd (upd (fun _ => 0) (0 : Int32).toNatClampNeg (-1 : Int32)) (1 : Int32).toNatClampNeg (-1 : Int32)) (2 : Int32).toNatClampNeg (-1 : Int32)) (3 : Int32).toNatClampNeg (-1 : Int32)) (4 : Int32).toNatClampNeg (-1 : Int32)) (5 : Int32).toNatClampNeg (-1 : Int32)) (6 : Int32).toNatClampNeg (-1 : Int32)) (7 : Int32).toNatClampNeg (-1 : Int32)), aI K q2 8 (fun _ => 0), aI K q3 320 (fun _ => 0), aI K q4 207 (fun _ => 0), aI K q5 207 (fun _ => 0), aI K q6 207 (fun _ => 0), aI K q7 4968 (fun _ => 0), aI K q8 130 (fun _ => 0)] := hD
  refine va_putF (D := G) (ci := 7) (v := .ref q8) (ty := tyX7 10) (C := RX7) (T := TX7) (N := 33) hx hb hts inX7 tyX7 tyX7_ok nmX7 hown hK hP hD hS 0 rfl rfl 10 (by decide) (hts _ tb774) (fun _ h9 => h9) rfl hin rfl (tyX7_ok 10 (by decide)) rfl rfl (Nat.le_of_ble_eq_true rfl) dX7_init_105 (fun H locs hP hD hS => ?_)
  have hP : va_P G vwCl [(m_a, .inr (7, [.int 0, .int 0, .ref q1, .ref q2, .ref q3, .ref q4, .ref q5, .ref q6, .ref q7, .int 0, .ref q8, .int 0, .int 0, .int 0, .int 0, .int 0, .int 0, .int 0, .int 0, .null, .null, .null, .int 0, .int 0, .int 0, .null, .int 0, .int 0, .int 0, .null, .null, .null, .int 0])), aI K q1 8 (upd (upd (upd (upd (upd (upd (upd (upd (fun _ => 0) (0 : Int32).toNatClampNeg (-1 : Int32)) (1 : Int32).toNatClampNeg (-1 : Int32)) (2 : Int32).toNatClampNeg (-1 : Int32)) (3 : Int32).toNatClampNeg (-1 : Int32)) (4 : Int32).toNatClampNeg (-1 : Int32)) (5 : Int32).toNatClampNeg (-1 : Int32)) (6 : Int32).toNatClampNeg (-1 : Int32)) (7 : Int32).toNatClampNeg (-1 : Int32)), aI K q2 8 (fun _ => 0), aI K q3 320 (fun _ => 0), aI K q4 207 (fun _ => 0), aI K q5 207 (fun _ => 0), aI K q6 207 (fun _ => 0), aI K q7 4968 (fun _ => 0), aI K q8 130 (fun _ => 0)] H := hP
  have hD : va_D A [(m_a, .inr (7, [.int 0, .int 0, .ref q1, .ref q2, .ref q3, .ref q4, .ref q5, .ref q6, .ref q7, .int 0, .ref q8, .int 0, .int 0, .int 0, .int 0, .int 0, .int 0, .int 0, .int 0, .null, .null, .null, .int 0, .int 0, .int 0, .null, .int 0, .int 0, .int 0, .null, .null, .null, .int 0])), aI K q1 8 (upd (upd (upd (upd (upd (upd (upd (upd (fun _ => 0) (0 : Int32).toNatClampNeg (-1 : Int32)) (1 : Int32).toNatClampNeg (-1 : Int32)) (2 : Int32).toNatClampNeg (-1 : Int32)) (3 : Int32).toNatClampNeg (-1 : Int32)) (4 : Int32).toNatClampNeg (-1 : Int32)) (5 : Int32).toNatClampNeg (-1 : Int32)) (6 : Int32).toNatClampNeg (-1 : Int32)) (7 : Int32).toNatClampNeg (-1 : Int32)), aI K q2 8 (fun _ => 0), aI K q3 320 (fun _ => 0), aI K q4 207 (fun _ => 0), aI K q5 207 (fun _ => 0), aI K q6 207 (fun _ => 0), aI K q7 4968 (fun _ => 0), aI K q8 130 (fun _ => 0)] := hD
  refine lv_aload_n hx hb dX7_init_108 rfl (lv_at hl 0 rfl) ?_
  refine lv_bipush (v := 20) hx hb dX7_init_109 (by decide) ?_
  refine va_newa (atype := .int) (ty := .int) (a0 := (20, .inl (fun _ => 0))) (N' := 20) hx hb (hts _ tb51) rfl hK hP hD hS hA (fun _ => rfl) (by decide) (by decide) (by decide) (Nat.le_of_ble_eq_true rfl) (Nat.le_of_ble_eq_true rfl) dX7_init_111 (fun q9 cA H hK2 hP hD hS => ?_)
  have eA := vn_ci hK hK2
  subst eA
  have hP : va_P G vwCl [(m_a, .inr (7, [.int 0, .int 0, .ref q1, .ref q2, .ref q3, .ref q4, .ref q5, .ref q6, .ref q7, .int 0, .ref q8, .int 0, .int 0, .int 0, .int 0, .int 0, .int 0, .int 0, .int 0, .null, .null, .null, .int 0, .int 0, .int 0, .null, .int 0, .int 0, .int 0, .null, .null, .null, .int 0])), aI K q1 8 (upd (upd (upd (upd (upd (upd (upd (upd (fun _ => 0) (0 : Int32).toNatClampNeg (-1 : Int32)) (1 : Int32).toNatClampNeg (-1 : Int32)) (2 : Int32).toNatClampNeg (-1 : Int32)) (3 : Int32).toNatClampNeg (-1 : Int32)) (4 : Int32).toNatClampNeg (-1 : Int32)) (5 : Int32).toNatClampNeg (-1 : Int32)) (6 : Int32).toNatClampNeg (-1 : Int32)) (7 : Int32).toNatClampNeg (-1 : Int32)), aI K q2 8 (fun _ => 0), aI K q3 320 (fun _ => 0), aI K q4 207 (fun _ => 0), aI K q5 207 (fun _ => 0), aI K q6 207 (fun _ => 0), aI K q7 4968 (fun _ => 0), aI K q8 130 (fun _ => 0), aI K q9 20 (fun _ => 0)] H := hP
  have hD : va_D A [(m_a, .inr (7, [.int 0, .int 0, .ref q1, .ref q2, .ref q3, .ref q4, .ref q5, .ref q6, .ref q7, .int 0, .ref q8, .int 0, .int 0, .int 0, .int 0, .int 0, .int 0, .int 0, .int 0, .null, .null, .null, .int 0, .int 0, .int 0, .null, .int 0, .int 0, .int 0, .null, .null, .null, .int 0])), aI K q1 8 (upd (upd (upd (upd (upd (upd (upd (upd (fun _ => 0) (0 : Int32).toNatClampNeg (-1 : Int32)) (1 : Int32).toNatClampNeg (-1 : Int32)) (2 : Int32).toNatClampNeg (-1 : Int32)) (3 : Int32).toNatClampNeg (-1 : Int32)) (4 : Int32).toNatClampNeg (-1 : Int32)) (5 : Int32).toNatClampNeg (-1 : Int32)) (6 : Int32).toNatClampNeg (-1 : Int32)) (7 : Int32).toNatClampNeg (-1 : Int32)), aI K q2 8 (fun _ => 0), aI K q3 320 (fun _ => 0), aI K q4 207 (fun _ => 0), aI K q5 207 (fun _ => 0), aI K q6 207 (fun _ => 0), aI K q7 4968 (fun _ => 0), aI K q8 130 (fun _ => 0), aI K q9 20 (fun _ => 0)] := hD
  refine va_putF (D := G) (ci := 7) (v := .ref q9) (ty := tyX7 19) (C := RX7) (T := TX7) (N := 33) hx hb hts inX7 tyX7 tyX7_ok nmX7 hown hK hP hD hS 0 rfl rfl 19 (by decide) (hts _ tb783) (fun _ h9 => h9) rfl hin rfl (tyX7_ok 19 (by decide)) rfl rfl (Nat.le_of_ble_eq_true rfl) dX7_init_113 (fun H locs hP hD hS => ?_)
  have hP : va_P G vwCl [(m_a, .inr (7, [.int 0, .int 0, .ref q1, .ref q2, .ref q3, .ref q4, .ref q5, .ref q6, .ref q7, .int 0, .ref q8, .int 0, .int 0, .int 0, .int 0, .int 0, .int 0, .int 0, .int 0, .ref q9, .null, .null, .int 0, .int 0, .int 0, .null, .int 0, .int 0, .int 0, .null, .null, .null, .int 0])), aI K q1 8 (upd (upd (upd (upd (upd (upd (upd (upd (fun _ => 0) (0 : Int32).toNatClampNeg (-1 : Int32)) (1 : Int32).toNatClampNeg (-1 : Int32)) (2 : Int32).toNatClampNeg (-1 : Int32)) (3 : Int32).toNatClampNeg (-1 : Int32)) (4 : Int32).toNatClampNeg (-1 : Int32)) (5 : Int32).toNatClampNeg (-1 : Int32)) (6 : Int32).toNatClampNeg (-1 : Int32)) (7 : Int32).toNatClampNeg (-1 : Int32)), aI K q2 8 (fun _ => 0), aI K q3 320 (fun _ => 0), aI K q4 207 (fun _ => 0), aI K q5 207 (fun _ => 0), aI K q6 207 (fun _ => 0), aI K q7 4968 (fun _ => 0), aI K q8 130 (fun _ => 0), aI K q9 20 (fun _ => 0)] H := hP
  have hD : va_D A [(m_a, .inr (7, [.int 0, .int 0, .ref q1, .ref q2, .ref q3, .ref q4, .ref q5, .ref q6, .ref q7, .int 0, .ref q8, .int 0, .int 0, .int 0, .int 0, .int 0, .int 0, .int 0, .int 0, .ref q9, .null, .null, .int 0, .int 0, .int 0, .null, .int 0, .int 0, .int 0, .null, .null, .null, .int 0])), aI K q1 8 (upd (upd (upd (upd (upd (upd (upd (upd (fun _ => 0) (0 : Int32).toNatClampNeg (-1 : Int32)) (1 : Int32).toNatClampNeg (-1 : Int32)) (2 : Int32).toNatClampNeg (-1 : Int32)) (3 : Int32).toNatClampNeg (-1 : Int32)) (4 : Int32).toNatClampNeg (-1 : Int32)) (5 : Int32).toNatClampNeg (-1 : Int32)) (6 : Int32).toNatClampNeg (-1 : Int32)) (7 : Int32).toNatClampNeg (-1 : Int32)), aI K q2 8 (fun _ => 0), aI K q3 320 (fun _ => 0), aI K q4 207 (fun _ => 0), aI K q5 207 (fun _ => 0), aI K q6 207 (fun _ => 0), aI K q7 4968 (fun _ => 0), aI K q8 130 (fun _ => 0), aI K q9 20 (fun _ => 0)] := hD
  refine lv_aload_n hx hb dX7_init_116 rfl (lv_at hl 0 rfl) ?_
  refine lv_iconst (v := 5) hx hb dX7_init_117 (by decide) ?_
  refine va_newa (atype := .int) (ty := .int) (a0 := (5, .inl (fun _ => 0))) (N' := 5) hx hb (hts _ tb51) rfl hK hP hD hS hA (fun _ => rfl) (by decide) (by decide) (by decide) (Nat.le_of_ble_eq_true rfl) (Nat.le_of_ble_eq_true rfl) dX7_init_118 (fun q10 cA H hK2 hP hD hS => ?_)
  have eA := vn_ci hK hK2
  subst eA
  have hP : va_P G vwCl [(m_a, .inr (7, [.int 0, .int 0, .ref q1, .ref q2, .ref q3, .ref q4, .ref q5, .ref q6, .ref q7, .int 0, .ref q8, .int 0, .int 0, .int 0, .int 0, .int 0, .int 0, .int 0, .int 0, .ref q9, .null, .null, .int 0, .int 0, .int 0, .null, .int 0, .int 0, .int 0, .null, .null, .null, .int 0])), aI K q1 8 (upd (upd (upd (upd (upd (upd (upd (upd (fun _ => 0) (0 : Int32).toNatClampNeg (-1 : Int32)) (1 : Int32).toNatClampNeg (-1 : Int32)) (2 : Int32).toNatClampNeg (-1 : Int32)) (3 : Int32).toNatClampNeg (-1 : Int32)) (4 : Int32).toNatClampNeg (-1 : Int32)) (5 : Int32).toNatClampNeg (-1 : Int32)) (6 : Int32).toNatClampNeg (-1 : Int32)) (7 : Int32).toNatClampNeg (-1 : Int32)), aI K q2 8 (fun _ => 0), aI K q3 320 (fun _ => 0), aI K q4 207 (fun _ => 0), aI K q5 207 (fun _ => 0), aI K q6 207 (fun _ => 0), aI K q7 4968 (fun _ => 0), aI K q8 130 (fun _ => 0), aI K q9 20 (fun _ => 0), aI K q10 5 (fun _ => 0)] H := hP
  have hD : va_D A [(m_a, .inr (7, [.int 0, .int 0, .ref q1, .ref q2, .ref q3, .ref q4, .ref q5, .ref q6, .ref q7, .int 0, .ref q8, .int 0, .int 0, .int 0, .int 0, .int 0, .int 0, .int 0, .int 0, .ref q9, .null, .null, .int 0, .int 0, .int 0, .null, .int 0, .int 0, .int 0, .null, .null, .null, .int 0])), aI K q1 8 (upd (upd (upd (upd (upd (upd (upd (upd (fun _ => 0) (0 : Int32).toNatClampNeg (-1 : Int32)) (1 : Int32).toNatClampNeg (-1 : Int32)) (2 : Int32).toNatClampNeg (-1 : Int32)) (3 : Int32).toNatClampNeg (-1 : Int32)) (4 : Int32).toNatClampNeg (-1 : Int32)) (5 : Int32).toNatClampNeg (-1 : Int32)) (6 : Int32).toNatClampNeg (-1 : Int32)) (7 : Int32).toNatClampNeg (-1 : Int32)), aI K q2 8 (fun _ => 0), aI K q3 320 (fun _ => 0), aI K q4 207 (fun _ => 0), aI K q5 207 (fun _ => 0), aI K q6 207 (fun _ => 0), aI K q7 4968 (fun _ => 0), aI K q8 130 (fun _ => 0), aI K q9 20 (fun _ => 0), aI K q10 5 (fun _ => 0)] := hD
  refine va_putF (D := G) (ci := 7) (v := .ref q10) (ty := tyX7 20) (C := RX7) (T := TX7) (N := 33) hx hb hts inX7 tyX7 tyX7_ok nmX7 hown hK hP hD hS 0 rfl rfl 20 (by decide) (hts _ tb784) (fun _ h9 => h9) rfl hin rfl (tyX7_ok 20 (by decide)) rfl rfl (Nat.le_of_ble_eq_true rfl) dX7_init_120 (fun H locs hP hD hS => ?_)
  have hP : va_P G vwCl [(m_a, .inr (7, [.int 0, .int 0, .ref q1, .ref q2, .ref q3, .ref q4, .ref q5, .ref q6, .ref q7, .int 0, .ref q8, .int 0, .int 0, .int 0, .int 0, .int 0, .int 0, .int 0, .int 0, .ref q9, .ref q10, .null, .int 0, .int 0, .int 0, .null, .int 0, .int 0, .int 0, .null, .null, .null, .int 0])), aI K q1 8 (upd (upd (upd (upd (upd (upd (upd (upd (fun _ => 0) (0 : Int32).toNatClampNeg (-1 : Int32)) (1 : Int32).toNatClampNeg (-1 : Int32)) (2 : Int32).toNatClampNeg (-1 : Int32)) (3 : Int32).toNatClampNeg (-1 : Int32)) (4 : Int32).toNatClampNeg (-1 : Int32)) (5 : Int32).toNatClampNeg (-1 : Int32)) (6 : Int32).toNatClampNeg (-1 : Int32)) (7 : Int32).toNatClampNeg (-1 : Int32)), aI K q2 8 (fun _ => 0), aI K q3 320 (fun _ => 0), aI K q4 207 (fun _ => 0), aI K q5 207 (fun _ => 0), aI K q6 207 (fun _ => 0), aI K q7 4968 (fun _ => 0), aI K q8 130 (fun _ => 0), aI K q9 20 (fun _ => 0), aI K q10 5 (fun _ => 0)] H := hP
  have hD : va_D A [(m_a, .inr (7, [.int 0, .int 0, .ref q1, .ref q2, .ref q3, .ref q4, .ref q5, .ref q6, .ref q7, .int 0, .ref q8, .int 0, .int 0, .int 0, .int 0, .int 0, .int 0, .int 0, .int 0, .ref q9, .ref q10, .null, .int 0, .int 0, .int 0, .null, .int 0, .int 0, .int 0, .null, .null, .null, .int 0])), aI K q1 8 (upd (upd (upd (upd (upd (upd (upd (upd (fun _ => 0) (0 : Int32).toNatClampNeg (-1 : Int32)) (1 : Int32).toNatClampNeg (-1 : Int32)) (2 : Int32).toNatClampNeg (-1 : Int32)) (3 : Int32).toNatClampNeg (-1 : Int32)) (4 : Int32).toNatClampNeg (-1 : Int32)) (5 : Int32).toNatClampNeg (-1 : Int32)) (6 : Int32).toNatClampNeg (-1 : Int32)) (7 : Int32).toNatClampNeg (-1 : Int32)), aI K q2 8 (fun _ => 0), aI K q3 320 (fun _ => 0), aI K q4 207 (fun _ => 0), aI K q5 207 (fun _ => 0), aI K q6 207 (fun _ => 0), aI K q7 4968 (fun _ => 0), aI K q8 130 (fun _ => 0), aI K q9 20 (fun _ => 0), aI K q10 5 (fun _ => 0)] := hD
  refine lv_aload_n hx hb dX7_init_123 rfl (lv_at hl 0 rfl) ?_
  refine lv_bipush (v := 20) hx hb dX7_init_124 (by decide) ?_
  refine va_newa (atype := .int) (ty := .int) (a0 := (20, .inl (fun _ => 0))) (N' := 20) hx hb (hts _ tb51) rfl hK hP hD hS hA (fun _ => rfl) (by decide) (by decide) (by decide) (Nat.le_of_ble_eq_true rfl) (Nat.le_of_ble_eq_true rfl) dX7_init_126 (fun q11 cA H hK2 hP hD hS => ?_)
  have eA := vn_ci hK hK2
  subst eA
  have hP : va_P G vwCl [(m_a, .inr (7, [.int 0, .int 0, .ref q1, .ref q2, .ref q3, .ref q4, .ref q5, .ref q6, .ref q7, .int 0, .ref q8, .int 0, .int 0, .int 0, .int 0, .int 0, .int 0, .int 0, .int 0, .ref q9, .ref q10, .null, .int 0, .int 0, .int 0, .null, .int 0, .int 0, .int 0, .null, .null, .null, .int 0])), aI K q1 8 (upd (upd (upd (upd (upd (upd (upd (upd (fun _ => 0) (0 : Int32).toNatClampNeg (-1 : Int32)) (1 : Int32).toNatClampNeg (-1 : Int32)) (2 : Int32).toNatClampNeg (-1 : Int32)) (3 : Int32).toNatClampNeg (-1 : Int32)) (4 : Int32).toNatClampNeg (-1 : Int32)) (5 : Int32).toNatClampNeg (-1 : Int32)) (6 : Int32).toNatClampNeg (-1 : Int32)) (7 : Int32).toNatClampNeg (-1 : Int32)), aI K q2 8 (fun _ => 0), aI K q3 320 (fun _ => 0), aI K q4 207 (fun _ => 0), aI K q5 207 (fun _ => 0), aI K q6 207 (fun _ => 0), aI K q7 4968 (fun _ => 0), aI K q8 130 (fun _ => 0), aI K q9 20 (fun _ => 0), aI K q10 5 (fun _ => 0), aI K q11 20 (fun _ => 0)] H := hP
  have hD : va_D A [(m_a, .inr (7, [.int 0, .int 0, .ref q1, .ref q2, .ref q3, .ref q4, .ref q5, .ref q6, .ref q7, .int 0, .ref q8, .int 0, .int 0, .int 0, .int 0, .int 0, .int 0, .int 0, .int 0, .ref q9, .ref q10, .null, .int 0, .int 0, .int 0, .null, .int 0, .int 0, .int 0, .null, .null, .null, .int 0])), aI K q1 8 (upd (upd (upd (upd (upd (upd (upd (upd (fun _ => 0) (0 : Int32).toNatClampNeg (-1 : Int32)) (1 : Int32).toNatClampNeg (-1 : Int32)) (2 : Int32).toNatClampNeg (-1 : Int32)) (3 : Int32).toNatClampNeg (-1 : Int32)) (4 : Int32).toNatClampNeg (-1 : Int32)) (5 : Int32).toNatClampNeg (-1 : Int32)) (6 : Int32).toNatClampNeg (-1 : Int32)) (7 : Int32).toNatClampNeg (-1 : Int32)), aI K q2 8 (fun _ => 0), aI K q3 320 (fun _ => 0), aI K q4 207 (fun _ => 0), aI K q5 207 (fun _ => 0), aI K q6 207 (fun _ => 0), aI K q7 4968 (fun _ => 0), aI K q8 130 (fun _ => 0), aI K q9 20 (fun _ => 0), aI K q10 5 (fun _ => 0), aI K q11 20 (fun _ => 0)] := hD
  refine va_putF (D := G) (ci := 7) (v := .ref q11) (ty := tyX7 21) (C := RX7) (T := TX7) (N := 33) hx hb hts inX7 tyX7 tyX7_ok nmX7 hown hK hP hD hS 0 rfl rfl 21 (by decide) (hts _ tb785) (fun _ h9 => h9) rfl hin rfl (tyX7_ok 21 (by decide)) rfl rfl (Nat.le_of_ble_eq_true rfl) dX7_init_128 (fun H locs hP hD hS => ?_)
  have hP : va_P G vwCl [(m_a, .inr (7, [.int 0, .int 0, .ref q1, .ref q2, .ref q3, .ref q4, .ref q5, .ref q6, .ref q7, .int 0, .ref q8, .int 0, .int 0, .int 0, .int 0, .int 0, .int 0, .int 0, .int 0, .ref q9, .ref q10, .ref q11, .int 0, .int 0, .int 0, .null, .int 0, .int 0, .int 0, .null, .null, .null, .int 0])), aI K q1 8 (upd (upd (upd (upd (upd (upd (upd (upd (fun _ => 0) (0 : Int32).toNatClampNeg (-1 : Int32)) (1 : Int32).toNatClampNeg (-1 : Int32)) (2 : Int32).toNatClampNeg (-1 : Int32)) (3 : Int32).toNatClampNeg (-1 : Int32)) (4 : Int32).toNatClampNeg (-1 : Int32)) (5 : Int32).toNatClampNeg (-1 : Int32)) (6 : Int32).toNatClampNeg (-1 : Int32)) (7 : Int32).toNatClampNeg (-1 : Int32)), aI K q2 8 (fun _ => 0), aI K q3 320 (fun _ => 0), aI K q4 207 (fun _ => 0), aI K q5 207 (fun _ => 0), aI K q6 207 (fun _ => 0), aI K q7 4968 (fun _ => 0), aI K q8 130 (fun _ => 0), aI K q9 20 (fun _ => 0), aI K q10 5 (fun _ => 0), aI K q11 20 (fun _ => 0)] H := hP
  have hD : va_D A [(m_a, .inr (7, [.int 0, .int 0, .ref q1, .ref q2, .ref q3, .ref q4, .ref q5, .ref q6, .ref q7, .int 0, .ref q8, .int 0, .int 0, .int 0, .int 0, .int 0, .int 0, .int 0, .int 0, .ref q9, .ref q10, .ref q11, .int 0, .int 0, .int 0, .null, .int 0, .int 0, .int 0, .null, .null, .null, .int 0])), aI K q1 8 (upd (upd (upd (upd (upd (upd (upd (upd (fun _ => 0) (0 : Int32).toNatClampNeg (-1 : Int32)) (1 : Int32).toNatClampNeg (-1 : Int32)) (2 : Int32).toNatClampNeg (-1 : Int32)) (3 : Int32).toNatClampNeg (-1 : Int32)) (4 : Int32).toNatClampNeg (-1 : Int32)) (5 : Int32).toNatClampNeg (-1 : Int32)) (6 : Int32).toNatClampNeg (-1 : Int32)) (7 : Int32).toNatClampNeg (-1 : Int32)), aI K q2 8 (fun _ => 0), aI K q3 320 (fun _ => 0), aI K q4 207 (fun _ => 0), aI K q5 207 (fun _ => 0), aI K q6 207 (fun _ => 0), aI K q7 4968 (fun _ => 0), aI K q8 130 (fun _ => 0), aI K q9 20 (fun _ => 0), aI K q10 5 (fun _ => 0), aI K q11 20 (fun _ => 0)] := hD
  refine lv_aload_n hx hb dX7_init_131 rfl (lv_at hl 0 rfl) ?_
  refine lv_iconst (v := 4) hx hb dX7_init_132 (by decide) ?_
  refine va_newa (atype := .int) (ty := .int) (a0 := (4, .inl (fun _ => 0))) (N' := 4) hx hb (hts _ tb51) rfl hK hP hD hS hA (fun _ => rfl) (by decide) (by decide) (by decide) (Nat.le_of_ble_eq_true rfl) (Nat.le_of_ble_eq_true rfl) dX7_init_133 (fun q12 cA H hK2 hP hD hS => ?_)
  have eA := vn_ci hK hK2
  subst eA
  have hP : va_P G vwCl [(m_a, .inr (7, [.int 0, .int 0, .ref q1, .ref q2, .ref q3, .ref q4, .ref q5, .ref q6, .ref q7, .int 0, .ref q8, .int 0, .int 0, .int 0, .int 0, .int 0, .int 0, .int 0, .int 0, .ref q9, .ref q10, .ref q11, .int 0, .int 0, .int 0, .null, .int 0, .int 0, .int 0, .null, .null, .null, .int 0])), aI K q1 8 (upd (upd (upd (upd (upd (upd (upd (upd (fun _ => 0) (0 : Int32).toNatClampNeg (-1 : Int32)) (1 : Int32).toNatClampNeg (-1 : Int32)) (2 : Int32).toNatClampNeg (-1 : Int32)) (3 : Int32).toNatClampNeg (-1 : Int32)) (4 : Int32).toNatClampNeg (-1 : Int32)) (5 : Int32).toNatClampNeg (-1 : Int32)) (6 : Int32).toNatClampNeg (-1 : Int32)) (7 : Int32).toNatClampNeg (-1 : Int32)), aI K q2 8 (fun _ => 0), aI K q3 320 (fun _ => 0), aI K q4 207 (fun _ => 0), aI K q5 207 (fun _ => 0), aI K q6 207 (fun _ => 0), aI K q7 4968 (fun _ => 0), aI K q8 130 (fun _ => 0), aI K q9 20 (fun _ => 0), aI K q10 5 (fun _ => 0), aI K q11 20 (fun _ => 0), aI K q12 4 (fun _ => 0)] H := hP
  have hD : va_D A [(m_a, .inr (7, [.int 0, .int 0, .ref q1, .ref q2, .ref q3, .ref q4, .ref q5, .ref q6, .ref q7, .int 0, .ref q8, .int 0, .int 0, .int 0, .int 0, .int 0, .int 0, .int 0, .int 0, .ref q9, .ref q10, .ref q11, .int 0, .int 0, .int 0, .null, .int 0, .int 0, .int 0, .null, .null, .null, .int 0])), aI K q1 8 (upd (upd (upd (upd (upd (upd (upd (upd (fun _ => 0) (0 : Int32).toNatClampNeg (-1 : Int32)) (1 : Int32).toNatClampNeg (-1 : Int32)) (2 : Int32).toNatClampNeg (-1 : Int32)) (3 : Int32).toNatClampNeg (-1 : Int32)) (4 : Int32).toNatClampNeg (-1 : Int32)) (5 : Int32).toNatClampNeg (-1 : Int32)) (6 : Int32).toNatClampNeg (-1 : Int32)) (7 : Int32).toNatClampNeg (-1 : Int32)), aI K q2 8 (fun _ => 0), aI K q3 320 (fun _ => 0), aI K q4 207 (fun _ => 0), aI K q5 207 (fun _ => 0), aI K q6 207 (fun _ => 0), aI K q7 4968 (fun _ => 0), aI K q8 130 (fun _ => 0), aI K q9 20 (fun _ => 0), aI K q10 5 (fun _ => 0), aI K q11 20 (fun _ => 0), aI K q12 4 (fun _ => 0)] := hD
  refine va_putF (D := G) (ci := 7) (v := .ref q12) (ty := tyX7 25) (C := RX7) (T := TX7) (N := 33) hx hb hts inX7 tyX7 tyX7_ok nmX7 hown hK hP hD hS 0 rfl rfl 25 (by decide) (hts _ tb789) (fun _ h9 => h9) rfl hin rfl (tyX7_ok 25 (by decide)) rfl rfl (Nat.le_of_ble_eq_true rfl) dX7_init_135 (fun H locs hP hD hS => ?_)
  have hP : va_P G vwCl [(m_a, .inr (7, [.int 0, .int 0, .ref q1, .ref q2, .ref q3, .ref q4, .ref q5, .ref q6, .ref q7, .int 0, .ref q8, .int 0, .int 0, .int 0, .int 0, .int 0, .int 0, .int 0, .int 0, .ref q9, .ref q10, .ref q11, .int 0, .int 0, .int 0, .ref q12, .int 0, .int 0, .int 0, .null, .null, .null, .int 0])), aI K q1 8 (upd (upd (upd (upd (upd (upd (upd (upd (fun _ => 0) (0 : Int32).toNatClampNeg (-1 : Int32)) (1 : Int32).toNatClampNeg (-1 : Int32)) (2 : Int32).toNatClampNeg (-1 : Int32)) (3 : Int32).toNatClampNeg (-1 : Int32)) (4 : Int32).toNatClampNeg (-1 : Int32)) (5 : Int32).toNatClampNeg (-1 : Int32)) (6 : Int32).toNatClampNeg (-1 : Int32)) (7 : Int32).toNatClampNeg (-1 : Int32)), aI K q2 8 (fun _ => 0), aI K q3 320 (fun _ => 0), aI K q4 207 (fun _ => 0), aI K q5 207 (fun _ => 0), aI K q6 207 (fun _ => 0), aI K q7 4968 (fun _ => 0), aI K q8 130 (fun _ => 0), aI K q9 20 (fun _ => 0), aI K q10 5 (fun _ => 0), aI K q11 20 (fun _ => 0), aI K q12 4 (fun _ => 0)] H := hP
  have hD : va_D A [(m_a, .inr (7, [.int 0, .int 0, .ref q1, .ref q2, .ref q3, .ref q4, .ref q5, .ref q6, .ref q7, .int 0, .ref q8, .int 0, .int 0, .int 0, .int 0, .int 0, .int 0, .int 0, .int 0, .ref q9, .ref q10, .ref q11, .int 0, .int 0, .int 0, .ref q12, .int 0, .int 0, .int 0, .null, .null, .null, .int 0])), aI K q1 8 (upd (upd (upd (upd (upd (upd (upd (upd (fun _ => 0) (0 : Int32).toNatClampNeg (-1 : Int32)) (1 : Int32).toNatClampNeg (-1 : Int32)) (2 : Int32).toNatClampNeg (-1 : Int32)) (3 : Int32).toNatClampNeg (-1 : Int32)) (4 : Int32).toNatClampNeg (-1 : Int32)) (5 : Int32).toNatClampNeg (-1 : Int32)) (6 : Int32).toNatClampNeg (-1 : Int32)) (7 : Int32).toNatClampNeg (-1 : Int32)), aI K q2 8 (fun _ => 0), aI K q3 320 (fun _ => 0), aI K q4 207 (fun _ => 0), aI K q5 207 (fun _ => 0), aI K q6 207 (fun _ => 0), aI K q7 4968 (fun _ => 0), aI K q8 130 (fun _ => 0), aI K q9 20 (fun _ => 0), aI K q10 5 (fun _ => 0), aI K q11 20 (fun _ => 0), aI K q12 4 (fun _ => 0)] := hD
  refine lv_aload_n hx hb dX7_init_138 rfl (lv_at hl 0 rfl) ?_
  refine lv_iconst (v := 2) hx hb dX7_init_139 (by decide) ?_
  refine va_newa (atype := .boolean) (ty := .boolean) (a0 := (2, .inl (fun _ => 0))) (N' := 2) hx hb (hts _ tb864) rfl hK hP hD hS hA (fun _ => rfl) (by decide) (by decide) (by decide) (Nat.le_of_ble_eq_true rfl) (Nat.le_of_ble_eq_true rfl) dX7_init_140 (fun q13 cA H hK2 hP hD hS => ?_)
  have eA := vn_cz hK hK2
  subst eA
  have hP : va_P G vwCl [(m_a, .inr (7, [.int 0, .int 0, .ref q1, .ref q2, .ref q3, .ref q4, .ref q5, .ref q6, .ref q7, .int 0, .ref q8, .int 0, .int 0, .int 0, .int 0, .int 0, .int 0, .int 0, .int 0, .ref q9, .ref q10, .ref q11, .int 0, .int 0, .int 0, .ref q12, .int 0, .int 0, .int 0, .null, .null, .null, .int 0])), aI K q1 8 (upd (upd (upd (upd (upd (upd (upd (upd (fun _ => 0) (0 : Int32).toNatClampNeg (-1 : Int32)) (1 : Int32).toNatClampNeg (-1 : Int32)) (2 : Int32).toNatClampNeg (-1 : Int32)) (3 : Int32).toNatClampNeg (-1 : Int32)) (4 : Int32).toNatClampNeg (-1 : Int32)) (5 : Int32).toNatClampNeg (-1 : Int32)) (6 : Int32).toNatClampNeg (-1 : Int32)) (7 : Int32).toNatClampNeg (-1 : Int32)), aI K q2 8 (fun _ => 0), aI K q3 320 (fun _ => 0), aI K q4 207 (fun _ => 0), aI K q5 207 (fun _ => 0), aI K q6 207 (fun _ => 0), aI K q7 4968 (fun _ => 0), aI K q8 130 (fun _ => 0), aI K q9 20 (fun _ => 0), aI K q10 5 (fun _ => 0), aI K q11 20 (fun _ => 0), aI K q12 4 (fun _ => 0), aZ K q13 2 (fun _ => 0)] H := hP
  have hD : va_D A [(m_a, .inr (7, [.int 0, .int 0, .ref q1, .ref q2, .ref q3, .ref q4, .ref q5, .ref q6, .ref q7, .int 0, .ref q8, .int 0, .int 0, .int 0, .int 0, .int 0, .int 0, .int 0, .int 0, .ref q9, .ref q10, .ref q11, .int 0, .int 0, .int 0, .ref q12, .int 0, .int 0, .int 0, .null, .null, .null, .int 0])), aI K q1 8 (upd (upd (upd (upd (upd (upd (upd (upd (fun _ => 0) (0 : Int32).toNatClampNeg (-1 : Int32)) (1 : Int32).toNatClampNeg (-1 : Int32)) (2 : Int32).toNatClampNeg (-1 : Int32)) (3 : Int32).toNatClampNeg (-1 : Int32)) (4 : Int32).toNatClampNeg (-1 : Int32)) (5 : Int32).toNatClampNeg (-1 : Int32)) (6 : Int32).toNatClampNeg (-1 : Int32)) (7 : Int32).toNatClampNeg (-1 : Int32)), aI K q2 8 (fun _ => 0), aI K q3 320 (fun _ => 0), aI K q4 207 (fun _ => 0), aI K q5 207 (fun _ => 0), aI K q6 207 (fun _ => 0), aI K q7 4968 (fun _ => 0), aI K q8 130 (fun _ => 0), aI K q9 20 (fun _ => 0), aI K q10 5 (fun _ => 0), aI K q11 20 (fun _ => 0), aI K q12 4 (fun _ => 0), aZ K q13 2 (fun _ => 0)] := hD
  refine va_putF (D := G) (ci := 7) (v := .ref q13) (ty := tyX7 29) (C := RX7) (T := TX7) (N := 33) hx hb hts inX7 tyX7 tyX7_ok nmX7 hown hK hP hD hS 0 rfl rfl 29 (by decide) (hts _ tb793) (fun _ h9 => h9) rfl hin rfl (tyX7_ok 29 (by decide)) rfl rfl (Nat.le_of_ble_eq_true rfl) dX7_init_142 (fun H locs hP hD hS => ?_)
  have hP : va_P G vwCl [(m_a, .inr (7, [.int 0, .int 0, .ref q1, .ref q2, .ref q3, .ref q4, .ref q5, .ref q6, .ref q7, .int 0, .ref q8, .int 0, .int 0, .int 0, .int 0, .int 0, .int 0, .int 0, .int 0, .ref q9, .ref q10, .ref q11, .int 0, .int 0, .int 0, .ref q12, .int 0, .int 0, .int 0, .ref q13, .null, .null, .int 0])), aI K q1 8 (upd (upd (upd (upd (upd (upd (upd (upd (fun _ => 0) (0 : Int32).toNatClampNeg (-1 : Int32)) (1 : Int32).toNatClampNeg (-1 : Int32)) (2 : Int32).toNatClampNeg (-1 : Int32)) (3 : Int32).toNatClampNeg (-1 : Int32)) (4 : Int32).toNatClampNeg (-1 : Int32)) (5 : Int32).toNatClampNeg (-1 : Int32)) (6 : Int32).toNatClampNeg (-1 : Int32)) (7 : Int32).toNatClampNeg (-1 : Int32)), aI K q2 8 (fun _ => 0), aI K q3 320 (fun _ => 0), aI K q4 207 (fun _ => 0), aI K q5 207 (fun _ => 0), aI K q6 207 (fun _ => 0), aI K q7 4968 (fun _ => 0), aI K q8 130 (fun _ => 0), aI K q9 20 (fun _ => 0), aI K q10 5 (fun _ => 0), aI K q11 20 (fun _ => 0), aI K q12 4 (fun _ => 0), aZ K q13 2 (fun _ => 0)] H := hP
  have hD : va_D A [(m_a, .inr (7, [.int 0, .int 0, .ref q1, .ref q2, .ref q3, .ref q4, .ref q5, .ref q6, .ref q7, .int 0, .ref q8, .int 0, .int 0, .int 0, .int 0, .int 0, .int 0, .int 0, .int 0, .ref q9, .ref q10, .ref q11, .int 0, .int 0, .int 0, .ref q12, .int 0, .int 0, .int 0, .ref q13, .null, .null, .int 0])), aI K q1 8 (upd (upd (upd (upd (upd (upd (upd (upd (fun _ => 0) (0 : Int32).toNatClampNeg (-1 : Int32)) (1 : Int32).toNatClampNeg (-1 : Int32)) (2 : Int32).toNatClampNeg (-1 : Int32)) (3 : Int32).toNatClampNeg (-1 : Int32)) (4 : Int32).toNatClampNeg (-1 : Int32)) (5 : Int32).toNatClampNeg (-1 : Int32)) (6 : Int32).toNatClampNeg (-1 : Int32)) (7 : Int32).toNatClampNeg (-1 : Int32)), aI K q2 8 (fun _ => 0), aI K q3 320 (fun _ => 0), aI K q4 207 (fun _ => 0), aI K q5 207 (fun _ => 0), aI K q6 207 (fun _ => 0), aI K q7 4968 (fun _ => 0), aI K q8 130 (fun _ => 0), aI K q9 20 (fun _ => 0), aI K q10 5 (fun _ => 0), aI K q11 20 (fun _ => 0), aI K q12 4 (fun _ => 0), aZ K q13 2 (fun _ => 0)] := hD
  refine lv_aload_n hx hb dX7_init_145 rfl (lv_at hl 0 rfl) ?_
  refine lv_sipush (v := 414) hx hb dX7_init_146 (by decide) ?_
  refine va_newa (atype := .int) (ty := .int) (a0 := (414, .inl (fun _ => 0))) (N' := 414) hx hb (hts _ tb51) rfl hK hP hD hS hA (fun _ => rfl) (by decide) (by decide) (by decide) (Nat.le_of_ble_eq_true rfl) (Nat.le_of_ble_eq_true rfl) dX7_init_149 (fun q14 cA H hK2 hP hD hS => ?_)
  have eA := vn_ci hK hK2
  subst eA
  have hP : va_P G vwCl [(m_a, .inr (7, [.int 0, .int 0, .ref q1, .ref q2, .ref q3, .ref q4, .ref q5, .ref q6, .ref q7, .int 0, .ref q8, .int 0, .int 0, .int 0, .int 0, .int 0, .int 0, .int 0, .int 0, .ref q9, .ref q10, .ref q11, .int 0, .int 0, .int 0, .ref q12, .int 0, .int 0, .int 0, .ref q13, .null, .null, .int 0])), aI K q1 8 (upd (upd (upd (upd (upd (upd (upd (upd (fun _ => 0) (0 : Int32).toNatClampNeg (-1 : Int32)) (1 : Int32).toNatClampNeg (-1 : Int32)) (2 : Int32).toNatClampNeg (-1 : Int32)) (3 : Int32).toNatClampNeg (-1 : Int32)) (4 : Int32).toNatClampNeg (-1 : Int32)) (5 : Int32).toNatClampNeg (-1 : Int32)) (6 : Int32).toNatClampNeg (-1 : Int32)) (7 : Int32).toNatClampNeg (-1 : Int32)), aI K q2 8 (fun _ => 0), aI K q3 320 (fun _ => 0), aI K q4 207 (fun _ => 0), aI K q5 207 (fun _ => 0), aI K q6 207 (fun _ => 0), aI K q7 4968 (fun _ => 0), aI K q8 130 (fun _ => 0), aI K q9 20 (fun _ => 0), aI K q10 5 (fun _ => 0), aI K q11 20 (fun _ => 0), aI K q12 4 (fun _ => 0), aZ K q13 2 (fun _ => 0), aI K q14 414 (fun _ => 0)] H := hP
  have hD : va_D A [(m_a, .inr (7, [.int 0, .int 0, .ref q1, .ref q2, .ref q3, .ref q4, .ref q5, .ref q6, .ref q7, .int 0, .ref q8, .int 0, .int 0, .int 0, .int 0, .int 0, .int 0, .int 0, .int 0, .ref q9, .ref q10, .ref q11, .int 0, .int 0, .int 0, .ref q12, .int 0, .int 0, .int 0, .ref q13, .null, .null, .int 0])), aI K q1 8 (upd (upd (upd (upd (upd (upd (upd (upd (fun _ => 0) (0 : Int32).toNatClampNeg (-1 : Int32)) (1 : Int32).toNatClampNeg (-1 : Int32)) (2 : Int32).toNatClampNeg (-1 : Int32)) (3 : Int32).toNatClampNeg (-1 : Int32)) (4 : Int32).toNatClampNeg (-1 : Int32)) (5 : Int32).toNatClampNeg (-1 : Int32)) (6 : Int32).toNatClampNeg (-1 : Int32)) (7 : Int32).toNatClampNeg (-1 : Int32)), aI K q2 8 (fun _ => 0), aI K q3 320 (fun _ => 0), aI K q4 207 (fun _ => 0), aI K q5 207 (fun _ => 0), aI K q6 207 (fun _ => 0), aI K q7 4968 (fun _ => 0), aI K q8 130 (fun _ => 0), aI K q9 20 (fun _ => 0), aI K q10 5 (fun _ => 0), aI K q11 20 (fun _ => 0), aI K q12 4 (fun _ => 0), aZ K q13 2 (fun _ => 0), aI K q14 414 (fun _ => 0)] := hD
  refine va_putF (D := G) (ci := 7) (v := .ref q14) (ty := tyX7 30) (C := RX7) (T := TX7) (N := 33) hx hb hts inX7 tyX7 tyX7_ok nmX7 hown hK hP hD hS 0 rfl rfl 30 (by decide) (hts _ tb794) (fun _ h9 => h9) rfl hin rfl (tyX7_ok 30 (by decide)) rfl rfl (Nat.le_of_ble_eq_true rfl) dX7_init_151 (fun H locs hP hD hS => ?_)
  have hP : va_P G vwCl [(m_a, .inr (7, [.int 0, .int 0, .ref q1, .ref q2, .ref q3, .ref q4, .ref q5, .ref q6, .ref q7, .int 0, .ref q8, .int 0, .int 0, .int 0, .int 0, .int 0, .int 0, .int 0, .int 0, .ref q9, .ref q10, .ref q11, .int 0, .int 0, .int 0, .ref q12, .int 0, .int 0, .int 0, .ref q13, .ref q14, .null, .int 0])), aI K q1 8 (upd (upd (upd (upd (upd (upd (upd (upd (fun _ => 0) (0 : Int32).toNatClampNeg (-1 : Int32)) (1 : Int32).toNatClampNeg (-1 : Int32)) (2 : Int32).toNatClampNeg (-1 : Int32)) (3 : Int32).toNatClampNeg (-1 : Int32)) (4 : Int32).toNatClampNeg (-1 : Int32)) (5 : Int32).toNatClampNeg (-1 : Int32)) (6 : Int32).toNatClampNeg (-1 : Int32)) (7 : Int32).toNatClampNeg (-1 : Int32)), aI K q2 8 (fun _ => 0), aI K q3 320 (fun _ => 0), aI K q4 207 (fun _ => 0), aI K q5 207 (fun _ => 0), aI K q6 207 (fun _ => 0), aI K q7 4968 (fun _ => 0), aI K q8 130 (fun _ => 0), aI K q9 20 (fun _ => 0), aI K q10 5 (fun _ => 0), aI K q11 20 (fun _ => 0), aI K q12 4 (fun _ => 0), aZ K q13 2 (fun _ => 0), aI K q14 414 (fun _ => 0)] H := hP
  have hD : va_D A [(m_a, .inr (7, [.int 0, .int 0, .ref q1, .ref q2, .ref q3, .ref q4, .ref q5, .ref q6, .ref q7, .int 0, .ref q8, .int 0, .int 0, .int 0, .int 0, .int 0, .int 0, .int 0, .int 0, .ref q9, .ref q10, .ref q11, .int 0, .int 0, .int 0, .ref q12, .int 0, .int 0, .int 0, .ref q13, .ref q14, .null, .int 0])), aI K q1 8 (upd (upd (upd (upd (upd (upd (upd (upd (fun _ => 0) (0 : Int32).toNatClampNeg (-1 : Int32)) (1 : Int32).toNatClampNeg (-1 : Int32)) (2 : Int32).toNatClampNeg (-1 : Int32)) (3 : Int32).toNatClampNeg (-1 : Int32)) (4 : Int32).toNatClampNeg (-1 : Int32)) (5 : Int32).toNatClampNeg (-1 : Int32)) (6 : Int32).toNatClampNeg (-1 : Int32)) (7 : Int32).toNatClampNeg (-1 : Int32)), aI K q2 8 (fun _ => 0), aI K q3 320 (fun _ => 0), aI K q4 207 (fun _ => 0), aI K q5 207 (fun _ => 0), aI K q6 207 (fun _ => 0), aI K q7 4968 (fun _ => 0), aI K q8 130 (fun _ => 0), aI K q9 20 (fun _ => 0), aI K q10 5 (fun _ => 0), aI K q11 20 (fun _ => 0), aI K q12 4 (fun _ => 0), aZ K q13 2 (fun _ => 0), aI K q14 414 (fun _ => 0)] := hD
  refine lv_aload_n hx hb dX7_init_154 rfl (lv_at hl 0 rfl) ?_
  refine lv_bipush (v := 16) hx hb dX7_init_155 (by decide) ?_
  refine va_newa (atype := .int) (ty := .int) (a0 := (16, .inl (fun _ => 0))) (N' := 16) hx hb (hts _ tb51) rfl hK hP hD hS hA (fun _ => rfl) (by decide) (by decide) (by decide) (Nat.le_of_ble_eq_true rfl) (Nat.le_of_ble_eq_true rfl) dX7_init_157 (fun q15 cA H hK2 hP hD hS => ?_)
  have eA := vn_ci hK hK2
  subst eA
  have hP : va_P G vwCl [(m_a, .inr (7, [.int 0, .int 0, .ref q1, .ref q2, .ref q3, .ref q4, .ref q5, .ref q6, .ref q7, .int 0, .ref q8, .int 0, .int 0, .int 0, .int 0, .int 0, .int 0, .int 0, .int 0, .ref q9, .ref q10, .ref q11, .int 0, .int 0, .int 0, .ref q12, .int 0, .int 0, .int 0, .ref q13, .ref q14, .null, .int 0])), aI K q1 8 (upd (upd (upd (upd (upd (upd (upd (upd (fun _ => 0) (0 : Int32).toNatClampNeg (-1 : Int32)) (1 : Int32).toNatClampNeg (-1 : Int32)) (2 : Int32).toNatClampNeg (-1 : Int32)) (3 : Int32).toNatClampNeg (-1 : Int32)) (4 : Int32).toNatClampNeg (-1 : Int32)) (5 : Int32).toNatClampNeg (-1 : Int32)) (6 : Int32).toNatClampNeg (-1 : Int32)) (7 : Int32).toNatClampNeg (-1 : Int32)), aI K q2 8 (fun _ => 0), aI K q3 320 (fun _ => 0), aI K q4 207 (fun _ => 0), aI K q5 207 (fun _ => 0), aI K q6 207 (fun _ => 0), aI K q7 4968 (fun _ => 0), aI K q8 130 (fun _ => 0), aI K q9 20 (fun _ => 0), aI K q10 5 (fun _ => 0), aI K q11 20 (fun _ => 0), aI K q12 4 (fun _ => 0), aZ K q13 2 (fun _ => 0), aI K q14 414 (fun _ => 0), aI K q15 16 (fun _ => 0)] H := hP
  have hD : va_D A [(m_a, .inr (7, [.int 0, .int 0, .ref q1, .ref q2, .ref q3, .ref q4, .ref q5, .ref q6, .ref q7, .int 0, .ref q8, .int 0, .int 0, .int 0, .int 0, .int 0, .int 0, .int 0, .int 0, .ref q9, .ref q10, .ref q11, .int 0, .int 0, .int 0, .ref q12, .int 0, .int 0, .int 0, .ref q13, .ref q14, .null, .int 0])), aI K q1 8 (upd (upd (upd (upd (upd (upd (upd (upd (fun _ => 0) (0 : Int32).toNatClampNeg (-1 : Int32)) (1 : Int32).toNatClampNeg (-1 : Int32)) (2 : Int32).toNatClampNeg (-1 : Int32)) (3 : Int32).toNatClampNeg (-1 : Int32)) (4 : Int32).toNatClampNeg (-1 : Int32)) (5 : Int32).toNatClampNeg (-1 : Int32)) (6 : Int32).toNatClampNeg (-1 : Int32)) (7 : Int32).toNatClampNeg (-1 : Int32)), aI K q2 8 (fun _ => 0), aI K q3 320 (fun _ => 0), aI K q4 207 (fun _ => 0), aI K q5 207 (fun _ => 0), aI K q6 207 (fun _ => 0), aI K q7 4968 (fun _ => 0), aI K q8 130 (fun _ => 0), aI K q9 20 (fun _ => 0), aI K q10 5 (fun _ => 0), aI K q11 20 (fun _ => 0), aI K q12 4 (fun _ => 0), aZ K q13 2 (fun _ => 0), aI K q14 414 (fun _ => 0), aI K q15 16 (fun _ => 0)] := hD
  refine va_putF (D := G) (ci := 7) (v := .ref q15) (ty := tyX7 31) (C := RX7) (T := TX7) (N := 33) hx hb hts inX7 tyX7 tyX7_ok nmX7 hown hK hP hD hS 0 rfl rfl 31 (by decide) (hts _ tb795) (fun _ h9 => h9) rfl hin rfl (tyX7_ok 31 (by decide)) rfl rfl (Nat.le_of_ble_eq_true rfl) dX7_init_159 (fun H locs hP hD hS => ?_)
  have hP : va_P G vwCl [(m_a, .inr (7, [.int 0, .int 0, .ref q1, .ref q2, .ref q3, .ref q4, .ref q5, .ref q6, .ref q7, .int 0, .ref q8, .int 0, .int 0, .int 0, .int 0, .int 0, .int 0, .int 0, .int 0, .ref q9, .ref q10, .ref q11, .int 0, .int 0, .int 0, .ref q12, .int 0, .int 0, .int 0, .ref q13, .ref q14, .ref q15, .int 0])), aI K q1 8 (upd (upd (upd (upd (upd (upd (upd (upd (fun _ => 0) (0 : Int32).toNatClampNeg (-1 : Int32)) (1 : Int32).toNatClampNeg (-1 : Int32)) (2 : Int32).toNatClampNeg (-1 : Int32)) (3 : Int32).toNatClampNeg (-1 : Int32)) (4 : Int32).toNatClampNeg (-1 : Int32)) (5 : Int32).toNatClampNeg (-1 : Int32)) (6 : Int32).toNatClampNeg (-1 : Int32)) (7 : Int32).toNatClampNeg (-1 : Int32)), aI K q2 8 (fun _ => 0), aI K q3 320 (fun _ => 0), aI K q4 207 (fun _ => 0), aI K q5 207 (fun _ => 0), aI K q6 207 (fun _ => 0), aI K q7 4968 (fun _ => 0), aI K q8 130 (fun _ => 0), aI K q9 20 (fun _ => 0), aI K q10 5 (fun _ => 0), aI K q11 20 (fun _ => 0), aI K q12 4 (fun _ => 0), aZ K q13 2 (fun _ => 0), aI K q14 414 (fun _ => 0), aI K q15 16 (fun _ => 0)] H := hP
  have hD : va_D A [(m_a, .inr (7, [.int 0, .int 0, .ref q1, .ref q2, .ref q3, .ref q4, .ref q5, .ref q6, .ref q7, .int 0, .ref q8, .int 0, .int 0, .int 0, .int 0, .int 0, .int 0, .int 0, .int 0, .ref q9, .ref q10, .ref q11, .int 0, .int 0, .int 0, .ref q12, .int 0, .int 0, .int 0, .ref q13, .ref q14, .ref q15, .int 0])), aI K q1 8 (upd (upd (upd (upd (upd (upd (upd (upd (fun _ => 0) (0 : Int32).toNatClampNeg (-1 : Int32)) (1 : Int32).toNatClampNeg (-1 : Int32)) (2 : Int32).toNatClampNeg (-1 : Int32)) (3 : Int32).toNatClampNeg (-1 : Int32)) (4 : Int32).toNatClampNeg (-1 : Int32)) (5 : Int32).toNatClampNeg (-1 : Int32)) (6 : Int32).toNatClampNeg (-1 : Int32)) (7 : Int32).toNatClampNeg (-1 : Int32)), aI K q2 8 (fun _ => 0), aI K q3 320 (fun _ => 0), aI K q4 207 (fun _ => 0), aI K q5 207 (fun _ => 0), aI K q6 207 (fun _ => 0), aI K q7 4968 (fun _ => 0), aI K q8 130 (fun _ => 0), aI K q9 20 (fun _ => 0), aI K q10 5 (fun _ => 0), aI K q11 20 (fun _ => 0), aI K q12 4 (fun _ => 0), aZ K q13 2 (fun _ => 0), aI K q14 414 (fun _ => 0), aI K q15 16 (fun _ => 0)] := hD
  refine W.widen (k := 15) (n := 6536) (Nat.le_of_ble_eq_true rfl) (Nat.le_of_ble_eq_true rfl) ?_
  exact W.vret hx hb hr (fun t ht hW => ⟨⟨(fun j => ([q1, q2, q3, q4, q5, q6, q7, q8, q9, q10, q11, q12, q13, q14, q15] : List Nat).getD j 0), rfl, trivial, (show va_P G vwCl _ t.heap by rw [ht]; exact hP), hD⟩, hS.F ht⟩) hS.2.2 dX7_init_162
