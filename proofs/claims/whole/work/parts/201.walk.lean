abbrev WX2_hasLine (K : Nat → ClassId) (po_a poA_sizes poA_kinds poA_spelled poA_scheme : Nat) (po_foot : Int32) (po_feet : Int32) (po_lines : Int32) (po_words : Int32) (po_sizes : Nat → Int32) (po_kinds : Nat → Int32) (po_spelled : Nat → Nat) (po_scheme : Nat → Int32) : va_W := [(po_a, .inr (2, [.int po_foot, .int po_feet, .int po_lines, .int po_words, .ref poA_sizes, .ref poA_kinds, .ref poA_spelled, .ref poA_scheme])), aI K poA_sizes 4 po_sizes, aI K poA_kinds 20 po_kinds, aS K poA_spelled 20 po_spelled, aI K poA_scheme 4 po_scheme]
def rmX2_hasLine : Room := { frames := 0, cells := 0, slots := 0, locals := 0 }
theorem hdX2_hasLine : yX2_hasLine.cls = RX2 ∧ yX2_hasLine.cls ≠ "java/lang/invoke/MethodHandle" ∧ yX2_hasLine.cls ≠ "java/lang/invoke/VarHandle" ∧ (parseMethodDescriptor yX2_hasLine.desc).map (fun d => d.parameters.length) = some 1 := by decide +kernel
set_option maxHeartbeats 4000000 in
set_option maxRecDepth 100000 in
theorem wX2_hasLine_b0 {p : Program} {l : Launch} {e : Env} {s : State} {m : MethodId} {args : Array Value} {below : List Frame} {meth : Method} {c : Code} {Q : State → Prop} {G : va_G} {K : Nat → ClassId} {A : Nat → Prop} {tt : Nat → Nat} {L : List Nat} {la : Nat → Nat} {sa : Nat → Nat} {ln : Nat → Int32} {sy : Nat → Int32} {sn : Nat → Int32} {lt : Nat → Nat → Int32} {st : Nat → Nat → Int32} (C0 : CX p s m args c cX2_hasLine 2 RX2 G K (EC G K tt L la sa ln sy sn lt st) A) (po_a poA_sizes poA_kinds poA_spelled poA_scheme : Nat) (po_foot : Int32) (po_feet : Int32) (po_lines : Int32) (po_words : Int32) (po_sizes : Nat → Int32) (po_kinds : Nat → Int32) (po_spelled : Nat → Nat) (po_scheme : Nat → Int32) (p1 : Int32) (r : Int32)  (kr : ∀ (H : Heap) (locs : List Loc) (ls : Array Slot) (pc : Nat), decode cX2_hasLine pc = .ok (.ireturn, 1) → (r = 0 ∨ r = 1) → va_P G vwCl (WX2_hasLine K po_a poA_sizes poA_kinds poA_spelled poA_scheme po_foot po_feet po_lines po_words po_sizes po_kinds po_spelled po_scheme) H → va_D A (WX2_hasLine K po_a poA_sizes poA_kinds poA_spelled poA_scheme po_foot po_feet po_lines po_words po_sizes po_kinds po_spelled po_scheme) → va_S A s.heap H locs → W p l e rmX2_hasLine s m args below meth c H locs 0 0 Q (F0 m pc ls [.int r]))  (hM : mX2_hasLine_b0 po_lines p1   = some r) : ∀ (H : Heap) (locs : List Loc) (ls : Array Slot), va_P G vwCl (WX2_hasLine K po_a poA_sizes poA_kinds poA_spelled poA_scheme po_foot po_feet po_lines po_words po_sizes po_kinds po_spelled po_scheme) H → va_D A (WX2_hasLine K po_a poA_sizes poA_kinds poA_spelled poA_scheme po_foot po_feet po_lines po_words po_sizes po_kinds po_spelled po_scheme) → va_S A s.heap H locs → lv_has ls 2 [(0, .ref po_a), (1, .int p1)] → W p l e rmX2_hasLine s m args below meth c H locs 0 0 Q (F0 m 0 ls []) := by
  obtain ⟨hx, hb, hml, hown, hts, hK, hA, hEo, hE⟩ := id C0
  intro H locs ls hP hD hS hl
  unfold mX2_hasLine_b0 at hM
  refine lv_iload_n hx hb dX2_hasLine_0 rfl (lv_at hl 1 rfl) ?_
  refine lv_if_lt (tgt := 16) hx hb dX2_hasLine_1 (by decide) (fun c_1 => ?_) (fun c_1 => ?_)
  · rw [if_pos c_1] at hM
    refine lv_iconst (v := 0) hx hb dX2_hasLine_16 (by decide) ?_
    have q1 := Option.some.inj hM
    subst q1
    exact kr _ _ _ _ dX2_hasLine_17 (by decide) hP hD hS
  · rw [if_neg c_1] at hM
    refine lv_iload_n hx hb dX2_hasLine_4 rfl (lv_at hl 1 rfl) ?_
    refine lv_aload_n hx hb dX2_hasLine_5 rfl (lv_at hl 0 rfl) ?_
    refine va_get (D := G) (ci := 2) (v := .int po_lines) (C := RX2) (T := TX2) (N := 8) hx hb hts inX2 hown hK hP 0 rfl rfl 2 (by decide) (hts _ tb182) (fun _ h9 => h9) rfl dX2_hasLine_6 ?_
    refine lv_icmp_ge (tgt := 16) hx hb dX2_hasLine_9 (by decide) (fun c_2 => ?_) (fun c_2 => ?_)
    · rw [if_pos c_2] at hM
      refine lv_iconst (v := 0) hx hb dX2_hasLine_16 (by decide) ?_
      have q1 := Option.some.inj hM
      subst q1
      exact kr _ _ _ _ dX2_hasLine_17 (by decide) hP hD hS
    · rw [if_neg c_2] at hM
      refine lv_iconst (v := 1) hx hb dX2_hasLine_12 (by decide) ?_
      refine lv_goto (tgt := 17) hx hb dX2_hasLine_13 (by decide) ?_
      have q1 := Option.some.inj hM
      subst q1
      exact kr _ _ _ _ dX2_hasLine_17 (by decide) hP hD hS
set_option maxHeartbeats 4000000 in
set_option maxRecDepth 100000 in
theorem kX2_hasLine (l : Launch) (G : va_G) (K : Nat → ClassId) (tt : Nat → Nat) (L : List Nat) (la : Nat → Nat) (sa : Nat → Nat) (ln : Nat → Int32) (sy : Nat → Int32) (sn : Nat → Int32) (lt : Nat → Nat → Int32) (st : Nat → Nat → Int32) (po_a poA_sizes poA_kinds poA_spelled poA_scheme : Nat) (po_foot : Int32) (po_feet : Int32) (po_lines : Int32) (po_words : Int32) (po_sizes : Nat → Int32) (po_kinds : Nat → Int32) (po_spelled : Nat → Nat) (po_scheme : Nat → Int32) (p1 : Int32) (sz : Nat) (r : Int32)  (hM : mX2_hasLine po_lines p1 = some r) : Met l yX2_hasLine (mC yX2_hasLine cX2_hasLine 2 (some .boolean)) rmX2_hasLine (va_Pc [.ref po_a, .int p1] (PCe G K (EC G K tt L la sa ln sy sn lt st) (WX2_hasLine K po_a poA_sizes poA_kinds poA_spelled poA_scheme po_foot po_feet po_lines po_words po_sizes po_kinds po_spelled po_scheme) sz)) (va_Qi (fun (x : Int32) (_ : Unit) => x = r) (fun _ t => va_P G vwCl (WX2_hasLine K po_a poA_sizes poA_kinds poA_spelled poA_scheme po_foot po_feet po_lines po_words po_sizes po_kinds po_spelled po_scheme) t.heap) (va_A (WX2_hasLine K po_a poA_sizes poA_kinds poA_spelled poA_scheme po_foot po_feet po_lines po_words po_sizes po_kinds po_spelled po_scheme) sz)) rmX2_hasLine.cells rmX2_hasLine.slots (va_A (WX2_hasLine K po_a poA_sizes poA_kinds poA_spelled poA_scheme po_foot po_feet po_lines po_words po_sizes po_kinds po_spelled po_scheme) sz) := by
  refine Met.ofW (cc := cX2_hasLine) (maxL := 2) (ret := (some .boolean)) (by decide) rfl ?_
  intro p e s m args below meth c s₁ B hml hv
  obtain ⟨rfl, hsz, hP, hK, hD0, hE⟩ := hv
  have hx := B.exec
  have hb := B.bytes
  have hr := B.returns
  have hts0 := atoms_spec (ws := mC yX2_hasLine cX2_hasLine 2 (some .boolean)) B.pre
  have hts : ∀ w ∈ tbG, w.before _ s = true := fun w h => hts0 w (List.mem_cons_of_mem _ h)
  have hown : s.vm.findClass RX2 = some m.cls := findClass_of_methodNamed B.named
  subst hsz
  have hD := hD0.self (sz := s.heap.size)
  generalize hAe : va_A (WX2_hasLine K po_a poA_sizes poA_kinds poA_spelled poA_scheme po_foot po_feet po_lines po_words po_sizes po_kinds po_spelled po_scheme) s.heap.size = A at hD hE ⊢
  have hA : ∀ q : Nat, s.heap.size ≤ q → A q := fun q h => by rw [← hAe]; exact Or.inr h
  have hS : va_S A s.heap s.heap [] := va_S.rf
  have hl := lv_entry ([.ref po_a, .int p1]) (n := 2) (Nat.le_of_ble_eq_true rfl)
  rw [lg_entry_eq]
  generalize (lg_sl ([.ref po_a, .int p1]) ++ List.replicate (2 - (lg_sl ([.ref po_a, .int p1])).length) Slot.unset).toArray = ls at hl ⊢
  have hl : lv_has ls 2 [(0, .ref po_a), (1, .int p1)] := hl
  exact wX2_hasLine_b0 ⟨hx, hb, hml, hown, hts, hK, hA, EC_ok _ _ _ _ _ _ _ _ _ _ _, hE⟩ po_a poA_sizes poA_kinds poA_spelled poA_scheme po_foot po_feet po_lines po_words po_sizes po_kinds po_spelled po_scheme p1 r (fun H locs ls pc hdg hz hP hD hS => W.zret (v := r) (ty := .boolean) hx hb hr (nar_b hz) (fun t ht hW => ⟨⟨r, (), rfl, rfl, (show va_P G vwCl _ t.heap by rw [ht]; exact hP)⟩, hS.F ht⟩) hS.2.2 hdg)   hM _ _ _ hP hD hS hl
abbrev WX2_remove (K : Nat → ClassId) (po_a poA_sizes poA_kinds poA_spelled poA_scheme : Nat) (po_foot : Int32) (po_feet : Int32) (po_lines : Int32) (po_words : Int32) (po_sizes : Nat → Int32) (po_kinds : Nat → Int32) (po_spelled : Nat → Nat) (po_scheme : Nat → Int32) : va_W := [(po_a, .inr (2, [.int po_foot, .int po_feet, .int po_lines, .int po_words, .ref poA_sizes, .ref poA_kinds, .ref poA_spelled, .ref poA_scheme])), aI K poA_sizes 4 po_sizes, aI K poA_kinds 20 po_kinds, aS K poA_spelled 20 po_spelled, aI K poA_scheme 4 po_scheme]
def rmX2_remove : Room := { frames := 1, cells := 0, slots := 0, locals := 21 }
theorem hdX2_remove : yX2_remove.cls = RX2 ∧ yX2_remove.cls ≠ "java/lang/invoke/MethodHandle" ∧ yX2_remove.cls ≠ "java/lang/invoke/VarHandle" ∧ (parseMethodDescriptor yX2_remove.desc).map (fun d => d.parameters.length) = some 2 := by decide +kernel
set_option maxHeartbeats 4000000 in
set_option maxRecDepth 100000 in
theorem wX2_remove_b19 {p : Program} {l : Launch} {e : Env} {s : State} {m : MethodId} {args : Array Value} {below : List Frame} {meth : Method} {c : Code} {Q : State → Prop} {G : va_G} {K : Nat → ClassId} {A : Nat → Prop} {tt : Nat → Nat} {L : List Nat} {la : Nat → Nat} {sa : Nat → Nat} {ln : Nat → Int32} {sy : Nat → Int32} {sn : Nat → Int32} {lt : Nat → Nat → Int32} {st : Nat → Nat → Int32} (C0 : CX p s m args c cX2_remove 4 RX2 G K (EC G K tt L la sa ln sy sn lt st) A) (po_a poA_sizes poA_kinds poA_spelled poA_scheme : Nat) (po_foot : Int32) (po_feet : Int32) (po_lines : Int32) (po_scheme : Nat → Int32) (p1 : Int32) (p2 : Int32) (o_po_words : Int32) (o_po_sizes : Nat → Int32) (o_po_kinds : Nat → Int32) (o_po_spelled : Nat → Nat) (kr : ∀ (H : Heap) (locs : List Loc) (ls : Array Slot) (pc : Nat), decode cX2_remove pc = .ok (.return_, 1) → va_P G vwCl (WX2_remove K po_a poA_sizes poA_kinds poA_spelled poA_scheme po_foot po_feet po_lines o_po_words o_po_sizes o_po_kinds o_po_spelled po_scheme) H → va_D A (WX2_remove K po_a poA_sizes poA_kinds poA_spelled poA_scheme po_foot po_feet po_lines o_po_words o_po_sizes o_po_kinds o_po_spelled po_scheme) → va_S A s.heap H locs → W p l e rmX2_remove s m args below meth c H locs 0 0 Q (F0 m pc ls [])) (n : Nat) : ∀ (po_words : Int32) (po_sizes : Nat → Int32) (po_kinds : Nat → Int32) (po_spelled : Nat → Nat) (x3 : Int32), mX2_remove_b19 L po_lines p1 p2  n po_words po_sizes po_kinds po_spelled x3 = some (o_po_words, o_po_sizes, o_po_kinds, o_po_spelled) → ∀ (H : Heap) (locs : List Loc) (ls : Array Slot), va_P G vwCl (WX2_remove K po_a poA_sizes poA_kinds poA_spelled poA_scheme po_foot po_feet po_lines po_words po_sizes po_kinds po_spelled po_scheme) H → va_D A (WX2_remove K po_a poA_sizes poA_kinds poA_spelled poA_scheme po_foot po_feet po_lines po_words po_sizes po_kinds po_spelled po_scheme) → va_S A s.heap H locs → lv_has ls 4 [(0, .ref po_a), (1, .int p1), (3, .int x3)] → W p l e rmX2_remove s m args below meth c H locs 0 0 Q (F0 m 19 ls []) := by
  obtain ⟨hx, hb, hml, hown, hts, hK, hA, hEo, hE⟩ := id C0
  induction n with
  | zero =>
    intro po_words po_sizes po_kinds po_spelled x3 hM
    cases hM
  | succ n ih =>
    intro po_words po_sizes po_kinds po_spelled x3 hM H locs ls hP hD hS hl
    rw [mX2_remove_b19] at hM
    refine lv_iload_n hx hb dX2_remove_19 rfl (lv_at hl 2 rfl) ?_
    refine lv_aload_n hx hb dX2_remove_20 rfl (lv_at hl 0 rfl) ?_
    refine va_get (D := G) (ci := 2) (v := .int po_words) (C := RX2) (T := TX2) (N := 8) hx hb hts inX2 hown hK hP 0 rfl rfl 3 (by decide) (hts _ tb184) (fun _ h9 => h9) rfl dX2_remove_21 ?_
    refine lv_iconst (v := 1) hx hb dX2_remove_24 (by decide) ?_
    refine lv_isub hx hb dX2_remove_25 ?_
    refine lv_icmp_ge (tgt := 63) hx hb dX2_remove_26 (by decide) (fun c_1 => ?_) (fun c_1 => ?_)
    · rw [if_pos c_1] at hM
      refine lv_aload_n hx hb dX2_remove_63 rfl (lv_at hl 0 rfl) ?_
      refine va_get (D := G) (ci := 2) (v := .ref poA_sizes) (C := RX2) (T := TX2) (N := 8) hx hb hts inX2 hown hK hP 0 rfl rfl 4 (by decide) (hts _ tb187) (fun _ h9 => h9) rfl dX2_remove_64 ?_
      refine lv_iload_n hx hb dX2_remove_67 rfl (lv_at hl 1 rfl) ?_
      refine lv_dup2_11 hx hb dX2_remove_68 rfl rfl ?_
      obtain ⟨g_2, hM⟩ := ng hM
      refine va_iald hx hb hK hP 1 0 rfl rfl g_2 dX2_remove_69 ?_
      refine lv_iconst (v := 1) hx hb dX2_remove_70 (by decide) ?_
      refine lv_isub hx hb dX2_remove_71 ?_
      obtain ⟨g_3, hM⟩ := ng hM
      refine va_iast hx hb hK hP hD hS 1 0 rfl rfl g_3 dX2_remove_72 (fun H locs hP hD hS => ?_)
      have hP : va_P G vwCl (WX2_remove K po_a poA_sizes poA_kinds poA_spelled poA_scheme po_foot po_feet po_lines po_words (upd po_sizes p1.toNatClampNeg ((po_sizes p1.toNatClampNeg) - (1 : Int32))) po_kinds po_spelled po_scheme) H := hP
      have hD : va_D A (WX2_remove K po_a poA_sizes poA_kinds poA_spelled poA_scheme po_foot po_feet po_lines po_words (upd po_sizes p1.toNatClampNeg ((po_sizes p1.toNatClampNeg) - (1 : Int32))) po_kinds po_spelled po_scheme) := hD
      refine lv_aload_n hx hb dX2_remove_73 rfl (lv_at hl 0 rfl) ?_
      refine lv_dup hx hb dX2_remove_74 rfl ?_
      refine va_get (D := G) (ci := 2) (v := .int po_words) (C := RX2) (T := TX2) (N := 8) hx hb hts inX2 hown hK hP 0 rfl rfl 3 (by decide) (hts _ tb184) (fun _ h9 => h9) rfl dX2_remove_75 ?_
      refine lv_iconst (v := 1) hx hb dX2_remove_78 (by decide) ?_
      refine lv_isub hx hb dX2_remove_79 ?_
      refine va_put (D := G) (ci := 2) (v := .int (po_words - (1 : Int32))) (ty := .int) (C := RX2) (T := TX2) (N := 8) hx hb hts inX2 tyX2 tyX2_ok nmX2 hown hK hP hD hS 0 rfl rfl 3 (by decide) (hts _ tb184) (fun _ h9 => h9) rfl (tyX2_ok 3 (by decide)) rfl rfl (Nat.le_of_ble_eq_true rfl) dX2_remove_80 (fun H locs hP hD hS => ?_)
      have hP : va_P G vwCl (WX2_remove K po_a poA_sizes poA_kinds poA_spelled poA_scheme po_foot po_feet po_lines (po_words - (1 : Int32)) (upd po_sizes p1.toNatClampNeg ((po_sizes p1.toNatClampNeg) - (1 : Int32))) po_kinds po_spelled po_scheme) H := hP
      have hD : va_D A (WX2_remove K po_a poA_sizes poA_kinds poA_spelled poA_scheme po_foot po_feet po_lines (po_words - (1 : Int32)) (upd po_sizes p1.toNatClampNeg ((po_sizes p1.toNatClampNeg) - (1 : Int32))) po_kinds po_spelled po_scheme) := hD
      have t0 := Option.some.inj hM
      obtain ⟨q1, t1⟩ := Prod.mk.inj t0
      obtain ⟨q2, t2⟩ := Prod.mk.inj t1
      obtain ⟨q3, t3⟩ := Prod.mk.inj t2
      subst q1
      subst q2
      subst q3
      subst t3
      exact kr _ _ _ _ dX2_remove_83 hP hD hS
    · rw [if_neg c_1] at hM
      refine lv_aload_n hx hb dX2_remove_29 rfl (lv_at hl 0 rfl) ?_
      refine va_get (D := G) (ci := 2) (v := .ref poA_kinds) (C := RX2) (T := TX2) (N := 8) hx hb hts inX2 hown hK hP 0 rfl rfl 5 (by decide) (hts _ tb190) (fun _ h9 => h9) rfl dX2_remove_30 ?_
      refine lv_iload_n hx hb dX2_remove_33 rfl (lv_at hl 2 rfl) ?_
      refine lv_aload_n hx hb dX2_remove_34 rfl (lv_at hl 0 rfl) ?_
      refine va_get (D := G) (ci := 2) (v := .ref poA_kinds) (C := RX2) (T := TX2) (N := 8) hx hb hts inX2 hown hK hP 0 rfl rfl 5 (by decide) (hts _ tb190) (fun _ h9 => h9) rfl dX2_remove_35 ?_
      refine lv_iload_n hx hb dX2_remove_38 rfl (lv_at hl 2 rfl) ?_
      refine lv_iconst (v := 1) hx hb dX2_remove_39 (by decide) ?_
      refine lv_iadd hx hb dX2_remove_40 ?_
      obtain ⟨g_4, hM⟩ := ng hM
      refine va_iald hx hb hK hP 2 0 rfl rfl g_4 dX2_remove_41 ?_
      obtain ⟨g_5, hM⟩ := ng hM
      refine va_iast hx hb hK hP hD hS 2 0 rfl rfl g_5 dX2_remove_42 (fun H locs hP hD hS => ?_)
      have hP : va_P G vwCl (WX2_remove K po_a poA_sizes poA_kinds poA_spelled poA_scheme po_foot po_feet po_lines po_words po_sizes (upd po_kinds x3.toNatClampNeg (po_kinds (x3 + (1 : Int32)).toNatClampNeg)) po_spelled po_scheme) H := hP
      have hD : va_D A (WX2_remove K po_a poA_sizes poA_kinds poA_spelled poA_scheme po_foot po_feet po_lines po_words po_sizes (upd po_kinds x3.toNatClampNeg (po_kinds (x3 + (1 : Int32)).toNatClampNeg)) po_spelled po_scheme) := hD
      refine lv_aload_n hx hb dX2_remove_43 rfl (lv_at hl 0 rfl) ?_
      refine va_get (D := G) (ci := 2) (v := .ref poA_spelled) (C := RX2) (T := TX2) (N := 8) hx hb hts inX2 hown hK hP 0 rfl rfl 6 (by decide) (hts _ tb193) (fun _ h9 => h9) rfl dX2_remove_44 ?_
      refine lv_iload_n hx hb dX2_remove_47 rfl (lv_at hl 2 rfl) ?_
      refine lv_aload_n hx hb dX2_remove_48 rfl (lv_at hl 0 rfl) ?_
      refine va_get (D := G) (ci := 2) (v := .ref poA_spelled) (C := RX2) (T := TX2) (N := 8) hx hb hts inX2 hown hK hP 0 rfl rfl 6 (by decide) (hts _ tb193) (fun _ h9 => h9) rfl dX2_remove_49 ?_
      refine lv_iload_n hx hb dX2_remove_52 rfl (lv_at hl 2 rfl) ?_
      refine lv_iconst (v := 1) hx hb dX2_remove_53 (by decide) ?_
      refine lv_iadd hx hb dX2_remove_54 ?_
      obtain ⟨g_6, hM⟩ := ng hM
      refine va_aldq hx hb hK hP 3 2 rfl rfl g_6 dX2_remove_55 ?_
      show W p l e rmX2_remove s m args below meth c H locs 0 0 Q (F0 m 56 ls [.ref (po_spelled (x3 + (1 : Int32)).toNatClampNeg), .int x3, .ref poA_spelled])
      obtain ⟨g_7, hM⟩ := ng hM
      obtain ⟨g_8, hM⟩ := ng hM
      refine va_astqM hx hb hK hP hD hS 3 2 rfl rfl (sp_any hK (sp_at hE hS (Decidable.not_not.mp g_7))) g_8 dX2_remove_56 (fun H locs hP hD hS => ?_)
      rw [va_up_some] at hP hD
      have hP : va_P G vwCl (WX2_remove K po_a poA_sizes poA_kinds poA_spelled poA_scheme po_foot po_feet po_lines po_words po_sizes (upd po_kinds x3.toNatClampNeg (po_kinds (x3 + (1 : Int32)).toNatClampNeg)) (va_up po_spelled x3.toNatClampNeg (po_spelled (x3 + (1 : Int32)).toNatClampNeg)) po_scheme) H := hP
      have hD : va_D A (WX2_remove K po_a poA_sizes poA_kinds poA_spelled poA_scheme po_foot po_feet po_lines po_words po_sizes (upd po_kinds x3.toNatClampNeg (po_kinds (x3 + (1 : Int32)).toNatClampNeg)) (va_up po_spelled x3.toNatClampNeg (po_spelled (x3 + (1 : Int32)).toNatClampNeg)) po_scheme) := hD
      refine lv_iinc (v := (x3 + 1)) (lv' := [(3, .int (x3 + 1)), (0, .ref po_a), (1, .int p1)]) hx hb dX2_remove_57 hl (k := 2) rfl rfl (by decide) rfl (fun ls hl => ?_)
      refine lv_goto (tgt := 19) hx hb dX2_remove_60 (by decide) ?_
      exact ih po_words po_sizes (upd po_kinds x3.toNatClampNeg (po_kinds (x3 + (1 : Int32)).toNatClampNeg)) (va_up po_spelled x3.toNatClampNeg (po_spelled (x3 + (1 : Int32)).toNatClampNeg)) (x3 + 1) hM _ _ _ hP hD hS (lv_sub hl [1, 2, 0] rfl)
set_option maxHeartbeats 4000000 in
set_option maxRecDepth 100000 in
theorem wX2_remove_b0 {p : Program} {l : Launch} {e : Env} {s : State} {m : MethodId} {args : Array Value} {below : List Frame} {meth : Method} {c : Code} {Q : State → Prop} {G : va_G} {K : Nat → ClassId} {A : Nat → Prop} {tt : Nat → Nat} {L : List Nat} {la : Nat → Nat} {sa : Nat → Nat} {ln : Nat → Int32} {sy : Nat → Int32} {sn : Nat → Int32} {lt : Nat → Nat → Int32} {st : Nat → Nat → Int32} (C0 : CX p s m args c cX2_remove 4 RX2 G K (EC G K tt L la sa ln sy sn lt st) A) (po_a poA_sizes poA_kinds poA_spelled poA_scheme : Nat) (po_foot : Int32) (po_feet : Int32) (po_lines : Int32) (po_scheme : Nat → Int32) (p1 : Int32) (p2 : Int32) (o_po_words : Int32) (o_po_sizes : Nat → Int32) (o_po_kinds : Nat → Int32) (o_po_spelled : Nat → Nat) (kr : ∀ (H : Heap) (locs : List Loc) (ls : Array Slot) (pc : Nat), decode cX2_remove pc = .ok (.return_, 1) → va_P G vwCl (WX2_remove K po_a poA_sizes poA_kinds poA_spelled poA_scheme po_foot po_feet po_lines o_po_words o_po_sizes o_po_kinds o_po_spelled po_scheme) H → va_D A (WX2_remove K po_a poA_sizes poA_kinds poA_spelled poA_scheme po_foot po_feet po_lines o_po_words o_po_sizes o_po_kinds o_po_spelled po_scheme) → va_S A s.heap H locs → W p l e rmX2_remove s m args below meth c H locs 0 0 Q (F0 m pc ls [])) (po_words : Int32) (po_sizes : Nat → Int32) (po_kinds : Nat → Int32) (po_spelled : Nat → Nat) (hM : mX2_remove_b0 L po_lines p1 p2  po_words po_sizes po_kinds po_spelled = some (o_po_words, o_po_sizes, o_po_kinds, o_po_spelled)) : ∀ (H : Heap) (locs : List Loc) (ls : Array Slot), va_P G vwCl (WX2_remove K po_a poA_sizes poA_kinds poA_spelled poA_scheme po_foot po_feet po_lines po_words po_sizes po_kinds po_spelled po_scheme) H → va_D A (WX2_remove K po_a poA_sizes poA_kinds poA_spelled poA_scheme po_foot po_feet po_lines po_words po_sizes po_kinds po_spelled po_scheme) → va_S A s.heap H locs → lv_has ls 4 [(0, .ref po_a), (1, .int p1), (2, .int p2)] → W p l e rmX2_remove s m args below meth c H locs 0 0 Q (F0 m 0 ls []) := by
  obtain ⟨hx, hb, hml, hown, hts, hK, hA, hEo, hE⟩ := id C0
  intro H locs ls hP hD hS hl
  unfold mX2_remove_b0 at hM
  refine lv_aload_n hx hb dX2_remove_0 rfl (lv_at hl 0 rfl) ?_
  refine lv_iload_n hx hb dX2_remove_1 rfl (lv_at hl 2 rfl) ?_
  obtain ⟨r_9, hC, hM⟩ := oe1 hM
  refine cV_i (As := [.int p2]) (rest := []) C0 hP hD hS [0, 1, 2, 3, 4] (kX2_hasWord l G K tt L la sa ln sy sn lt st po_a poA_sizes poA_kinds poA_spelled poA_scheme po_foot po_feet po_lines po_words po_sizes po_kinds po_spelled po_scheme p2 H.size r_9 hC) rfl rfl rfl tb422 tb415 tb416 tb7 tb417 hdX2_hasWord (va_recv hK hP (ci := 2) (q0 := 0) rfl rfl) ⟨Nat.le_of_ble_eq_true rfl, Nat.le_of_ble_eq_true rfl⟩ rfl hl.1 (Nat.le_of_ble_eq_true rfl) rfl ⟨Nat.le_refl _, Nat.le_refl _⟩ dX2_remove_2 (fun H locs hP hD hS => ?_)
  have hP : va_P G vwCl (WX2_remove K po_a poA_sizes poA_kinds poA_spelled poA_scheme po_foot po_feet po_lines po_words po_sizes po_kinds po_spelled po_scheme) H := hP
  have hD : va_D A (WX2_remove K po_a poA_sizes poA_kinds poA_spelled poA_scheme po_foot po_feet po_lines po_words po_sizes po_kinds po_spelled po_scheme) := hD
  refine lv_if_eq (tgt := 16) hx hb dX2_remove_5 (by decide) (fun c_10 => ?_) (fun c_10 => ?_)
  · rw [if_pos c_10] at hM
    have t0 := Option.some.inj hM
    obtain ⟨q1, t1⟩ := Prod.mk.inj t0
    obtain ⟨q2, t2⟩ := Prod.mk.inj t1
    obtain ⟨q3, t3⟩ := Prod.mk.inj t2
    subst q1
    subst q2
    subst q3
    subst t3
    exact kr _ _ _ _ dX2_remove_16 hP hD hS
  · rw [if_neg c_10] at hM
    refine lv_aload_n hx hb dX2_remove_8 rfl (lv_at hl 0 rfl) ?_
    refine lv_iload_n hx hb dX2_remove_9 rfl (lv_at hl 1 rfl) ?_
    obtain ⟨r_11, hC, hM⟩ := oe1 hM
    refine cV_i (As := [.int p1]) (rest := []) C0 hP hD hS [0, 1, 2, 3, 4] (kX2_hasLine l G K tt L la sa ln sy sn lt st po_a poA_sizes poA_kinds poA_spelled poA_scheme po_foot po_feet po_lines po_words po_sizes po_kinds po_spelled po_scheme p1 H.size r_11 hC) rfl rfl rfl tb392 tb393 tb394 tb7 tb395 hdX2_hasLine (va_recv hK hP (ci := 2) (q0 := 0) rfl rfl) ⟨Nat.le_of_ble_eq_true rfl, Nat.le_of_ble_eq_true rfl⟩ rfl hl.1 (Nat.le_of_ble_eq_true rfl) rfl ⟨Nat.le_refl _, Nat.le_refl _⟩ dX2_remove_10 (fun H locs hP hD hS => ?_)
    have hP : va_P G vwCl (WX2_remove K po_a poA_sizes poA_kinds poA_spelled poA_scheme po_foot po_feet po_lines po_words po_sizes po_kinds po_spelled po_scheme) H := hP
    have hD : va_D A (WX2_remove K po_a poA_sizes poA_kinds poA_spelled poA_scheme po_foot po_feet po_lines po_words po_sizes po_kinds po_spelled po_scheme) := hD
    refine lv_if_ne (tgt := 17) hx hb dX2_remove_13 (by decide) (fun c_12 => ?_) (fun c_12 => ?_)
    · rw [if_neg c_12] at hM
      refine lv_iload_n hx hb dX2_remove_17 rfl (lv_at hl 2 rfl) ?_
      refine lv_istore_n (lv' := [(3, .int p2), (0, .ref po_a), (1, .int p1), (2, .int p2)]) hx hb dX2_remove_18 rfl hl (by decide) rfl (fun ls hl => ?_)
      exact wX2_remove_b19 C0 po_a poA_sizes poA_kinds poA_spelled poA_scheme po_foot po_feet po_lines po_scheme p1 p2 o_po_words o_po_sizes o_po_kinds o_po_spelled kr  FU po_words po_sizes po_kinds po_spelled p2 hM _ _ _ hP hD hS (lv_sub hl [1, 2, 0] rfl)
    · rw [if_pos c_12] at hM
      have t0 := Option.some.inj hM
      obtain ⟨q1, t1⟩ := Prod.mk.inj t0
      obtain ⟨q2, t2⟩ := Prod.mk.inj t1
      obtain ⟨q3, t3⟩ := Prod.mk.inj t2
      subst q1
      subst q2
      subst q3
      subst t3
      exact kr _ _ _ _ dX2_remove_16 hP hD hS
set_option maxHeartbeats 4000000 in
set_option maxRecDepth 100000 in
theorem kX2_remove (l : Launch) (G : va_G) (K : Nat → ClassId) (tt : Nat → Nat) (L : List Nat) (la : Nat → Nat) (sa : Nat → Nat) (ln : Nat → Int32) (sy : Nat → Int32) (sn : Nat → Int32) (lt : Nat → Nat → Int32) (st : Nat → Nat → Int32) (po_a poA_sizes poA_kinds poA_spelled poA_scheme : Nat) (po_foot : Int32) (po_feet : Int32) (po_lines : Int32) (po_words : Int32) (po_sizes : Nat → Int32) (po_kinds : Nat → Int32) (po_spelled : Nat → Nat) (po_scheme : Nat → Int32) (p1 : Int32) (p2 : Int32) (sz : Nat) (o_po_words : Int32) (o_po_sizes : Nat → Int32) (o_po_kinds : Nat → Int32) (o_po_spelled : Nat → Nat) (hM : mX2_remove L po_lines po_words po_sizes po_kinds po_spelled p1 p2 = some (o_po_words, o_po_sizes, o_po_kinds, o_po_spelled)) : Met l yX2_remove (mC yX2_remove cX2_remove 4 none) rmX2_remove (va_Pc [.ref po_a, .int p1, .int p2] (PCe G K (EC G K tt L la sa ln sy sn lt st) (WX2_remove K po_a poA_sizes poA_kinds poA_spelled poA_scheme po_foot po_feet po_lines po_words po_sizes po_kinds po_spelled po_scheme) sz)) (va_Qv (fun (_ : Unit) => True) (fun _ t => va_P G vwCl (WX2_remove K po_a poA_sizes poA_kinds poA_spelled poA_scheme po_foot po_feet po_lines o_po_words o_po_sizes o_po_kinds o_po_spelled po_scheme) t.heap) (va_A (WX2_remove K po_a poA_sizes poA_kinds poA_spelled poA_scheme po_foot po_feet po_lines po_words po_sizes po_kinds po_spelled po_scheme) sz)) rmX2_remove.cells rmX2_remove.slots (va_A (WX2_remove K po_a poA_sizes poA_kinds poA_spelled poA_scheme po_foot po_feet po_lines po_words po_sizes po_kinds po_spelled po_scheme) sz) := by
  refine Met.ofW (cc := cX2_remove) (maxL := 4) (ret := none) (by decide) rfl ?_
  intro p e s m args below meth c s₁ B hml hv
  obtain ⟨rfl, hsz, hP, hK, hD0, hE⟩ := hv
  have hx := B.exec
  have hb := B.bytes
  have hr := B.returns
  have hts0 := atoms_spec (ws := mC yX2_remove cX2_remove 4 none) B.pre
  have hts : ∀ w ∈ tbG, w.before _ s = true := fun w h => hts0 w (List.mem_cons_of_mem _ h)
  have hown : s.vm.findClass RX2 = some m.cls := findClass_of_methodNamed B.named
  subst hsz
  have hD := hD0.self (sz := s.heap.size)
  generalize hAe : va_A (WX2_remove K po_a poA_sizes poA_kinds poA_spelled poA_scheme po_foot po_feet po_lines po_words po_sizes po_kinds po_spelled po_scheme) s.heap.size = A at hD hE ⊢
  have hA : ∀ q : Nat, s.heap.size ≤ q → A q := fun q h => by rw [← hAe]; exact Or.inr h
  have hS : va_S A s.heap s.heap [] := va_S.rf
  have hl := lv_entry ([.ref po_a, .int p1, .int p2]) (n := 4) (Nat.le_of_ble_eq_true rfl)
  rw [lg_entry_eq]
  generalize (lg_sl ([.ref po_a, .int p1, .int p2]) ++ List.replicate (4 - (lg_sl ([.ref po_a, .int p1, .int p2])).length) Slot.unset).toArray = ls at hl ⊢
  have hl : lv_has ls 4 [(0, .ref po_a), (1, .int p1), (2, .int p2)] := hl
  exact wX2_remove_b0 ⟨hx, hb, hml, hown, hts, hK, hA, EC_ok _ _ _ _ _ _ _ _ _ _ _, hE⟩ po_a poA_sizes poA_kinds poA_spelled poA_scheme po_foot po_feet po_lines po_scheme p1 p2 o_po_words o_po_sizes o_po_kinds o_po_spelled (fun H locs ls pc hdg hP hD hS => W.vret hx hb hr (fun t ht hW => ⟨⟨(), rfl, trivial, (show va_P G vwCl _ t.heap by rw [ht]; exact hP)⟩, hS.F ht⟩) hS.2.2 hdg) po_words po_sizes po_kinds po_spelled  hM _ _ _ hP hD hS hl
abbrev WX2_insert (K : Nat → ClassId) (po_a poA_sizes poA_kinds poA_spelled poA_scheme : Nat) (po_foot : Int32) (po_feet : Int32) (po_lines : Int32) (po_words : Int32) (po_sizes : Nat → Int32) (po_kinds : Nat → Int32) (po_spelled : Nat → Nat) (po_scheme : Nat → Int32) : va_W := [(po_a, .inr (2, [.int po_foot, .int po_feet, .int po_lines, .int po_words, .ref poA_sizes, .ref poA_kinds, .ref poA_spelled, .ref poA_scheme])), aI K poA_sizes 4 po_sizes, aI K poA_kinds 20 po_kinds, aS K poA_spelled 20 po_spelled, aI K poA_scheme 4 po_scheme]
def rmX2_insert : Room := { frames := 1, cells := 0, slots := 0, locals := 21 }
theorem hdX2_insert : yX2_insert.cls = RX2 ∧ yX2_insert.cls ≠ "java/lang/invoke/MethodHandle" ∧ yX2_insert.cls ≠ "java/lang/invoke/VarHandle" ∧ (parseMethodDescriptor yX2_insert.desc).map (fun d => d.parameters.length) = some 4 := by decide +kernel
set_option maxHeartbeats 4000000 in
set_option maxRecDepth 100000 in
theorem wX2_insert_b36 {p : Program} {l : Launch} {e : Env} {s : State} {m : MethodId} {args : Array Value} {below : List Frame} {meth : Method} {c : Code} {Q : State → Prop} {G : va_G} {K : Nat → ClassId} {A : Nat → Prop} {tt : Nat → Nat} {L : List Nat} {la : Nat → Nat} {sa : Nat → Nat} {ln : Nat → Int32} {sy : Nat → Int32} {sn : Nat → Int32} {lt : Nat → Nat → Int32} {st : Nat → Nat → Int32} (C0 : CX p s m args c cX2_insert 6 RX2 G K (EC G K tt L la sa ln sy sn lt st) A) (po_a poA_sizes poA_kinds poA_spelled poA_scheme p3 : Nat) (po_foot : Int32) (po_feet : Int32) (po_lines : Int32) (po_scheme : Nat → Int32) (p1 : Int32) (p2 : Int32) (p4 : Int32) (o_po_words : Int32) (o_po_sizes : Nat → Int32) (o_po_kinds : Nat → Int32) (o_po_spelled : Nat → Nat) (kr : ∀ (H : Heap) (locs : List Loc) (ls : Array Slot) (pc : Nat), decode cX2_insert pc = .ok (.return_, 1) → va_P G vwCl (WX2_insert K po_a poA_sizes poA_kinds poA_spelled poA_scheme po_foot po_feet po_lines o_po_words o_po_sizes o_po_kinds o_po_spelled po_scheme) H → va_D A (WX2_insert K po_a poA_sizes poA_kinds poA_spelled poA_scheme po_foot po_feet po_lines o_po_words o_po_sizes o_po_kinds o_po_spelled po_scheme) → va_S A s.heap H locs → W p l e rmX2_insert s m args below meth c H locs 0 0 Q (F0 m pc ls [])) (n : Nat) : ∀ (po_words : Int32) (po_sizes : Nat → Int32) (po_kinds : Nat → Int32) (po_spelled : Nat → Nat) (x5 : Int32), mX2_insert_b36 L po_lines p1 p2 p4 p3  n po_words po_sizes po_kinds po_spelled x5 = some (o_po_words, o_po_sizes, o_po_kinds, o_po_spelled) → ∀ (H : Heap) (locs : List Loc) (ls : Array Slot), va_P G vwCl (WX2_insert K po_a poA_sizes poA_kinds poA_spelled poA_scheme po_foot po_feet po_lines po_words po_sizes po_kinds po_spelled po_scheme) H → va_D A (WX2_insert K po_a poA_sizes poA_kinds poA_spelled poA_scheme po_foot po_feet po_lines po_words po_sizes po_kinds po_spelled po_scheme) → va_S A s.heap H locs → lv_has ls 6 [(0, .ref po_a), (1, .int p1), (2, .int p2), (3, .ref p3), (4, .int p4), (5, .int x5)] → W p l e rmX2_insert s m args below meth c H locs 0 0 Q (F0 m 36 ls []) := by
  obtain ⟨hx, hb, hml, hown, hts, hK, hA, hEo, hE⟩ := id C0
  induction n with
  | zero =>
    intro po_words po_sizes po_kinds po_spelled x5 hM
    cases hM
  | succ n ih =>
    intro po_words po_sizes po_kinds po_spelled x5 hM H locs ls hP hD hS hl
    rw [mX2_insert_b36] at hM
    refine lv_iload hx hb dX2_insert_36 (lv_at hl 5 rfl) ?_
    refine lv_iload_n hx hb dX2_insert_38 rfl (lv_at hl 2 rfl) ?_
    refine lv_icmp_le (tgt := 80) hx hb dX2_insert_39 (by decide) (fun c_1 => ?_) (fun c_1 => ?_)
    · rw [if_pos c_1] at hM
      refine lv_aload_n hx hb dX2_insert_80 rfl (lv_at hl 0 rfl) ?_
      refine va_get (D := G) (ci := 2) (v := .ref poA_kinds) (C := RX2) (T := TX2) (N := 8) hx hb hts inX2 hown hK hP 0 rfl rfl 5 (by decide) (hts _ tb190) (fun _ h9 => h9) rfl dX2_insert_81 ?_
      refine lv_iload_n hx hb dX2_insert_84 rfl (lv_at hl 2 rfl) ?_
      refine lv_iload hx hb dX2_insert_85 (lv_at hl 4 rfl) ?_
      obtain ⟨g_2, hM⟩ := ng hM
      refine va_iast hx hb hK hP hD hS 2 0 rfl rfl g_2 dX2_insert_87 (fun H locs hP hD hS => ?_)
      have hP : va_P G vwCl (WX2_insert K po_a poA_sizes poA_kinds poA_spelled poA_scheme po_foot po_feet po_lines po_words po_sizes (upd po_kinds p2.toNatClampNeg p4) po_spelled po_scheme) H := hP
      have hD : va_D A (WX2_insert K po_a poA_sizes poA_kinds poA_spelled poA_scheme po_foot po_feet po_lines po_words po_sizes (upd po_kinds p2.toNatClampNeg p4) po_spelled po_scheme) := hD
      refine lv_aload_n hx hb dX2_insert_88 rfl (lv_at hl 0 rfl) ?_
      refine va_get (D := G) (ci := 2) (v := .ref poA_spelled) (C := RX2) (T := TX2) (N := 8) hx hb hts inX2 hown hK hP 0 rfl rfl 6 (by decide) (hts _ tb193) (fun _ h9 => h9) rfl dX2_insert_89 ?_
      refine lv_iload_n hx hb dX2_insert_92 rfl (lv_at hl 2 rfl) ?_
      refine lv_aload_n hx hb dX2_insert_93 rfl (lv_at hl 3 rfl) ?_
      obtain ⟨g_3, hM⟩ := ng hM
      obtain ⟨g_4, hM⟩ := ng hM
      refine va_astqM hx hb hK hP hD hS 3 2 rfl rfl (sp_any hK (sp_at hE hS (Decidable.not_not.mp g_3))) g_4 dX2_insert_94 (fun H locs hP hD hS => ?_)
      rw [va_up_some] at hP hD
      have hP : va_P G vwCl (WX2_insert K po_a poA_sizes poA_kinds poA_spelled poA_scheme po_foot po_feet po_lines po_words po_sizes (upd po_kinds p2.toNatClampNeg p4) (va_up po_spelled p2.toNatClampNeg p3) po_scheme) H := hP
      have hD : va_D A (WX2_insert K po_a poA_sizes poA_kinds poA_spelled poA_scheme po_foot po_feet po_lines po_words po_sizes (upd po_kinds p2.toNatClampNeg p4) (va_up po_spelled p2.toNatClampNeg p3) po_scheme) := hD
      refine lv_aload_n hx hb dX2_insert_95 rfl (lv_at hl 0 rfl) ?_
      refine va_get (D := G) (ci := 2) (v := .ref poA_sizes) (C := RX2) (T := TX2) (N := 8) hx hb hts inX2 hown hK hP 0 rfl rfl 4 (by decide) (hts _ tb187) (fun _ h9 => h9) rfl dX2_insert_96 ?_
      refine lv_iload_n hx hb dX2_insert_99 rfl (lv_at hl 1 rfl) ?_
      refine lv_dup2_11 hx hb dX2_insert_100 rfl rfl ?_
      obtain ⟨g_5, hM⟩ := ng hM
      refine va_iald hx hb hK hP 1 0 rfl rfl g_5 dX2_insert_101 ?_
      refine lv_iconst (v := 1) hx hb dX2_insert_102 (by decide) ?_
      refine lv_iadd hx hb dX2_insert_103 ?_
      obtain ⟨g_6, hM⟩ := ng hM
      refine va_iast hx hb hK hP hD hS 1 0 rfl rfl g_6 dX2_insert_104 (fun H locs hP hD hS => ?_)
      have hP : va_P G vwCl (WX2_insert K po_a poA_sizes poA_kinds poA_spelled poA_scheme po_foot po_feet po_lines po_words (upd po_sizes p1.toNatClampNeg ((po_sizes p1.toNatClampNeg) + (1 : Int32))) (upd po_kinds p2.toNatClampNeg p4) (va_up po_spelled p2.toNatClampNeg p3) po_scheme) H := hP
      have hD : va_D A (WX2_insert K po_a poA_sizes poA_kinds poA_spelled poA_scheme po_foot po_feet po_lines po_words (upd po_sizes p1.toNatClampNeg ((po_sizes p1.toNatClampNeg) + (1 : Int32))) (upd po_kinds p2.toNatClampNeg p4) (va_up po_spelled p2.toNatClampNeg p3) po_scheme) := hD
      refine lv_aload_n hx hb dX2_insert_105 rfl (lv_at hl 0 rfl) ?_
      refine lv_dup hx hb dX2_insert_106 rfl ?_
      refine va_get (D := G) (ci := 2) (v := .int po_words) (C := RX2) (T := TX2) (N := 8) hx hb hts inX2 hown hK hP 0 rfl rfl 3 (by decide) (hts _ tb184) (fun _ h9 => h9) rfl dX2_insert_107 ?_
      refine lv_iconst (v := 1) hx hb dX2_insert_110 (by decide) ?_
      refine lv_iadd hx hb dX2_insert_111 ?_
      refine va_put (D := G) (ci := 2) (v := .int (po_words + (1 : Int32))) (ty := .int) (C := RX2) (T := TX2) (N := 8) hx hb hts inX2 tyX2 tyX2_ok nmX2 hown hK hP hD hS 0 rfl rfl 3 (by decide) (hts _ tb184) (fun _ h9 => h9) rfl (tyX2_ok 3 (by decide)) rfl rfl (Nat.le_of_ble_eq_true rfl) dX2_insert_112 (fun H locs hP hD hS => ?_)
      have hP : va_P G vwCl (WX2_insert K po_a poA_sizes poA_kinds poA_spelled poA_scheme po_foot po_feet po_lines (po_words + (1 : Int32)) (upd po_sizes p1.toNatClampNeg ((po_sizes p1.toNatClampNeg) + (1 : Int32))) (upd po_kinds p2.toNatClampNeg p4) (va_up po_spelled p2.toNatClampNeg p3) po_scheme) H := hP
      have hD : va_D A (WX2_insert K po_a poA_sizes poA_kinds poA_spelled poA_scheme po_foot po_feet po_lines (po_words + (1 : Int32)) (upd po_sizes p1.toNatClampNeg ((po_sizes p1.toNatClampNeg) + (1 : Int32))) (upd po_kinds p2.toNatClampNeg p4) (va_up po_spelled p2.toNatClampNeg p3) po_scheme) := hD
      have t0 := Option.some.inj hM
      obtain ⟨q1, t1⟩ := Prod.mk.inj t0
      obtain ⟨q2, t2⟩ := Prod.mk.inj t1
      obtain ⟨q3, t3⟩ := Prod.mk.inj t2
      subst q1
      subst q2
      subst q3
      subst t3
      exact kr _ _ _ _ dX2_insert_115 hP hD hS
    · rw [if_neg c_1] at hM
      refine lv_aload_n hx hb dX2_insert_42 rfl (lv_at hl 0 rfl) ?_
      refine va_get (D := G) (ci := 2) (v := .ref poA_kinds) (C := RX2) (T := TX2) (N := 8) hx hb hts inX2 hown hK hP 0 rfl rfl 5 (by decide) (hts _ tb190) (fun _ h9 => h9) rfl dX2_insert_43 ?_
      refine lv_iload hx hb dX2_insert_46 (lv_at hl 5 rfl) ?_
      refine lv_aload_n hx hb dX2_insert_48 rfl (lv_at hl 0 rfl) ?_
      refine va_get (D := G) (ci := 2) (v := .ref poA_kinds) (C := RX2) (T := TX2) (N := 8) hx hb hts inX2 hown hK hP 0 rfl rfl 5 (by decide) (hts _ tb190) (fun _ h9 => h9) rfl dX2_insert_49 ?_
      refine lv_iload hx hb dX2_insert_52 (lv_at hl 5 rfl) ?_
      refine lv_iconst (v := 1) hx hb dX2_insert_54 (by decide) ?_
      refine lv_isub hx hb dX2_insert_55 ?_
      obtain ⟨g_7, hM⟩ := ng hM
      refine va_iald hx hb hK hP 2 0 rfl rfl g_7 dX2_insert_56 ?_
      obtain ⟨g_8, hM⟩ := ng hM
      refine va_iast hx hb hK hP hD hS 2 0 rfl rfl g_8 dX2_insert_57 (fun H locs hP hD hS => ?_)
      have hP : va_P G vwCl (WX2_insert K po_a poA_sizes poA_kinds poA_spelled poA_scheme po_foot po_feet po_lines po_words po_sizes (upd po_kinds x5.toNatClampNeg (po_kinds (x5 - (1 : Int32)).toNatClampNeg)) po_spelled po_scheme) H := hP
      have hD : va_D A (WX2_insert K po_a poA_sizes poA_kinds poA_spelled poA_scheme po_foot po_feet po_lines po_words po_sizes (upd po_kinds x5.toNatClampNeg (po_kinds (x5 - (1 : Int32)).toNatClampNeg)) po_spelled po_scheme) := hD
      refine lv_aload_n hx hb dX2_insert_58 rfl (lv_at hl 0 rfl) ?_
      refine va_get (D := G) (ci := 2) (v := .ref poA_spelled) (C := RX2) (T := TX2) (N := 8) hx hb hts inX2 hown hK hP 0 rfl rfl 6 (by decide) (hts _ tb193) (fun _ h9 => h9) rfl dX2_insert_59 ?_
      refine lv_iload hx hb dX2_insert_62 (lv_at hl 5 rfl) ?_
      refine lv_aload_n hx hb dX2_insert_64 rfl (lv_at hl 0 rfl) ?_
      refine va_get (D := G) (ci := 2) (v := .ref poA_spelled) (C := RX2) (T := TX2) (N := 8) hx hb hts inX2 hown hK hP 0 rfl rfl 6 (by decide) (hts _ tb193) (fun _ h9 => h9) rfl dX2_insert_65 ?_
      refine lv_iload hx hb dX2_insert_68 (lv_at hl 5 rfl) ?_
      refine lv_iconst (v := 1) hx hb dX2_insert_70 (by decide) ?_
      refine lv_isub hx hb dX2_insert_71 ?_
      obtain ⟨g_9, hM⟩ := ng hM
      refine va_aldq hx hb hK hP 3 2 rfl rfl g_9 dX2_insert_72 ?_
      show W p l e rmX2_insert s m args below meth c H locs 0 0 Q (F0 m 73 ls [.ref (po_spelled (x5 - (1 : Int32)).toNatClampNeg), .int x5, .ref poA_spelled])
      obtain ⟨g_10, hM⟩ := ng hM
      obtain ⟨g_11, hM⟩ := ng hM
      refine va_astqM hx hb hK hP hD hS 3 2 rfl rfl (sp_any hK (sp_at hE hS (Decidable.not_not.mp g_10))) g_11 dX2_insert_73 (fun H locs hP hD hS => ?_)
      rw [va_up_some] at hP hD
      have hP : va_P G vwCl (WX2_insert K po_a poA_sizes poA_kinds poA_spelled poA_scheme po_foot po_feet po_lines po_words po_sizes (upd po_kinds x5.toNatClampNeg (po_kinds (x5 - (1 : Int32)).toNatClampNeg)) (va_up po_spelled x5.toNatClampNeg (po_spelled (x5 - (1 : Int32)).toNatClampNeg)) po_scheme) H := hP
      have hD : va_D A (WX2_insert K po_a poA_sizes poA_kinds poA_spelled poA_scheme po_foot po_feet po_lines po_words po_sizes (upd po_kinds x5.toNatClampNeg (po_kinds (x5 - (1 : Int32)).toNatClampNeg)) (va_up po_spelled x5.toNatClampNeg (po_spelled (x5 - (1 : Int32)).toNatClampNeg)) po_scheme) := hD
      refine lv_iinc (v := (x5 + (-1))) (lv' := [(5, .int (x5 + (-1))), (0, .ref po_a), (1, .int p1), (2, .int p2), (3, .ref p3), (4, .int p4)]) hx hb dX2_insert_74 hl (k := 5) rfl rfl (by decide) rfl (fun ls hl => ?_)
      refine lv_goto (tgt := 36) hx hb dX2_insert_77 (by decide) ?_
      exact ih po_words po_sizes (upd po_kinds x5.toNatClampNeg (po_kinds (x5 - (1 : Int32)).toNatClampNeg)) (va_up po_spelled x5.toNatClampNeg (po_spelled (x5 - (1 : Int32)).toNatClampNeg)) (x5 + (-1)) hM _ _ _ hP hD hS (lv_sub hl [1, 2, 3, 4, 5, 0] rfl)
set_option maxHeartbeats 4000000 in
set_option maxRecDepth 100000 in
theorem wX2_insert_b0 {p : Program} {l : Launch} {e : Env} {s : State} {m : MethodId} {args : Array Value} {below : List Frame} {meth : Method} {c : Code} {Q : State → Prop} {G : va_G} {K : Nat → ClassId} {A : Nat → Prop} {tt : Nat → Nat} {L : List Nat} {la : Nat → Nat} {sa : Nat → Nat} {ln : Nat → Int32} {sy : Nat → Int32} {sn : Nat → Int32} {lt : Nat → Nat → Int32} {st : Nat → Nat → Int32} (C0 : CX p s m args c cX2_insert 6 RX2 G K (EC G K tt L la sa ln sy sn lt st) A) (po_a poA_sizes poA_kinds poA_spelled poA_scheme p3 : Nat) (po_foot : Int32) (po_feet : Int32) (po_lines : Int32) (po_scheme : Nat → Int32) (p1 : Int32) (p2 : Int32) (p4 : Int32) (o_po_words : Int32) (o_po_sizes : Nat → Int32) (o_po_kinds : Nat → Int32) (o_po_spelled : Nat → Nat) (kr : ∀ (H : Heap) (locs : List Loc) (ls : Array Slot) (pc : Nat), decode cX2_insert pc = .ok (.return_, 1) → va_P G vwCl (WX2_insert K po_a poA_sizes poA_kinds poA_spelled poA_scheme po_foot po_feet po_lines o_po_words o_po_sizes o_po_kinds o_po_spelled po_scheme) H → va_D A (WX2_insert K po_a poA_sizes poA_kinds poA_spelled poA_scheme po_foot po_feet po_lines o_po_words o_po_sizes o_po_kinds o_po_spelled po_scheme) → va_S A s.heap H locs → W p l e rmX2_insert s m args below meth c H locs 0 0 Q (F0 m pc ls [])) (po_words : Int32) (po_sizes : Nat → Int32) (po_kinds : Nat → Int32) (po_spelled : Nat → Nat) (hM : mX2_insert_b0 L po_lines p1 p2 p4 p3  po_words po_sizes po_kinds po_spelled = some (o_po_words, o_po_sizes, o_po_kinds, o_po_spelled)) : ∀ (H : Heap) (locs : List Loc) (ls : Array Slot), va_P G vwCl (WX2_insert K po_a poA_sizes poA_kinds poA_spelled poA_scheme po_foot po_feet po_lines po_words po_sizes po_kinds po_spelled po_scheme) H → va_D A (WX2_insert K po_a poA_sizes poA_kinds poA_spelled poA_scheme po_foot po_feet po_lines po_words po_sizes po_kinds po_spelled po_scheme) → va_S A s.heap H locs → lv_has ls 6 [(0, .ref po_a), (1, .int p1), (2, .int p2), (3, .ref p3), (4, .int p4)] → W p l e rmX2_insert s m args below meth c H locs 0 0 Q (F0 m 0 ls []) := by
  obtain ⟨hx, hb, hml, hown, hts, hK, hA, hEo, hE⟩ := id C0
  intro H locs ls hP hD hS hl
  unfold mX2_insert_b0 at hM
  refine lv_aload_n hx hb dX2_insert_0 rfl (lv_at hl 0 rfl) ?_
  refine va_get (D := G) (ci := 2) (v := .int po_words) (C := RX2) (T := TX2) (N := 8) hx hb hts inX2 hown hK hP 0 rfl rfl 3 (by decide) (hts _ tb184) (fun _ h9 => h9) rfl dX2_insert_1 ?_
  refine lv_bipush (v := 20) hx hb dX2_insert_4 (by decide) ?_
  refine lv_icmp_ge (tgt := 29) hx hb dX2_insert_6 (by decide) (fun c_12 => ?_) (fun c_12 => ?_)
  · rw [if_pos c_12] at hM
    have t0 := Option.some.inj hM
    obtain ⟨q1, t1⟩ := Prod.mk.inj t0
    obtain ⟨q2, t2⟩ := Prod.mk.inj t1
    obtain ⟨q3, t3⟩ := Prod.mk.inj t2
    subst q1
    subst q2
    subst q3
    subst t3
    exact kr _ _ _ _ dX2_insert_29 hP hD hS
  · rw [if_neg c_12] at hM
    refine lv_aload_n hx hb dX2_insert_9 rfl (lv_at hl 0 rfl) ?_
    refine lv_iload_n hx hb dX2_insert_10 rfl (lv_at hl 1 rfl) ?_
    obtain ⟨r_13, hC, hM⟩ := oe1 hM
    refine cV_i (As := [.int p1]) (rest := []) C0 hP hD hS [0, 1, 2, 3, 4] (kX2_hasLine l G K tt L la sa ln sy sn lt st po_a poA_sizes poA_kinds poA_spelled poA_scheme po_foot po_feet po_lines po_words po_sizes po_kinds po_spelled po_scheme p1 H.size r_13 hC) rfl rfl rfl tb392 tb393 tb394 tb7 tb395 hdX2_hasLine (va_recv hK hP (ci := 2) (q0 := 0) rfl rfl) ⟨Nat.le_of_ble_eq_true rfl, Nat.le_of_ble_eq_true rfl⟩ rfl hl.1 (Nat.le_of_ble_eq_true rfl) rfl ⟨Nat.le_refl _, Nat.le_refl _⟩ dX2_insert_11 (fun H locs hP hD hS => ?_)
    have hP : va_P G vwCl (WX2_insert K po_a poA_sizes poA_kinds poA_spelled poA_scheme po_foot po_feet po_lines po_words po_sizes po_kinds po_spelled po_scheme) H := hP
    have hD : va_D A (WX2_insert K po_a poA_sizes poA_kinds poA_spelled poA_scheme po_foot po_feet po_lines po_words po_sizes po_kinds po_spelled po_scheme) := hD
    refine lv_if_eq (tgt := 29) hx hb dX2_insert_14 (by decide) (fun c_14 => ?_) (fun c_14 => ?_)
    · rw [if_pos c_14] at hM
      have t0 := Option.some.inj hM
      obtain ⟨q1, t1⟩ := Prod.mk.inj t0
      obtain ⟨q2, t2⟩ := Prod.mk.inj t1
      obtain ⟨q3, t3⟩ := Prod.mk.inj t2
      subst q1
      subst q2
      subst q3
      subst t3
      exact kr _ _ _ _ dX2_insert_29 hP hD hS
    · rw [if_neg c_14] at hM
      refine lv_iload_n hx hb dX2_insert_17 rfl (lv_at hl 2 rfl) ?_
      refine lv_if_lt (tgt := 29) hx hb dX2_insert_18 (by decide) (fun c_15 => ?_) (fun c_15 => ?_)
      · rw [if_pos c_15] at hM
        have t0 := Option.some.inj hM
        obtain ⟨q1, t1⟩ := Prod.mk.inj t0
        obtain ⟨q2, t2⟩ := Prod.mk.inj t1
        obtain ⟨q3, t3⟩ := Prod.mk.inj t2
        subst q1
        subst q2
        subst q3
        subst t3
        exact kr _ _ _ _ dX2_insert_29 hP hD hS
      · rw [if_neg c_15] at hM
        refine lv_iload_n hx hb dX2_insert_21 rfl (lv_at hl 2 rfl) ?_
        refine lv_aload_n hx hb dX2_insert_22 rfl (lv_at hl 0 rfl) ?_
        refine va_get (D := G) (ci := 2) (v := .int po_words) (C := RX2) (T := TX2) (N := 8) hx hb hts inX2 hown hK hP 0 rfl rfl 3 (by decide) (hts _ tb184) (fun _ h9 => h9) rfl dX2_insert_23 ?_
        refine lv_icmp_le (tgt := 30) hx hb dX2_insert_26 (by decide) (fun c_16 => ?_) (fun c_16 => ?_)
        · rw [if_pos c_16] at hM
          refine lv_aload_n hx hb dX2_insert_30 rfl (lv_at hl 0 rfl) ?_
          refine va_get (D := G) (ci := 2) (v := .int po_words) (C := RX2) (T := TX2) (N := 8) hx hb hts inX2 hown hK hP 0 rfl rfl 3 (by decide) (hts _ tb184) (fun _ h9 => h9) rfl dX2_insert_31 ?_
          refine lv_istore (lv' := [(5, .int po_words), (0, .ref po_a), (1, .int p1), (2, .int p2), (3, .ref p3), (4, .int p4)]) hx hb dX2_insert_34 hl (by decide) rfl (fun ls hl => ?_)
          exact wX2_insert_b36 C0 po_a poA_sizes poA_kinds poA_spelled poA_scheme p3 po_foot po_feet po_lines po_scheme p1 p2 p4 o_po_words o_po_sizes o_po_kinds o_po_spelled kr  FU po_words po_sizes po_kinds po_spelled po_words hM _ _ _ hP hD hS (lv_sub hl [1, 2, 3, 4, 5, 0] rfl)
        · rw [if_neg c_16] at hM
          have t0 := Option.some.inj hM
          obtain ⟨q1, t1⟩ := Prod.mk.inj t0
          obtain ⟨q2, t2⟩ := Prod.mk.inj t1
          obtain ⟨q3, t3⟩ := Prod.mk.inj t2
          subst q1
          subst q2
          subst q3
          subst t3
          exact kr _ _ _ _ dX2_insert_29 hP hD hS
set_option maxHeartbeats 4000000 in
set_option maxRecDepth 100000 in
theorem kX2_insert (l : Launch) (G : va_G) (K : Nat → ClassId) (tt : Nat → Nat) (L : List Nat) (la : Nat → Nat) (sa : Nat → Nat) (ln : Nat → Int32) (sy : Nat → Int32) (sn : Nat → Int32) (lt : Nat → Nat → Int32) (st : Nat → Nat → Int32) (po_a poA_sizes poA_kinds poA_spelled poA_scheme p3 : Nat) (po_foot : Int32) (po_feet : Int32) (po_lines : Int32) (po_words : Int32) (po_sizes : Nat → Int32) (po_kinds : Nat → Int32) (po_spelled : Nat → Nat) (po_scheme : Nat → Int32) (p1 : Int32) (p2 : Int32) (p4 : Int32) (sz : Nat) (o_po_words : Int32) (o_po_sizes : Nat → Int32) (o_po_kinds : Nat → Int32) (o_po_spelled : Nat → Nat) (hM : mX2_insert L po_lines po_words po_sizes po_kinds po_spelled p1 p2 p4 p3 = some (o_po_words, o_po_sizes, o_po_kinds, o_po_spelled)) : Met l yX2_insert (mC yX2_insert cX2_insert 6 none) rmX2_insert (va_Pc [.ref po_a, .int p1, .int p2, .ref p3, .int p4] (PCe G K (EC G K tt L la sa ln sy sn lt st) (WX2_insert K po_a poA_sizes poA_kinds poA_spelled poA_scheme po_foot po_feet po_lines po_words po_sizes po_kinds po_spelled po_scheme) sz)) (va_Qv (fun (_ : Unit) => True) (fun _ t => va_P G vwCl (WX2_insert K po_a poA_sizes poA_kinds poA_spelled poA_scheme po_foot po_feet po_lines o_po_words o_po_sizes o_po_kinds o_po_spelled po_scheme) t.heap) (va_A (WX2_insert K po_a poA_sizes poA_kinds poA_spelled poA_scheme po_foot po_feet po_lines po_words po_sizes po_kinds po_spelled po_scheme) sz)) rmX2_insert.cells rmX2_insert.slots (va_A (WX2_insert K po_a poA_sizes poA_kinds poA_spelled poA_scheme po_foot po_feet po_lines po_words po_sizes po_kinds po_spelled po_scheme) sz) := by
  refine Met.ofW (cc := cX2_insert) (maxL := 6) (ret := none) (by decide) rfl ?_
  intro p e s m args below meth c s₁ B hml hv
  obtain ⟨rfl, hsz, hP, hK, hD0, hE⟩ := hv
  have hx := B.exec
  have hb := B.bytes
  have hr := B.returns
  have hts0 := atoms_spec (ws := mC yX2_insert cX2_insert 6 none) B.pre
  have hts : ∀ w ∈ tbG, w.before _ s = true := fun w h => hts0 w (List.mem_cons_of_mem _ h)
  have hown : s.vm.findClass RX2 = some m.cls := findClass_of_methodNamed B.named
  subst hsz
  have hD := hD0.self (sz := s.heap.size)
  generalize hAe : va_A (WX2_insert K po_a poA_sizes poA_kinds poA_spelled poA_scheme po_foot po_feet po_lines po_words po_sizes po_kinds po_spelled po_scheme) s.heap.size = A at hD hE ⊢
  have hA : ∀ q : Nat, s.heap.size ≤ q → A q := fun q h => by rw [← hAe]; exact Or.inr h
  have hS : va_S A s.heap s.heap [] := va_S.rf
  have hl := lv_entry ([.ref po_a, .int p1, .int p2, .ref p3, .int p4]) (n := 6) (Nat.le_of_ble_eq_true rfl)
  rw [lg_entry_eq]
  generalize (lg_sl ([.ref po_a, .int p1, .int p2, .ref p3, .int p4]) ++ List.replicate (6 - (lg_sl ([.ref po_a, .int p1, .int p2, .ref p3, .int p4])).length) Slot.unset).toArray = ls at hl ⊢
  have hl : lv_has ls 6 [(0, .ref po_a), (1, .int p1), (2, .int p2), (3, .ref p3), (4, .int p4)] := hl
  exact wX2_insert_b0 ⟨hx, hb, hml, hown, hts, hK, hA, EC_ok _ _ _ _ _ _ _ _ _ _ _, hE⟩ po_a poA_sizes poA_kinds poA_spelled poA_scheme p3 po_foot po_feet po_lines po_scheme p1 p2 p4 o_po_words o_po_sizes o_po_kinds o_po_spelled (fun H locs ls pc hdg hP hD hS => W.vret hx hb hr (fun t ht hW => ⟨⟨(), rfl, trivial, (show va_P G vwCl _ t.heap by rw [ht]; exact hP)⟩, hS.F ht⟩) hS.2.2 hdg) po_words po_sizes po_kinds po_spelled  hM _ _ _ hP hD hS hl
abbrev WX2_exchange (K : Nat → ClassId) (po_a poA_sizes poA_kinds poA_spelled poA_scheme : Nat) (po_foot : Int32) (po_feet : Int32) (po_lines : Int32) (po_words : Int32) (po_sizes : Nat → Int32) (po_kinds : Nat → Int32) (po_spelled : Nat → Nat) (po_scheme : Nat → Int32) : va_W := [(po_a, .inr (2, [.int po_foot, .int po_feet, .int po_lines, .int po_words, .ref poA_sizes, .ref poA_kinds, .ref poA_spelled, .ref poA_scheme])), aI K poA_sizes 4 po_sizes, aI K poA_kinds 20 po_kinds, aS K poA_spelled 20 po_spelled, aI K poA_scheme 4 po_scheme]
def rmX2_exchange : Room := { frames := 1, cells := 0, slots := 0, locals := 21 }
theorem hdX2_exchange : yX2_exchange.cls = RX2 ∧ yX2_exchange.cls ≠ "java/lang/invoke/MethodHandle" ∧ yX2_exchange.cls ≠ "java/lang/invoke/VarHandle" ∧ (parseMethodDescriptor yX2_exchange.desc).map (fun d => d.parameters.length) = some 2 := by decide +kernel
set_option maxHeartbeats 4000000 in
set_option maxRecDepth 100000 in
theorem wX2_exchange_b0 {p : Program} {l : Launch} {e : Env} {s : State} {m : MethodId} {args : Array Value} {below : List Frame} {meth : Method} {c : Code} {Q : State → Prop} {G : va_G} {K : Nat → ClassId} {A : Nat → Prop} {tt : Nat → Nat} {L : List Nat} {la : Nat → Nat} {sa : Nat → Nat} {ln : Nat → Int32} {sy : Nat → Int32} {sn : Nat → Int32} {lt : Nat → Nat → Int32} {st : Nat → Nat → Int32} (C0 : CX p s m args c cX2_exchange 5 RX2 G K (EC G K tt L la sa ln sy sn lt st) A) (po_a poA_sizes poA_kinds poA_spelled poA_scheme : Nat) (po_foot : Int32) (po_feet : Int32) (po_lines : Int32) (po_words : Int32) (po_sizes : Nat → Int32) (po_scheme : Nat → Int32) (p1 : Int32) (p2 : Int32) (o_po_kinds : Nat → Int32) (o_po_spelled : Nat → Nat) (kr : ∀ (H : Heap) (locs : List Loc) (ls : Array Slot) (pc : Nat), decode cX2_exchange pc = .ok (.return_, 1) → va_P G vwCl (WX2_exchange K po_a poA_sizes poA_kinds poA_spelled poA_scheme po_foot po_feet po_lines po_words po_sizes o_po_kinds o_po_spelled po_scheme) H → va_D A (WX2_exchange K po_a poA_sizes poA_kinds poA_spelled poA_scheme po_foot po_feet po_lines po_words po_sizes o_po_kinds o_po_spelled po_scheme) → va_S A s.heap H locs → W p l e rmX2_exchange s m args below meth c H locs 0 0 Q (F0 m pc ls [])) (po_kinds : Nat → Int32) (po_spelled : Nat → Nat) (hM : mX2_exchange_b0 L po_words p1 p2  po_kinds po_spelled = some (o_po_kinds, o_po_spelled)) : ∀ (H : Heap) (locs : List Loc) (ls : Array Slot), va_P G vwCl (WX2_exchange K po_a poA_sizes poA_kinds poA_spelled poA_scheme po_foot po_feet po_lines po_words po_sizes po_kinds po_spelled po_scheme) H → va_D A (WX2_exchange K po_a poA_sizes poA_kinds poA_spelled poA_scheme po_foot po_feet po_lines po_words po_sizes po_kinds po_spelled po_scheme) → va_S A s.heap H locs → lv_has ls 5 [(0, .ref po_a), (1, .int p1), (2, .int p2)] → W p l e rmX2_exchange s m args below meth c H locs 0 0 Q (F0 m 0 ls []) := by
  obtain ⟨hx, hb, hml, hown, hts, hK, hA, hEo, hE⟩ := id C0
  intro H locs ls hP hD hS hl
  unfold mX2_exchange_b0 at hM
  refine lv_aload_n hx hb dX2_exchange_0 rfl (lv_at hl 0 rfl) ?_
  refine lv_iload_n hx hb dX2_exchange_1 rfl (lv_at hl 1 rfl) ?_
  obtain ⟨r_1, hC, hM⟩ := oe1 hM
  refine cV_i (As := [.int p1]) (rest := []) C0 hP hD hS [0, 1, 2, 3, 4] (kX2_hasWord l G K tt L la sa ln sy sn lt st po_a poA_sizes poA_kinds poA_spelled poA_scheme po_foot po_feet po_lines po_words po_sizes po_kinds po_spelled po_scheme p1 H.size r_1 hC) rfl rfl rfl tb422 tb415 tb416 tb7 tb417 hdX2_hasWord (va_recv hK hP (ci := 2) (q0 := 0) rfl rfl) ⟨Nat.le_of_ble_eq_true rfl, Nat.le_of_ble_eq_true rfl⟩ rfl hl.1 (Nat.le_of_ble_eq_true rfl) rfl ⟨Nat.le_refl _, Nat.le_refl _⟩ dX2_exchange_2 (fun H locs hP hD hS => ?_)
  have hP : va_P G vwCl (WX2_exchange K po_a poA_sizes poA_kinds poA_spelled poA_scheme po_foot po_feet po_lines po_words po_sizes po_kinds po_spelled po_scheme) H := hP
  have hD : va_D A (WX2_exchange K po_a poA_sizes poA_kinds poA_spelled poA_scheme po_foot po_feet po_lines po_words po_sizes po_kinds po_spelled po_scheme) := hD
  refine lv_if_eq (tgt := 16) hx hb dX2_exchange_5 (by decide) (fun c_2 => ?_) (fun c_2 => ?_)
  · rw [if_pos c_2] at hM
    have t0 := Option.some.inj hM
    obtain ⟨q1, t1⟩ := Prod.mk.inj t0
    subst q1
    subst t1
    exact kr _ _ _ _ dX2_exchange_16 hP hD hS
  · rw [if_neg c_2] at hM
    refine lv_aload_n hx hb dX2_exchange_8 rfl (lv_at hl 0 rfl) ?_
    refine lv_iload_n hx hb dX2_exchange_9 rfl (lv_at hl 2 rfl) ?_
    obtain ⟨r_3, hC, hM⟩ := oe1 hM
    refine cV_i (As := [.int p2]) (rest := []) C0 hP hD hS [0, 1, 2, 3, 4] (kX2_hasWord l G K tt L la sa ln sy sn lt st po_a poA_sizes poA_kinds poA_spelled poA_scheme po_foot po_feet po_lines po_words po_sizes po_kinds po_spelled po_scheme p2 H.size r_3 hC) rfl rfl rfl tb422 tb415 tb416 tb7 tb417 hdX2_hasWord (va_recv hK hP (ci := 2) (q0 := 0) rfl rfl) ⟨Nat.le_of_ble_eq_true rfl, Nat.le_of_ble_eq_true rfl⟩ rfl hl.1 (Nat.le_of_ble_eq_true rfl) rfl ⟨Nat.le_refl _, Nat.le_refl _⟩ dX2_exchange_10 (fun H locs hP hD hS => ?_)
    have hP : va_P G vwCl (WX2_exchange K po_a poA_sizes poA_kinds poA_spelled poA_scheme po_foot po_feet po_lines po_words po_sizes po_kinds po_spelled po_scheme) H := hP
    have hD : va_D A (WX2_exchange K po_a poA_sizes poA_kinds poA_spelled poA_scheme po_foot po_feet po_lines po_words po_sizes po_kinds po_spelled po_scheme) := hD
    refine lv_if_ne (tgt := 17) hx hb dX2_exchange_13 (by decide) (fun c_4 => ?_) (fun c_4 => ?_)
    · rw [if_neg c_4] at hM
      refine lv_aload_n hx hb dX2_exchange_17 rfl (lv_at hl 0 rfl) ?_
      refine va_get (D := G) (ci := 2) (v := .ref poA_kinds) (C := RX2) (T := TX2) (N := 8) hx hb hts inX2 hown hK hP 0 rfl rfl 5 (by decide) (hts _ tb190) (fun _ h9 => h9) rfl dX2_exchange_18 ?_
      refine lv_iload_n hx hb dX2_exchange_21 rfl (lv_at hl 1 rfl) ?_
      obtain ⟨g_5, hM⟩ := ng hM
      refine va_iald hx hb hK hP 2 0 rfl rfl g_5 dX2_exchange_22 ?_
      refine lv_istore_n (lv' := [(3, .int (po_kinds p1.toNatClampNeg)), (0, .ref po_a), (1, .int p1), (2, .int p2)]) hx hb dX2_exchange_23 rfl hl (by decide) rfl (fun ls hl => ?_)
      refine lv_aload_n hx hb dX2_exchange_24 rfl (lv_at hl 1 rfl) ?_
      refine va_get (D := G) (ci := 2) (v := .ref poA_spelled) (C := RX2) (T := TX2) (N := 8) hx hb hts inX2 hown hK hP 0 rfl rfl 6 (by decide) (hts _ tb193) (fun _ h9 => h9) rfl dX2_exchange_25 ?_
      refine lv_iload_n hx hb dX2_exchange_28 rfl (lv_at hl 2 rfl) ?_
      obtain ⟨g_6, hM⟩ := ng hM
      refine va_aldq hx hb hK hP 3 2 rfl rfl g_6 dX2_exchange_29 ?_
      show W p l e rmX2_exchange s m args below meth c H locs 0 0 Q (F0 m 30 ls [.ref (po_spelled p1.toNatClampNeg)])
      refine lv_astore (lv' := [(4, .ref (po_spelled p1.toNatClampNeg)), (3, .int (po_kinds p1.toNatClampNeg)), (0, .ref po_a), (1, .int p1), (2, .int p2)]) hx hb dX2_exchange_30 hl (by decide) rfl (fun ls hl => ?_)
      refine lv_aload_n hx hb dX2_exchange_32 rfl (lv_at hl 2 rfl) ?_
      refine va_get (D := G) (ci := 2) (v := .ref poA_kinds) (C := RX2) (T := TX2) (N := 8) hx hb hts inX2 hown hK hP 0 rfl rfl 5 (by decide) (hts _ tb190) (fun _ h9 => h9) rfl dX2_exchange_33 ?_
      refine lv_iload_n hx hb dX2_exchange_36 rfl (lv_at hl 3 rfl) ?_
      refine lv_aload_n hx hb dX2_exchange_37 rfl (lv_at hl 2 rfl) ?_
      refine va_get (D := G) (ci := 2) (v := .ref poA_kinds) (C := RX2) (T := TX2) (N := 8) hx hb hts inX2 hown hK hP 0 rfl rfl 5 (by decide) (hts _ tb190) (fun _ h9 => h9) rfl dX2_exchange_38 ?_
      refine lv_iload_n hx hb dX2_exchange_41 rfl (lv_at hl 4 rfl) ?_
      obtain ⟨g_7, hM⟩ := ng hM
      refine va_iald hx hb hK hP 2 0 rfl rfl g_7 dX2_exchange_42 ?_
      obtain ⟨g_8, hM⟩ := ng hM
      refine va_iast hx hb hK hP hD hS 2 0 rfl rfl g_8 dX2_exchange_43 (fun H locs hP hD hS => ?_)
      have hP : va_P G vwCl (WX2_exchange K po_a poA_sizes poA_kinds poA_spelled poA_scheme po_foot po_feet po_lines po_words po_sizes (upd po_kinds p1.toNatClampNeg (po_kinds p2.toNatClampNeg)) po_spelled po_scheme) H := hP
      have hD : va_D A (WX2_exchange K po_a poA_sizes poA_kinds poA_spelled poA_scheme po_foot po_feet po_lines po_words po_sizes (upd po_kinds p1.toNatClampNeg (po_kinds p2.toNatClampNeg)) po_spelled po_scheme) := hD
      refine lv_aload_n hx hb dX2_exchange_44 rfl (lv_at hl 2 rfl) ?_
      refine va_get (D := G) (ci := 2) (v := .ref poA_spelled) (C := RX2) (T := TX2) (N := 8) hx hb hts inX2 hown hK hP 0 rfl rfl 6 (by decide) (hts _ tb193) (fun _ h9 => h9) rfl dX2_exchange_45 ?_
      refine lv_iload_n hx hb dX2_exchange_48 rfl (lv_at hl 3 rfl) ?_
      refine lv_aload_n hx hb dX2_exchange_49 rfl (lv_at hl 2 rfl) ?_
      refine va_get (D := G) (ci := 2) (v := .ref poA_spelled) (C := RX2) (T := TX2) (N := 8) hx hb hts inX2 hown hK hP 0 rfl rfl 6 (by decide) (hts _ tb193) (fun _ h9 => h9) rfl dX2_exchange_50 ?_
      refine lv_iload_n hx hb dX2_exchange_53 rfl (lv_at hl 4 rfl) ?_
      obtain ⟨g_9, hM⟩ := ng hM
      refine va_aldq hx hb hK hP 3 2 rfl rfl g_9 dX2_exchange_54 ?_
      show W p l e rmX2_exchange s m args below meth c H locs 0 0 Q (F0 m 55 ls [.ref (po_spelled p2.toNatClampNeg), .int p1, .ref poA_spelled])
      obtain ⟨g_10, hM⟩ := ng hM
      obtain ⟨g_11, hM⟩ := ng hM
      refine va_astqM hx hb hK hP hD hS 3 2 rfl rfl (sp_any hK (sp_at hE hS (Decidable.not_not.mp g_10))) g_11 dX2_exchange_55 (fun H locs hP hD hS => ?_)
      rw [va_up_some] at hP hD
      have hP : va_P G vwCl (WX2_exchange K po_a poA_sizes poA_kinds poA_spelled poA_scheme po_foot po_feet po_lines po_words po_sizes (upd po_kinds p1.toNatClampNeg (po_kinds p2.toNatClampNeg)) (va_up po_spelled p1.toNatClampNeg (po_spelled p2.toNatClampNeg)) po_scheme) H := hP
      have hD : va_D A (WX2_exchange K po_a poA_sizes poA_kinds poA_spelled poA_scheme po_foot po_feet po_lines po_words po_sizes (upd po_kinds p1.toNatClampNeg (po_kinds p2.toNatClampNeg)) (va_up po_spelled p1.toNatClampNeg (po_spelled p2.toNatClampNeg)) po_scheme) := hD
      refine lv_aload_n hx hb dX2_exchange_56 rfl (lv_at hl 2 rfl) ?_
      refine va_get (D := G) (ci := 2) (v := .ref poA_kinds) (C := RX2) (T := TX2) (N := 8) hx hb hts inX2 hown hK hP 0 rfl rfl 5 (by decide) (hts _ tb190) (fun _ h9 => h9) rfl dX2_exchange_57 ?_
      refine lv_iload_n hx hb dX2_exchange_60 rfl (lv_at hl 4 rfl) ?_
      refine lv_iload_n hx hb dX2_exchange_61 rfl (lv_at hl 1 rfl) ?_
      obtain ⟨g_12, hM⟩ := ng hM
      refine va_iast hx hb hK hP hD hS 2 0 rfl rfl g_12 dX2_exchange_62 (fun H locs hP hD hS => ?_)
      have hP : va_P G vwCl (WX2_exchange K po_a poA_sizes poA_kinds poA_spelled poA_scheme po_foot po_feet po_lines po_words po_sizes (upd (upd po_kinds p1.toNatClampNeg (po_kinds p2.toNatClampNeg)) p2.toNatClampNeg (po_kinds p1.toNatClampNeg)) (va_up po_spelled p1.toNatClampNeg (po_spelled p2.toNatClampNeg)) po_scheme) H := hP
      have hD : va_D A (WX2_exchange K po_a poA_sizes poA_kinds poA_spelled poA_scheme po_foot po_feet po_lines po_words po_sizes (upd (upd po_kinds p1.toNatClampNeg (po_kinds p2.toNatClampNeg)) p2.toNatClampNeg (po_kinds p1.toNatClampNeg)) (va_up po_spelled p1.toNatClampNeg (po_spelled p2.toNatClampNeg)) po_scheme) := hD
      refine lv_aload_n hx hb dX2_exchange_63 rfl (lv_at hl 2 rfl) ?_
      refine va_get (D := G) (ci := 2) (v := .ref poA_spelled) (C := RX2) (T := TX2) (N := 8) hx hb hts inX2 hown hK hP 0 rfl rfl 6 (by decide) (hts _ tb193) (fun _ h9 => h9) rfl dX2_exchange_64 ?_
      refine lv_iload_n hx hb dX2_exchange_67 rfl (lv_at hl 4 rfl) ?_
      refine lv_aload hx hb dX2_exchange_68 (lv_at hl 0 rfl) ?_
      obtain ⟨g_13, hM⟩ := ng hM
      obtain ⟨g_14, hM⟩ := ng hM
      refine va_astqM hx hb hK hP hD hS 3 2 rfl rfl (sp_any hK (sp_at hE hS (Decidable.not_not.mp g_13))) g_14 dX2_exchange_70 (fun H locs hP hD hS => ?_)
      rw [va_up_some] at hP hD
      have hP : va_P G vwCl (WX2_exchange K po_a poA_sizes poA_kinds poA_spelled poA_scheme po_foot po_feet po_lines po_words po_sizes (upd (upd po_kinds p1.toNatClampNeg (po_kinds p2.toNatClampNeg)) p2.toNatClampNeg (po_kinds p1.toNatClampNeg)) (va_up (va_up po_spelled p1.toNatClampNeg (po_spelled p2.toNatClampNeg)) p2.toNatClampNeg (po_spelled p1.toNatClampNeg)) po_scheme) H := hP
      have hD : va_D A (WX2_exchange K po_a poA_sizes poA_kinds poA_spelled poA_scheme po_foot po_feet po_lines po_words po_sizes (upd (upd po_kinds p1.toNatClampNeg (po_kinds p2.toNatClampNeg)) p2.toNatClampNeg (po_kinds p1.toNatClampNeg)) (va_up (va_up po_spelled p1.toNatClampNeg (po_spelled p2.toNatClampNeg)) p2.toNatClampNeg (po_spelled p1.toNatClampNeg)) po_scheme) := hD
      have t0 := Option.some.inj hM
      obtain ⟨q1, t1⟩ := Prod.mk.inj t0
      subst q1
      subst t1
      exact kr _ _ _ _ dX2_exchange_71 hP hD hS
    · rw [if_pos c_4] at hM
      have t0 := Option.some.inj hM
      obtain ⟨q1, t1⟩ := Prod.mk.inj t0
      subst q1
      subst t1
      exact kr _ _ _ _ dX2_exchange_16 hP hD hS
set_option maxHeartbeats 4000000 in
set_option maxRecDepth 100000 in
theorem kX2_exchange (l : Launch) (G : va_G) (K : Nat → ClassId) (tt : Nat → Nat) (L : List Nat) (la : Nat → Nat) (sa : Nat → Nat) (ln : Nat → Int32) (sy : Nat → Int32) (sn : Nat → Int32) (lt : Nat → Nat → Int32) (st : Nat → Nat → Int32) (po_a poA_sizes poA_kinds poA_spelled poA_scheme : Nat) (po_foot : Int32) (po_feet : Int32) (po_lines : Int32) (po_words : Int32) (po_sizes : Nat → Int32) (po_kinds : Nat → Int32) (po_spelled : Nat → Nat) (po_scheme : Nat → Int32) (p1 : Int32) (p2 : Int32) (sz : Nat) (o_po_kinds : Nat → Int32) (o_po_spelled : Nat → Nat) (hM : mX2_exchange L po_words po_kinds po_spelled p1 p2 = some (o_po_kinds, o_po_spelled)) : Met l yX2_exchange (mC yX2_exchange cX2_exchange 5 none) rmX2_exchange (va_Pc [.ref po_a, .int p1, .int p2] (PCe G K (EC G K tt L la sa ln sy sn lt st) (WX2_exchange K po_a poA_sizes poA_kinds poA_spelled poA_scheme po_foot po_feet po_lines po_words po_sizes po_kinds po_spelled po_scheme) sz)) (va_Qv (fun (_ : Unit) => True) (fun _ t => va_P G vwCl (WX2_exchange K po_a poA_sizes poA_kinds poA_spelled poA_scheme po_foot po_feet po_lines po_words po_sizes o_po_kinds o_po_spelled po_scheme) t.heap) (va_A (WX2_exchange K po_a poA_sizes poA_kinds poA_spelled poA_scheme po_foot po_feet po_lines po_words po_sizes po_kinds po_spelled po_scheme) sz)) rmX2_exchange.cells rmX2_exchange.slots (va_A (WX2_exchange K po_a poA_sizes poA_kinds poA_spelled poA_scheme po_foot po_feet po_lines po_words po_sizes po_kinds po_spelled po_scheme) sz) := by
  refine Met.ofW (cc := cX2_exchange) (maxL := 5) (ret := none) (by decide) rfl ?_
  intro p e s m args below meth c s₁ B hml hv
  obtain ⟨rfl, hsz, hP, hK, hD0, hE⟩ := hv
  have hx := B.exec
  have hb := B.bytes
  have hr := B.returns
  have hts0 := atoms_spec (ws := mC yX2_exchange cX2_exchange 5 none) B.pre
  have hts : ∀ w ∈ tbG, w.before _ s = true := fun w h => hts0 w (List.mem_cons_of_mem _ h)
  have hown : s.vm.findClass RX2 = some m.cls := findClass_of_methodNamed B.named
  subst hsz
  have hD := hD0.self (sz := s.heap.size)
  generalize hAe : va_A (WX2_exchange K po_a poA_sizes poA_kinds poA_spelled poA_scheme po_foot po_feet po_lines po_words po_sizes po_kinds po_spelled po_scheme) s.heap.size = A at hD hE ⊢
  have hA : ∀ q : Nat, s.heap.size ≤ q → A q := fun q h => by rw [← hAe]; exact Or.inr h
  have hS : va_S A s.heap s.heap [] := va_S.rf
  have hl := lv_entry ([.ref po_a, .int p1, .int p2]) (n := 5) (Nat.le_of_ble_eq_true rfl)
  rw [lg_entry_eq]
  generalize (lg_sl ([.ref po_a, .int p1, .int p2]) ++ List.replicate (5 - (lg_sl ([.ref po_a, .int p1, .int p2])).length) Slot.unset).toArray = ls at hl ⊢
  have hl : lv_has ls 5 [(0, .ref po_a), (1, .int p1), (2, .int p2)] := hl
  exact wX2_exchange_b0 ⟨hx, hb, hml, hown, hts, hK, hA, EC_ok _ _ _ _ _ _ _ _ _ _ _, hE⟩ po_a poA_sizes poA_kinds poA_spelled poA_scheme po_foot po_feet po_lines po_words po_sizes po_scheme p1 p2 o_po_kinds o_po_spelled (fun H locs ls pc hdg hP hD hS => W.vret hx hb hr (fun t ht hW => ⟨⟨(), rfl, trivial, (show va_P G vwCl _ t.heap by rw [ht]; exact hP)⟩, hS.F ht⟩) hS.2.2 hdg) po_kinds po_spelled  hM _ _ _ hP hD hS hl
abbrev WX0_undoLatest (K : Nat → ClassId) (ac_a acA_sorts acA_firsts acA_seconds acA_takenKinds acA_takenSpellings po_a poA_sizes poA_kinds poA_spelled poA_scheme : Nat) (ac_next : Int32) (ac_kept : Int32) (ac_sorts : Nat → Int32) (ac_firsts : Nat → Int32) (ac_seconds : Nat → Int32) (ac_takenKinds : Nat → Int32) (ac_takenSpellings : Nat → Nat) (po_foot : Int32) (po_feet : Int32) (po_lines : Int32) (po_words : Int32) (po_sizes : Nat → Int32) (po_kinds : Nat → Int32) (po_spelled : Nat → Nat) (po_scheme : Nat → Int32) : va_W := [(ac_a, .inr (0, [.ref acA_sorts, .ref acA_firsts, .ref acA_seconds, .ref acA_takenKinds, .ref acA_takenSpellings, .int ac_next, .int ac_kept])), aI K acA_sorts 24 ac_sorts, aI K acA_firsts 24 ac_firsts, aI K acA_seconds 24 ac_seconds, aI K acA_takenKinds 24 ac_takenKinds, aS K acA_takenSpellings 24 ac_takenSpellings, (po_a, .inr (2, [.int po_foot, .int po_feet, .int po_lines, .int po_words, .ref poA_sizes, .ref poA_kinds, .ref poA_spelled, .ref poA_scheme])), aI K poA_sizes 4 po_sizes, aI K poA_kinds 20 po_kinds, aS K poA_spelled 20 po_spelled, aI K poA_scheme 4 po_scheme]
def rmX0_undoLatest : Room := { frames := 2, cells := 0, slots := 0, locals := 46 }
theorem hdX0_undoLatest : yX0_undoLatest.cls = RX0 ∧ yX0_undoLatest.cls ≠ "java/lang/invoke/MethodHandle" ∧ yX0_undoLatest.cls ≠ "java/lang/invoke/VarHandle" ∧ (parseMethodDescriptor yX0_undoLatest.desc).map (fun d => d.parameters.length) = some 1 := by decide +kernel
set_option maxHeartbeats 4000000 in
set_option maxRecDepth 100000 in
theorem wX0_undoLatest_b19 {p : Program} {l : Launch} {e : Env} {s : State} {m : MethodId} {args : Array Value} {below : List Frame} {meth : Method} {c : Code} {Q : State → Prop} {G : va_G} {K : Nat → ClassId} {A : Nat → Prop} {tt : Nat → Nat} {L : List Nat} {la : Nat → Nat} {sa : Nat → Nat} {ln : Nat → Int32} {sy : Nat → Int32} {sn : Nat → Int32} {lt : Nat → Nat → Int32} {st : Nat → Nat → Int32} (C0 : CX p s m args c cX0_undoLatest 4 RX0 G K (EC G K tt L la sa ln sy sn lt st) A) (ac_a acA_sorts acA_firsts acA_seconds acA_takenKinds acA_takenSpellings po_a poA_sizes poA_kinds poA_spelled poA_scheme : Nat) (ac_sorts : Nat → Int32) (ac_firsts : Nat → Int32) (ac_seconds : Nat → Int32) (ac_takenKinds : Nat → Int32) (ac_takenSpellings : Nat → Nat) (po_lines : Int32) (po_scheme : Nat → Int32)  (o_ac_next : Int32) (o_ac_kept : Int32) (o_po_foot : Int32) (o_po_feet : Int32) (o_po_words : Int32) (o_po_sizes : Nat → Int32) (o_po_kinds : Nat → Int32) (o_po_spelled : Nat → Nat) (kr : ∀ (H : Heap) (locs : List Loc) (ls : Array Slot) (pc : Nat), decode cX0_undoLatest pc = .ok (.return_, 1) → va_P G vwCl (WX0_undoLatest K ac_a acA_sorts acA_firsts acA_seconds acA_takenKinds acA_takenSpellings po_a poA_sizes poA_kinds poA_spelled poA_scheme o_ac_next o_ac_kept ac_sorts ac_firsts ac_seconds ac_takenKinds ac_takenSpellings o_po_foot o_po_feet po_lines o_po_words o_po_sizes o_po_kinds o_po_spelled po_scheme) H → va_D A (WX0_undoLatest K ac_a acA_sorts acA_firsts acA_seconds acA_takenKinds acA_takenSpellings po_a poA_sizes poA_kinds poA_spelled poA_scheme o_ac_next o_ac_kept ac_sorts ac_firsts ac_seconds ac_takenKinds ac_takenSpellings o_po_foot o_po_feet po_lines o_po_words o_po_sizes o_po_kinds o_po_spelled po_scheme) → va_S A s.heap H locs → W p l e rmX0_undoLatest s m args below meth c H locs 0 0 Q (F0 m pc ls [])) (ac_next : Int32) (ac_kept : Int32) (po_foot : Int32) (po_feet : Int32) (po_words : Int32) (po_sizes : Nat → Int32) (po_kinds : Nat → Int32) (po_spelled : Nat → Nat) (s1 : Int32) (hM : mX0_undoLatest_b19 L ac_sorts ac_firsts ac_seconds ac_takenKinds ac_takenSpellings po_lines  ac_next ac_kept po_foot po_feet po_words po_sizes po_kinds po_spelled s1 = some (o_ac_next, o_ac_kept, o_po_foot, o_po_feet, o_po_words, o_po_sizes, o_po_kinds, o_po_spelled)) : ∀ (H : Heap) (locs : List Loc) (ls : Array Slot), va_P G vwCl (WX0_undoLatest K ac_a acA_sorts acA_firsts acA_seconds acA_takenKinds acA_takenSpellings po_a poA_sizes poA_kinds poA_spelled poA_scheme ac_next ac_kept ac_sorts ac_firsts ac_seconds ac_takenKinds ac_takenSpellings po_foot po_feet po_lines po_words po_sizes po_kinds po_spelled po_scheme) H → va_D A (WX0_undoLatest K ac_a acA_sorts acA_firsts acA_seconds acA_takenKinds acA_takenSpellings po_a poA_sizes poA_kinds poA_spelled poA_scheme ac_next ac_kept ac_sorts ac_firsts ac_seconds ac_takenKinds ac_takenSpellings po_foot po_feet po_lines po_words po_sizes po_kinds po_spelled po_scheme) → va_S A s.heap H locs → lv_has ls 4 [(0, .ref ac_a), (1, .ref po_a)] → W p l e rmX0_undoLatest s m args below meth c H locs 0 0 Q (F0 m 19 ls [.int s1, .ref ac_a]) := by
  obtain ⟨hx, hb, hml, hown, hts, hK, hA, hEo, hE⟩ := id C0
  intro H locs ls hP hD hS hl
  unfold mX0_undoLatest_b19 at hM
  refine va_put (D := G) (ci := 0) (v := .int s1) (ty := .int) (C := RX0) (T := TX0) (N := 7) hx hb hts inX0 tyX0 tyX0_ok nmX0 hown hK hP hD hS 0 rfl rfl 5 (by decide) (hts _ tb227) (fun _ h9 => h9) rfl (tyX0_ok 5 (by decide)) rfl rfl (Nat.le_of_ble_eq_true rfl) dX0_undoLatest_19 (fun H locs hP hD hS => ?_)
  have hP : va_P G vwCl (WX0_undoLatest K ac_a acA_sorts acA_firsts acA_seconds acA_takenKinds acA_takenSpellings po_a poA_sizes poA_kinds poA_spelled poA_scheme s1 ac_kept ac_sorts ac_firsts ac_seconds ac_takenKinds ac_takenSpellings po_foot po_feet po_lines po_words po_sizes po_kinds po_spelled po_scheme) H := hP
  have hD : va_D A (WX0_undoLatest K ac_a acA_sorts acA_firsts acA_seconds acA_takenKinds acA_takenSpellings po_a poA_sizes poA_kinds poA_spelled poA_scheme s1 ac_kept ac_sorts ac_firsts ac_seconds ac_takenKinds ac_takenSpellings po_foot po_feet po_lines po_words po_sizes po_kinds po_spelled po_scheme) := hD
  refine lv_aload_n hx hb dX0_undoLatest_22 rfl (lv_at hl 0 rfl) ?_
  refine lv_dup hx hb dX0_undoLatest_23 rfl ?_
  refine va_get (D := G) (ci := 0) (v := .int ac_kept) (C := RX0) (T := TX0) (N := 7) hx hb hts inX0 hown hK hP 0 rfl rfl 6 (by decide) (hts _ tb228) (fun _ h9 => h9) rfl dX0_undoLatest_24 ?_
  refine lv_iconst (v := 1) hx hb dX0_undoLatest_27 (by decide) ?_
  refine lv_isub hx hb dX0_undoLatest_28 ?_
  refine va_put (D := G) (ci := 0) (v := .int (ac_kept - (1 : Int32))) (ty := .int) (C := RX0) (T := TX0) (N := 7) hx hb hts inX0 tyX0 tyX0_ok nmX0 hown hK hP hD hS 0 rfl rfl 6 (by decide) (hts _ tb228) (fun _ h9 => h9) rfl (tyX0_ok 6 (by decide)) rfl rfl (Nat.le_of_ble_eq_true rfl) dX0_undoLatest_29 (fun H locs hP hD hS => ?_)
  have hP : va_P G vwCl (WX0_undoLatest K ac_a acA_sorts acA_firsts acA_seconds acA_takenKinds acA_takenSpellings po_a poA_sizes poA_kinds poA_spelled poA_scheme s1 (ac_kept - (1 : Int32)) ac_sorts ac_firsts ac_seconds ac_takenKinds ac_takenSpellings po_foot po_feet po_lines po_words po_sizes po_kinds po_spelled po_scheme) H := hP
  have hD : va_D A (WX0_undoLatest K ac_a acA_sorts acA_firsts acA_seconds acA_takenKinds acA_takenSpellings po_a poA_sizes poA_kinds poA_spelled poA_scheme s1 (ac_kept - (1 : Int32)) ac_sorts ac_firsts ac_seconds ac_takenKinds ac_takenSpellings po_foot po_feet po_lines po_words po_sizes po_kinds po_spelled po_scheme) := hD
  refine lv_aload_n hx hb dX0_undoLatest_32 rfl (lv_at hl 0 rfl) ?_
  refine va_get (D := G) (ci := 0) (v := .ref acA_firsts) (C := RX0) (T := TX0) (N := 7) hx hb hts inX0 hown hK hP 0 rfl rfl 1 (by decide) (hts _ tb223) (fun _ h9 => h9) rfl dX0_undoLatest_33 ?_
  refine lv_aload_n hx hb dX0_undoLatest_36 rfl (lv_at hl 0 rfl) ?_
  refine va_get (D := G) (ci := 0) (v := .int s1) (C := RX0) (T := TX0) (N := 7) hx hb hts inX0 hown hK hP 0 rfl rfl 5 (by decide) (hts _ tb227) (fun _ h9 => h9) rfl dX0_undoLatest_37 ?_
  obtain ⟨g_1, hM⟩ := ng hM
  refine va_iald hx hb hK hP 2 0 rfl rfl g_1 dX0_undoLatest_40 ?_
  refine lv_istore_n (lv' := [(2, .int (ac_firsts s1.toNatClampNeg)), (0, .ref ac_a), (1, .ref po_a)]) hx hb dX0_undoLatest_41 rfl hl (by decide) rfl (fun ls hl => ?_)
  refine lv_aload_n hx hb dX0_undoLatest_42 rfl (lv_at hl 1 rfl) ?_
  refine va_get (D := G) (ci := 0) (v := .ref acA_seconds) (C := RX0) (T := TX0) (N := 7) hx hb hts inX0 hown hK hP 0 rfl rfl 2 (by decide) (hts _ tb224) (fun _ h9 => h9) rfl dX0_undoLatest_43 ?_
  refine lv_aload_n hx hb dX0_undoLatest_46 rfl (lv_at hl 1 rfl) ?_
  refine va_get (D := G) (ci := 0) (v := .int s1) (C := RX0) (T := TX0) (N := 7) hx hb hts inX0 hown hK hP 0 rfl rfl 5 (by decide) (hts _ tb227) (fun _ h9 => h9) rfl dX0_undoLatest_47 ?_
  obtain ⟨g_2, hM⟩ := ng hM
  refine va_iald hx hb hK hP 3 0 rfl rfl g_2 dX0_undoLatest_50 ?_
  refine lv_istore_n (lv' := [(3, .int (ac_seconds s1.toNatClampNeg)), (2, .int (ac_firsts s1.toNatClampNeg)), (0, .ref ac_a), (1, .ref po_a)]) hx hb dX0_undoLatest_51 rfl hl (by decide) rfl (fun ls hl => ?_)
  refine lv_aload_n hx hb dX0_undoLatest_52 rfl (lv_at hl 2 rfl) ?_
  refine va_get (D := G) (ci := 0) (v := .ref acA_sorts) (C := RX0) (T := TX0) (N := 7) hx hb hts inX0 hown hK hP 0 rfl rfl 0 (by decide) (hts _ tb222) (fun _ h9 => h9) rfl dX0_undoLatest_53 ?_
  refine lv_aload_n hx hb dX0_undoLatest_56 rfl (lv_at hl 2 rfl) ?_
  refine va_get (D := G) (ci := 0) (v := .int s1) (C := RX0) (T := TX0) (N := 7) hx hb hts inX0 hown hK hP 0 rfl rfl 5 (by decide) (hts _ tb227) (fun _ h9 => h9) rfl dX0_undoLatest_57 ?_
  obtain ⟨g_3, hM⟩ := ng hM
  refine va_iald hx hb hK hP 1 0 rfl rfl g_3 dX0_undoLatest_60 ?_
  by_cases c_4 : (ac_sorts s1.toNatClampNeg) = 0
  · rw [if_pos c_4] at hM
    refine lv_tableIn (off := 31) (tgt := 92) hx hb dX0_undoLatest_61 (by rw [c_4]; decide) (by rw [c_4]; decide) (by rw [c_4]; decide) (by decide) ?_
    refine lv_aload_n hx hb dX0_undoLatest_92 rfl (lv_at hl 3 rfl) ?_
    refine lv_iload_n hx hb dX0_undoLatest_93 rfl (lv_at hl 1 rfl) ?_
    obtain ⟨r_5, hC, hM⟩ := oe1 hM
    refine cV_i (As := [.int (ac_firsts s1.toNatClampNeg)]) (rest := []) C0 hP hD hS [6, 7, 8, 9, 10] (kX2_hasWord l G K tt L la sa ln sy sn lt st po_a poA_sizes poA_kinds poA_spelled poA_scheme po_foot po_feet po_lines po_words po_sizes po_kinds po_spelled po_scheme (ac_firsts s1.toNatClampNeg) H.size r_5 hC) rfl rfl rfl tb414 tb415 tb416 tb7 tb417 hdX2_hasWord (va_recv hK hP (ci := 2) (q0 := 6) rfl rfl) ⟨Nat.le_of_ble_eq_true rfl, Nat.le_of_ble_eq_true rfl⟩ rfl hl.1 (Nat.le_of_ble_eq_true rfl) rfl ⟨Nat.le_refl _, Nat.le_refl _⟩ dX0_undoLatest_94 (fun H locs hP hD hS => ?_)
    have hP : va_P G vwCl (WX0_undoLatest K ac_a acA_sorts acA_firsts acA_seconds acA_takenKinds acA_takenSpellings po_a poA_sizes poA_kinds poA_spelled poA_scheme s1 (ac_kept - (1 : Int32)) ac_sorts ac_firsts ac_seconds ac_takenKinds ac_takenSpellings po_foot po_feet po_lines po_words po_sizes po_kinds po_spelled po_scheme) H := hP
    have hD : va_D A (WX0_undoLatest K ac_a acA_sorts acA_firsts acA_seconds acA_takenKinds acA_takenSpellings po_a poA_sizes poA_kinds poA_spelled poA_scheme s1 (ac_kept - (1 : Int32)) ac_sorts ac_firsts ac_seconds ac_takenKinds ac_takenSpellings po_foot po_feet po_lines po_words po_sizes po_kinds po_spelled po_scheme) := hD
    refine lv_if_eq (tgt := 165) hx hb dX0_undoLatest_97 (by decide) (fun c_6 => ?_) (fun c_6 => ?_)
    · rw [if_pos c_6] at hM
      have t0 := Option.some.inj hM
      obtain ⟨q1, t1⟩ := Prod.mk.inj t0
      obtain ⟨q2, t2⟩ := Prod.mk.inj t1
      obtain ⟨q3, t3⟩ := Prod.mk.inj t2
      obtain ⟨q4, t4⟩ := Prod.mk.inj t3
      obtain ⟨q5, t5⟩ := Prod.mk.inj t4
      obtain ⟨q6, t6⟩ := Prod.mk.inj t5
      obtain ⟨q7, t7⟩ := Prod.mk.inj t6
      subst q1
      subst q2
      subst q3
      subst q4
      subst q5
      subst q6
      subst q7
      subst t7
      exact kr _ _ _ _ dX0_undoLatest_165 hP hD hS
    · rw [if_neg c_6] at hM
      refine lv_aload_n hx hb dX0_undoLatest_100 rfl (lv_at hl 3 rfl) ?_
      refine va_get (D := G) (ci := 2) (v := .ref poA_kinds) (C := RX2) (T := TX2) (N := 8) hx hb hts inX2 hown hK hP 6 rfl rfl 5 (by decide) (hts _ tb191) (fun _ h9 => h9) rfl dX0_undoLatest_101 ?_
      refine lv_iload_n hx hb dX0_undoLatest_104 rfl (lv_at hl 1 rfl) ?_
      refine lv_iload_n hx hb dX0_undoLatest_105 rfl (lv_at hl 0 rfl) ?_
      obtain ⟨g_7, hM⟩ := ng hM
      refine va_iast hx hb hK hP hD hS 8 0 rfl rfl g_7 dX0_undoLatest_106 (fun H locs hP hD hS => ?_)
      have hP : va_P G vwCl (WX0_undoLatest K ac_a acA_sorts acA_firsts acA_seconds acA_takenKinds acA_takenSpellings po_a poA_sizes poA_kinds poA_spelled poA_scheme s1 (ac_kept - (1 : Int32)) ac_sorts ac_firsts ac_seconds ac_takenKinds ac_takenSpellings po_foot po_feet po_lines po_words po_sizes (upd po_kinds (ac_firsts s1.toNatClampNeg).toNatClampNeg (ac_seconds s1.toNatClampNeg)) po_spelled po_scheme) H := hP
      have hD : va_D A (WX0_undoLatest K ac_a acA_sorts acA_firsts acA_seconds acA_takenKinds acA_takenSpellings po_a poA_sizes poA_kinds poA_spelled poA_scheme s1 (ac_kept - (1 : Int32)) ac_sorts ac_firsts ac_seconds ac_takenKinds ac_takenSpellings po_foot po_feet po_lines po_words po_sizes (upd po_kinds (ac_firsts s1.toNatClampNeg).toNatClampNeg (ac_seconds s1.toNatClampNeg)) po_spelled po_scheme) := hD
      refine lv_goto (tgt := 165) hx hb dX0_undoLatest_107 (by decide) ?_
      have t0 := Option.some.inj hM
      obtain ⟨q1, t1⟩ := Prod.mk.inj t0
      obtain ⟨q2, t2⟩ := Prod.mk.inj t1
      obtain ⟨q3, t3⟩ := Prod.mk.inj t2
      obtain ⟨q4, t4⟩ := Prod.mk.inj t3
      obtain ⟨q5, t5⟩ := Prod.mk.inj t4
      obtain ⟨q6, t6⟩ := Prod.mk.inj t5
      obtain ⟨q7, t7⟩ := Prod.mk.inj t6
      subst q1
      subst q2
      subst q3
      subst q4
      subst q5
      subst q6
      subst q7
      subst t7
      exact kr _ _ _ _ dX0_undoLatest_165 hP hD hS
  · rw [if_neg c_4] at hM
    by_cases c_8 : (ac_sorts s1.toNatClampNeg) = 1
    · rw [if_pos c_8] at hM
      refine lv_tableIn (off := 49) (tgt := 110) hx hb dX0_undoLatest_61 (by rw [c_8]; decide) (by rw [c_8]; decide) (by rw [c_8]; decide) (by decide) ?_
      refine lv_aload_n hx hb dX0_undoLatest_110 rfl (lv_at hl 3 rfl) ?_
      refine lv_iload_n hx hb dX0_undoLatest_111 rfl (lv_at hl 0 rfl) ?_
      refine lv_iload_n hx hb dX0_undoLatest_112 rfl (lv_at hl 1 rfl) ?_
      obtain ⟨u0_9, u1_9, u2_9, u3_9, hC, hM⟩ := oe4 hM
      refine cV_v (As := [.int (ac_seconds s1.toNatClampNeg), .int (ac_firsts s1.toNatClampNeg)]) (rest := []) C0 hP hD hS [6, 7, 8, 9, 10] (kX2_remove l G K tt L la sa ln sy sn lt st po_a poA_sizes poA_kinds poA_spelled poA_scheme po_foot po_feet po_lines po_words po_sizes po_kinds po_spelled po_scheme (ac_seconds s1.toNatClampNeg) (ac_firsts s1.toNatClampNeg) H.size u0_9 u1_9 u2_9 u3_9 hC) rfl rfl rfl tb418 tb419 tb420 tb7 tb421 hdX2_remove (va_recv hK hP (ci := 2) (q0 := 6) rfl rfl) ⟨Nat.le_of_ble_eq_true rfl, Nat.le_of_ble_eq_true rfl⟩ rfl hl.1 (Nat.le_of_ble_eq_true rfl) rfl ⟨Nat.le_refl _, Nat.le_refl _⟩ dX0_undoLatest_113 (fun H locs hP hD hS => ?_)
      have hP : va_P G vwCl (WX0_undoLatest K ac_a acA_sorts acA_firsts acA_seconds acA_takenKinds acA_takenSpellings po_a poA_sizes poA_kinds poA_spelled poA_scheme s1 (ac_kept - (1 : Int32)) ac_sorts ac_firsts ac_seconds ac_takenKinds ac_takenSpellings po_foot po_feet po_lines u0_9 u1_9 u2_9 u3_9 po_scheme) H := hP
      have hD : va_D A (WX0_undoLatest K ac_a acA_sorts acA_firsts acA_seconds acA_takenKinds acA_takenSpellings po_a poA_sizes poA_kinds poA_spelled poA_scheme s1 (ac_kept - (1 : Int32)) ac_sorts ac_firsts ac_seconds ac_takenKinds ac_takenSpellings po_foot po_feet po_lines u0_9 u1_9 u2_9 u3_9 po_scheme) := hD
      refine lv_goto (tgt := 165) hx hb dX0_undoLatest_116 (by decide) ?_
      have t0 := Option.some.inj hM
      obtain ⟨q1, t1⟩ := Prod.mk.inj t0
      obtain ⟨q2, t2⟩ := Prod.mk.inj t1
      obtain ⟨q3, t3⟩ := Prod.mk.inj t2
      obtain ⟨q4, t4⟩ := Prod.mk.inj t3
      obtain ⟨q5, t5⟩ := Prod.mk.inj t4
      obtain ⟨q6, t6⟩ := Prod.mk.inj t5
      obtain ⟨q7, t7⟩ := Prod.mk.inj t6
      subst q1
      subst q2
      subst q3
      subst q4
      subst q5
      subst q6
      subst q7
      subst t7
      exact kr _ _ _ _ dX0_undoLatest_165 hP hD hS
    · rw [if_neg c_8] at hM
      by_cases c_10 : (ac_sorts s1.toNatClampNeg) = 2
      · rw [if_pos c_10] at hM
        refine lv_tableIn (off := 58) (tgt := 119) hx hb dX0_undoLatest_61 (by rw [c_10]; decide) (by rw [c_10]; decide) (by rw [c_10]; decide) (by decide) ?_
        refine lv_aload_n hx hb dX0_undoLatest_119 rfl (lv_at hl 3 rfl) ?_
        refine lv_iload_n hx hb dX0_undoLatest_120 rfl (lv_at hl 0 rfl) ?_
        refine lv_iload_n hx hb dX0_undoLatest_121 rfl (lv_at hl 1 rfl) ?_
        refine lv_aload_n hx hb dX0_undoLatest_122 rfl (lv_at hl 2 rfl) ?_
        refine va_get (D := G) (ci := 0) (v := .ref acA_takenSpellings) (C := RX0) (T := TX0) (N := 7) hx hb hts inX0 hown hK hP 0 rfl rfl 4 (by decide) (hts _ tb226) (fun _ h9 => h9) rfl dX0_undoLatest_123 ?_
        refine lv_aload_n hx hb dX0_undoLatest_126 rfl (lv_at hl 2 rfl) ?_
        refine va_get (D := G) (ci := 0) (v := .int s1) (C := RX0) (T := TX0) (N := 7) hx hb hts inX0 hown hK hP 0 rfl rfl 5 (by decide) (hts _ tb227) (fun _ h9 => h9) rfl dX0_undoLatest_127 ?_
        obtain ⟨g_11, hM⟩ := ng hM
        refine va_aldq hx hb hK hP 5 2 rfl rfl g_11 dX0_undoLatest_130 ?_
        show W p l e rmX0_undoLatest s m args below meth c H locs 0 0 Q (F0 m 131 ls [.ref (ac_takenSpellings s1.toNatClampNeg), .int (ac_firsts s1.toNatClampNeg), .int (ac_seconds s1.toNatClampNeg), .ref po_a])
        refine lv_aload_n hx hb dX0_undoLatest_131 rfl (lv_at hl 2 rfl) ?_
        refine va_get (D := G) (ci := 0) (v := .ref acA_takenKinds) (C := RX0) (T := TX0) (N := 7) hx hb hts inX0 hown hK hP 0 rfl rfl 3 (by decide) (hts _ tb225) (fun _ h9 => h9) rfl dX0_undoLatest_132 ?_
        refine lv_aload_n hx hb dX0_undoLatest_135 rfl (lv_at hl 2 rfl) ?_
        refine va_get (D := G) (ci := 0) (v := .int s1) (C := RX0) (T := TX0) (N := 7) hx hb hts inX0 hown hK hP 0 rfl rfl 5 (by decide) (hts _ tb227) (fun _ h9 => h9) rfl dX0_undoLatest_136 ?_
        obtain ⟨g_12, hM⟩ := ng hM
        refine va_iald hx hb hK hP 4 0 rfl rfl g_12 dX0_undoLatest_139 ?_
        obtain ⟨u0_13, u1_13, u2_13, u3_13, hC, hM⟩ := oe4 hM
        refine cV_v (As := [.int (ac_seconds s1.toNatClampNeg), .int (ac_firsts s1.toNatClampNeg), .ref (ac_takenSpellings s1.toNatClampNeg), .int (ac_takenKinds s1.toNatClampNeg)]) (rest := []) C0 hP hD hS [6, 7, 8, 9, 10] (kX2_insert l G K tt L la sa ln sy sn lt st po_a poA_sizes poA_kinds poA_spelled poA_scheme (ac_takenSpellings s1.toNatClampNeg) po_foot po_feet po_lines po_words po_sizes po_kinds po_spelled po_scheme (ac_seconds s1.toNatClampNeg) (ac_firsts s1.toNatClampNeg) (ac_takenKinds s1.toNatClampNeg) H.size u0_13 u1_13 u2_13 u3_13 hC) rfl rfl rfl tb423 tb389 tb390 tb7 tb391 hdX2_insert (va_recv hK hP (ci := 2) (q0 := 6) rfl rfl) ⟨Nat.le_of_ble_eq_true rfl, Nat.le_of_ble_eq_true rfl⟩ rfl hl.1 (Nat.le_of_ble_eq_true rfl) rfl ⟨Nat.le_refl _, Nat.le_refl _⟩ dX0_undoLatest_140 (fun H locs hP hD hS => ?_)
        have hP : va_P G vwCl (WX0_undoLatest K ac_a acA_sorts acA_firsts acA_seconds acA_takenKinds acA_takenSpellings po_a poA_sizes poA_kinds poA_spelled poA_scheme s1 (ac_kept - (1 : Int32)) ac_sorts ac_firsts ac_seconds ac_takenKinds ac_takenSpellings po_foot po_feet po_lines u0_13 u1_13 u2_13 u3_13 po_scheme) H := hP
        have hD : va_D A (WX0_undoLatest K ac_a acA_sorts acA_firsts acA_seconds acA_takenKinds acA_takenSpellings po_a poA_sizes poA_kinds poA_spelled poA_scheme s1 (ac_kept - (1 : Int32)) ac_sorts ac_firsts ac_seconds ac_takenKinds ac_takenSpellings po_foot po_feet po_lines u0_13 u1_13 u2_13 u3_13 po_scheme) := hD
        refine lv_goto (tgt := 165) hx hb dX0_undoLatest_143 (by decide) ?_
        have t0 := Option.some.inj hM
        obtain ⟨q1, t1⟩ := Prod.mk.inj t0
        obtain ⟨q2, t2⟩ := Prod.mk.inj t1
        obtain ⟨q3, t3⟩ := Prod.mk.inj t2
        obtain ⟨q4, t4⟩ := Prod.mk.inj t3
        obtain ⟨q5, t5⟩ := Prod.mk.inj t4
        obtain ⟨q6, t6⟩ := Prod.mk.inj t5
        obtain ⟨q7, t7⟩ := Prod.mk.inj t6
        subst q1
        subst q2
        subst q3
        subst q4
        subst q5
        subst q6
        subst q7
        subst t7
        exact kr _ _ _ _ dX0_undoLatest_165 hP hD hS
      · rw [if_neg c_10] at hM
        by_cases c_14 : (ac_sorts s1.toNatClampNeg) = 3
        · rw [if_pos c_14] at hM
          refine lv_tableIn (off := 85) (tgt := 146) hx hb dX0_undoLatest_61 (by rw [c_14]; decide) (by rw [c_14]; decide) (by rw [c_14]; decide) (by decide) ?_
          refine lv_aload_n hx hb dX0_undoLatest_146 rfl (lv_at hl 3 rfl) ?_
          refine lv_iload_n hx hb dX0_undoLatest_147 rfl (lv_at hl 1 rfl) ?_
          refine lv_iload_n hx hb dX0_undoLatest_148 rfl (lv_at hl 0 rfl) ?_
          obtain ⟨u0_15, u1_15, hC, hM⟩ := oe2 hM
          refine cV_v (As := [.int (ac_firsts s1.toNatClampNeg), .int (ac_seconds s1.toNatClampNeg)]) (rest := []) C0 hP hD hS [6, 7, 8, 9, 10] (kX2_exchange l G K tt L la sa ln sy sn lt st po_a poA_sizes poA_kinds poA_spelled poA_scheme po_foot po_feet po_lines po_words po_sizes po_kinds po_spelled po_scheme (ac_firsts s1.toNatClampNeg) (ac_seconds s1.toNatClampNeg) H.size u0_15 u1_15 hC) rfl rfl rfl tb424 tb425 tb426 tb7 tb427 hdX2_exchange (va_recv hK hP (ci := 2) (q0 := 6) rfl rfl) ⟨Nat.le_of_ble_eq_true rfl, Nat.le_of_ble_eq_true rfl⟩ rfl hl.1 (Nat.le_of_ble_eq_true rfl) rfl ⟨Nat.le_refl _, Nat.le_refl _⟩ dX0_undoLatest_149 (fun H locs hP hD hS => ?_)
          have hP : va_P G vwCl (WX0_undoLatest K ac_a acA_sorts acA_firsts acA_seconds acA_takenKinds acA_takenSpellings po_a poA_sizes poA_kinds poA_spelled poA_scheme s1 (ac_kept - (1 : Int32)) ac_sorts ac_firsts ac_seconds ac_takenKinds ac_takenSpellings po_foot po_feet po_lines po_words po_sizes u0_15 u1_15 po_scheme) H := hP
          have hD : va_D A (WX0_undoLatest K ac_a acA_sorts acA_firsts acA_seconds acA_takenKinds acA_takenSpellings po_a poA_sizes poA_kinds poA_spelled poA_scheme s1 (ac_kept - (1 : Int32)) ac_sorts ac_firsts ac_seconds ac_takenKinds ac_takenSpellings po_foot po_feet po_lines po_words po_sizes u0_15 u1_15 po_scheme) := hD
          refine lv_goto (tgt := 165) hx hb dX0_undoLatest_152 (by decide) ?_
          have t0 := Option.some.inj hM
          obtain ⟨q1, t1⟩ := Prod.mk.inj t0
          obtain ⟨q2, t2⟩ := Prod.mk.inj t1
          obtain ⟨q3, t3⟩ := Prod.mk.inj t2
          obtain ⟨q4, t4⟩ := Prod.mk.inj t3
          obtain ⟨q5, t5⟩ := Prod.mk.inj t4
          obtain ⟨q6, t6⟩ := Prod.mk.inj t5
          obtain ⟨q7, t7⟩ := Prod.mk.inj t6
          subst q1
          subst q2
          subst q3
          subst q4
          subst q5
          subst q6
          subst q7
          subst t7
          exact kr _ _ _ _ dX0_undoLatest_165 hP hD hS
        · rw [if_neg c_14] at hM
          refine lv_tableOut (tgt := 155) hx hb dX0_undoLatest_61 (by have q0 : (ac_sorts s1.toNatClampNeg).toInt ≠ 0 := (fun q => c_4 (Int32.toInt_inj.mp (q.trans (by decide)))); have q1 : (ac_sorts s1.toNatClampNeg).toInt ≠ 1 := (fun q => c_8 (Int32.toInt_inj.mp (q.trans (by decide)))); have q2 : (ac_sorts s1.toNatClampNeg).toInt ≠ 2 := (fun q => c_10 (Int32.toInt_inj.mp (q.trans (by decide)))); have q3 : (ac_sorts s1.toNatClampNeg).toInt ≠ 3 := (fun q => c_14 (Int32.toInt_inj.mp (q.trans (by decide)))); omega) (by decide) ?_
          refine lv_aload_n hx hb dX0_undoLatest_155 rfl (lv_at hl 3 rfl) ?_
          refine lv_iload_n hx hb dX0_undoLatest_156 rfl (lv_at hl 1 rfl) ?_
          refine va_put (D := G) (ci := 2) (v := .int (ac_firsts s1.toNatClampNeg)) (ty := .int) (C := RX2) (T := TX2) (N := 8) hx hb hts inX2 tyX2 tyX2_ok nmX2 hown hK hP hD hS 6 rfl rfl 0 (by decide) (hts _ tb174) (fun _ h9 => h9) rfl (tyX2_ok 0 (by decide)) rfl rfl (Nat.le_of_ble_eq_true rfl) dX0_undoLatest_157 (fun H locs hP hD hS => ?_)
          have hP : va_P G vwCl (WX0_undoLatest K ac_a acA_sorts acA_firsts acA_seconds acA_takenKinds acA_takenSpellings po_a poA_sizes poA_kinds poA_spelled poA_scheme s1 (ac_kept - (1 : Int32)) ac_sorts ac_firsts ac_seconds ac_takenKinds ac_takenSpellings (ac_firsts s1.toNatClampNeg) po_feet po_lines po_words po_sizes po_kinds po_spelled po_scheme) H := hP
          have hD : va_D A (WX0_undoLatest K ac_a acA_sorts acA_firsts acA_seconds acA_takenKinds acA_takenSpellings po_a poA_sizes poA_kinds poA_spelled poA_scheme s1 (ac_kept - (1 : Int32)) ac_sorts ac_firsts ac_seconds ac_takenKinds ac_takenSpellings (ac_firsts s1.toNatClampNeg) po_feet po_lines po_words po_sizes po_kinds po_spelled po_scheme) := hD
          refine lv_aload_n hx hb dX0_undoLatest_160 rfl (lv_at hl 3 rfl) ?_
          refine lv_iload_n hx hb dX0_undoLatest_161 rfl (lv_at hl 0 rfl) ?_
          refine va_put (D := G) (ci := 2) (v := .int (ac_seconds s1.toNatClampNeg)) (ty := .int) (C := RX2) (T := TX2) (N := 8) hx hb hts inX2 tyX2 tyX2_ok nmX2 hown hK hP hD hS 6 rfl rfl 1 (by decide) (hts _ tb178) (fun _ h9 => h9) rfl (tyX2_ok 1 (by decide)) rfl rfl (Nat.le_of_ble_eq_true rfl) dX0_undoLatest_162 (fun H locs hP hD hS => ?_)
          have hP : va_P G vwCl (WX0_undoLatest K ac_a acA_sorts acA_firsts acA_seconds acA_takenKinds acA_takenSpellings po_a poA_sizes poA_kinds poA_spelled poA_scheme s1 (ac_kept - (1 : Int32)) ac_sorts ac_firsts ac_seconds ac_takenKinds ac_takenSpellings (ac_firsts s1.toNatClampNeg) (ac_seconds s1.toNatClampNeg) po_lines po_words po_sizes po_kinds po_spelled po_scheme) H := hP
          have hD : va_D A (WX0_undoLatest K ac_a acA_sorts acA_firsts acA_seconds acA_takenKinds acA_takenSpellings po_a poA_sizes poA_kinds poA_spelled poA_scheme s1 (ac_kept - (1 : Int32)) ac_sorts ac_firsts ac_seconds ac_takenKinds ac_takenSpellings (ac_firsts s1.toNatClampNeg) (ac_seconds s1.toNatClampNeg) po_lines po_words po_sizes po_kinds po_spelled po_scheme) := hD
          have t0 := Option.some.inj hM
          obtain ⟨q1, t1⟩ := Prod.mk.inj t0
          obtain ⟨q2, t2⟩ := Prod.mk.inj t1
          obtain ⟨q3, t3⟩ := Prod.mk.inj t2
          obtain ⟨q4, t4⟩ := Prod.mk.inj t3
          obtain ⟨q5, t5⟩ := Prod.mk.inj t4
          obtain ⟨q6, t6⟩ := Prod.mk.inj t5
          obtain ⟨q7, t7⟩ := Prod.mk.inj t6
          subst q1
          subst q2
          subst q3
          subst q4
          subst q5
          subst q6
          subst q7
          subst t7
          exact kr _ _ _ _ dX0_undoLatest_165 hP hD hS
set_option maxHeartbeats 4000000 in
set_option maxRecDepth 100000 in
theorem wX0_undoLatest_b0 {p : Program} {l : Launch} {e : Env} {s : State} {m : MethodId} {args : Array Value} {below : List Frame} {meth : Method} {c : Code} {Q : State → Prop} {G : va_G} {K : Nat → ClassId} {A : Nat → Prop} {tt : Nat → Nat} {L : List Nat} {la : Nat → Nat} {sa : Nat → Nat} {ln : Nat → Int32} {sy : Nat → Int32} {sn : Nat → Int32} {lt : Nat → Nat → Int32} {st : Nat → Nat → Int32} (C0 : CX p s m args c cX0_undoLatest 4 RX0 G K (EC G K tt L la sa ln sy sn lt st) A) (ac_a acA_sorts acA_firsts acA_seconds acA_takenKinds acA_takenSpellings po_a poA_sizes poA_kinds poA_spelled poA_scheme : Nat) (ac_sorts : Nat → Int32) (ac_firsts : Nat → Int32) (ac_seconds : Nat → Int32) (ac_takenKinds : Nat → Int32) (ac_takenSpellings : Nat → Nat) (po_lines : Int32) (po_scheme : Nat → Int32)  (o_ac_next : Int32) (o_ac_kept : Int32) (o_po_foot : Int32) (o_po_feet : Int32) (o_po_words : Int32) (o_po_sizes : Nat → Int32) (o_po_kinds : Nat → Int32) (o_po_spelled : Nat → Nat) (kr : ∀ (H : Heap) (locs : List Loc) (ls : Array Slot) (pc : Nat), decode cX0_undoLatest pc = .ok (.return_, 1) → va_P G vwCl (WX0_undoLatest K ac_a acA_sorts acA_firsts acA_seconds acA_takenKinds acA_takenSpellings po_a poA_sizes poA_kinds poA_spelled poA_scheme o_ac_next o_ac_kept ac_sorts ac_firsts ac_seconds ac_takenKinds ac_takenSpellings o_po_foot o_po_feet po_lines o_po_words o_po_sizes o_po_kinds o_po_spelled po_scheme) H → va_D A (WX0_undoLatest K ac_a acA_sorts acA_firsts acA_seconds acA_takenKinds acA_takenSpellings po_a poA_sizes poA_kinds poA_spelled poA_scheme o_ac_next o_ac_kept ac_sorts ac_firsts ac_seconds ac_takenKinds ac_takenSpellings o_po_foot o_po_feet po_lines o_po_words o_po_sizes o_po_kinds o_po_spelled po_scheme) → va_S A s.heap H locs → W p l e rmX0_undoLatest s m args below meth c H locs 0 0 Q (F0 m pc ls [])) (ac_next : Int32) (ac_kept : Int32) (po_foot : Int32) (po_feet : Int32) (po_words : Int32) (po_sizes : Nat → Int32) (po_kinds : Nat → Int32) (po_spelled : Nat → Nat) (hM : mX0_undoLatest_b0 L ac_sorts ac_firsts ac_seconds ac_takenKinds ac_takenSpellings po_lines  ac_next ac_kept po_foot po_feet po_words po_sizes po_kinds po_spelled = some (o_ac_next, o_ac_kept, o_po_foot, o_po_feet, o_po_words, o_po_sizes, o_po_kinds, o_po_spelled)) : ∀ (H : Heap) (locs : List Loc) (ls : Array Slot), va_P G vwCl (WX0_undoLatest K ac_a acA_sorts acA_firsts acA_seconds acA_takenKinds acA_takenSpellings po_a poA_sizes poA_kinds poA_spelled poA_scheme ac_next ac_kept ac_sorts ac_firsts ac_seconds ac_takenKinds ac_takenSpellings po_foot po_feet po_lines po_words po_sizes po_kinds po_spelled po_scheme) H → va_D A (WX0_undoLatest K ac_a acA_sorts acA_firsts acA_seconds acA_takenKinds acA_takenSpellings po_a poA_sizes poA_kinds poA_spelled poA_scheme ac_next ac_kept ac_sorts ac_firsts ac_seconds ac_takenKinds ac_takenSpellings po_foot po_feet po_lines po_words po_sizes po_kinds po_spelled po_scheme) → va_S A s.heap H locs → lv_has ls 4 [(0, .ref ac_a), (1, .ref po_a)] → W p l e rmX0_undoLatest s m args below meth c H locs 0 0 Q (F0 m 0 ls []) := by
  obtain ⟨hx, hb, hml, hown, hts, hK, hA, hEo, hE⟩ := id C0
  intro H locs ls hP hD hS hl
  unfold mX0_undoLatest_b0 at hM
  refine lv_aload_n hx hb dX0_undoLatest_0 rfl (lv_at hl 0 rfl) ?_
  refine lv_aload_n hx hb dX0_undoLatest_1 rfl (lv_at hl 0 rfl) ?_
  refine va_get (D := G) (ci := 0) (v := .int ac_next) (C := RX0) (T := TX0) (N := 7) hx hb hts inX0 hown hK hP 0 rfl rfl 5 (by decide) (hts _ tb227) (fun _ h9 => h9) rfl dX0_undoLatest_2 ?_
  refine lv_if_le (tgt := 17) hx hb dX0_undoLatest_5 (by decide) (fun c_16 => ?_) (fun c_16 => ?_)
  · rw [if_pos c_16] at hM
    refine lv_bipush (v := 23) hx hb dX0_undoLatest_17 (by decide) ?_
    exact wX0_undoLatest_b19 C0 ac_a acA_sorts acA_firsts acA_seconds acA_takenKinds acA_takenSpellings po_a poA_sizes poA_kinds poA_spelled poA_scheme ac_sorts ac_firsts ac_seconds ac_takenKinds ac_takenSpellings po_lines po_scheme o_ac_next o_ac_kept o_po_foot o_po_feet o_po_words o_po_sizes o_po_kinds o_po_spelled kr  ac_next ac_kept po_foot po_feet po_words po_sizes po_kinds po_spelled (23 : Int32) hM _ _ _ hP hD hS (lv_sub hl [0, 1] rfl)
  · rw [if_neg c_16] at hM
    refine lv_aload_n hx hb dX0_undoLatest_8 rfl (lv_at hl 0 rfl) ?_
    refine va_get (D := G) (ci := 0) (v := .int ac_next) (C := RX0) (T := TX0) (N := 7) hx hb hts inX0 hown hK hP 0 rfl rfl 5 (by decide) (hts _ tb227) (fun _ h9 => h9) rfl dX0_undoLatest_9 ?_
    refine lv_iconst (v := 1) hx hb dX0_undoLatest_12 (by decide) ?_
    refine lv_isub hx hb dX0_undoLatest_13 ?_
    refine lv_goto (tgt := 19) hx hb dX0_undoLatest_14 (by decide) ?_
    exact wX0_undoLatest_b19 C0 ac_a acA_sorts acA_firsts acA_seconds acA_takenKinds acA_takenSpellings po_a poA_sizes poA_kinds poA_spelled poA_scheme ac_sorts ac_firsts ac_seconds ac_takenKinds ac_takenSpellings po_lines po_scheme o_ac_next o_ac_kept o_po_foot o_po_feet o_po_words o_po_sizes o_po_kinds o_po_spelled kr  ac_next ac_kept po_foot po_feet po_words po_sizes po_kinds po_spelled (ac_next - (1 : Int32)) hM _ _ _ hP hD hS (lv_sub hl [0, 1] rfl)
set_option maxHeartbeats 4000000 in
set_option maxRecDepth 100000 in
theorem kX0_undoLatest (l : Launch) (G : va_G) (K : Nat → ClassId) (tt : Nat → Nat) (L : List Nat) (la : Nat → Nat) (sa : Nat → Nat) (ln : Nat → Int32) (sy : Nat → Int32) (sn : Nat → Int32) (lt : Nat → Nat → Int32) (st : Nat → Nat → Int32) (ac_a acA_sorts acA_firsts acA_seconds acA_takenKinds acA_takenSpellings po_a poA_sizes poA_kinds poA_spelled poA_scheme : Nat) (ac_next : Int32) (ac_kept : Int32) (ac_sorts : Nat → Int32) (ac_firsts : Nat → Int32) (ac_seconds : Nat → Int32) (ac_takenKinds : Nat → Int32) (ac_takenSpellings : Nat → Nat) (po_foot : Int32) (po_feet : Int32) (po_lines : Int32) (po_words : Int32) (po_sizes : Nat → Int32) (po_kinds : Nat → Int32) (po_spelled : Nat → Nat) (po_scheme : Nat → Int32)  (sz : Nat) (o_ac_next : Int32) (o_ac_kept : Int32) (o_po_foot : Int32) (o_po_feet : Int32) (o_po_words : Int32) (o_po_sizes : Nat → Int32) (o_po_kinds : Nat → Int32) (o_po_spelled : Nat → Nat) (hM : mX0_undoLatest L ac_sorts ac_firsts ac_seconds ac_takenKinds ac_takenSpellings po_lines ac_next ac_kept po_foot po_feet po_words po_sizes po_kinds po_spelled = some (o_ac_next, o_ac_kept, o_po_foot, o_po_feet, o_po_words, o_po_sizes, o_po_kinds, o_po_spelled)) : Met l yX0_undoLatest (mC yX0_undoLatest cX0_undoLatest 4 none) rmX0_undoLatest (va_Pc [.ref ac_a, .ref po_a] (PCe G K (EC G K tt L la sa ln sy sn lt st) (WX0_undoLatest K ac_a acA_sorts acA_firsts acA_seconds acA_takenKinds acA_takenSpellings po_a poA_sizes poA_kinds poA_spelled poA_scheme ac_next ac_kept ac_sorts ac_firsts ac_seconds ac_takenKinds ac_takenSpellings po_foot po_feet po_lines po_words po_sizes po_kinds po_spelled po_scheme) sz)) (va_Qv (fun (_ : Unit) => True) (fun _ t => va_P G vwCl (WX0_undoLatest K ac_a acA_sorts acA_firsts acA_seconds acA_takenKinds acA_takenSpellings po_a poA_sizes poA_kinds poA_spelled poA_scheme o_ac_next o_ac_kept ac_sorts ac_firsts ac_seconds ac_takenKinds ac_takenSpellings o_po_foot o_po_feet po_lines o_po_words o_po_sizes o_po_kinds o_po_spelled po_scheme) t.heap) (va_A (WX0_undoLatest K ac_a acA_sorts acA_firsts acA_seconds acA_takenKinds acA_takenSpellings po_a poA_sizes poA_kinds poA_spelled poA_scheme ac_next ac_kept ac_sorts ac_firsts ac_seconds ac_takenKinds ac_takenSpellings po_foot po_feet po_lines po_words po_sizes po_kinds po_spelled po_scheme) sz)) rmX0_undoLatest.cells rmX0_undoLatest.slots (va_A (WX0_undoLatest K ac_a acA_sorts acA_firsts acA_seconds acA_takenKinds acA_takenSpellings po_a poA_sizes poA_kinds poA_spelled poA_scheme ac_next ac_kept ac_sorts ac_firsts ac_seconds ac_takenKinds ac_takenSpellings po_foot po_feet po_lines po_words po_sizes po_kinds po_spelled po_scheme) sz) := by
  refine Met.ofW (cc := cX0_undoLatest) (maxL := 4) (ret := none) (by decide) rfl ?_
  intro p e s m args below meth c s₁ B hml hv
  obtain ⟨rfl, hsz, hP, hK, hD0, hE⟩ := hv
  have hx := B.exec
  have hb := B.bytes
  have hr := B.returns
  have hts0 := atoms_spec (ws := mC yX0_undoLatest cX0_undoLatest 4 none) B.pre
  have hts : ∀ w ∈ tbG, w.before _ s = true := fun w h => hts0 w (List.mem_cons_of_mem _ h)
  have hown : s.vm.findClass RX0 = some m.cls := findClass_of_methodNamed B.named
  subst hsz
  have hD := hD0.self (sz := s.heap.size)
  generalize hAe : va_A (WX0_undoLatest K ac_a acA_sorts acA_firsts acA_seconds acA_takenKinds acA_takenSpellings po_a poA_sizes poA_kinds poA_spelled poA_scheme ac_next ac_kept ac_sorts ac_firsts ac_seconds ac_takenKinds ac_takenSpellings po_foot po_feet po_lines po_words po_sizes po_kinds po_spelled po_scheme) s.heap.size = A at hD hE ⊢
  have hA : ∀ q : Nat, s.heap.size ≤ q → A q := fun q h => by rw [← hAe]; exact Or.inr h
  have hS : va_S A s.heap s.heap [] := va_S.rf
  have hl := lv_entry ([.ref ac_a, .ref po_a]) (n := 4) (Nat.le_of_ble_eq_true rfl)
  rw [lg_entry_eq]
  generalize (lg_sl ([.ref ac_a, .ref po_a]) ++ List.replicate (4 - (lg_sl ([.ref ac_a, .ref po_a])).length) Slot.unset).toArray = ls at hl ⊢
  have hl : lv_has ls 4 [(0, .ref ac_a), (1, .ref po_a)] := hl
  exact wX0_undoLatest_b0 ⟨hx, hb, hml, hown, hts, hK, hA, EC_ok _ _ _ _ _ _ _ _ _ _ _, hE⟩ ac_a acA_sorts acA_firsts acA_seconds acA_takenKinds acA_takenSpellings po_a poA_sizes poA_kinds poA_spelled poA_scheme ac_sorts ac_firsts ac_seconds ac_takenKinds ac_takenSpellings po_lines po_scheme o_ac_next o_ac_kept o_po_foot o_po_feet o_po_words o_po_sizes o_po_kinds o_po_spelled (fun H locs ls pc hdg hP hD hS => W.vret hx hb hr (fun t ht hW => ⟨⟨(), rfl, trivial, (show va_P G vwCl _ t.heap by rw [ht]; exact hP)⟩, hS.F ht⟩) hS.2.2 hdg) ac_next ac_kept po_foot po_feet po_words po_sizes po_kinds po_spelled  hM _ _ _ hP hD hS hl
abbrev WX6_undo (K : Nat → ClassId) (x_a xA_rows rd_a v_a d_a xA_images ac_a er_a xA_hits xA_bodies vA_sizes vA_kinds vA_spelled vA_scheme acA_sorts acA_firsts acA_seconds acA_takenKinds acA_takenSpellings : Nat) (x_begun : Int32) (x_latestFault : Int32) (x_latestFinding : Int32) (v_foot : Int32) (v_feet : Int32) (v_lines : Int32) (v_words : Int32) (v_sizes : Nat → Int32) (v_kinds : Nat → Int32) (v_spelled : Nat → Nat) (v_scheme : Nat → Int32) (ac_next : Int32) (ac_kept : Int32) (ac_sorts : Nat → Int32) (ac_firsts : Nat → Int32) (ac_seconds : Nat → Int32) (ac_takenKinds : Nat → Int32) (ac_takenSpellings : Nat → Nat) : va_W := [(x_a, .inr (6, [.ref xA_rows, .ref rd_a, .ref v_a, .ref d_a, .ref xA_images, .ref ac_a, .ref er_a, .ref xA_hits, .ref xA_bodies, .int x_begun, .int x_latestFault, .int x_latestFinding])), (v_a, .inr (2, [.int v_foot, .int v_feet, .int v_lines, .int v_words, .ref vA_sizes, .ref vA_kinds, .ref vA_spelled, .ref vA_scheme])), aI K vA_sizes 4 v_sizes, aI K vA_kinds 20 v_kinds, aS K vA_spelled 20 v_spelled, aI K vA_scheme 4 v_scheme, (ac_a, .inr (0, [.ref acA_sorts, .ref acA_firsts, .ref acA_seconds, .ref acA_takenKinds, .ref acA_takenSpellings, .int ac_next, .int ac_kept])), aI K acA_sorts 24 ac_sorts, aI K acA_firsts 24 ac_firsts, aI K acA_seconds 24 ac_seconds, aI K acA_takenKinds 24 ac_takenKinds, aS K acA_takenSpellings 24 ac_takenSpellings]
def rmX6_undo : Room := { frames := 3, cells := 0, slots := 0, locals := 69 }
theorem hdX6_undo : yX6_undo.cls = RX6 ∧ yX6_undo.cls ≠ "java/lang/invoke/MethodHandle" ∧ yX6_undo.cls ≠ "java/lang/invoke/VarHandle" ∧ (parseMethodDescriptor yX6_undo.desc).map (fun d => d.parameters.length) = some 0 := by decide +kernel
set_option maxHeartbeats 4000000 in
set_option maxRecDepth 100000 in
theorem wX6_undo_b0 {p : Program} {l : Launch} {e : Env} {s : State} {m : MethodId} {args : Array Value} {below : List Frame} {meth : Method} {c : Code} {Q : State → Prop} {G : va_G} {K : Nat → ClassId} {A : Nat → Prop} {tt : Nat → Nat} {L : List Nat} {la : Nat → Nat} {sa : Nat → Nat} {ln : Nat → Int32} {sy : Nat → Int32} {sn : Nat → Int32} {lt : Nat → Nat → Int32} {st : Nat → Nat → Int32} (C0 : CX p s m args c cX6_undo 1 RX6 G K (EC G K tt L la sa ln sy sn lt st) A) (x_a xA_rows rd_a v_a d_a xA_images ac_a er_a xA_hits xA_bodies vA_sizes vA_kinds vA_spelled vA_scheme acA_sorts acA_firsts acA_seconds acA_takenKinds acA_takenSpellings : Nat) (x_begun : Int32) (x_latestFault : Int32) (x_latestFinding : Int32) (v_lines : Int32) (v_scheme : Nat → Int32) (ac_sorts : Nat → Int32) (ac_firsts : Nat → Int32) (ac_seconds : Nat → Int32) (ac_takenKinds : Nat → Int32) (ac_takenSpellings : Nat → Nat)  (r : Int32) (o_v_foot : Int32) (o_v_feet : Int32) (o_v_words : Int32) (o_v_sizes : Nat → Int32) (o_v_kinds : Nat → Int32) (o_v_spelled : Nat → Nat) (o_ac_next : Int32) (o_ac_kept : Int32) (kr : ∀ (H : Heap) (locs : List Loc) (ls : Array Slot) (pc : Nat), decode cX6_undo pc = .ok (.ireturn, 1) → va_P G vwCl (WX6_undo K x_a xA_rows rd_a v_a d_a xA_images ac_a er_a xA_hits xA_bodies vA_sizes vA_kinds vA_spelled vA_scheme acA_sorts acA_firsts acA_seconds acA_takenKinds acA_takenSpellings x_begun x_latestFault x_latestFinding o_v_foot o_v_feet v_lines o_v_words o_v_sizes o_v_kinds o_v_spelled v_scheme o_ac_next o_ac_kept ac_sorts ac_firsts ac_seconds ac_takenKinds ac_takenSpellings) H → va_D A (WX6_undo K x_a xA_rows rd_a v_a d_a xA_images ac_a er_a xA_hits xA_bodies vA_sizes vA_kinds vA_spelled vA_scheme acA_sorts acA_firsts acA_seconds acA_takenKinds acA_takenSpellings x_begun x_latestFault x_latestFinding o_v_foot o_v_feet v_lines o_v_words o_v_sizes o_v_kinds o_v_spelled v_scheme o_ac_next o_ac_kept ac_sorts ac_firsts ac_seconds ac_takenKinds ac_takenSpellings) → va_S A s.heap H locs → W p l e rmX6_undo s m args below meth c H locs 0 0 Q (F0 m pc ls [.int r])) (v_foot : Int32) (v_feet : Int32) (v_words : Int32) (v_sizes : Nat → Int32) (v_kinds : Nat → Int32) (v_spelled : Nat → Nat) (ac_next : Int32) (ac_kept : Int32) (hM : mX6_undo_b0 L v_lines ac_sorts ac_firsts ac_seconds ac_takenKinds ac_takenSpellings  v_foot v_feet v_words v_sizes v_kinds v_spelled ac_next ac_kept = some (r, o_v_foot, o_v_feet, o_v_words, o_v_sizes, o_v_kinds, o_v_spelled, o_ac_next, o_ac_kept)) : ∀ (H : Heap) (locs : List Loc) (ls : Array Slot), va_P G vwCl (WX6_undo K x_a xA_rows rd_a v_a d_a xA_images ac_a er_a xA_hits xA_bodies vA_sizes vA_kinds vA_spelled vA_scheme acA_sorts acA_firsts acA_seconds acA_takenKinds acA_takenSpellings x_begun x_latestFault x_latestFinding v_foot v_feet v_lines v_words v_sizes v_kinds v_spelled v_scheme ac_next ac_kept ac_sorts ac_firsts ac_seconds ac_takenKinds ac_takenSpellings) H → va_D A (WX6_undo K x_a xA_rows rd_a v_a d_a xA_images ac_a er_a xA_hits xA_bodies vA_sizes vA_kinds vA_spelled vA_scheme acA_sorts acA_firsts acA_seconds acA_takenKinds acA_takenSpellings x_begun x_latestFault x_latestFinding v_foot v_feet v_lines v_words v_sizes v_kinds v_spelled v_scheme ac_next ac_kept ac_sorts ac_firsts ac_seconds ac_takenKinds ac_takenSpellings) → va_S A s.heap H locs → lv_has ls 1 [(0, .ref x_a)] → W p l e rmX6_undo s m args below meth c H locs 0 0 Q (F0 m 0 ls []) := by
  obtain ⟨hx, hb, hml, hown, hts, hK, hA, hEo, hE⟩ := id C0
  intro H locs ls hP hD hS hl
  unfold mX6_undo_b0 at hM
  refine lv_aload_n hx hb dX6_undo_0 rfl (lv_at hl 0 rfl) ?_
  refine va_get (D := G) (ci := 6) (v := .ref ac_a) (C := RX6) (T := TX6) (N := 12) hx hb hts inX6 hown hK hP 0 rfl rfl 5 (by decide) (hts _ tb250) (fun _ h9 => h9) rfl dX6_undo_1 ?_
  refine va_get (D := G) (ci := 0) (v := .int ac_kept) (C := RX0) (T := TX0) (N := 7) hx hb hts inX0 hown hK hP 6 rfl rfl 6 (by decide) (hts _ tb229) (fun _ h9 => h9) rfl dX6_undo_4 ?_
  refine lv_if_gt (tgt := 13) hx hb dX6_undo_7 (by decide) (fun c_1 => ?_) (fun c_1 => ?_)
  · rw [if_pos c_1] at hM
    refine lv_aload_n hx hb dX6_undo_13 rfl (lv_at hl 0 rfl) ?_
    refine va_get (D := G) (ci := 6) (v := .ref ac_a) (C := RX6) (T := TX6) (N := 12) hx hb hts inX6 hown hK hP 0 rfl rfl 5 (by decide) (hts _ tb250) (fun _ h9 => h9) rfl dX6_undo_14 ?_
    refine lv_aload_n hx hb dX6_undo_17 rfl (lv_at hl 0 rfl) ?_
    refine va_get (D := G) (ci := 6) (v := .ref v_a) (C := RX6) (T := TX6) (N := 12) hx hb hts inX6 hown hK hP 0 rfl rfl 2 (by decide) (hts _ tb247) (fun _ h9 => h9) rfl dX6_undo_18 ?_
    obtain ⟨u0_2, u1_2, u2_2, u3_2, u4_2, u5_2, u6_2, u7_2, hC, hM⟩ := oe8 hM
    refine cV_v (As := [.ref v_a]) (rest := []) C0 hP hD hS [6, 7, 8, 9, 10, 11, 1, 2, 3, 4, 5] (kX0_undoLatest l G K tt L la sa ln sy sn lt st ac_a acA_sorts acA_firsts acA_seconds acA_takenKinds acA_takenSpellings v_a vA_sizes vA_kinds vA_spelled vA_scheme ac_next ac_kept ac_sorts ac_firsts ac_seconds ac_takenKinds ac_takenSpellings v_foot v_feet v_lines v_words v_sizes v_kinds v_spelled v_scheme H.size u0_2 u1_2 u2_2 u3_2 u4_2 u5_2 u6_2 u7_2 hC) rfl rfl rfl tb410 tb411 tb412 tb8 tb413 hdX0_undoLatest (va_recv hK hP (ci := 0) (q0 := 6) rfl rfl) ⟨Nat.le_of_ble_eq_true rfl, Nat.le_of_ble_eq_true rfl⟩ rfl hl.1 (Nat.le_of_ble_eq_true rfl) rfl ⟨Nat.le_refl _, Nat.le_refl _⟩ dX6_undo_21 (fun H locs hP hD hS => ?_)
    have hP : va_P G vwCl (WX6_undo K x_a xA_rows rd_a v_a d_a xA_images ac_a er_a xA_hits xA_bodies vA_sizes vA_kinds vA_spelled vA_scheme acA_sorts acA_firsts acA_seconds acA_takenKinds acA_takenSpellings x_begun x_latestFault x_latestFinding u2_2 u3_2 v_lines u4_2 u5_2 u6_2 u7_2 v_scheme u0_2 u1_2 ac_sorts ac_firsts ac_seconds ac_takenKinds ac_takenSpellings) H := hP
    have hD : va_D A (WX6_undo K x_a xA_rows rd_a v_a d_a xA_images ac_a er_a xA_hits xA_bodies vA_sizes vA_kinds vA_spelled vA_scheme acA_sorts acA_firsts acA_seconds acA_takenKinds acA_takenSpellings x_begun x_latestFault x_latestFinding u2_2 u3_2 v_lines u4_2 u5_2 u6_2 u7_2 v_scheme u0_2 u1_2 ac_sorts ac_firsts ac_seconds ac_takenKinds ac_takenSpellings) := hD
    refine lv_aload_n hx hb dX6_undo_24 rfl (lv_at hl 0 rfl) ?_
    refine va_get (D := G) (ci := 6) (v := .ref ac_a) (C := RX6) (T := TX6) (N := 12) hx hb hts inX6 hown hK hP 0 rfl rfl 5 (by decide) (hts _ tb250) (fun _ h9 => h9) rfl dX6_undo_25 ?_
    refine va_get (D := G) (ci := 0) (v := .int u1_2) (C := RX0) (T := TX0) (N := 7) hx hb hts inX0 hown hK hP 6 rfl rfl 6 (by decide) (hts _ tb229) (fun _ h9 => h9) rfl dX6_undo_28 ?_
    have t0 := Option.some.inj hM
    obtain ⟨q1, t1⟩ := Prod.mk.inj t0
    obtain ⟨q2, t2⟩ := Prod.mk.inj t1
    obtain ⟨q3, t3⟩ := Prod.mk.inj t2
    obtain ⟨q4, t4⟩ := Prod.mk.inj t3
    obtain ⟨q5, t5⟩ := Prod.mk.inj t4
    obtain ⟨q6, t6⟩ := Prod.mk.inj t5
    obtain ⟨q7, t7⟩ := Prod.mk.inj t6
    obtain ⟨q8, t8⟩ := Prod.mk.inj t7
    subst q1
    subst q2
    subst q3
    subst q4
    subst q5
    subst q6
    subst q7
    subst q8
    subst t8
    exact kr _ _ _ _ dX6_undo_31 hP hD hS
  · rw [if_neg c_1] at hM
    refine lv_ldc (v := -1000002) hx hb hown (hts _ tb409) dX6_undo_10 ?_
    have t0 := Option.some.inj hM
    obtain ⟨q1, t1⟩ := Prod.mk.inj t0
    obtain ⟨q2, t2⟩ := Prod.mk.inj t1
    obtain ⟨q3, t3⟩ := Prod.mk.inj t2
    obtain ⟨q4, t4⟩ := Prod.mk.inj t3
    obtain ⟨q5, t5⟩ := Prod.mk.inj t4
    obtain ⟨q6, t6⟩ := Prod.mk.inj t5
    obtain ⟨q7, t7⟩ := Prod.mk.inj t6
    obtain ⟨q8, t8⟩ := Prod.mk.inj t7
    subst q1
    subst q2
    subst q3
    subst q4
    subst q5
    subst q6
    subst q7
    subst q8
    subst t8
    exact kr _ _ _ _ dX6_undo_12 hP hD hS
set_option maxHeartbeats 4000000 in
set_option maxRecDepth 100000 in
theorem kX6_undo (l : Launch) (G : va_G) (K : Nat → ClassId) (tt : Nat → Nat) (L : List Nat) (la : Nat → Nat) (sa : Nat → Nat) (ln : Nat → Int32) (sy : Nat → Int32) (sn : Nat → Int32) (lt : Nat → Nat → Int32) (st : Nat → Nat → Int32) (x_a xA_rows rd_a v_a d_a xA_images ac_a er_a xA_hits xA_bodies vA_sizes vA_kinds vA_spelled vA_scheme acA_sorts acA_firsts acA_seconds acA_takenKinds acA_takenSpellings : Nat) (x_begun : Int32) (x_latestFault : Int32) (x_latestFinding : Int32) (v_foot : Int32) (v_feet : Int32) (v_lines : Int32) (v_words : Int32) (v_sizes : Nat → Int32) (v_kinds : Nat → Int32) (v_spelled : Nat → Nat) (v_scheme : Nat → Int32) (ac_next : Int32) (ac_kept : Int32) (ac_sorts : Nat → Int32) (ac_firsts : Nat → Int32) (ac_seconds : Nat → Int32) (ac_takenKinds : Nat → Int32) (ac_takenSpellings : Nat → Nat)  (sz : Nat) (r : Int32) (o_v_foot : Int32) (o_v_feet : Int32) (o_v_words : Int32) (o_v_sizes : Nat → Int32) (o_v_kinds : Nat → Int32) (o_v_spelled : Nat → Nat) (o_ac_next : Int32) (o_ac_kept : Int32) (hM : mX6_undo L v_lines ac_sorts ac_firsts ac_seconds ac_takenKinds ac_takenSpellings v_foot v_feet v_words v_sizes v_kinds v_spelled ac_next ac_kept = some (r, o_v_foot, o_v_feet, o_v_words, o_v_sizes, o_v_kinds, o_v_spelled, o_ac_next, o_ac_kept)) : Met l yX6_undo (mC yX6_undo cX6_undo 1 (some .int)) rmX6_undo (va_Pc [.ref x_a] (PCe G K (EC G K tt L la sa ln sy sn lt st) (WX6_undo K x_a xA_rows rd_a v_a d_a xA_images ac_a er_a xA_hits xA_bodies vA_sizes vA_kinds vA_spelled vA_scheme acA_sorts acA_firsts acA_seconds acA_takenKinds acA_takenSpellings x_begun x_latestFault x_latestFinding v_foot v_feet v_lines v_words v_sizes v_kinds v_spelled v_scheme ac_next ac_kept ac_sorts ac_firsts ac_seconds ac_takenKinds ac_takenSpellings) sz)) (va_Qi (fun (x : Int32) (_ : Unit) => x = r) (fun _ t => va_P G vwCl (WX6_undo K x_a xA_rows rd_a v_a d_a xA_images ac_a er_a xA_hits xA_bodies vA_sizes vA_kinds vA_spelled vA_scheme acA_sorts acA_firsts acA_seconds acA_takenKinds acA_takenSpellings x_begun x_latestFault x_latestFinding o_v_foot o_v_feet v_lines o_v_words o_v_sizes o_v_kinds o_v_spelled v_scheme o_ac_next o_ac_kept ac_sorts ac_firsts ac_seconds ac_takenKinds ac_takenSpellings) t.heap) (va_A (WX6_undo K x_a xA_rows rd_a v_a d_a xA_images ac_a er_a xA_hits xA_bodies vA_sizes vA_kinds vA_spelled vA_scheme acA_sorts acA_firsts acA_seconds acA_takenKinds acA_takenSpellings x_begun x_latestFault x_latestFinding v_foot v_feet v_lines v_words v_sizes v_kinds v_spelled v_scheme ac_next ac_kept ac_sorts ac_firsts ac_seconds ac_takenKinds ac_takenSpellings) sz)) rmX6_undo.cells rmX6_undo.slots (va_A (WX6_undo K x_a xA_rows rd_a v_a d_a xA_images ac_a er_a xA_hits xA_bodies vA_sizes vA_kinds vA_spelled vA_scheme acA_sorts acA_firsts acA_seconds acA_takenKinds acA_takenSpellings x_begun x_latestFault x_latestFinding v_foot v_feet v_lines v_words v_sizes v_kinds v_spelled v_scheme ac_next ac_kept ac_sorts ac_firsts ac_seconds ac_takenKinds ac_takenSpellings) sz) := by
  refine Met.ofW (cc := cX6_undo) (maxL := 1) (ret := (some .int)) (by decide) rfl ?_
  intro p e s m args below meth c s₁ B hml hv
  obtain ⟨rfl, hsz, hP, hK, hD0, hE⟩ := hv
  have hx := B.exec
  have hb := B.bytes
  have hr := B.returns
  have hts0 := atoms_spec (ws := mC yX6_undo cX6_undo 1 (some .int)) B.pre
  have hts : ∀ w ∈ tbG, w.before _ s = true := fun w h => hts0 w (List.mem_cons_of_mem _ h)
  have hown : s.vm.findClass RX6 = some m.cls := findClass_of_methodNamed B.named
  subst hsz
  have hD := hD0.self (sz := s.heap.size)
  generalize hAe : va_A (WX6_undo K x_a xA_rows rd_a v_a d_a xA_images ac_a er_a xA_hits xA_bodies vA_sizes vA_kinds vA_spelled vA_scheme acA_sorts acA_firsts acA_seconds acA_takenKinds acA_takenSpellings x_begun x_latestFault x_latestFinding v_foot v_feet v_lines v_words v_sizes v_kinds v_spelled v_scheme ac_next ac_kept ac_sorts ac_firsts ac_seconds ac_takenKinds ac_takenSpellings) s.heap.size = A at hD hE ⊢
  have hA : ∀ q : Nat, s.heap.size ≤ q → A q := fun q h => by rw [← hAe]; exact Or.inr h
  have hS : va_S A s.heap s.heap [] := va_S.rf
  have hl := lv_entry ([.ref x_a]) (n := 1) (Nat.le_of_ble_eq_true rfl)
  rw [lg_entry_eq]
  generalize (lg_sl ([.ref x_a]) ++ List.replicate (1 - (lg_sl ([.ref x_a])).length) Slot.unset).toArray = ls at hl ⊢
  have hl : lv_has ls 1 [(0, .ref x_a)] := hl
  exact wX6_undo_b0 ⟨hx, hb, hml, hown, hts, hK, hA, EC_ok _ _ _ _ _ _ _ _ _ _ _, hE⟩ x_a xA_rows rd_a v_a d_a xA_images ac_a er_a xA_hits xA_bodies vA_sizes vA_kinds vA_spelled vA_scheme acA_sorts acA_firsts acA_seconds acA_takenKinds acA_takenSpellings x_begun x_latestFault x_latestFinding v_lines v_scheme ac_sorts ac_firsts ac_seconds ac_takenKinds ac_takenSpellings r o_v_foot o_v_feet o_v_words o_v_sizes o_v_kinds o_v_spelled o_ac_next o_ac_kept (fun H locs ls pc hdg hP hD hS => W.iret (v := r) hx hb hr (fun t ht hW => ⟨⟨r, (), rfl, rfl, (show va_P G vwCl _ t.heap by rw [ht]; exact hP)⟩, hS.F ht⟩) hS.2.2 hdg) v_foot v_feet v_words v_sizes v_kinds v_spelled ac_next ac_kept  hM _ _ _ hP hD hS hl
def rmX6_isKind : Room := { frames := 0, cells := 0, slots := 0, locals := 0 }
theorem hdX6_isKind : yX6_isKind.cls ≠ "java/lang/invoke/MethodHandle" ∧ yX6_isKind.cls ≠ "java/lang/invoke/VarHandle" ∧ (parseMethodDescriptor yX6_isKind.desc).map (fun d => d.parameters.length) = some 1 := by decide +kernel
set_option maxHeartbeats 4000000 in
set_option maxRecDepth 100000 in
theorem wX6_isKind_b0 {p : Program} {l : Launch} {e : Env} {s : State} {m : MethodId} {args : Array Value} {below : List Frame} {meth : Method} {c : Code} {Q : State → Prop} {G : va_G} {K : Nat → ClassId} {A : Nat → Prop} {tt : Nat → Nat} {L : List Nat} {la : Nat → Nat} {sa : Nat → Nat} {ln : Nat → Int32} {sy : Nat → Int32} {sn : Nat → Int32} {lt : Nat → Nat → Int32} {st : Nat → Nat → Int32} (C0 : CX p s m args c cX6_isKind 1 RX6 G K (EC G K tt L la sa ln sy sn lt st) A)  (p1 : Int32) (r : Int32)  (kr : ∀ (H : Heap) (locs : List Loc) (ls : Array Slot) (pc : Nat), decode cX6_isKind pc = .ok (.ireturn, 1) → (r = 0 ∨ r = 1) → va_P G vwCl [] H → va_D A [] → va_S A s.heap H locs → W p l e rmX6_isKind s m args below meth c H locs 0 0 Q (F0 m pc ls [.int r]))  (hM : mX6_isKind_b0 p1   = some r) : ∀ (H : Heap) (locs : List Loc) (ls : Array Slot), va_P G vwCl [] H → va_D A [] → va_S A s.heap H locs → lv_has ls 1 [(0, .int p1)] → W p l e rmX6_isKind s m args below meth c H locs 0 0 Q (F0 m 0 ls []) := by
  obtain ⟨hx, hb, hml, hown, hts, hK, hA, hEo, hE⟩ := id C0
  intro H locs ls hP hD hS hl
  unfold mX6_isKind_b0 at hM
  refine lv_iload_n hx hb dX6_isKind_0 rfl (lv_at hl 0 rfl) ?_
  refine lv_iconst (v := 1) hx hb dX6_isKind_1 (by decide) ?_
  refine lv_icmp_lt (tgt := 14) hx hb dX6_isKind_2 (by decide) (fun c_1 => ?_) (fun c_1 => ?_)
  · rw [if_pos c_1] at hM
    refine lv_iconst (v := 0) hx hb dX6_isKind_14 (by decide) ?_
    have q1 := Option.some.inj hM
    subst q1
    exact kr _ _ _ _ dX6_isKind_15 (by decide) hP hD hS
  · rw [if_neg c_1] at hM
    refine lv_iload_n hx hb dX6_isKind_5 rfl (lv_at hl 0 rfl) ?_
    refine lv_iconst (v := 5) hx hb dX6_isKind_6 (by decide) ?_
    refine lv_icmp_gt (tgt := 14) hx hb dX6_isKind_7 (by decide) (fun c_2 => ?_) (fun c_2 => ?_)
    · rw [if_pos c_2] at hM
      refine lv_iconst (v := 0) hx hb dX6_isKind_14 (by decide) ?_
      have q1 := Option.some.inj hM
      subst q1
      exact kr _ _ _ _ dX6_isKind_15 (by decide) hP hD hS
    · rw [if_neg c_2] at hM
      refine lv_iconst (v := 1) hx hb dX6_isKind_10 (by decide) ?_
      refine lv_goto (tgt := 15) hx hb dX6_isKind_11 (by decide) ?_
      have q1 := Option.some.inj hM
      subst q1
      exact kr _ _ _ _ dX6_isKind_15 (by decide) hP hD hS
set_option maxHeartbeats 4000000 in
set_option maxRecDepth 100000 in
theorem kX6_isKind (l : Launch) (G : va_G) (K : Nat → ClassId) (tt : Nat → Nat) (L : List Nat) (la : Nat → Nat) (sa : Nat → Nat) (ln : Nat → Int32) (sy : Nat → Int32) (sn : Nat → Int32) (lt : Nat → Nat → Int32) (st : Nat → Nat → Int32)  (p1 : Int32) (sz : Nat) (r : Int32)  (hM : mX6_isKind p1 = some r) : Met l yX6_isKind (mC yX6_isKind cX6_isKind 1 (some .boolean)) rmX6_isKind (va_Pc [.int p1] (PCe G K (EC G K tt L la sa ln sy sn lt st) [] sz)) (va_Qi (fun (x : Int32) (_ : Unit) => x = r) (fun _ t => va_P G vwCl [] t.heap) (va_A [] sz)) rmX6_isKind.cells rmX6_isKind.slots (va_A [] sz) := by
  refine Met.ofW (cc := cX6_isKind) (maxL := 1) (ret := (some .boolean)) (by decide) rfl ?_
  intro p e s m args below meth c s₁ B hml hv
  obtain ⟨rfl, hsz, hP, hK, hD0, hE⟩ := hv
  have hx := B.exec
  have hb := B.bytes
  have hr := B.returns
  have hts0 := atoms_spec (ws := mC yX6_isKind cX6_isKind 1 (some .boolean)) B.pre
  have hts : ∀ w ∈ tbG, w.before _ s = true := fun w h => hts0 w (List.mem_cons_of_mem _ h)
  have hown : s.vm.findClass RX6 = some m.cls := findClass_of_methodNamed B.named
  subst hsz
  have hD := hD0.self (sz := s.heap.size)
  generalize hAe : va_A [] s.heap.size = A at hD hE ⊢
  have hA : ∀ q : Nat, s.heap.size ≤ q → A q := fun q h => by rw [← hAe]; exact Or.inr h
  have hS : va_S A s.heap s.heap [] := va_S.rf
  have hl := lv_entry ([.int p1]) (n := 1) (Nat.le_of_ble_eq_true rfl)
  rw [lg_entry_eq]
  generalize (lg_sl ([.int p1]) ++ List.replicate (1 - (lg_sl ([.int p1])).length) Slot.unset).toArray = ls at hl ⊢
  have hl : lv_has ls 1 [(0, .int p1)] := hl
  exact wX6_isKind_b0 ⟨hx, hb, hml, hown, hts, hK, hA, EC_ok _ _ _ _ _ _ _ _ _ _ _, hE⟩ p1 r (fun H locs ls pc hdg hz hP hD hS => W.zret (v := r) (ty := .boolean) hx hb hr (nar_b hz) (fun t ht hW => ⟨⟨r, (), rfl, rfl, (show va_P G vwCl _ t.heap by rw [ht]; exact hP)⟩, hS.F ht⟩) hS.2.2 hdg)   hM _ _ _ hP hD hS hl
abbrev WX0_keep (K : Nat → ClassId) (ac_a acA_sorts acA_firsts acA_seconds acA_takenKinds acA_takenSpellings : Nat) (ac_next : Int32) (ac_kept : Int32) (ac_sorts : Nat → Int32) (ac_firsts : Nat → Int32) (ac_seconds : Nat → Int32) (ac_takenKinds : Nat → Int32) (ac_takenSpellings : Nat → Nat) : va_W := [(ac_a, .inr (0, [.ref acA_sorts, .ref acA_firsts, .ref acA_seconds, .ref acA_takenKinds, .ref acA_takenSpellings, .int ac_next, .int ac_kept])), aI K acA_sorts 24 ac_sorts, aI K acA_firsts 24 ac_firsts, aI K acA_seconds 24 ac_seconds, aI K acA_takenKinds 24 ac_takenKinds, aS K acA_takenSpellings 24 ac_takenSpellings]
def rmX0_keep : Room := { frames := 1, cells := 0, slots := 0, locals := 23 }
theorem hdX0_keep : yX0_keep.cls = RX0 ∧ yX0_keep.cls ≠ "java/lang/invoke/MethodHandle" ∧ yX0_keep.cls ≠ "java/lang/invoke/VarHandle" ∧ (parseMethodDescriptor yX0_keep.desc).map (fun d => d.parameters.length) = some 3 := by decide +kernel
set_option maxHeartbeats 4000000 in
set_option maxRecDepth 100000 in
theorem wX0_keep_b52 {p : Program} {l : Launch} {e : Env} {s : State} {m : MethodId} {args : Array Value} {below : List Frame} {meth : Method} {c : Code} {Q : State → Prop} {G : va_G} {K : Nat → ClassId} {A : Nat → Prop} {tt : Nat → Nat} {L : List Nat} {la : Nat → Nat} {sa : Nat → Nat} {ln : Nat → Int32} {sy : Nat → Int32} {sn : Nat → Int32} {lt : Nat → Nat → Int32} {st : Nat → Nat → Int32} (C0 : CX p s m args c cX0_keep 4 RX0 G K (EC G K tt L la sa ln sy sn lt st) A) (ac_a acA_sorts acA_firsts acA_seconds acA_takenKinds acA_takenSpellings : Nat) (ac_takenKinds : Nat → Int32) (ac_takenSpellings : Nat → Nat) (p1 : Int32) (p2 : Int32) (p3 : Int32) (o_ac_next : Int32) (o_ac_kept : Int32) (o_ac_sorts : Nat → Int32) (o_ac_firsts : Nat → Int32) (o_ac_seconds : Nat → Int32) (kr : ∀ (H : Heap) (locs : List Loc) (ls : Array Slot) (pc : Nat), decode cX0_keep pc = .ok (.return_, 1) → va_P G vwCl (WX0_keep K ac_a acA_sorts acA_firsts acA_seconds acA_takenKinds acA_takenSpellings o_ac_next o_ac_kept o_ac_sorts o_ac_firsts o_ac_seconds ac_takenKinds ac_takenSpellings) H → va_D A (WX0_keep K ac_a acA_sorts acA_firsts acA_seconds acA_takenKinds acA_takenSpellings o_ac_next o_ac_kept o_ac_sorts o_ac_firsts o_ac_seconds ac_takenKinds ac_takenSpellings) → va_S A s.heap H locs → W p l e rmX0_keep s m args below meth c H locs 0 0 Q (F0 m pc ls [])) (ac_next : Int32) (ac_kept : Int32) (ac_sorts : Nat → Int32) (ac_firsts : Nat → Int32) (ac_seconds : Nat → Int32) (s1 : Int32) (hM : mX0_keep_b52 p1 p2 p3  ac_next ac_kept ac_sorts ac_firsts ac_seconds s1 = some (o_ac_next, o_ac_kept, o_ac_sorts, o_ac_firsts, o_ac_seconds)) : ∀ (H : Heap) (locs : List Loc) (ls : Array Slot), va_P G vwCl (WX0_keep K ac_a acA_sorts acA_firsts acA_seconds acA_takenKinds acA_takenSpellings ac_next ac_kept ac_sorts ac_firsts ac_seconds ac_takenKinds ac_takenSpellings) H → va_D A (WX0_keep K ac_a acA_sorts acA_firsts acA_seconds acA_takenKinds acA_takenSpellings ac_next ac_kept ac_sorts ac_firsts ac_seconds ac_takenKinds ac_takenSpellings) → va_S A s.heap H locs → lv_has ls 4 [(0, .ref ac_a)] → W p l e rmX0_keep s m args below meth c H locs 0 0 Q (F0 m 52 ls [.int s1, .ref ac_a]) := by
  obtain ⟨hx, hb, hml, hown, hts, hK, hA, hEo, hE⟩ := id C0
  intro H locs ls hP hD hS hl
  unfold mX0_keep_b52 at hM
  refine va_put (D := G) (ci := 0) (v := .int s1) (ty := .int) (C := RX0) (T := TX0) (N := 7) hx hb hts inX0 tyX0 tyX0_ok nmX0 hown hK hP hD hS 0 rfl rfl 5 (by decide) (hts _ tb227) (fun _ h9 => h9) rfl (tyX0_ok 5 (by decide)) rfl rfl (Nat.le_of_ble_eq_true rfl) dX0_keep_52 (fun H locs hP hD hS => ?_)
  have hP : va_P G vwCl (WX0_keep K ac_a acA_sorts acA_firsts acA_seconds acA_takenKinds acA_takenSpellings s1 ac_kept ac_sorts ac_firsts ac_seconds ac_takenKinds ac_takenSpellings) H := hP
  have hD : va_D A (WX0_keep K ac_a acA_sorts acA_firsts acA_seconds acA_takenKinds acA_takenSpellings s1 ac_kept ac_sorts ac_firsts ac_seconds ac_takenKinds ac_takenSpellings) := hD
  refine lv_aload_n hx hb dX0_keep_55 rfl (lv_at hl 0 rfl) ?_
  refine lv_aload_n hx hb dX0_keep_56 rfl (lv_at hl 0 rfl) ?_
  refine va_get (D := G) (ci := 0) (v := .int ac_kept) (C := RX0) (T := TX0) (N := 7) hx hb hts inX0 hown hK hP 0 rfl rfl 6 (by decide) (hts _ tb228) (fun _ h9 => h9) rfl dX0_keep_57 ?_
  refine lv_iconst (v := 1) hx hb dX0_keep_60 (by decide) ?_
  refine lv_iadd hx hb dX0_keep_61 ?_
  refine lv_bipush (v := 24) hx hb dX0_keep_62 (by decide) ?_
  refine va_mmin hx hb (hml.trans hl.1.symm) hown (hts _ tb440) (hts _ tb114) (hts _ tb5) (hts _ tb115) (Nat.le_of_ble_eq_true rfl) (Nat.le_of_ble_eq_true rfl) (Nat.zero_le _) (Nat.zero_le _) dX0_keep_64 ?_
  refine va_put (D := G) (ci := 0) (v := .int (if (24 : Int32) < (ac_kept + (1 : Int32)) then (24 : Int32) else (ac_kept + (1 : Int32)))) (ty := .int) (C := RX0) (T := TX0) (N := 7) hx hb hts inX0 tyX0 tyX0_ok nmX0 hown hK hP hD hS 0 rfl rfl 6 (by decide) (hts _ tb228) (fun _ h9 => h9) rfl (tyX0_ok 6 (by decide)) rfl rfl (Nat.le_of_ble_eq_true rfl) dX0_keep_67 (fun H locs hP hD hS => ?_)
  have hP : va_P G vwCl (WX0_keep K ac_a acA_sorts acA_firsts acA_seconds acA_takenKinds acA_takenSpellings s1 (if (24 : Int32) < (ac_kept + (1 : Int32)) then (24 : Int32) else (ac_kept + (1 : Int32))) ac_sorts ac_firsts ac_seconds ac_takenKinds ac_takenSpellings) H := hP
  have hD : va_D A (WX0_keep K ac_a acA_sorts acA_firsts acA_seconds acA_takenKinds acA_takenSpellings s1 (if (24 : Int32) < (ac_kept + (1 : Int32)) then (24 : Int32) else (ac_kept + (1 : Int32))) ac_sorts ac_firsts ac_seconds ac_takenKinds ac_takenSpellings) := hD
  have t0 := Option.some.inj hM
  obtain ⟨q1, t1⟩ := Prod.mk.inj t0
  obtain ⟨q2, t2⟩ := Prod.mk.inj t1
  obtain ⟨q3, t3⟩ := Prod.mk.inj t2
  obtain ⟨q4, t4⟩ := Prod.mk.inj t3
  subst q1
  subst q2
  subst q3
  subst q4
  subst t4
  exact kr _ _ _ _ dX0_keep_70 hP hD hS
set_option maxHeartbeats 4000000 in
set_option maxRecDepth 100000 in
theorem wX0_keep_b0 {p : Program} {l : Launch} {e : Env} {s : State} {m : MethodId} {args : Array Value} {below : List Frame} {meth : Method} {c : Code} {Q : State → Prop} {G : va_G} {K : Nat → ClassId} {A : Nat → Prop} {tt : Nat → Nat} {L : List Nat} {la : Nat → Nat} {sa : Nat → Nat} {ln : Nat → Int32} {sy : Nat → Int32} {sn : Nat → Int32} {lt : Nat → Nat → Int32} {st : Nat → Nat → Int32} (C0 : CX p s m args c cX0_keep 4 RX0 G K (EC G K tt L la sa ln sy sn lt st) A) (ac_a acA_sorts acA_firsts acA_seconds acA_takenKinds acA_takenSpellings : Nat) (ac_takenKinds : Nat → Int32) (ac_takenSpellings : Nat → Nat) (p1 : Int32) (p2 : Int32) (p3 : Int32) (o_ac_next : Int32) (o_ac_kept : Int32) (o_ac_sorts : Nat → Int32) (o_ac_firsts : Nat → Int32) (o_ac_seconds : Nat → Int32) (kr : ∀ (H : Heap) (locs : List Loc) (ls : Array Slot) (pc : Nat), decode cX0_keep pc = .ok (.return_, 1) → va_P G vwCl (WX0_keep K ac_a acA_sorts acA_firsts acA_seconds acA_takenKinds acA_takenSpellings o_ac_next o_ac_kept o_ac_sorts o_ac_firsts o_ac_seconds ac_takenKinds ac_takenSpellings) H → va_D A (WX0_keep K ac_a acA_sorts acA_firsts acA_seconds acA_takenKinds acA_takenSpellings o_ac_next o_ac_kept o_ac_sorts o_ac_firsts o_ac_seconds ac_takenKinds ac_takenSpellings) → va_S A s.heap H locs → W p l e rmX0_keep s m args below meth c H locs 0 0 Q (F0 m pc ls [])) (ac_next : Int32) (ac_kept : Int32) (ac_sorts : Nat → Int32) (ac_firsts : Nat → Int32) (ac_seconds : Nat → Int32) (hM : mX0_keep_b0 p1 p2 p3  ac_next ac_kept ac_sorts ac_firsts ac_seconds = some (o_ac_next, o_ac_kept, o_ac_sorts, o_ac_firsts, o_ac_seconds)) : ∀ (H : Heap) (locs : List Loc) (ls : Array Slot), va_P G vwCl (WX0_keep K ac_a acA_sorts acA_firsts acA_seconds acA_takenKinds acA_takenSpellings ac_next ac_kept ac_sorts ac_firsts ac_seconds ac_takenKinds ac_takenSpellings) H → va_D A (WX0_keep K ac_a acA_sorts acA_firsts acA_seconds acA_takenKinds acA_takenSpellings ac_next ac_kept ac_sorts ac_firsts ac_seconds ac_takenKinds ac_takenSpellings) → va_S A s.heap H locs → lv_has ls 4 [(0, .ref ac_a), (1, .int p1), (2, .int p2), (3, .int p3)] → W p l e rmX0_keep s m args below meth c H locs 0 0 Q (F0 m 0 ls []) := by
  obtain ⟨hx, hb, hml, hown, hts, hK, hA, hEo, hE⟩ := id C0
  intro H locs ls hP hD hS hl
  unfold mX0_keep_b0 at hM
  refine lv_aload_n hx hb dX0_keep_0 rfl (lv_at hl 0 rfl) ?_
  refine va_get (D := G) (ci := 0) (v := .ref acA_sorts) (C := RX0) (T := TX0) (N := 7) hx hb hts inX0 hown hK hP 0 rfl rfl 0 (by decide) (hts _ tb222) (fun _ h9 => h9) rfl dX0_keep_1 ?_
  refine lv_aload_n hx hb dX0_keep_4 rfl (lv_at hl 0 rfl) ?_
  refine va_get (D := G) (ci := 0) (v := .int ac_next) (C := RX0) (T := TX0) (N := 7) hx hb hts inX0 hown hK hP 0 rfl rfl 5 (by decide) (hts _ tb227) (fun _ h9 => h9) rfl dX0_keep_5 ?_
  refine lv_iload_n hx hb dX0_keep_8 rfl (lv_at hl 1 rfl) ?_
  obtain ⟨g_1, hM⟩ := ng hM
  refine va_iast hx hb hK hP hD hS 1 0 rfl rfl g_1 dX0_keep_9 (fun H locs hP hD hS => ?_)
  have hP : va_P G vwCl (WX0_keep K ac_a acA_sorts acA_firsts acA_seconds acA_takenKinds acA_takenSpellings ac_next ac_kept (upd ac_sorts ac_next.toNatClampNeg p1) ac_firsts ac_seconds ac_takenKinds ac_takenSpellings) H := hP
  have hD : va_D A (WX0_keep K ac_a acA_sorts acA_firsts acA_seconds acA_takenKinds acA_takenSpellings ac_next ac_kept (upd ac_sorts ac_next.toNatClampNeg p1) ac_firsts ac_seconds ac_takenKinds ac_takenSpellings) := hD
  refine lv_aload_n hx hb dX0_keep_10 rfl (lv_at hl 0 rfl) ?_
  refine va_get (D := G) (ci := 0) (v := .ref acA_firsts) (C := RX0) (T := TX0) (N := 7) hx hb hts inX0 hown hK hP 0 rfl rfl 1 (by decide) (hts _ tb223) (fun _ h9 => h9) rfl dX0_keep_11 ?_
  refine lv_aload_n hx hb dX0_keep_14 rfl (lv_at hl 0 rfl) ?_
  refine va_get (D := G) (ci := 0) (v := .int ac_next) (C := RX0) (T := TX0) (N := 7) hx hb hts inX0 hown hK hP 0 rfl rfl 5 (by decide) (hts _ tb227) (fun _ h9 => h9) rfl dX0_keep_15 ?_
  refine lv_iload_n hx hb dX0_keep_18 rfl (lv_at hl 2 rfl) ?_
  obtain ⟨g_2, hM⟩ := ng hM
  refine va_iast hx hb hK hP hD hS 2 0 rfl rfl g_2 dX0_keep_19 (fun H locs hP hD hS => ?_)
  have hP : va_P G vwCl (WX0_keep K ac_a acA_sorts acA_firsts acA_seconds acA_takenKinds acA_takenSpellings ac_next ac_kept (upd ac_sorts ac_next.toNatClampNeg p1) (upd ac_firsts ac_next.toNatClampNeg p2) ac_seconds ac_takenKinds ac_takenSpellings) H := hP
  have hD : va_D A (WX0_keep K ac_a acA_sorts acA_firsts acA_seconds acA_takenKinds acA_takenSpellings ac_next ac_kept (upd ac_sorts ac_next.toNatClampNeg p1) (upd ac_firsts ac_next.toNatClampNeg p2) ac_seconds ac_takenKinds ac_takenSpellings) := hD
  refine lv_aload_n hx hb dX0_keep_20 rfl (lv_at hl 0 rfl) ?_
  refine va_get (D := G) (ci := 0) (v := .ref acA_seconds) (C := RX0) (T := TX0) (N := 7) hx hb hts inX0 hown hK hP 0 rfl rfl 2 (by decide) (hts _ tb224) (fun _ h9 => h9) rfl dX0_keep_21 ?_
  refine lv_aload_n hx hb dX0_keep_24 rfl (lv_at hl 0 rfl) ?_
  refine va_get (D := G) (ci := 0) (v := .int ac_next) (C := RX0) (T := TX0) (N := 7) hx hb hts inX0 hown hK hP 0 rfl rfl 5 (by decide) (hts _ tb227) (fun _ h9 => h9) rfl dX0_keep_25 ?_
  refine lv_iload_n hx hb dX0_keep_28 rfl (lv_at hl 3 rfl) ?_
  obtain ⟨g_3, hM⟩ := ng hM
  refine va_iast hx hb hK hP hD hS 3 0 rfl rfl g_3 dX0_keep_29 (fun H locs hP hD hS => ?_)
  have hP : va_P G vwCl (WX0_keep K ac_a acA_sorts acA_firsts acA_seconds acA_takenKinds acA_takenSpellings ac_next ac_kept (upd ac_sorts ac_next.toNatClampNeg p1) (upd ac_firsts ac_next.toNatClampNeg p2) (upd ac_seconds ac_next.toNatClampNeg p3) ac_takenKinds ac_takenSpellings) H := hP
  have hD : va_D A (WX0_keep K ac_a acA_sorts acA_firsts acA_seconds acA_takenKinds acA_takenSpellings ac_next ac_kept (upd ac_sorts ac_next.toNatClampNeg p1) (upd ac_firsts ac_next.toNatClampNeg p2) (upd ac_seconds ac_next.toNatClampNeg p3) ac_takenKinds ac_takenSpellings) := hD
  refine lv_aload_n hx hb dX0_keep_30 rfl (lv_at hl 0 rfl) ?_
  refine lv_aload_n hx hb dX0_keep_31 rfl (lv_at hl 0 rfl) ?_
  refine va_get (D := G) (ci := 0) (v := .int ac_next) (C := RX0) (T := TX0) (N := 7) hx hb hts inX0 hown hK hP 0 rfl rfl 5 (by decide) (hts _ tb227) (fun _ h9 => h9) rfl dX0_keep_32 ?_
  refine lv_iconst (v := 1) hx hb dX0_keep_35 (by decide) ?_
  refine lv_iadd hx hb dX0_keep_36 ?_
  refine lv_bipush (v := 24) hx hb dX0_keep_37 (by decide) ?_
  refine lv_icmp_ge (tgt := 51) hx hb dX0_keep_39 (by decide) (fun c_4 => ?_) (fun c_4 => ?_)
  · rw [if_pos c_4] at hM
    refine lv_iconst (v := 0) hx hb dX0_keep_51 (by decide) ?_
    exact wX0_keep_b52 C0 ac_a acA_sorts acA_firsts acA_seconds acA_takenKinds acA_takenSpellings ac_takenKinds ac_takenSpellings p1 p2 p3 o_ac_next o_ac_kept o_ac_sorts o_ac_firsts o_ac_seconds kr  ac_next ac_kept (upd ac_sorts ac_next.toNatClampNeg p1) (upd ac_firsts ac_next.toNatClampNeg p2) (upd ac_seconds ac_next.toNatClampNeg p3) (0 : Int32) hM _ _ _ hP hD hS (lv_sub hl [0] rfl)
  · rw [if_neg c_4] at hM
    refine lv_aload_n hx hb dX0_keep_42 rfl (lv_at hl 0 rfl) ?_
    refine va_get (D := G) (ci := 0) (v := .int ac_next) (C := RX0) (T := TX0) (N := 7) hx hb hts inX0 hown hK hP 0 rfl rfl 5 (by decide) (hts _ tb227) (fun _ h9 => h9) rfl dX0_keep_43 ?_
    refine lv_iconst (v := 1) hx hb dX0_keep_46 (by decide) ?_
    refine lv_iadd hx hb dX0_keep_47 ?_
    refine lv_goto (tgt := 52) hx hb dX0_keep_48 (by decide) ?_
    exact wX0_keep_b52 C0 ac_a acA_sorts acA_firsts acA_seconds acA_takenKinds acA_takenSpellings ac_takenKinds ac_takenSpellings p1 p2 p3 o_ac_next o_ac_kept o_ac_sorts o_ac_firsts o_ac_seconds kr  ac_next ac_kept (upd ac_sorts ac_next.toNatClampNeg p1) (upd ac_firsts ac_next.toNatClampNeg p2) (upd ac_seconds ac_next.toNatClampNeg p3) (ac_next + (1 : Int32)) hM _ _ _ hP hD hS (lv_sub hl [0] rfl)
set_option maxHeartbeats 4000000 in
set_option maxRecDepth 100000 in
theorem kX0_keep (l : Launch) (G : va_G) (K : Nat → ClassId) (tt : Nat → Nat) (L : List Nat) (la : Nat → Nat) (sa : Nat → Nat) (ln : Nat → Int32) (sy : Nat → Int32) (sn : Nat → Int32) (lt : Nat → Nat → Int32) (st : Nat → Nat → Int32) (ac_a acA_sorts acA_firsts acA_seconds acA_takenKinds acA_takenSpellings : Nat) (ac_next : Int32) (ac_kept : Int32) (ac_sorts : Nat → Int32) (ac_firsts : Nat → Int32) (ac_seconds : Nat → Int32) (ac_takenKinds : Nat → Int32) (ac_takenSpellings : Nat → Nat) (p1 : Int32) (p2 : Int32) (p3 : Int32) (sz : Nat) (o_ac_next : Int32) (o_ac_kept : Int32) (o_ac_sorts : Nat → Int32) (o_ac_firsts : Nat → Int32) (o_ac_seconds : Nat → Int32) (hM : mX0_keep ac_next ac_kept ac_sorts ac_firsts ac_seconds p1 p2 p3 = some (o_ac_next, o_ac_kept, o_ac_sorts, o_ac_firsts, o_ac_seconds)) : Met l yX0_keep (mC yX0_keep cX0_keep 4 none) rmX0_keep (va_Pc [.ref ac_a, .int p1, .int p2, .int p3] (PCe G K (EC G K tt L la sa ln sy sn lt st) (WX0_keep K ac_a acA_sorts acA_firsts acA_seconds acA_takenKinds acA_takenSpellings ac_next ac_kept ac_sorts ac_firsts ac_seconds ac_takenKinds ac_takenSpellings) sz)) (va_Qv (fun (_ : Unit) => True) (fun _ t => va_P G vwCl (WX0_keep K ac_a acA_sorts acA_firsts acA_seconds acA_takenKinds acA_takenSpellings o_ac_next o_ac_kept o_ac_sorts o_ac_firsts o_ac_seconds ac_takenKinds ac_takenSpellings) t.heap) (va_A (WX0_keep K ac_a acA_sorts acA_firsts acA_seconds acA_takenKinds acA_takenSpellings ac_next ac_kept ac_sorts ac_firsts ac_seconds ac_takenKinds ac_takenSpellings) sz)) rmX0_keep.cells rmX0_keep.slots (va_A (WX0_keep K ac_a acA_sorts acA_firsts acA_seconds acA_takenKinds acA_takenSpellings ac_next ac_kept ac_sorts ac_firsts ac_seconds ac_takenKinds ac_takenSpellings) sz) := by
  refine Met.ofW (cc := cX0_keep) (maxL := 4) (ret := none) (by decide) rfl ?_
  intro p e s m args below meth c s₁ B hml hv
  obtain ⟨rfl, hsz, hP, hK, hD0, hE⟩ := hv
  have hx := B.exec
  have hb := B.bytes
  have hr := B.returns
  have hts0 := atoms_spec (ws := mC yX0_keep cX0_keep 4 none) B.pre
  have hts : ∀ w ∈ tbG, w.before _ s = true := fun w h => hts0 w (List.mem_cons_of_mem _ h)
  have hown : s.vm.findClass RX0 = some m.cls := findClass_of_methodNamed B.named
  subst hsz
  have hD := hD0.self (sz := s.heap.size)
  generalize hAe : va_A (WX0_keep K ac_a acA_sorts acA_firsts acA_seconds acA_takenKinds acA_takenSpellings ac_next ac_kept ac_sorts ac_firsts ac_seconds ac_takenKinds ac_takenSpellings) s.heap.size = A at hD hE ⊢
  have hA : ∀ q : Nat, s.heap.size ≤ q → A q := fun q h => by rw [← hAe]; exact Or.inr h
  have hS : va_S A s.heap s.heap [] := va_S.rf
  have hl := lv_entry ([.ref ac_a, .int p1, .int p2, .int p3]) (n := 4) (Nat.le_of_ble_eq_true rfl)
  rw [lg_entry_eq]
  generalize (lg_sl ([.ref ac_a, .int p1, .int p2, .int p3]) ++ List.replicate (4 - (lg_sl ([.ref ac_a, .int p1, .int p2, .int p3])).length) Slot.unset).toArray = ls at hl ⊢
  have hl : lv_has ls 4 [(0, .ref ac_a), (1, .int p1), (2, .int p2), (3, .int p3)] := hl
  exact wX0_keep_b0 ⟨hx, hb, hml, hown, hts, hK, hA, EC_ok _ _ _ _ _ _ _ _ _ _ _, hE⟩ ac_a acA_sorts acA_firsts acA_seconds acA_takenKinds acA_takenSpellings ac_takenKinds ac_takenSpellings p1 p2 p3 o_ac_next o_ac_kept o_ac_sorts o_ac_firsts o_ac_seconds (fun H locs ls pc hdg hP hD hS => W.vret hx hb hr (fun t ht hW => ⟨⟨(), rfl, trivial, (show va_P G vwCl _ t.heap by rw [ht]; exact hP)⟩, hS.F ht⟩) hS.2.2 hdg) ac_next ac_kept ac_sorts ac_firsts ac_seconds  hM _ _ _ hP hD hS hl
abbrev WX6_become (K : Nat → ClassId) (x_a xA_rows rd_a v_a d_a xA_images ac_a er_a xA_hits xA_bodies vA_sizes vA_kinds vA_spelled vA_scheme acA_sorts acA_firsts acA_seconds acA_takenKinds acA_takenSpellings : Nat) (x_begun : Int32) (x_latestFault : Int32) (x_latestFinding : Int32) (v_foot : Int32) (v_feet : Int32) (v_lines : Int32) (v_words : Int32) (v_sizes : Nat → Int32) (v_kinds : Nat → Int32) (v_spelled : Nat → Nat) (v_scheme : Nat → Int32) (ac_next : Int32) (ac_kept : Int32) (ac_sorts : Nat → Int32) (ac_firsts : Nat → Int32) (ac_seconds : Nat → Int32) (ac_takenKinds : Nat → Int32) (ac_takenSpellings : Nat → Nat) : va_W := [(x_a, .inr (6, [.ref xA_rows, .ref rd_a, .ref v_a, .ref d_a, .ref xA_images, .ref ac_a, .ref er_a, .ref xA_hits, .ref xA_bodies, .int x_begun, .int x_latestFault, .int x_latestFinding])), (v_a, .inr (2, [.int v_foot, .int v_feet, .int v_lines, .int v_words, .ref vA_sizes, .ref vA_kinds, .ref vA_spelled, .ref vA_scheme])), aI K vA_sizes 4 v_sizes, aI K vA_kinds 20 v_kinds, aS K vA_spelled 20 v_spelled, aI K vA_scheme 4 v_scheme, (ac_a, .inr (0, [.ref acA_sorts, .ref acA_firsts, .ref acA_seconds, .ref acA_takenKinds, .ref acA_takenSpellings, .int ac_next, .int ac_kept])), aI K acA_sorts 24 ac_sorts, aI K acA_firsts 24 ac_firsts, aI K acA_seconds 24 ac_seconds, aI K acA_takenKinds 24 ac_takenKinds, aS K acA_takenSpellings 24 ac_takenSpellings]
def rmX6_become : Room := { frames := 2, cells := 0, slots := 0, locals := 46 }
theorem hdX6_become : yX6_become.cls = RX6 ∧ yX6_become.cls ≠ "java/lang/invoke/MethodHandle" ∧ yX6_become.cls ≠ "java/lang/invoke/VarHandle" ∧ (parseMethodDescriptor yX6_become.desc).map (fun d => d.parameters.length) = some 2 := by decide +kernel
set_option maxHeartbeats 4000000 in
set_option maxRecDepth 100000 in
theorem wX6_become_b0 {p : Program} {l : Launch} {e : Env} {s : State} {m : MethodId} {args : Array Value} {below : List Frame} {meth : Method} {c : Code} {Q : State → Prop} {G : va_G} {K : Nat → ClassId} {A : Nat → Prop} {tt : Nat → Nat} {L : List Nat} {la : Nat → Nat} {sa : Nat → Nat} {ln : Nat → Int32} {sy : Nat → Int32} {sn : Nat → Int32} {lt : Nat → Nat → Int32} {st : Nat → Nat → Int32} (C0 : CX p s m args c cX6_become 4 RX6 G K (EC G K tt L la sa ln sy sn lt st) A) (x_a xA_rows rd_a v_a d_a xA_images ac_a er_a xA_hits xA_bodies vA_sizes vA_kinds vA_spelled vA_scheme acA_sorts acA_firsts acA_seconds acA_takenKinds acA_takenSpellings : Nat) (x_begun : Int32) (x_latestFault : Int32) (x_latestFinding : Int32) (v_foot : Int32) (v_feet : Int32) (v_lines : Int32) (v_words : Int32) (v_sizes : Nat → Int32) (v_spelled : Nat → Nat) (v_scheme : Nat → Int32) (ac_takenKinds : Nat → Int32) (ac_takenSpellings : Nat → Nat) (p1 : Int32) (p2 : Int32) (r : Int32) (o_v_kinds : Nat → Int32) (o_ac_next : Int32) (o_ac_kept : Int32) (o_ac_sorts : Nat → Int32) (o_ac_firsts : Nat → Int32) (o_ac_seconds : Nat → Int32) (kr : ∀ (H : Heap) (locs : List Loc) (ls : Array Slot) (pc : Nat), decode cX6_become pc = .ok (.ireturn, 1) → va_P G vwCl (WX6_become K x_a xA_rows rd_a v_a d_a xA_images ac_a er_a xA_hits xA_bodies vA_sizes vA_kinds vA_spelled vA_scheme acA_sorts acA_firsts acA_seconds acA_takenKinds acA_takenSpellings x_begun x_latestFault x_latestFinding v_foot v_feet v_lines v_words v_sizes o_v_kinds v_spelled v_scheme o_ac_next o_ac_kept o_ac_sorts o_ac_firsts o_ac_seconds ac_takenKinds ac_takenSpellings) H → va_D A (WX6_become K x_a xA_rows rd_a v_a d_a xA_images ac_a er_a xA_hits xA_bodies vA_sizes vA_kinds vA_spelled vA_scheme acA_sorts acA_firsts acA_seconds acA_takenKinds acA_takenSpellings x_begun x_latestFault x_latestFinding v_foot v_feet v_lines v_words v_sizes o_v_kinds v_spelled v_scheme o_ac_next o_ac_kept o_ac_sorts o_ac_firsts o_ac_seconds ac_takenKinds ac_takenSpellings) → va_S A s.heap H locs → W p l e rmX6_become s m args below meth c H locs 0 0 Q (F0 m pc ls [.int r])) (v_kinds : Nat → Int32) (ac_next : Int32) (ac_kept : Int32) (ac_sorts : Nat → Int32) (ac_firsts : Nat → Int32) (ac_seconds : Nat → Int32) (hM : mX6_become_b0 v_words p1 p2  v_kinds ac_next ac_kept ac_sorts ac_firsts ac_seconds = some (r, o_v_kinds, o_ac_next, o_ac_kept, o_ac_sorts, o_ac_firsts, o_ac_seconds)) : ∀ (H : Heap) (locs : List Loc) (ls : Array Slot), va_P G vwCl (WX6_become K x_a xA_rows rd_a v_a d_a xA_images ac_a er_a xA_hits xA_bodies vA_sizes vA_kinds vA_spelled vA_scheme acA_sorts acA_firsts acA_seconds acA_takenKinds acA_takenSpellings x_begun x_latestFault x_latestFinding v_foot v_feet v_lines v_words v_sizes v_kinds v_spelled v_scheme ac_next ac_kept ac_sorts ac_firsts ac_seconds ac_takenKinds ac_takenSpellings) H → va_D A (WX6_become K x_a xA_rows rd_a v_a d_a xA_images ac_a er_a xA_hits xA_bodies vA_sizes vA_kinds vA_spelled vA_scheme acA_sorts acA_firsts acA_seconds acA_takenKinds acA_takenSpellings x_begun x_latestFault x_latestFinding v_foot v_feet v_lines v_words v_sizes v_kinds v_spelled v_scheme ac_next ac_kept ac_sorts ac_firsts ac_seconds ac_takenKinds ac_takenSpellings) → va_S A s.heap H locs → lv_has ls 4 [(0, .ref x_a), (1, .int p1), (2, .int p2)] → W p l e rmX6_become s m args below meth c H locs 0 0 Q (F0 m 0 ls []) := by
  obtain ⟨hx, hb, hml, hown, hts, hK, hA, hEo, hE⟩ := id C0
  intro H locs ls hP hD hS hl
  unfold mX6_become_b0 at hM
  refine lv_aload_n hx hb dX6_become_0 rfl (lv_at hl 0 rfl) ?_
  refine va_get (D := G) (ci := 6) (v := .ref v_a) (C := RX6) (T := TX6) (N := 12) hx hb hts inX6 hown hK hP 0 rfl rfl 2 (by decide) (hts _ tb247) (fun _ h9 => h9) rfl dX6_become_1 ?_
  refine lv_iload_n hx hb dX6_become_4 rfl (lv_at hl 1 rfl) ?_
  obtain ⟨r_1, hC, hM⟩ := oe1 hM
  refine cV_i (As := [.int p1]) (rest := []) C0 hP hD hS [1, 2, 3, 4, 5] (kX2_hasWord l G K tt L la sa ln sy sn lt st v_a vA_sizes vA_kinds vA_spelled vA_scheme v_foot v_feet v_lines v_words v_sizes v_kinds v_spelled v_scheme p1 H.size r_1 hC) rfl rfl rfl tb432 tb415 tb416 tb7 tb417 hdX2_hasWord (va_recv hK hP (ci := 2) (q0 := 1) rfl rfl) ⟨Nat.le_of_ble_eq_true rfl, Nat.le_of_ble_eq_true rfl⟩ rfl hl.1 (Nat.le_of_ble_eq_true rfl) rfl ⟨Nat.le_refl _, Nat.le_refl _⟩ dX6_become_5 (fun H locs hP hD hS => ?_)
  have hP : va_P G vwCl (WX6_become K x_a xA_rows rd_a v_a d_a xA_images ac_a er_a xA_hits xA_bodies vA_sizes vA_kinds vA_spelled vA_scheme acA_sorts acA_firsts acA_seconds acA_takenKinds acA_takenSpellings x_begun x_latestFault x_latestFinding v_foot v_feet v_lines v_words v_sizes v_kinds v_spelled v_scheme ac_next ac_kept ac_sorts ac_firsts ac_seconds ac_takenKinds ac_takenSpellings) H := hP
  have hD : va_D A (WX6_become K x_a xA_rows rd_a v_a d_a xA_images ac_a er_a xA_hits xA_bodies vA_sizes vA_kinds vA_spelled vA_scheme acA_sorts acA_firsts acA_seconds acA_takenKinds acA_takenSpellings x_begun x_latestFault x_latestFinding v_foot v_feet v_lines v_words v_sizes v_kinds v_spelled v_scheme ac_next ac_kept ac_sorts ac_firsts ac_seconds ac_takenKinds ac_takenSpellings) := hD
  refine lv_if_eq (tgt := 18) hx hb dX6_become_8 (by decide) (fun c_2 => ?_) (fun c_2 => ?_)
  · rw [if_pos c_2] at hM
    refine lv_ldc (v := -1000001) hx hb hown (hts _ tb289) dX6_become_18 ?_
    have t0 := Option.some.inj hM
    obtain ⟨q1, t1⟩ := Prod.mk.inj t0
    obtain ⟨q2, t2⟩ := Prod.mk.inj t1
    obtain ⟨q3, t3⟩ := Prod.mk.inj t2
    obtain ⟨q4, t4⟩ := Prod.mk.inj t3
    obtain ⟨q5, t5⟩ := Prod.mk.inj t4
    obtain ⟨q6, t6⟩ := Prod.mk.inj t5
    subst q1
    subst q2
    subst q3
    subst q4
    subst q5
    subst q6
    subst t6
    exact kr _ _ _ _ dX6_become_20 hP hD hS
  · rw [if_neg c_2] at hM
    refine lv_iload_n hx hb dX6_become_11 rfl (lv_at hl 2 rfl) ?_
    obtain ⟨r_3, hC, hM⟩ := oe1 hM
    refine cS_i (As := [.int p2]) (rest := []) C0 hP hD hS [] (kX6_isKind l G K tt L la sa ln sy sn lt st p2 H.size r_3 hC) rfl rfl rfl tb433 tb434 tb1 tb435 hdX6_isKind ⟨Nat.le_of_ble_eq_true rfl, Nat.le_of_ble_eq_true rfl⟩ rfl hl.1 (Nat.le_of_ble_eq_true rfl) rfl ⟨Nat.le_refl _, Nat.le_refl _⟩ dX6_become_12 (fun H locs hP hD hS => ?_)
    have hP : va_P G vwCl (WX6_become K x_a xA_rows rd_a v_a d_a xA_images ac_a er_a xA_hits xA_bodies vA_sizes vA_kinds vA_spelled vA_scheme acA_sorts acA_firsts acA_seconds acA_takenKinds acA_takenSpellings x_begun x_latestFault x_latestFinding v_foot v_feet v_lines v_words v_sizes v_kinds v_spelled v_scheme ac_next ac_kept ac_sorts ac_firsts ac_seconds ac_takenKinds ac_takenSpellings) H := hP
    have hD : va_D A (WX6_become K x_a xA_rows rd_a v_a d_a xA_images ac_a er_a xA_hits xA_bodies vA_sizes vA_kinds vA_spelled vA_scheme acA_sorts acA_firsts acA_seconds acA_takenKinds acA_takenSpellings x_begun x_latestFault x_latestFinding v_foot v_feet v_lines v_words v_sizes v_kinds v_spelled v_scheme ac_next ac_kept ac_sorts ac_firsts ac_seconds ac_takenKinds ac_takenSpellings) := hD
    refine lv_if_ne (tgt := 21) hx hb dX6_become_15 (by decide) (fun c_4 => ?_) (fun c_4 => ?_)
    · rw [if_neg c_4] at hM
      refine lv_aload_n hx hb dX6_become_21 rfl (lv_at hl 0 rfl) ?_
      refine va_get (D := G) (ci := 6) (v := .ref v_a) (C := RX6) (T := TX6) (N := 12) hx hb hts inX6 hown hK hP 0 rfl rfl 2 (by decide) (hts _ tb247) (fun _ h9 => h9) rfl dX6_become_22 ?_
      refine va_get (D := G) (ci := 2) (v := .ref vA_kinds) (C := RX2) (T := TX2) (N := 8) hx hb hts inX2 hown hK hP 1 rfl rfl 5 (by decide) (hts _ tb192) (fun _ h9 => h9) rfl dX6_become_25 ?_
      refine lv_iload_n hx hb dX6_become_28 rfl (lv_at hl 1 rfl) ?_
      obtain ⟨g_5, hM⟩ := ng hM
      refine va_iald hx hb hK hP 3 0 rfl rfl g_5 dX6_become_29 ?_
      refine lv_istore_n (lv' := [(3, .int (v_kinds p1.toNatClampNeg)), (0, .ref x_a), (1, .int p1), (2, .int p2)]) hx hb dX6_become_30 rfl hl (by decide) rfl (fun ls hl => ?_)
      refine lv_iload_n hx hb dX6_become_31 rfl (lv_at hl 0 rfl) ?_
      refine lv_iload_n hx hb dX6_become_32 rfl (lv_at hl 3 rfl) ?_
      refine lv_icmp_ne (tgt := 39) hx hb dX6_become_33 (by decide) (fun c_6 => ?_) (fun c_6 => ?_)
      · rw [if_neg c_6] at hM
        refine lv_aload_n hx hb dX6_become_39 rfl (lv_at hl 1 rfl) ?_
        refine va_get (D := G) (ci := 6) (v := .ref ac_a) (C := RX6) (T := TX6) (N := 12) hx hb hts inX6 hown hK hP 0 rfl rfl 5 (by decide) (hts _ tb250) (fun _ h9 => h9) rfl dX6_become_40 ?_
        refine lv_iconst (v := 0) hx hb dX6_become_43 (by decide) ?_
        refine lv_iload_n hx hb dX6_become_44 rfl (lv_at hl 2 rfl) ?_
        refine lv_iload_n hx hb dX6_become_45 rfl (lv_at hl 0 rfl) ?_
        obtain ⟨u0_7, u1_7, u2_7, u3_7, u4_7, hC, hM⟩ := oe5 hM
        refine cV_v (As := [.int (0 : Int32), .int p1, .int (v_kinds p1.toNatClampNeg)]) (rest := []) C0 hP hD hS [6, 7, 8, 9, 10, 11] (kX0_keep l G K tt L la sa ln sy sn lt st ac_a acA_sorts acA_firsts acA_seconds acA_takenKinds acA_takenSpellings ac_next ac_kept ac_sorts ac_firsts ac_seconds ac_takenKinds ac_takenSpellings (0 : Int32) p1 (v_kinds p1.toNatClampNeg) H.size u0_7 u1_7 u2_7 u3_7 u4_7 hC) rfl rfl rfl tb436 tb437 tb438 tb8 tb439 hdX0_keep (va_recv hK hP (ci := 0) (q0 := 6) rfl rfl) ⟨Nat.le_of_ble_eq_true rfl, Nat.le_of_ble_eq_true rfl⟩ rfl hl.1 (Nat.le_of_ble_eq_true rfl) rfl ⟨Nat.le_refl _, Nat.le_refl _⟩ dX6_become_46 (fun H locs hP hD hS => ?_)
        have hP : va_P G vwCl (WX6_become K x_a xA_rows rd_a v_a d_a xA_images ac_a er_a xA_hits xA_bodies vA_sizes vA_kinds vA_spelled vA_scheme acA_sorts acA_firsts acA_seconds acA_takenKinds acA_takenSpellings x_begun x_latestFault x_latestFinding v_foot v_feet v_lines v_words v_sizes v_kinds v_spelled v_scheme u0_7 u1_7 u2_7 u3_7 u4_7 ac_takenKinds ac_takenSpellings) H := hP
        have hD : va_D A (WX6_become K x_a xA_rows rd_a v_a d_a xA_images ac_a er_a xA_hits xA_bodies vA_sizes vA_kinds vA_spelled vA_scheme acA_sorts acA_firsts acA_seconds acA_takenKinds acA_takenSpellings x_begun x_latestFault x_latestFinding v_foot v_feet v_lines v_words v_sizes v_kinds v_spelled v_scheme u0_7 u1_7 u2_7 u3_7 u4_7 ac_takenKinds ac_takenSpellings) := hD
        refine lv_aload_n hx hb dX6_become_49 rfl (lv_at hl 1 rfl) ?_
        refine va_get (D := G) (ci := 6) (v := .ref v_a) (C := RX6) (T := TX6) (N := 12) hx hb hts inX6 hown hK hP 0 rfl rfl 2 (by decide) (hts _ tb247) (fun _ h9 => h9) rfl dX6_become_50 ?_
        refine va_get (D := G) (ci := 2) (v := .ref vA_kinds) (C := RX2) (T := TX2) (N := 8) hx hb hts inX2 hown hK hP 1 rfl rfl 5 (by decide) (hts _ tb192) (fun _ h9 => h9) rfl dX6_become_53 ?_
        refine lv_iload_n hx hb dX6_become_56 rfl (lv_at hl 2 rfl) ?_
        refine lv_iload_n hx hb dX6_become_57 rfl (lv_at hl 3 rfl) ?_
        obtain ⟨g_8, hM⟩ := ng hM
        refine va_iast hx hb hK hP hD hS 3 0 rfl rfl g_8 dX6_become_58 (fun H locs hP hD hS => ?_)
        have hP : va_P G vwCl (WX6_become K x_a xA_rows rd_a v_a d_a xA_images ac_a er_a xA_hits xA_bodies vA_sizes vA_kinds vA_spelled vA_scheme acA_sorts acA_firsts acA_seconds acA_takenKinds acA_takenSpellings x_begun x_latestFault x_latestFinding v_foot v_feet v_lines v_words v_sizes (upd v_kinds p1.toNatClampNeg p2) v_spelled v_scheme u0_7 u1_7 u2_7 u3_7 u4_7 ac_takenKinds ac_takenSpellings) H := hP
        have hD : va_D A (WX6_become K x_a xA_rows rd_a v_a d_a xA_images ac_a er_a xA_hits xA_bodies vA_sizes vA_kinds vA_spelled vA_scheme acA_sorts acA_firsts acA_seconds acA_takenKinds acA_takenSpellings x_begun x_latestFault x_latestFinding v_foot v_feet v_lines v_words v_sizes (upd v_kinds p1.toNatClampNeg p2) v_spelled v_scheme u0_7 u1_7 u2_7 u3_7 u4_7 ac_takenKinds ac_takenSpellings) := hD
        refine lv_iload_n hx hb dX6_become_59 rfl (lv_at hl 0 rfl) ?_
        have t0 := Option.some.inj hM
        obtain ⟨q1, t1⟩ := Prod.mk.inj t0
        obtain ⟨q2, t2⟩ := Prod.mk.inj t1
        obtain ⟨q3, t3⟩ := Prod.mk.inj t2
        obtain ⟨q4, t4⟩ := Prod.mk.inj t3
        obtain ⟨q5, t5⟩ := Prod.mk.inj t4
        obtain ⟨q6, t6⟩ := Prod.mk.inj t5
        subst q1
        subst q2
        subst q3
        subst q4
        subst q5
        subst q6
        subst t6
        exact kr _ _ _ _ dX6_become_60 hP hD hS
      · rw [if_pos c_6] at hM
        refine lv_ldc (v := -1000002) hx hb hown (hts _ tb409) dX6_become_36 ?_
        have t0 := Option.some.inj hM
        obtain ⟨q1, t1⟩ := Prod.mk.inj t0
        obtain ⟨q2, t2⟩ := Prod.mk.inj t1
        obtain ⟨q3, t3⟩ := Prod.mk.inj t2
        obtain ⟨q4, t4⟩ := Prod.mk.inj t3
        obtain ⟨q5, t5⟩ := Prod.mk.inj t4
        obtain ⟨q6, t6⟩ := Prod.mk.inj t5
        subst q1
        subst q2
        subst q3
        subst q4
        subst q5
        subst q6
        subst t6
        exact kr _ _ _ _ dX6_become_38 hP hD hS
    · rw [if_pos c_4] at hM
      refine lv_ldc (v := -1000001) hx hb hown (hts _ tb289) dX6_become_18 ?_
      have t0 := Option.some.inj hM
      obtain ⟨q1, t1⟩ := Prod.mk.inj t0
      obtain ⟨q2, t2⟩ := Prod.mk.inj t1
      obtain ⟨q3, t3⟩ := Prod.mk.inj t2
      obtain ⟨q4, t4⟩ := Prod.mk.inj t3
      obtain ⟨q5, t5⟩ := Prod.mk.inj t4
      obtain ⟨q6, t6⟩ := Prod.mk.inj t5
      subst q1
      subst q2
      subst q3
      subst q4
      subst q5
      subst q6
      subst t6
      exact kr _ _ _ _ dX6_become_20 hP hD hS
set_option maxHeartbeats 4000000 in
set_option maxRecDepth 100000 in
theorem kX6_become (l : Launch) (G : va_G) (K : Nat → ClassId) (tt : Nat → Nat) (L : List Nat) (la : Nat → Nat) (sa : Nat → Nat) (ln : Nat → Int32) (sy : Nat → Int32) (sn : Nat → Int32) (lt : Nat → Nat → Int32) (st : Nat → Nat → Int32) (x_a xA_rows rd_a v_a d_a xA_images ac_a er_a xA_hits xA_bodies vA_sizes vA_kinds vA_spelled vA_scheme acA_sorts acA_firsts acA_seconds acA_takenKinds acA_takenSpellings : Nat) (x_begun : Int32) (x_latestFault : Int32) (x_latestFinding : Int32) (v_foot : Int32) (v_feet : Int32) (v_lines : Int32) (v_words : Int32) (v_sizes : Nat → Int32) (v_kinds : Nat → Int32) (v_spelled : Nat → Nat) (v_scheme : Nat → Int32) (ac_next : Int32) (ac_kept : Int32) (ac_sorts : Nat → Int32) (ac_firsts : Nat → Int32) (ac_seconds : Nat → Int32) (ac_takenKinds : Nat → Int32) (ac_takenSpellings : Nat → Nat) (p1 : Int32) (p2 : Int32) (sz : Nat) (r : Int32) (o_v_kinds : Nat → Int32) (o_ac_next : Int32) (o_ac_kept : Int32) (o_ac_sorts : Nat → Int32) (o_ac_firsts : Nat → Int32) (o_ac_seconds : Nat → Int32) (hM : mX6_become v_words v_kinds ac_next ac_kept ac_sorts ac_firsts ac_seconds p1 p2 = some (r, o_v_kinds, o_ac_next, o_ac_kept, o_ac_sorts, o_ac_firsts, o_ac_seconds)) : Met l yX6_become (mC yX6_become cX6_become 4 (some .int)) rmX6_become (va_Pc [.ref x_a, .int p1, .int p2] (PCe G K (EC G K tt L la sa ln sy sn lt st) (WX6_become K x_a xA_rows rd_a v_a d_a xA_images ac_a er_a xA_hits xA_bodies vA_sizes vA_kinds vA_spelled vA_scheme acA_sorts acA_firsts acA_seconds acA_takenKinds acA_takenSpellings x_begun x_latestFault x_latestFinding v_foot v_feet v_lines v_words v_sizes v_kinds v_spelled v_scheme ac_next ac_kept ac_sorts ac_firsts ac_seconds ac_takenKinds ac_takenSpellings) sz)) (va_Qi (fun (x : Int32) (_ : Unit) => x = r) (fun _ t => va_P G vwCl (WX6_become K x_a xA_rows rd_a v_a d_a xA_images ac_a er_a xA_hits xA_bodies vA_sizes vA_kinds vA_spelled vA_scheme acA_sorts acA_firsts acA_seconds acA_takenKinds acA_takenSpellings x_begun x_latestFault x_latestFinding v_foot v_feet v_lines v_words v_sizes o_v_kinds v_spelled v_scheme o_ac_next o_ac_kept o_ac_sorts o_ac_firsts o_ac_seconds ac_takenKinds ac_takenSpellings) t.heap) (va_A (WX6_become K x_a xA_rows rd_a v_a d_a xA_images ac_a er_a xA_hits xA_bodies vA_sizes vA_kinds vA_spelled vA_scheme acA_sorts acA_firsts acA_seconds acA_takenKinds acA_takenSpellings x_begun x_latestFault x_latestFinding v_foot v_feet v_lines v_words v_sizes v_kinds v_spelled v_scheme ac_next ac_kept ac_sorts ac_firsts ac_seconds ac_takenKinds ac_takenSpellings) sz)) rmX6_become.cells rmX6_become.slots (va_A (WX6_become K x_a xA_rows rd_a v_a d_a xA_images ac_a er_a xA_hits xA_bodies vA_sizes vA_kinds vA_spelled vA_scheme acA_sorts acA_firsts acA_seconds acA_takenKinds acA_takenSpellings x_begun x_latestFault x_latestFinding v_foot v_feet v_lines v_words v_sizes v_kinds v_spelled v_scheme ac_next ac_kept ac_sorts ac_firsts ac_seconds ac_takenKinds ac_takenSpellings) sz) := by
  refine Met.ofW (cc := cX6_become) (maxL := 4) (ret := (some .int)) (by decide) rfl ?_
  intro p e s m args below meth c s₁ B hml hv
  obtain ⟨rfl, hsz, hP, hK, hD0, hE⟩ := hv
  have hx := B.exec
  have hb := B.bytes
  have hr := B.returns
  have hts0 := atoms_spec (ws := mC yX6_become cX6_become 4 (some .int)) B.pre
  have hts : ∀ w ∈ tbG, w.before _ s = true := fun w h => hts0 w (List.mem_cons_of_mem _ h)
  have hown : s.vm.findClass RX6 = some m.cls := findClass_of_methodNamed B.named
  subst hsz
  have hD := hD0.self (sz := s.heap.size)
  generalize hAe : va_A (WX6_become K x_a xA_rows rd_a v_a d_a xA_images ac_a er_a xA_hits xA_bodies vA_sizes vA_kinds vA_spelled vA_scheme acA_sorts acA_firsts acA_seconds acA_takenKinds acA_takenSpellings x_begun x_latestFault x_latestFinding v_foot v_feet v_lines v_words v_sizes v_kinds v_spelled v_scheme ac_next ac_kept ac_sorts ac_firsts ac_seconds ac_takenKinds ac_takenSpellings) s.heap.size = A at hD hE ⊢
  have hA : ∀ q : Nat, s.heap.size ≤ q → A q := fun q h => by rw [← hAe]; exact Or.inr h
  have hS : va_S A s.heap s.heap [] := va_S.rf
  have hl := lv_entry ([.ref x_a, .int p1, .int p2]) (n := 4) (Nat.le_of_ble_eq_true rfl)
  rw [lg_entry_eq]
  generalize (lg_sl ([.ref x_a, .int p1, .int p2]) ++ List.replicate (4 - (lg_sl ([.ref x_a, .int p1, .int p2])).length) Slot.unset).toArray = ls at hl ⊢
  have hl : lv_has ls 4 [(0, .ref x_a), (1, .int p1), (2, .int p2)] := hl
  exact wX6_become_b0 ⟨hx, hb, hml, hown, hts, hK, hA, EC_ok _ _ _ _ _ _ _ _ _ _ _, hE⟩ x_a xA_rows rd_a v_a d_a xA_images ac_a er_a xA_hits xA_bodies vA_sizes vA_kinds vA_spelled vA_scheme acA_sorts acA_firsts acA_seconds acA_takenKinds acA_takenSpellings x_begun x_latestFault x_latestFinding v_foot v_feet v_lines v_words v_sizes v_spelled v_scheme ac_takenKinds ac_takenSpellings p1 p2 r o_v_kinds o_ac_next o_ac_kept o_ac_sorts o_ac_firsts o_ac_seconds (fun H locs ls pc hdg hP hD hS => W.iret (v := r) hx hb hr (fun t ht hW => ⟨⟨r, (), rfl, rfl, (show va_P G vwCl _ t.heap by rw [ht]; exact hP)⟩, hS.F ht⟩) hS.2.2 hdg) v_kinds ac_next ac_kept ac_sorts ac_firsts ac_seconds  hM _ _ _ hP hD hS hl
abbrev WX6_areLetters (K : Nat → ClassId) (arA1 : Nat) (n1 : Nat) (ar1 : Nat → Int32) : va_W := [aI K arA1 n1 ar1]
def rmX6_areLetters : Room := { frames := 0, cells := 0, slots := 0, locals := 0 }
theorem hdX6_areLetters : yX6_areLetters.cls ≠ "java/lang/invoke/MethodHandle" ∧ yX6_areLetters.cls ≠ "java/lang/invoke/VarHandle" ∧ (parseMethodDescriptor yX6_areLetters.desc).map (fun d => d.parameters.length) = some 2 := by decide +kernel
set_option maxHeartbeats 4000000 in
set_option maxRecDepth 100000 in
theorem wX6_areLetters_b2 {p : Program} {l : Launch} {e : Env} {s : State} {m : MethodId} {args : Array Value} {below : List Frame} {meth : Method} {c : Code} {Q : State → Prop} {G : va_G} {K : Nat → ClassId} {A : Nat → Prop} {tt : Nat → Nat} {L : List Nat} {la : Nat → Nat} {sa : Nat → Nat} {ln : Nat → Int32} {sy : Nat → Int32} {sn : Nat → Int32} {lt : Nat → Nat → Int32} {st : Nat → Nat → Int32} (C0 : CX p s m args c cX6_areLetters 3 RX6 G K (EC G K tt L la sa ln sy sn lt st) A) (arA1 : Nat) (n1 : Nat) (ar1 : Nat → Int32) (p2 : Int32) (r : Int32)  (kr : ∀ (H : Heap) (locs : List Loc) (ls : Array Slot) (pc : Nat), decode cX6_areLetters pc = .ok (.ireturn, 1) → (r = 0 ∨ r = 1) → va_P G vwCl (WX6_areLetters K arA1 n1 ar1) H → va_D A (WX6_areLetters K arA1 n1 ar1) → va_S A s.heap H locs → W p l e rmX6_areLetters s m args below meth c H locs 0 0 Q (F0 m pc ls [.int r])) (n : Nat) : ∀ (x2 : Int32), mX6_areLetters_b2 n1 ar1 p2  n x2 = some r → ∀ (H : Heap) (locs : List Loc) (ls : Array Slot), va_P G vwCl (WX6_areLetters K arA1 n1 ar1) H → va_D A (WX6_areLetters K arA1 n1 ar1) → va_S A s.heap H locs → lv_has ls 3 [(0, .ref arA1), (1, .int p2), (2, .int x2)] → W p l e rmX6_areLetters s m args below meth c H locs 0 0 Q (F0 m 2 ls []) := by
  obtain ⟨hx, hb, hml, hown, hts, hK, hA, hEo, hE⟩ := id C0
  induction n with
  | zero =>
    intro x2 hM
    cases hM
  | succ n ih =>
    intro x2 hM H locs ls hP hD hS hl
    rw [mX6_areLetters_b2] at hM
    refine lv_iload_n hx hb dX6_areLetters_2 rfl (lv_at hl 2 rfl) ?_
    refine lv_iload_n hx hb dX6_areLetters_3 rfl (lv_at hl 1 rfl) ?_
    refine lv_icmp_ge (tgt := 35) hx hb dX6_areLetters_4 (by decide) (fun c_1 => ?_) (fun c_1 => ?_)
    · rw [if_pos c_1] at hM
      refine lv_iconst (v := 1) hx hb dX6_areLetters_35 (by decide) ?_
      have q1 := Option.some.inj hM
      subst q1
      exact kr _ _ _ _ dX6_areLetters_36 (by decide) hP hD hS
    · rw [if_neg c_1] at hM
      refine lv_iload_n hx hb dX6_areLetters_7 rfl (lv_at hl 2 rfl) ?_
      refine lv_aload_n hx hb dX6_areLetters_8 rfl (lv_at hl 0 rfl) ?_
      refine va_alen hx hb hK hP 0 0 rfl rfl (v := nI n1) rfl dX6_areLetters_9 ?_
      refine lv_icmp_ge (tgt := 35) hx hb dX6_areLetters_10 (by decide) (fun c_2 => ?_) (fun c_2 => ?_)
      · rw [if_pos c_2] at hM
        refine lv_iconst (v := 1) hx hb dX6_areLetters_35 (by decide) ?_
        have q1 := Option.some.inj hM
        subst q1
        exact kr _ _ _ _ dX6_areLetters_36 (by decide) hP hD hS
      · rw [if_neg c_2] at hM
        refine lv_aload_n hx hb dX6_areLetters_13 rfl (lv_at hl 0 rfl) ?_
        refine lv_iload_n hx hb dX6_areLetters_14 rfl (lv_at hl 2 rfl) ?_
        obtain ⟨g_3, hM⟩ := ng hM
        refine va_iald hx hb hK hP 0 0 rfl rfl g_3 dX6_areLetters_15 ?_
        refine lv_if_lt (tgt := 27) hx hb dX6_areLetters_16 (by decide) (fun c_4 => ?_) (fun c_4 => ?_)
        · rw [if_pos c_4] at hM
          refine lv_iconst (v := 0) hx hb dX6_areLetters_27 (by decide) ?_
          have q1 := Option.some.inj hM
          subst q1
          exact kr _ _ _ _ dX6_areLetters_28 (by decide) hP hD hS
        · rw [if_neg c_4] at hM
          refine lv_aload_n hx hb dX6_areLetters_19 rfl (lv_at hl 0 rfl) ?_
          refine lv_iload_n hx hb dX6_areLetters_20 rfl (lv_at hl 2 rfl) ?_
          obtain ⟨g_5, hM⟩ := ng hM
          refine va_iald hx hb hK hP 0 0 rfl rfl g_5 dX6_areLetters_21 ?_
          refine lv_bipush (v := 25) hx hb dX6_areLetters_22 (by decide) ?_
          refine lv_icmp_le (tgt := 29) hx hb dX6_areLetters_24 (by decide) (fun c_6 => ?_) (fun c_6 => ?_)
          · rw [if_pos c_6] at hM
            refine lv_iinc (v := (x2 + 1)) (lv' := [(2, .int (x2 + 1)), (0, .ref arA1), (1, .int p2)]) hx hb dX6_areLetters_29 hl (k := 2) rfl rfl (by decide) rfl (fun ls hl => ?_)
            refine lv_goto (tgt := 2) hx hb dX6_areLetters_32 (by decide) ?_
            exact ih (x2 + 1) hM _ _ _ hP hD hS (lv_sub hl [1, 2, 0] rfl)
          · rw [if_neg c_6] at hM
            refine lv_iconst (v := 0) hx hb dX6_areLetters_27 (by decide) ?_
            have q1 := Option.some.inj hM
            subst q1
            exact kr _ _ _ _ dX6_areLetters_28 (by decide) hP hD hS
set_option maxHeartbeats 4000000 in
set_option maxRecDepth 100000 in
theorem wX6_areLetters_b0 {p : Program} {l : Launch} {e : Env} {s : State} {m : MethodId} {args : Array Value} {below : List Frame} {meth : Method} {c : Code} {Q : State → Prop} {G : va_G} {K : Nat → ClassId} {A : Nat → Prop} {tt : Nat → Nat} {L : List Nat} {la : Nat → Nat} {sa : Nat → Nat} {ln : Nat → Int32} {sy : Nat → Int32} {sn : Nat → Int32} {lt : Nat → Nat → Int32} {st : Nat → Nat → Int32} (C0 : CX p s m args c cX6_areLetters 3 RX6 G K (EC G K tt L la sa ln sy sn lt st) A) (arA1 : Nat) (n1 : Nat) (ar1 : Nat → Int32) (p2 : Int32) (r : Int32)  (kr : ∀ (H : Heap) (locs : List Loc) (ls : Array Slot) (pc : Nat), decode cX6_areLetters pc = .ok (.ireturn, 1) → (r = 0 ∨ r = 1) → va_P G vwCl (WX6_areLetters K arA1 n1 ar1) H → va_D A (WX6_areLetters K arA1 n1 ar1) → va_S A s.heap H locs → W p l e rmX6_areLetters s m args below meth c H locs 0 0 Q (F0 m pc ls [.int r]))  (hM : mX6_areLetters_b0 n1 ar1 p2   = some r) : ∀ (H : Heap) (locs : List Loc) (ls : Array Slot), va_P G vwCl (WX6_areLetters K arA1 n1 ar1) H → va_D A (WX6_areLetters K arA1 n1 ar1) → va_S A s.heap H locs → lv_has ls 3 [(0, .ref arA1), (1, .int p2)] → W p l e rmX6_areLetters s m args below meth c H locs 0 0 Q (F0 m 0 ls []) := by
  obtain ⟨hx, hb, hml, hown, hts, hK, hA, hEo, hE⟩ := id C0
  intro H locs ls hP hD hS hl
  unfold mX6_areLetters_b0 at hM
  refine lv_iconst (v := 0) hx hb dX6_areLetters_0 (by decide) ?_
  refine lv_istore_n (lv' := [(2, .int (0 : Int32)), (0, .ref arA1), (1, .int p2)]) hx hb dX6_areLetters_1 rfl hl (by decide) rfl (fun ls hl => ?_)
  exact wX6_areLetters_b2 C0 arA1 n1 ar1 p2 r kr  FU (0 : Int32) hM _ _ _ hP hD hS (lv_sub hl [1, 2, 0] rfl)
set_option maxHeartbeats 4000000 in
set_option maxRecDepth 100000 in
theorem kX6_areLetters (l : Launch) (G : va_G) (K : Nat → ClassId) (tt : Nat → Nat) (L : List Nat) (la : Nat → Nat) (sa : Nat → Nat) (ln : Nat → Int32) (sy : Nat → Int32) (sn : Nat → Int32) (lt : Nat → Nat → Int32) (st : Nat → Nat → Int32) (arA1 : Nat) (n1 : Nat) (ar1 : Nat → Int32) (p2 : Int32) (sz : Nat) (r : Int32)  (hM : mX6_areLetters n1 ar1 p2 = some r) : Met l yX6_areLetters (mC yX6_areLetters cX6_areLetters 3 (some .boolean)) rmX6_areLetters (va_Pc [.ref arA1, .int p2] (PCe G K (EC G K tt L la sa ln sy sn lt st) (WX6_areLetters K arA1 n1 ar1) sz)) (va_Qi (fun (x : Int32) (_ : Unit) => x = r) (fun _ t => va_P G vwCl (WX6_areLetters K arA1 n1 ar1) t.heap) (va_A (WX6_areLetters K arA1 n1 ar1) sz)) rmX6_areLetters.cells rmX6_areLetters.slots (va_A (WX6_areLetters K arA1 n1 ar1) sz) := by
  refine Met.ofW (cc := cX6_areLetters) (maxL := 3) (ret := (some .boolean)) (by decide) rfl ?_
  intro p e s m args below meth c s₁ B hml hv
  obtain ⟨rfl, hsz, hP, hK, hD0, hE⟩ := hv
  have hx := B.exec
  have hb := B.bytes
  have hr := B.returns
  have hts0 := atoms_spec (ws := mC yX6_areLetters cX6_areLetters 3 (some .boolean)) B.pre
  have hts : ∀ w ∈ tbG, w.before _ s = true := fun w h => hts0 w (List.mem_cons_of_mem _ h)
  have hown : s.vm.findClass RX6 = some m.cls := findClass_of_methodNamed B.named
  subst hsz
  have hD := hD0.self (sz := s.heap.size)
  generalize hAe : va_A (WX6_areLetters K arA1 n1 ar1) s.heap.size = A at hD hE ⊢
  have hA : ∀ q : Nat, s.heap.size ≤ q → A q := fun q h => by rw [← hAe]; exact Or.inr h
  have hS : va_S A s.heap s.heap [] := va_S.rf
  have hl := lv_entry ([.ref arA1, .int p2]) (n := 3) (Nat.le_of_ble_eq_true rfl)
  rw [lg_entry_eq]
  generalize (lg_sl ([.ref arA1, .int p2]) ++ List.replicate (3 - (lg_sl ([.ref arA1, .int p2])).length) Slot.unset).toArray = ls at hl ⊢
  have hl : lv_has ls 3 [(0, .ref arA1), (1, .int p2)] := hl
  exact wX6_areLetters_b0 ⟨hx, hb, hml, hown, hts, hK, hA, EC_ok _ _ _ _ _ _ _ _ _ _ _, hE⟩ arA1 n1 ar1 p2 r (fun H locs ls pc hdg hz hP hD hS => W.zret (v := r) (ty := .boolean) hx hb hr (nar_b hz) (fun t ht hW => ⟨⟨r, (), rfl, rfl, (show va_P G vwCl _ t.heap by rw [ht]; exact hP)⟩, hS.F ht⟩) hS.2.2 hdg)   hM _ _ _ hP hD hS hl
abbrev WX2_firstOf (K : Nat → ClassId) (po_a poA_sizes poA_kinds poA_spelled poA_scheme : Nat) (po_foot : Int32) (po_feet : Int32) (po_lines : Int32) (po_words : Int32) (po_sizes : Nat → Int32) (po_kinds : Nat → Int32) (po_spelled : Nat → Nat) (po_scheme : Nat → Int32) : va_W := [(po_a, .inr (2, [.int po_foot, .int po_feet, .int po_lines, .int po_words, .ref poA_sizes, .ref poA_kinds, .ref poA_spelled, .ref poA_scheme])), aI K poA_sizes 4 po_sizes, aI K poA_kinds 20 po_kinds, aS K poA_spelled 20 po_spelled, aI K poA_scheme 4 po_scheme]
def rmX2_firstOf : Room := { frames := 0, cells := 0, slots := 0, locals := 0 }
theorem hdX2_firstOf : yX2_firstOf.cls = RX2 ∧ yX2_firstOf.cls ≠ "java/lang/invoke/MethodHandle" ∧ yX2_firstOf.cls ≠ "java/lang/invoke/VarHandle" ∧ (parseMethodDescriptor yX2_firstOf.desc).map (fun d => d.parameters.length) = some 1 := by decide +kernel
set_option maxHeartbeats 4000000 in
set_option maxRecDepth 100000 in
theorem wX2_firstOf_b4 {p : Program} {l : Launch} {e : Env} {s : State} {m : MethodId} {args : Array Value} {below : List Frame} {meth : Method} {c : Code} {Q : State → Prop} {G : va_G} {K : Nat → ClassId} {A : Nat → Prop} {tt : Nat → Nat} {L : List Nat} {la : Nat → Nat} {sa : Nat → Nat} {ln : Nat → Int32} {sy : Nat → Int32} {sn : Nat → Int32} {lt : Nat → Nat → Int32} {st : Nat → Nat → Int32} (C0 : CX p s m args c cX2_firstOf 4 RX2 G K (EC G K tt L la sa ln sy sn lt st) A) (po_a poA_sizes poA_kinds poA_spelled poA_scheme : Nat) (po_foot : Int32) (po_feet : Int32) (po_lines : Int32) (po_words : Int32) (po_sizes : Nat → Int32) (po_kinds : Nat → Int32) (po_spelled : Nat → Nat) (po_scheme : Nat → Int32) (p1 : Int32) (r : Int32)  (kr : ∀ (H : Heap) (locs : List Loc) (ls : Array Slot) (pc : Nat), decode cX2_firstOf pc = .ok (.ireturn, 1) → va_P G vwCl (WX2_firstOf K po_a poA_sizes poA_kinds poA_spelled poA_scheme po_foot po_feet po_lines po_words po_sizes po_kinds po_spelled po_scheme) H → va_D A (WX2_firstOf K po_a poA_sizes poA_kinds poA_spelled poA_scheme po_foot po_feet po_lines po_words po_sizes po_kinds po_spelled po_scheme) → va_S A s.heap H locs → W p l e rmX2_firstOf s m args below meth c H locs 0 0 Q (F0 m pc ls [.int r])) (n : Nat) : ∀ (x2 : Int32) (x3 : Int32), mX2_firstOf_b4 po_sizes p1  n x2 x3 = some r → ∀ (H : Heap) (locs : List Loc) (ls : Array Slot), va_P G vwCl (WX2_firstOf K po_a poA_sizes poA_kinds poA_spelled poA_scheme po_foot po_feet po_lines po_words po_sizes po_kinds po_spelled po_scheme) H → va_D A (WX2_firstOf K po_a poA_sizes poA_kinds poA_spelled poA_scheme po_foot po_feet po_lines po_words po_sizes po_kinds po_spelled po_scheme) → va_S A s.heap H locs → lv_has ls 4 [(0, .ref po_a), (1, .int p1), (2, .int x2), (3, .int x3)] → W p l e rmX2_firstOf s m args below meth c H locs 0 0 Q (F0 m 4 ls []) := by
  obtain ⟨hx, hb, hml, hown, hts, hK, hA, hEo, hE⟩ := id C0
  induction n with
  | zero =>
    intro x2 x3 hM
    cases hM
  | succ n ih =>
    intro x2 x3 hM H locs ls hP hD hS hl
    rw [mX2_firstOf_b4] at hM
    refine lv_iload_n hx hb dX2_firstOf_4 rfl (lv_at hl 3 rfl) ?_
    refine lv_iload_n hx hb dX2_firstOf_5 rfl (lv_at hl 1 rfl) ?_
    refine lv_icmp_ge (tgt := 29) hx hb dX2_firstOf_6 (by decide) (fun c_1 => ?_) (fun c_1 => ?_)
    · rw [if_pos c_1] at hM
      refine lv_iload_n hx hb dX2_firstOf_29 rfl (lv_at hl 2 rfl) ?_
      have q1 := Option.some.inj hM
      subst q1
      exact kr _ _ _ _ dX2_firstOf_30 hP hD hS
    · rw [if_neg c_1] at hM
      refine lv_iload_n hx hb dX2_firstOf_9 rfl (lv_at hl 3 rfl) ?_
      refine lv_iconst (v := 4) hx hb dX2_firstOf_10 (by decide) ?_
      refine lv_icmp_ge (tgt := 29) hx hb dX2_firstOf_11 (by decide) (fun c_2 => ?_) (fun c_2 => ?_)
      · rw [if_pos c_2] at hM
        refine lv_iload_n hx hb dX2_firstOf_29 rfl (lv_at hl 2 rfl) ?_
        have q1 := Option.some.inj hM
        subst q1
        exact kr _ _ _ _ dX2_firstOf_30 hP hD hS
      · rw [if_neg c_2] at hM
        refine lv_iload_n hx hb dX2_firstOf_14 rfl (lv_at hl 2 rfl) ?_
        refine lv_aload_n hx hb dX2_firstOf_15 rfl (lv_at hl 0 rfl) ?_
        refine va_get (D := G) (ci := 2) (v := .ref poA_sizes) (C := RX2) (T := TX2) (N := 8) hx hb hts inX2 hown hK hP 0 rfl rfl 4 (by decide) (hts _ tb187) (fun _ h9 => h9) rfl dX2_firstOf_16 ?_
        refine lv_iload_n hx hb dX2_firstOf_19 rfl (lv_at hl 3 rfl) ?_
        obtain ⟨g_3, hM⟩ := ng hM
        refine va_iald hx hb hK hP 1 0 rfl rfl g_3 dX2_firstOf_20 ?_
        refine lv_iadd hx hb dX2_firstOf_21 ?_
        refine lv_istore_n (lv' := [(2, .int (x2 + (po_sizes x3.toNatClampNeg))), (0, .ref po_a), (1, .int p1), (3, .int x3)]) hx hb dX2_firstOf_22 rfl hl (by decide) rfl (fun ls hl => ?_)
        refine lv_iinc (v := (x3 + 1)) (lv' := [(3, .int (x3 + 1)), (2, .int (x2 + (po_sizes x3.toNatClampNeg))), (0, .ref po_a), (1, .int p1)]) hx hb dX2_firstOf_23 hl (k := 3) rfl rfl (by decide) rfl (fun ls hl => ?_)
        refine lv_goto (tgt := 4) hx hb dX2_firstOf_26 (by decide) ?_
        exact ih (x2 + (po_sizes x3.toNatClampNeg)) (x3 + 1) hM _ _ _ hP hD hS (lv_sub hl [2, 3, 1, 0] rfl)
set_option maxHeartbeats 4000000 in
set_option maxRecDepth 100000 in
theorem wX2_firstOf_b0 {p : Program} {l : Launch} {e : Env} {s : State} {m : MethodId} {args : Array Value} {below : List Frame} {meth : Method} {c : Code} {Q : State → Prop} {G : va_G} {K : Nat → ClassId} {A : Nat → Prop} {tt : Nat → Nat} {L : List Nat} {la : Nat → Nat} {sa : Nat → Nat} {ln : Nat → Int32} {sy : Nat → Int32} {sn : Nat → Int32} {lt : Nat → Nat → Int32} {st : Nat → Nat → Int32} (C0 : CX p s m args c cX2_firstOf 4 RX2 G K (EC G K tt L la sa ln sy sn lt st) A) (po_a poA_sizes poA_kinds poA_spelled poA_scheme : Nat) (po_foot : Int32) (po_feet : Int32) (po_lines : Int32) (po_words : Int32) (po_sizes : Nat → Int32) (po_kinds : Nat → Int32) (po_spelled : Nat → Nat) (po_scheme : Nat → Int32) (p1 : Int32) (r : Int32)  (kr : ∀ (H : Heap) (locs : List Loc) (ls : Array Slot) (pc : Nat), decode cX2_firstOf pc = .ok (.ireturn, 1) → va_P G vwCl (WX2_firstOf K po_a poA_sizes poA_kinds poA_spelled poA_scheme po_foot po_feet po_lines po_words po_sizes po_kinds po_spelled po_scheme) H → va_D A (WX2_firstOf K po_a poA_sizes poA_kinds poA_spelled poA_scheme po_foot po_feet po_lines po_words po_sizes po_kinds po_spelled po_scheme) → va_S A s.heap H locs → W p l e rmX2_firstOf s m args below meth c H locs 0 0 Q (F0 m pc ls [.int r]))  (hM : mX2_firstOf_b0 po_sizes p1   = some r) : ∀ (H : Heap) (locs : List Loc) (ls : Array Slot), va_P G vwCl (WX2_firstOf K po_a poA_sizes poA_kinds poA_spelled poA_scheme po_foot po_feet po_lines po_words po_sizes po_kinds po_spelled po_scheme) H → va_D A (WX2_firstOf K po_a poA_sizes poA_kinds poA_spelled poA_scheme po_foot po_feet po_lines po_words po_sizes po_kinds po_spelled po_scheme) → va_S A s.heap H locs → lv_has ls 4 [(0, .ref po_a), (1, .int p1)] → W p l e rmX2_firstOf s m args below meth c H locs 0 0 Q (F0 m 0 ls []) := by
  obtain ⟨hx, hb, hml, hown, hts, hK, hA, hEo, hE⟩ := id C0
  intro H locs ls hP hD hS hl
  unfold mX2_firstOf_b0 at hM
  refine lv_iconst (v := 0) hx hb dX2_firstOf_0 (by decide) ?_
  refine lv_istore_n (lv' := [(2, .int (0 : Int32)), (0, .ref po_a), (1, .int p1)]) hx hb dX2_firstOf_1 rfl hl (by decide) rfl (fun ls hl => ?_)
  refine lv_iconst (v := 0) hx hb dX2_firstOf_2 (by decide) ?_
  refine lv_istore_n (lv' := [(3, .int (0 : Int32)), (2, .int (0 : Int32)), (0, .ref po_a), (1, .int p1)]) hx hb dX2_firstOf_3 rfl hl (by decide) rfl (fun ls hl => ?_)
  exact wX2_firstOf_b4 C0 po_a poA_sizes poA_kinds poA_spelled poA_scheme po_foot po_feet po_lines po_words po_sizes po_kinds po_spelled po_scheme p1 r kr  FU (0 : Int32) (0 : Int32) hM _ _ _ hP hD hS (lv_sub hl [2, 3, 1, 0] rfl)
set_option maxHeartbeats 4000000 in
set_option maxRecDepth 100000 in
theorem kX2_firstOf (l : Launch) (G : va_G) (K : Nat → ClassId) (tt : Nat → Nat) (L : List Nat) (la : Nat → Nat) (sa : Nat → Nat) (ln : Nat → Int32) (sy : Nat → Int32) (sn : Nat → Int32) (lt : Nat → Nat → Int32) (st : Nat → Nat → Int32) (po_a poA_sizes poA_kinds poA_spelled poA_scheme : Nat) (po_foot : Int32) (po_feet : Int32) (po_lines : Int32) (po_words : Int32) (po_sizes : Nat → Int32) (po_kinds : Nat → Int32) (po_spelled : Nat → Nat) (po_scheme : Nat → Int32) (p1 : Int32) (sz : Nat) (r : Int32)  (hM : mX2_firstOf po_sizes p1 = some r) : Met l yX2_firstOf (mC yX2_firstOf cX2_firstOf 4 (some .int)) rmX2_firstOf (va_Pc [.ref po_a, .int p1] (PCe G K (EC G K tt L la sa ln sy sn lt st) (WX2_firstOf K po_a poA_sizes poA_kinds poA_spelled poA_scheme po_foot po_feet po_lines po_words po_sizes po_kinds po_spelled po_scheme) sz)) (va_Qi (fun (x : Int32) (_ : Unit) => x = r) (fun _ t => va_P G vwCl (WX2_firstOf K po_a poA_sizes poA_kinds poA_spelled poA_scheme po_foot po_feet po_lines po_words po_sizes po_kinds po_spelled po_scheme) t.heap) (va_A (WX2_firstOf K po_a poA_sizes poA_kinds poA_spelled poA_scheme po_foot po_feet po_lines po_words po_sizes po_kinds po_spelled po_scheme) sz)) rmX2_firstOf.cells rmX2_firstOf.slots (va_A (WX2_firstOf K po_a poA_sizes poA_kinds poA_spelled poA_scheme po_foot po_feet po_lines po_words po_sizes po_kinds po_spelled po_scheme) sz) := by
  refine Met.ofW (cc := cX2_firstOf) (maxL := 4) (ret := (some .int)) (by decide) rfl ?_
  intro p e s m args below meth c s₁ B hml hv
  obtain ⟨rfl, hsz, hP, hK, hD0, hE⟩ := hv
  have hx := B.exec
  have hb := B.bytes
  have hr := B.returns
  have hts0 := atoms_spec (ws := mC yX2_firstOf cX2_firstOf 4 (some .int)) B.pre
  have hts : ∀ w ∈ tbG, w.before _ s = true := fun w h => hts0 w (List.mem_cons_of_mem _ h)
  have hown : s.vm.findClass RX2 = some m.cls := findClass_of_methodNamed B.named
  subst hsz
  have hD := hD0.self (sz := s.heap.size)
  generalize hAe : va_A (WX2_firstOf K po_a poA_sizes poA_kinds poA_spelled poA_scheme po_foot po_feet po_lines po_words po_sizes po_kinds po_spelled po_scheme) s.heap.size = A at hD hE ⊢
  have hA : ∀ q : Nat, s.heap.size ≤ q → A q := fun q h => by rw [← hAe]; exact Or.inr h
  have hS : va_S A s.heap s.heap [] := va_S.rf
  have hl := lv_entry ([.ref po_a, .int p1]) (n := 4) (Nat.le_of_ble_eq_true rfl)
  rw [lg_entry_eq]
  generalize (lg_sl ([.ref po_a, .int p1]) ++ List.replicate (4 - (lg_sl ([.ref po_a, .int p1])).length) Slot.unset).toArray = ls at hl ⊢
  have hl : lv_has ls 4 [(0, .ref po_a), (1, .int p1)] := hl
  exact wX2_firstOf_b0 ⟨hx, hb, hml, hown, hts, hK, hA, EC_ok _ _ _ _ _ _ _ _ _ _ _, hE⟩ po_a poA_sizes poA_kinds poA_spelled poA_scheme po_foot po_feet po_lines po_words po_sizes po_kinds po_spelled po_scheme p1 r (fun H locs ls pc hdg hP hD hS => W.iret (v := r) hx hb hr (fun t ht hW => ⟨⟨r, (), rfl, rfl, (show va_P G vwCl _ t.heap by rw [ht]; exact hP)⟩, hS.F ht⟩) hS.2.2 hdg)   hM _ _ _ hP hD hS hl
abbrev WX2_lineOf (K : Nat → ClassId) (po_a poA_sizes poA_kinds poA_spelled poA_scheme : Nat) (po_foot : Int32) (po_feet : Int32) (po_lines : Int32) (po_words : Int32) (po_sizes : Nat → Int32) (po_kinds : Nat → Int32) (po_spelled : Nat → Nat) (po_scheme : Nat → Int32) : va_W := [(po_a, .inr (2, [.int po_foot, .int po_feet, .int po_lines, .int po_words, .ref poA_sizes, .ref poA_kinds, .ref poA_spelled, .ref poA_scheme])), aI K poA_sizes 4 po_sizes, aI K poA_kinds 20 po_kinds, aS K poA_spelled 20 po_spelled, aI K poA_scheme 4 po_scheme]
def rmX2_lineOf : Room := { frames := 0, cells := 0, slots := 0, locals := 0 }
theorem hdX2_lineOf : yX2_lineOf.cls = RX2 ∧ yX2_lineOf.cls ≠ "java/lang/invoke/MethodHandle" ∧ yX2_lineOf.cls ≠ "java/lang/invoke/VarHandle" ∧ (parseMethodDescriptor yX2_lineOf.desc).map (fun d => d.parameters.length) = some 1 := by decide +kernel
set_option maxHeartbeats 4000000 in
set_option maxRecDepth 100000 in
theorem wX2_lineOf_b4 {p : Program} {l : Launch} {e : Env} {s : State} {m : MethodId} {args : Array Value} {below : List Frame} {meth : Method} {c : Code} {Q : State → Prop} {G : va_G} {K : Nat → ClassId} {A : Nat → Prop} {tt : Nat → Nat} {L : List Nat} {la : Nat → Nat} {sa : Nat → Nat} {ln : Nat → Int32} {sy : Nat → Int32} {sn : Nat → Int32} {lt : Nat → Nat → Int32} {st : Nat → Nat → Int32} (C0 : CX p s m args c cX2_lineOf 4 RX2 G K (EC G K tt L la sa ln sy sn lt st) A) (po_a poA_sizes poA_kinds poA_spelled poA_scheme : Nat) (po_foot : Int32) (po_feet : Int32) (po_lines : Int32) (po_words : Int32) (po_sizes : Nat → Int32) (po_kinds : Nat → Int32) (po_spelled : Nat → Nat) (po_scheme : Nat → Int32) (p1 : Int32) (r : Int32)  (kr : ∀ (H : Heap) (locs : List Loc) (ls : Array Slot) (pc : Nat), decode cX2_lineOf pc = .ok (.ireturn, 1) → va_P G vwCl (WX2_lineOf K po_a poA_sizes poA_kinds poA_spelled poA_scheme po_foot po_feet po_lines po_words po_sizes po_kinds po_spelled po_scheme) H → va_D A (WX2_lineOf K po_a poA_sizes poA_kinds poA_spelled poA_scheme po_foot po_feet po_lines po_words po_sizes po_kinds po_spelled po_scheme) → va_S A s.heap H locs → W p l e rmX2_lineOf s m args below meth c H locs 0 0 Q (F0 m pc ls [.int r])) (n : Nat) : ∀ (x2 : Int32) (x3 : Int32), mX2_lineOf_b4 po_lines po_sizes p1  n x2 x3 = some r → ∀ (H : Heap) (locs : List Loc) (ls : Array Slot), va_P G vwCl (WX2_lineOf K po_a poA_sizes poA_kinds poA_spelled poA_scheme po_foot po_feet po_lines po_words po_sizes po_kinds po_spelled po_scheme) H → va_D A (WX2_lineOf K po_a poA_sizes poA_kinds poA_spelled poA_scheme po_foot po_feet po_lines po_words po_sizes po_kinds po_spelled po_scheme) → va_S A s.heap H locs → lv_has ls 4 [(0, .ref po_a), (1, .int p1), (2, .int x2), (3, .int x3)] → W p l e rmX2_lineOf s m args below meth c H locs 0 0 Q (F0 m 4 ls []) := by
  obtain ⟨hx, hb, hml, hown, hts, hK, hA, hEo, hE⟩ := id C0
  induction n with
  | zero =>
    intro x2 x3 hM
    cases hM
  | succ n ih =>
    intro x2 x3 hM H locs ls hP hD hS hl
    rw [mX2_lineOf_b4] at hM
    refine lv_iload_n hx hb dX2_lineOf_4 rfl (lv_at hl 3 rfl) ?_
    refine lv_aload_n hx hb dX2_lineOf_5 rfl (lv_at hl 0 rfl) ?_
    refine va_get (D := G) (ci := 2) (v := .int po_lines) (C := RX2) (T := TX2) (N := 8) hx hb hts inX2 hown hK hP 0 rfl rfl 2 (by decide) (hts _ tb182) (fun _ h9 => h9) rfl dX2_lineOf_6 ?_
    refine lv_icmp_ge (tgt := 34) hx hb dX2_lineOf_9 (by decide) (fun c_1 => ?_) (fun c_1 => ?_)
    · rw [if_pos c_1] at hM
      refine lv_iconst (v := 0) hx hb dX2_lineOf_34 (by decide) ?_
      have q1 := Option.some.inj hM
      subst q1
      exact kr _ _ _ _ dX2_lineOf_35 hP hD hS
    · rw [if_neg c_1] at hM
      refine lv_iload_n hx hb dX2_lineOf_12 rfl (lv_at hl 2 rfl) ?_
      refine lv_aload_n hx hb dX2_lineOf_13 rfl (lv_at hl 0 rfl) ?_
      refine va_get (D := G) (ci := 2) (v := .ref poA_sizes) (C := RX2) (T := TX2) (N := 8) hx hb hts inX2 hown hK hP 0 rfl rfl 4 (by decide) (hts _ tb187) (fun _ h9 => h9) rfl dX2_lineOf_14 ?_
      refine lv_iload_n hx hb dX2_lineOf_17 rfl (lv_at hl 3 rfl) ?_
      obtain ⟨g_2, hM⟩ := ng hM
      refine va_iald hx hb hK hP 1 0 rfl rfl g_2 dX2_lineOf_18 ?_
      refine lv_iadd hx hb dX2_lineOf_19 ?_
      refine lv_istore_n (lv' := [(2, .int (x2 + (po_sizes x3.toNatClampNeg))), (0, .ref po_a), (1, .int p1), (3, .int x3)]) hx hb dX2_lineOf_20 rfl hl (by decide) rfl (fun ls hl => ?_)
      refine lv_iload_n hx hb dX2_lineOf_21 rfl (lv_at hl 2 rfl) ?_
      refine lv_iload_n hx hb dX2_lineOf_22 rfl (lv_at hl 0 rfl) ?_
      refine lv_icmp_ge (tgt := 28) hx hb dX2_lineOf_23 (by decide) (fun c_3 => ?_) (fun c_3 => ?_)
      · rw [if_pos c_3] at hM
        refine lv_iinc (v := (x3 + 1)) (lv' := [(3, .int (x3 + 1)), (2, .int (x2 + (po_sizes x3.toNatClampNeg))), (0, .ref po_a), (1, .int p1)]) hx hb dX2_lineOf_28 hl (k := 3) rfl rfl (by decide) rfl (fun ls hl => ?_)
        refine lv_goto (tgt := 4) hx hb dX2_lineOf_31 (by decide) ?_
        exact ih (x2 + (po_sizes x3.toNatClampNeg)) (x3 + 1) hM _ _ _ hP hD hS (lv_sub hl [2, 3, 1, 0] rfl)
      · rw [if_neg c_3] at hM
        refine lv_iload_n hx hb dX2_lineOf_26 rfl (lv_at hl 3 rfl) ?_
        have q1 := Option.some.inj hM
        subst q1
        exact kr _ _ _ _ dX2_lineOf_27 hP hD hS
set_option maxHeartbeats 4000000 in
set_option maxRecDepth 100000 in
theorem wX2_lineOf_b0 {p : Program} {l : Launch} {e : Env} {s : State} {m : MethodId} {args : Array Value} {below : List Frame} {meth : Method} {c : Code} {Q : State → Prop} {G : va_G} {K : Nat → ClassId} {A : Nat → Prop} {tt : Nat → Nat} {L : List Nat} {la : Nat → Nat} {sa : Nat → Nat} {ln : Nat → Int32} {sy : Nat → Int32} {sn : Nat → Int32} {lt : Nat → Nat → Int32} {st : Nat → Nat → Int32} (C0 : CX p s m args c cX2_lineOf 4 RX2 G K (EC G K tt L la sa ln sy sn lt st) A) (po_a poA_sizes poA_kinds poA_spelled poA_scheme : Nat) (po_foot : Int32) (po_feet : Int32) (po_lines : Int32) (po_words : Int32) (po_sizes : Nat → Int32) (po_kinds : Nat → Int32) (po_spelled : Nat → Nat) (po_scheme : Nat → Int32) (p1 : Int32) (r : Int32)  (kr : ∀ (H : Heap) (locs : List Loc) (ls : Array Slot) (pc : Nat), decode cX2_lineOf pc = .ok (.ireturn, 1) → va_P G vwCl (WX2_lineOf K po_a poA_sizes poA_kinds poA_spelled poA_scheme po_foot po_feet po_lines po_words po_sizes po_kinds po_spelled po_scheme) H → va_D A (WX2_lineOf K po_a poA_sizes poA_kinds poA_spelled poA_scheme po_foot po_feet po_lines po_words po_sizes po_kinds po_spelled po_scheme) → va_S A s.heap H locs → W p l e rmX2_lineOf s m args below meth c H locs 0 0 Q (F0 m pc ls [.int r]))  (hM : mX2_lineOf_b0 po_lines po_sizes p1   = some r) : ∀ (H : Heap) (locs : List Loc) (ls : Array Slot), va_P G vwCl (WX2_lineOf K po_a poA_sizes poA_kinds poA_spelled poA_scheme po_foot po_feet po_lines po_words po_sizes po_kinds po_spelled po_scheme) H → va_D A (WX2_lineOf K po_a poA_sizes poA_kinds poA_spelled poA_scheme po_foot po_feet po_lines po_words po_sizes po_kinds po_spelled po_scheme) → va_S A s.heap H locs → lv_has ls 4 [(0, .ref po_a), (1, .int p1)] → W p l e rmX2_lineOf s m args below meth c H locs 0 0 Q (F0 m 0 ls []) := by
  obtain ⟨hx, hb, hml, hown, hts, hK, hA, hEo, hE⟩ := id C0
  intro H locs ls hP hD hS hl
  unfold mX2_lineOf_b0 at hM
  refine lv_iconst (v := 0) hx hb dX2_lineOf_0 (by decide) ?_
  refine lv_istore_n (lv' := [(2, .int (0 : Int32)), (0, .ref po_a), (1, .int p1)]) hx hb dX2_lineOf_1 rfl hl (by decide) rfl (fun ls hl => ?_)
  refine lv_iconst (v := 0) hx hb dX2_lineOf_2 (by decide) ?_
  refine lv_istore_n (lv' := [(3, .int (0 : Int32)), (2, .int (0 : Int32)), (0, .ref po_a), (1, .int p1)]) hx hb dX2_lineOf_3 rfl hl (by decide) rfl (fun ls hl => ?_)
  exact wX2_lineOf_b4 C0 po_a poA_sizes poA_kinds poA_spelled poA_scheme po_foot po_feet po_lines po_words po_sizes po_kinds po_spelled po_scheme p1 r kr  FU (0 : Int32) (0 : Int32) hM _ _ _ hP hD hS (lv_sub hl [2, 3, 1, 0] rfl)
set_option maxHeartbeats 4000000 in
set_option maxRecDepth 100000 in
theorem kX2_lineOf (l : Launch) (G : va_G) (K : Nat → ClassId) (tt : Nat → Nat) (L : List Nat) (la : Nat → Nat) (sa : Nat → Nat) (ln : Nat → Int32) (sy : Nat → Int32) (sn : Nat → Int32) (lt : Nat → Nat → Int32) (st : Nat → Nat → Int32) (po_a poA_sizes poA_kinds poA_spelled poA_scheme : Nat) (po_foot : Int32) (po_feet : Int32) (po_lines : Int32) (po_words : Int32) (po_sizes : Nat → Int32) (po_kinds : Nat → Int32) (po_spelled : Nat → Nat) (po_scheme : Nat → Int32) (p1 : Int32) (sz : Nat) (r : Int32)  (hM : mX2_lineOf po_lines po_sizes p1 = some r) : Met l yX2_lineOf (mC yX2_lineOf cX2_lineOf 4 (some .int)) rmX2_lineOf (va_Pc [.ref po_a, .int p1] (PCe G K (EC G K tt L la sa ln sy sn lt st) (WX2_lineOf K po_a poA_sizes poA_kinds poA_spelled poA_scheme po_foot po_feet po_lines po_words po_sizes po_kinds po_spelled po_scheme) sz)) (va_Qi (fun (x : Int32) (_ : Unit) => x = r) (fun _ t => va_P G vwCl (WX2_lineOf K po_a poA_sizes poA_kinds poA_spelled poA_scheme po_foot po_feet po_lines po_words po_sizes po_kinds po_spelled po_scheme) t.heap) (va_A (WX2_lineOf K po_a poA_sizes poA_kinds poA_spelled poA_scheme po_foot po_feet po_lines po_words po_sizes po_kinds po_spelled po_scheme) sz)) rmX2_lineOf.cells rmX2_lineOf.slots (va_A (WX2_lineOf K po_a poA_sizes poA_kinds poA_spelled poA_scheme po_foot po_feet po_lines po_words po_sizes po_kinds po_spelled po_scheme) sz) := by
  refine Met.ofW (cc := cX2_lineOf) (maxL := 4) (ret := (some .int)) (by decide) rfl ?_
  intro p e s m args below meth c s₁ B hml hv
  obtain ⟨rfl, hsz, hP, hK, hD0, hE⟩ := hv
  have hx := B.exec
  have hb := B.bytes
  have hr := B.returns
  have hts0 := atoms_spec (ws := mC yX2_lineOf cX2_lineOf 4 (some .int)) B.pre
  have hts : ∀ w ∈ tbG, w.before _ s = true := fun w h => hts0 w (List.mem_cons_of_mem _ h)
  have hown : s.vm.findClass RX2 = some m.cls := findClass_of_methodNamed B.named
  subst hsz
  have hD := hD0.self (sz := s.heap.size)
  generalize hAe : va_A (WX2_lineOf K po_a poA_sizes poA_kinds poA_spelled poA_scheme po_foot po_feet po_lines po_words po_sizes po_kinds po_spelled po_scheme) s.heap.size = A at hD hE ⊢
  have hA : ∀ q : Nat, s.heap.size ≤ q → A q := fun q h => by rw [← hAe]; exact Or.inr h
  have hS : va_S A s.heap s.heap [] := va_S.rf
  have hl := lv_entry ([.ref po_a, .int p1]) (n := 4) (Nat.le_of_ble_eq_true rfl)
  rw [lg_entry_eq]
  generalize (lg_sl ([.ref po_a, .int p1]) ++ List.replicate (4 - (lg_sl ([.ref po_a, .int p1])).length) Slot.unset).toArray = ls at hl ⊢
  have hl : lv_has ls 4 [(0, .ref po_a), (1, .int p1)] := hl
  exact wX2_lineOf_b0 ⟨hx, hb, hml, hown, hts, hK, hA, EC_ok _ _ _ _ _ _ _ _ _ _ _, hE⟩ po_a poA_sizes poA_kinds poA_spelled poA_scheme po_foot po_feet po_lines po_words po_sizes po_kinds po_spelled po_scheme p1 r (fun H locs ls pc hdg hP hD hS => W.iret (v := r) hx hb hr (fun t ht hW => ⟨⟨r, (), rfl, rfl, (show va_P G vwCl _ t.heap by rw [ht]; exact hP)⟩, hS.F ht⟩) hS.2.2 hdg)   hM _ _ _ hP hD hS hl
abbrev WX0_keepTaken (K : Nat → ClassId) (ac_a acA_sorts acA_firsts acA_seconds acA_takenKinds acA_takenSpellings : Nat) (ac_next : Int32) (ac_kept : Int32) (ac_sorts : Nat → Int32) (ac_firsts : Nat → Int32) (ac_seconds : Nat → Int32) (ac_takenKinds : Nat → Int32) (ac_takenSpellings : Nat → Nat) : va_W := [(ac_a, .inr (0, [.ref acA_sorts, .ref acA_firsts, .ref acA_seconds, .ref acA_takenKinds, .ref acA_takenSpellings, .int ac_next, .int ac_kept])), aI K acA_sorts 24 ac_sorts, aI K acA_firsts 24 ac_firsts, aI K acA_seconds 24 ac_seconds, aI K acA_takenKinds 24 ac_takenKinds, aS K acA_takenSpellings 24 ac_takenSpellings]
def rmX0_keepTaken : Room := { frames := 2, cells := 0, slots := 0, locals := 46 }
theorem hdX0_keepTaken : yX0_keepTaken.cls = RX0 ∧ yX0_keepTaken.cls ≠ "java/lang/invoke/MethodHandle" ∧ yX0_keepTaken.cls ≠ "java/lang/invoke/VarHandle" ∧ (parseMethodDescriptor yX0_keepTaken.desc).map (fun d => d.parameters.length) = some 4 := by decide +kernel
set_option maxHeartbeats 4000000 in
set_option maxRecDepth 100000 in
theorem wX0_keepTaken_b0 {p : Program} {l : Launch} {e : Env} {s : State} {m : MethodId} {args : Array Value} {below : List Frame} {meth : Method} {c : Code} {Q : State → Prop} {G : va_G} {K : Nat → ClassId} {A : Nat → Prop} {tt : Nat → Nat} {L : List Nat} {la : Nat → Nat} {sa : Nat → Nat} {ln : Nat → Int32} {sy : Nat → Int32} {sn : Nat → Int32} {lt : Nat → Nat → Int32} {st : Nat → Nat → Int32} (C0 : CX p s m args c cX0_keepTaken 5 RX0 G K (EC G K tt L la sa ln sy sn lt st) A) (ac_a acA_sorts acA_firsts acA_seconds acA_takenKinds acA_takenSpellings p4 : Nat)  (p1 : Int32) (p2 : Int32) (p3 : Int32) (o_ac_next : Int32) (o_ac_kept : Int32) (o_ac_sorts : Nat → Int32) (o_ac_firsts : Nat → Int32) (o_ac_seconds : Nat → Int32) (o_ac_takenKinds : Nat → Int32) (o_ac_takenSpellings : Nat → Nat) (kr : ∀ (H : Heap) (locs : List Loc) (ls : Array Slot) (pc : Nat), decode cX0_keepTaken pc = .ok (.return_, 1) → va_P G vwCl (WX0_keepTaken K ac_a acA_sorts acA_firsts acA_seconds acA_takenKinds acA_takenSpellings o_ac_next o_ac_kept o_ac_sorts o_ac_firsts o_ac_seconds o_ac_takenKinds o_ac_takenSpellings) H → va_D A (WX0_keepTaken K ac_a acA_sorts acA_firsts acA_seconds acA_takenKinds acA_takenSpellings o_ac_next o_ac_kept o_ac_sorts o_ac_firsts o_ac_seconds o_ac_takenKinds o_ac_takenSpellings) → va_S A s.heap H locs → W p l e rmX0_keepTaken s m args below meth c H locs 0 0 Q (F0 m pc ls [])) (ac_next : Int32) (ac_kept : Int32) (ac_sorts : Nat → Int32) (ac_firsts : Nat → Int32) (ac_seconds : Nat → Int32) (ac_takenKinds : Nat → Int32) (ac_takenSpellings : Nat → Nat) (hM : mX0_keepTaken_b0 L p1 p2 p3 p4  ac_next ac_kept ac_sorts ac_firsts ac_seconds ac_takenKinds ac_takenSpellings = some (o_ac_next, o_ac_kept, o_ac_sorts, o_ac_firsts, o_ac_seconds, o_ac_takenKinds, o_ac_takenSpellings)) : ∀ (H : Heap) (locs : List Loc) (ls : Array Slot), va_P G vwCl (WX0_keepTaken K ac_a acA_sorts acA_firsts acA_seconds acA_takenKinds acA_takenSpellings ac_next ac_kept ac_sorts ac_firsts ac_seconds ac_takenKinds ac_takenSpellings) H → va_D A (WX0_keepTaken K ac_a acA_sorts acA_firsts acA_seconds acA_takenKinds acA_takenSpellings ac_next ac_kept ac_sorts ac_firsts ac_seconds ac_takenKinds ac_takenSpellings) → va_S A s.heap H locs → lv_has ls 5 [(0, .ref ac_a), (1, .int p1), (2, .int p2), (3, .int p3), (4, .ref p4)] → W p l e rmX0_keepTaken s m args below meth c H locs 0 0 Q (F0 m 0 ls []) := by
  obtain ⟨hx, hb, hml, hown, hts, hK, hA, hEo, hE⟩ := id C0
  intro H locs ls hP hD hS hl
  unfold mX0_keepTaken_b0 at hM
  refine lv_aload_n hx hb dX0_keepTaken_0 rfl (lv_at hl 0 rfl) ?_
  refine va_get (D := G) (ci := 0) (v := .ref acA_takenKinds) (C := RX0) (T := TX0) (N := 7) hx hb hts inX0 hown hK hP 0 rfl rfl 3 (by decide) (hts _ tb225) (fun _ h9 => h9) rfl dX0_keepTaken_1 ?_
  refine lv_aload_n hx hb dX0_keepTaken_4 rfl (lv_at hl 0 rfl) ?_
  refine va_get (D := G) (ci := 0) (v := .int ac_next) (C := RX0) (T := TX0) (N := 7) hx hb hts inX0 hown hK hP 0 rfl rfl 5 (by decide) (hts _ tb227) (fun _ h9 => h9) rfl dX0_keepTaken_5 ?_
  refine lv_iload_n hx hb dX0_keepTaken_8 rfl (lv_at hl 3 rfl) ?_
  obtain ⟨g_1, hM⟩ := ng hM
  refine va_iast hx hb hK hP hD hS 4 0 rfl rfl g_1 dX0_keepTaken_9 (fun H locs hP hD hS => ?_)
  have hP : va_P G vwCl (WX0_keepTaken K ac_a acA_sorts acA_firsts acA_seconds acA_takenKinds acA_takenSpellings ac_next ac_kept ac_sorts ac_firsts ac_seconds (upd ac_takenKinds ac_next.toNatClampNeg p3) ac_takenSpellings) H := hP
  have hD : va_D A (WX0_keepTaken K ac_a acA_sorts acA_firsts acA_seconds acA_takenKinds acA_takenSpellings ac_next ac_kept ac_sorts ac_firsts ac_seconds (upd ac_takenKinds ac_next.toNatClampNeg p3) ac_takenSpellings) := hD
  refine lv_aload_n hx hb dX0_keepTaken_10 rfl (lv_at hl 0 rfl) ?_
  refine va_get (D := G) (ci := 0) (v := .ref acA_takenSpellings) (C := RX0) (T := TX0) (N := 7) hx hb hts inX0 hown hK hP 0 rfl rfl 4 (by decide) (hts _ tb226) (fun _ h9 => h9) rfl dX0_keepTaken_11 ?_
  refine lv_aload_n hx hb dX0_keepTaken_14 rfl (lv_at hl 0 rfl) ?_
  refine va_get (D := G) (ci := 0) (v := .int ac_next) (C := RX0) (T := TX0) (N := 7) hx hb hts inX0 hown hK hP 0 rfl rfl 5 (by decide) (hts _ tb227) (fun _ h9 => h9) rfl dX0_keepTaken_15 ?_
  refine lv_aload hx hb dX0_keepTaken_18 (lv_at hl 4 rfl) ?_
  obtain ⟨g_2, hM⟩ := ng hM
  obtain ⟨g_3, hM⟩ := ng hM
  refine va_astqM hx hb hK hP hD hS 5 2 rfl rfl (sp_any hK (sp_at hE hS (Decidable.not_not.mp g_2))) g_3 dX0_keepTaken_20 (fun H locs hP hD hS => ?_)
  rw [va_up_some] at hP hD
  have hP : va_P G vwCl (WX0_keepTaken K ac_a acA_sorts acA_firsts acA_seconds acA_takenKinds acA_takenSpellings ac_next ac_kept ac_sorts ac_firsts ac_seconds (upd ac_takenKinds ac_next.toNatClampNeg p3) (va_up ac_takenSpellings ac_next.toNatClampNeg p4)) H := hP
  have hD : va_D A (WX0_keepTaken K ac_a acA_sorts acA_firsts acA_seconds acA_takenKinds acA_takenSpellings ac_next ac_kept ac_sorts ac_firsts ac_seconds (upd ac_takenKinds ac_next.toNatClampNeg p3) (va_up ac_takenSpellings ac_next.toNatClampNeg p4)) := hD
  refine lv_aload_n hx hb dX0_keepTaken_21 rfl (lv_at hl 0 rfl) ?_
  refine lv_iconst (v := 2) hx hb dX0_keepTaken_22 (by decide) ?_
  refine lv_iload_n hx hb dX0_keepTaken_23 rfl (lv_at hl 1 rfl) ?_
  refine lv_iload_n hx hb dX0_keepTaken_24 rfl (lv_at hl 2 rfl) ?_
  obtain ⟨u0_4, u1_4, u2_4, u3_4, u4_4, hC, hM⟩ := oe5 hM
  refine cV_v (As := [.int (2 : Int32), .int p1, .int p2]) (rest := []) C0 hP hD hS [0, 1, 2, 3, 4, 5] (kX0_keep l G K tt L la sa ln sy sn lt st ac_a acA_sorts acA_firsts acA_seconds acA_takenKinds acA_takenSpellings ac_next ac_kept ac_sorts ac_firsts ac_seconds (upd ac_takenKinds ac_next.toNatClampNeg p3) (va_up ac_takenSpellings ac_next.toNatClampNeg p4) (2 : Int32) p1 p2 H.size u0_4 u1_4 u2_4 u3_4 u4_4 hC) rfl rfl rfl tb467 tb437 tb438 tb8 tb439 hdX0_keep (va_recv hK hP (ci := 0) (q0 := 0) rfl rfl) ⟨Nat.le_of_ble_eq_true rfl, Nat.le_of_ble_eq_true rfl⟩ rfl hl.1 (Nat.le_of_ble_eq_true rfl) rfl ⟨Nat.le_refl _, Nat.le_refl _⟩ dX0_keepTaken_25 (fun H locs hP hD hS => ?_)
  have hP : va_P G vwCl (WX0_keepTaken K ac_a acA_sorts acA_firsts acA_seconds acA_takenKinds acA_takenSpellings u0_4 u1_4 u2_4 u3_4 u4_4 (upd ac_takenKinds ac_next.toNatClampNeg p3) (va_up ac_takenSpellings ac_next.toNatClampNeg p4)) H := hP
  have hD : va_D A (WX0_keepTaken K ac_a acA_sorts acA_firsts acA_seconds acA_takenKinds acA_takenSpellings u0_4 u1_4 u2_4 u3_4 u4_4 (upd ac_takenKinds ac_next.toNatClampNeg p3) (va_up ac_takenSpellings ac_next.toNatClampNeg p4)) := hD
  have t0 := Option.some.inj hM
  obtain ⟨q1, t1⟩ := Prod.mk.inj t0
  obtain ⟨q2, t2⟩ := Prod.mk.inj t1
  obtain ⟨q3, t3⟩ := Prod.mk.inj t2
  obtain ⟨q4, t4⟩ := Prod.mk.inj t3
  obtain ⟨q5, t5⟩ := Prod.mk.inj t4
  obtain ⟨q6, t6⟩ := Prod.mk.inj t5
  subst q1
  subst q2
  subst q3
  subst q4
  subst q5
  subst q6
  subst t6
  exact kr _ _ _ _ dX0_keepTaken_28 hP hD hS
set_option maxHeartbeats 4000000 in
set_option maxRecDepth 100000 in
theorem kX0_keepTaken (l : Launch) (G : va_G) (K : Nat → ClassId) (tt : Nat → Nat) (L : List Nat) (la : Nat → Nat) (sa : Nat → Nat) (ln : Nat → Int32) (sy : Nat → Int32) (sn : Nat → Int32) (lt : Nat → Nat → Int32) (st : Nat → Nat → Int32) (ac_a acA_sorts acA_firsts acA_seconds acA_takenKinds acA_takenSpellings p4 : Nat) (ac_next : Int32) (ac_kept : Int32) (ac_sorts : Nat → Int32) (ac_firsts : Nat → Int32) (ac_seconds : Nat → Int32) (ac_takenKinds : Nat → Int32) (ac_takenSpellings : Nat → Nat) (p1 : Int32) (p2 : Int32) (p3 : Int32) (sz : Nat) (o_ac_next : Int32) (o_ac_kept : Int32) (o_ac_sorts : Nat → Int32) (o_ac_firsts : Nat → Int32) (o_ac_seconds : Nat → Int32) (o_ac_takenKinds : Nat → Int32) (o_ac_takenSpellings : Nat → Nat) (hM : mX0_keepTaken L ac_next ac_kept ac_sorts ac_firsts ac_seconds ac_takenKinds ac_takenSpellings p1 p2 p3 p4 = some (o_ac_next, o_ac_kept, o_ac_sorts, o_ac_firsts, o_ac_seconds, o_ac_takenKinds, o_ac_takenSpellings)) : Met l yX0_keepTaken (mC yX0_keepTaken cX0_keepTaken 5 none) rmX0_keepTaken (va_Pc [.ref ac_a, .int p1, .int p2, .int p3, .ref p4] (PCe G K (EC G K tt L la sa ln sy sn lt st) (WX0_keepTaken K ac_a acA_sorts acA_firsts acA_seconds acA_takenKinds acA_takenSpellings ac_next ac_kept ac_sorts ac_firsts ac_seconds ac_takenKinds ac_takenSpellings) sz)) (va_Qv (fun (_ : Unit) => True) (fun _ t => va_P G vwCl (WX0_keepTaken K ac_a acA_sorts acA_firsts acA_seconds acA_takenKinds acA_takenSpellings o_ac_next o_ac_kept o_ac_sorts o_ac_firsts o_ac_seconds o_ac_takenKinds o_ac_takenSpellings) t.heap) (va_A (WX0_keepTaken K ac_a acA_sorts acA_firsts acA_seconds acA_takenKinds acA_takenSpellings ac_next ac_kept ac_sorts ac_firsts ac_seconds ac_takenKinds ac_takenSpellings) sz)) rmX0_keepTaken.cells rmX0_keepTaken.slots (va_A (WX0_keepTaken K ac_a acA_sorts acA_firsts acA_seconds acA_takenKinds acA_takenSpellings ac_next ac_kept ac_sorts ac_firsts ac_seconds ac_takenKinds ac_takenSpellings) sz) := by
  refine Met.ofW (cc := cX0_keepTaken) (maxL := 5) (ret := none) (by decide) rfl ?_
  intro p e s m args below meth c s₁ B hml hv
  obtain ⟨rfl, hsz, hP, hK, hD0, hE⟩ := hv
  have hx := B.exec
  have hb := B.bytes
  have hr := B.returns
  have hts0 := atoms_spec (ws := mC yX0_keepTaken cX0_keepTaken 5 none) B.pre
  have hts : ∀ w ∈ tbG, w.before _ s = true := fun w h => hts0 w (List.mem_cons_of_mem _ h)
  have hown : s.vm.findClass RX0 = some m.cls := findClass_of_methodNamed B.named
  subst hsz
  have hD := hD0.self (sz := s.heap.size)
  generalize hAe : va_A (WX0_keepTaken K ac_a acA_sorts acA_firsts acA_seconds acA_takenKinds acA_takenSpellings ac_next ac_kept ac_sorts ac_firsts ac_seconds ac_takenKinds ac_takenSpellings) s.heap.size = A at hD hE ⊢
  have hA : ∀ q : Nat, s.heap.size ≤ q → A q := fun q h => by rw [← hAe]; exact Or.inr h
  have hS : va_S A s.heap s.heap [] := va_S.rf
  have hl := lv_entry ([.ref ac_a, .int p1, .int p2, .int p3, .ref p4]) (n := 5) (Nat.le_of_ble_eq_true rfl)
  rw [lg_entry_eq]
  generalize (lg_sl ([.ref ac_a, .int p1, .int p2, .int p3, .ref p4]) ++ List.replicate (5 - (lg_sl ([.ref ac_a, .int p1, .int p2, .int p3, .ref p4])).length) Slot.unset).toArray = ls at hl ⊢
  have hl : lv_has ls 5 [(0, .ref ac_a), (1, .int p1), (2, .int p2), (3, .int p3), (4, .ref p4)] := hl
  exact wX0_keepTaken_b0 ⟨hx, hb, hml, hown, hts, hK, hA, EC_ok _ _ _ _ _ _ _ _ _ _ _, hE⟩ ac_a acA_sorts acA_firsts acA_seconds acA_takenKinds acA_takenSpellings p4 p1 p2 p3 o_ac_next o_ac_kept o_ac_sorts o_ac_firsts o_ac_seconds o_ac_takenKinds o_ac_takenSpellings (fun H locs ls pc hdg hP hD hS => W.vret hx hb hr (fun t ht hW => ⟨⟨(), rfl, trivial, (show va_P G vwCl _ t.heap by rw [ht]; exact hP)⟩, hS.F ht⟩) hS.2.2 hdg) ac_next ac_kept ac_sorts ac_firsts ac_seconds ac_takenKinds ac_takenSpellings  hM _ _ _ hP hD hS hl
