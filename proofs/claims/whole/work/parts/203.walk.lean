abbrev WX2_tailLength (K : Nat → ClassId) (po_a poA_sizes poA_kinds poA_spelled poA_scheme : Nat) (po_foot : Int32) (po_feet : Int32) (po_lines : Int32) (po_words : Int32) (po_sizes : Nat → Int32) (po_kinds : Nat → Int32) (po_spelled : Nat → Nat) (po_scheme : Nat → Int32) : va_W := [(po_a, .inr (2, [.int po_foot, .int po_feet, .int po_lines, .int po_words, .ref poA_sizes, .ref poA_kinds, .ref poA_spelled, .ref poA_scheme])), aI K poA_sizes 4 po_sizes, aI K poA_kinds 20 po_kinds, aS K poA_spelled 20 po_spelled, aI K poA_scheme 4 po_scheme]
def rmX2_tailLength : Room := { frames := 2, cells := 0, slots := 0, locals := 47 }
theorem hdX2_tailLength : yX2_tailLength.cls = RX2 ∧ yX2_tailLength.cls ≠ "java/lang/invoke/MethodHandle" ∧ yX2_tailLength.cls ≠ "java/lang/invoke/VarHandle" ∧ (parseMethodDescriptor yX2_tailLength.desc).map (fun d => d.parameters.length) = some 1 := by decide +kernel
set_option maxHeartbeats 4000000 in
set_option maxRecDepth 100000 in
theorem wX2_tailLength_b0 {p : Program} {l : Launch} {e : Env} {s : State} {m : MethodId} {args : Array Value} {below : List Frame} {meth : Method} {c : Code} {Q : State → Prop} {G : va_G} {K : Nat → ClassId} {A : Nat → Prop} {tt : Nat → Nat} {L : List Nat} {la : Nat → Nat} {sa : Nat → Nat} {ln : Nat → Int32} {sy : Nat → Int32} {sn : Nat → Int32} {lt : Nat → Nat → Int32} {st : Nat → Nat → Int32} (C0 : CX p s m args c cX2_tailLength 2 RX2 G K (EC G K tt L la sa ln sy sn lt st) A) (po_a poA_sizes poA_kinds poA_spelled poA_scheme : Nat) (po_foot : Int32) (po_feet : Int32) (po_lines : Int32) (po_words : Int32) (po_sizes : Nat → Int32) (po_kinds : Nat → Int32) (po_spelled : Nat → Nat) (po_scheme : Nat → Int32) (p1 : Int32) (r : Int32)  (kr : ∀ (H : Heap) (locs : List Loc) (ls : Array Slot) (pc : Nat), decode cX2_tailLength pc = .ok (.ireturn, 1) → va_P G vwCl (WX2_tailLength K po_a poA_sizes poA_kinds poA_spelled poA_scheme po_foot po_feet po_lines po_words po_sizes po_kinds po_spelled po_scheme) H → va_D A (WX2_tailLength K po_a poA_sizes poA_kinds poA_spelled poA_scheme po_foot po_feet po_lines po_words po_sizes po_kinds po_spelled po_scheme) → va_S A s.heap H locs → W p l e rmX2_tailLength s m args below meth c H locs 0 0 Q (F0 m pc ls [.int r]))  (hM : mX2_tailLength_b0 L sy sn st po_kinds po_spelled p1   = some r) : ∀ (H : Heap) (locs : List Loc) (ls : Array Slot), va_P G vwCl (WX2_tailLength K po_a poA_sizes poA_kinds poA_spelled poA_scheme po_foot po_feet po_lines po_words po_sizes po_kinds po_spelled po_scheme) H → va_D A (WX2_tailLength K po_a poA_sizes poA_kinds poA_spelled poA_scheme po_foot po_feet po_lines po_words po_sizes po_kinds po_spelled po_scheme) → va_S A s.heap H locs → lv_has ls 2 [(0, .ref po_a), (1, .int p1)] → W p l e rmX2_tailLength s m args below meth c H locs 0 0 Q (F0 m 0 ls []) := by
  obtain ⟨hx, hb, hml, hown, hts, hK, hA, hEo, hE⟩ := id C0
  intro H locs ls hP hD hS hl
  unfold mX2_tailLength_b0 at hM
  refine lv_aload_n hx hb dX2_tailLength_0 rfl (lv_at hl 0 rfl) ?_
  refine va_get (D := G) (ci := 2) (v := .ref poA_spelled) (C := RX2) (T := TX2) (N := 8) hx hb hts inX2 hown hK hP 0 rfl rfl 6 (by decide) (hts _ tb193) (fun _ h9 => h9) rfl dX2_tailLength_1 ?_
  refine lv_iload_n hx hb dX2_tailLength_4 rfl (lv_at hl 1 rfl) ?_
  obtain ⟨g_1, hM⟩ := ng hM
  refine va_aldq hx hb hK hP 3 2 rfl rfl g_1 dX2_tailLength_5 ?_
  show W p l e rmX2_tailLength s m args below meth c H locs 0 0 Q (F0 m 6 ls [.ref (po_spelled p1.toNatClampNeg)])
  obtain ⟨g_2, hM⟩ := ng hM
  refine va_get (D := G) (ci := 5) (v := .int (sn (po_spelled p1.toNatClampNeg))) (C := RX5) (T := TX5) (N := 5) hx hb hts inX5 hown hK (sp_at hE hS (Decidable.not_not.mp g_2)) 0 rfl rfl 4 (by decide) (hts _ tb136) (fun _ h9 => h9) rfl dX2_tailLength_6 ?_
  refine lv_aload_n hx hb dX2_tailLength_9 rfl (lv_at hl 0 rfl) ?_
  refine lv_iload_n hx hb dX2_tailLength_10 rfl (lv_at hl 1 rfl) ?_
  obtain ⟨r_3, hC, hM⟩ := oe1 hM
  refine cV_i (As := [.int p1]) (rest := [.int (sn (po_spelled p1.toNatClampNeg))]) C0 hP hD hS [0, 1, 2, 3, 4] (kX2_tailStart l G K tt L la sa ln sy sn lt st po_a poA_sizes poA_kinds poA_spelled poA_scheme po_foot po_feet po_lines po_words po_sizes po_kinds po_spelled po_scheme p1 H.size r_3 hC) rfl rfl rfl tb512 tb513 tb514 tb7 tb515 hdX2_tailStart (va_recv hK hP (ci := 2) (q0 := 0) rfl rfl) ⟨Nat.le_of_ble_eq_true rfl, Nat.le_of_ble_eq_true rfl⟩ rfl hl.1 (Nat.le_of_ble_eq_true rfl) rfl ⟨Nat.le_refl _, Nat.le_refl _⟩ dX2_tailLength_11 (fun H locs hP hD hS => ?_)
  have hP : va_P G vwCl (WX2_tailLength K po_a poA_sizes poA_kinds poA_spelled poA_scheme po_foot po_feet po_lines po_words po_sizes po_kinds po_spelled po_scheme) H := hP
  have hD : va_D A (WX2_tailLength K po_a poA_sizes poA_kinds poA_spelled poA_scheme po_foot po_feet po_lines po_words po_sizes po_kinds po_spelled po_scheme) := hD
  refine lv_isub hx hb dX2_tailLength_14 ?_
  have q1 := Option.some.inj hM
  subst q1
  exact kr _ _ _ _ dX2_tailLength_15 hP hD hS
set_option maxHeartbeats 4000000 in
set_option maxRecDepth 100000 in
theorem kX2_tailLength (l : Launch) (G : va_G) (K : Nat → ClassId) (tt : Nat → Nat) (L : List Nat) (la : Nat → Nat) (sa : Nat → Nat) (ln : Nat → Int32) (sy : Nat → Int32) (sn : Nat → Int32) (lt : Nat → Nat → Int32) (st : Nat → Nat → Int32) (po_a poA_sizes poA_kinds poA_spelled poA_scheme : Nat) (po_foot : Int32) (po_feet : Int32) (po_lines : Int32) (po_words : Int32) (po_sizes : Nat → Int32) (po_kinds : Nat → Int32) (po_spelled : Nat → Nat) (po_scheme : Nat → Int32) (p1 : Int32) (sz : Nat) (r : Int32)  (hM : mX2_tailLength L sy sn st po_kinds po_spelled p1 = some r) : Met l yX2_tailLength (mC yX2_tailLength cX2_tailLength 2 (some .int)) rmX2_tailLength (va_Pc [.ref po_a, .int p1] (PCe G K (EC G K tt L la sa ln sy sn lt st) (WX2_tailLength K po_a poA_sizes poA_kinds poA_spelled poA_scheme po_foot po_feet po_lines po_words po_sizes po_kinds po_spelled po_scheme) sz)) (va_Qi (fun (x : Int32) (_ : Unit) => x = r) (fun _ t => va_P G vwCl (WX2_tailLength K po_a poA_sizes poA_kinds poA_spelled poA_scheme po_foot po_feet po_lines po_words po_sizes po_kinds po_spelled po_scheme) t.heap) (va_A (WX2_tailLength K po_a poA_sizes poA_kinds poA_spelled poA_scheme po_foot po_feet po_lines po_words po_sizes po_kinds po_spelled po_scheme) sz)) rmX2_tailLength.cells rmX2_tailLength.slots (va_A (WX2_tailLength K po_a poA_sizes poA_kinds poA_spelled poA_scheme po_foot po_feet po_lines po_words po_sizes po_kinds po_spelled po_scheme) sz) := by
  refine Met.ofW (cc := cX2_tailLength) (maxL := 2) (ret := (some .int)) (by decide) rfl ?_
  intro p e s m args below meth c s₁ B hml hv
  obtain ⟨rfl, hsz, hP, hK, hD0, hE⟩ := hv
  have hx := B.exec
  have hb := B.bytes
  have hr := B.returns
  have hts0 := atoms_spec (ws := mC yX2_tailLength cX2_tailLength 2 (some .int)) B.pre
  have hts : ∀ w ∈ tbG, w.before _ s = true := fun w h => hts0 w (List.mem_cons_of_mem _ h)
  have hown : s.vm.findClass RX2 = some m.cls := findClass_of_methodNamed B.named
  subst hsz
  have hD := hD0.self (sz := s.heap.size)
  generalize hAe : va_A (WX2_tailLength K po_a poA_sizes poA_kinds poA_spelled poA_scheme po_foot po_feet po_lines po_words po_sizes po_kinds po_spelled po_scheme) s.heap.size = A at hD hE ⊢
  have hA : ∀ q : Nat, s.heap.size ≤ q → A q := fun q h => by rw [← hAe]; exact Or.inr h
  have hS : va_S A s.heap s.heap [] := va_S.rf
  have hl := lv_entry ([.ref po_a, .int p1]) (n := 2) (Nat.le_of_ble_eq_true rfl)
  rw [lg_entry_eq]
  generalize (lg_sl ([.ref po_a, .int p1]) ++ List.replicate (2 - (lg_sl ([.ref po_a, .int p1])).length) Slot.unset).toArray = ls at hl ⊢
  have hl : lv_has ls 2 [(0, .ref po_a), (1, .int p1)] := hl
  exact wX2_tailLength_b0 ⟨hx, hb, hml, hown, hts, hK, hA, EC_ok _ _ _ _ _ _ _ _ _ _ _, hE⟩ po_a poA_sizes poA_kinds poA_spelled poA_scheme po_foot po_feet po_lines po_words po_sizes po_kinds po_spelled po_scheme p1 r (fun H locs ls pc hdg hP hD hS => W.iret (v := r) hx hb hr (fun t ht hW => ⟨⟨r, (), rfl, rfl, (show va_P G vwCl _ t.heap by rw [ht]; exact hP)⟩, hS.F ht⟩) hS.2.2 hdg)   hM _ _ _ hP hD hS hl
def rmX5_endsOnVowel : Room := { frames := 1, cells := 0, slots := 0, locals := 20 }
theorem hdX5_endsOnVowel : yX5_endsOnVowel.cls = RX5 ∧ yX5_endsOnVowel.cls ≠ "java/lang/invoke/MethodHandle" ∧ yX5_endsOnVowel.cls ≠ "java/lang/invoke/VarHandle" ∧ (parseMethodDescriptor yX5_endsOnVowel.desc).map (fun d => d.parameters.length) = some 0 := by decide +kernel
set_option maxHeartbeats 4000000 in
set_option maxRecDepth 100000 in
theorem wX5_endsOnVowel_b0 {p : Program} {l : Launch} {e : Env} {s : State} {m : MethodId} {args : Array Value} {below : List Frame} {meth : Method} {c : Code} {Q : State → Prop} {G : va_G} {K : Nat → ClassId} {A : Nat → Prop} {tt : Nat → Nat} {L : List Nat} {la : Nat → Nat} {sa : Nat → Nat} {ln : Nat → Int32} {sy : Nat → Int32} {sn : Nat → Int32} {lt : Nat → Nat → Int32} {st : Nat → Nat → Int32} (C0 : CX p s m args c cX5_endsOnVowel 1 RX5 G K (EC G K tt L la sa ln sy sn lt st) A) (p0 : Nat)   (r : Int32)  (kr : ∀ (H : Heap) (locs : List Loc) (ls : Array Slot) (pc : Nat), decode cX5_endsOnVowel pc = .ok (.ireturn, 1) → (r = 0 ∨ r = 1) → va_P G vwCl [] H → va_D A [] → va_S A s.heap H locs → W p l e rmX5_endsOnVowel s m args below meth c H locs 0 0 Q (F0 m pc ls [.int r]))  (hM : mX5_endsOnVowel_b0 L ln sn lt p0   = some r) : ∀ (H : Heap) (locs : List Loc) (ls : Array Slot), va_P G vwCl [] H → va_D A [] → va_S A s.heap H locs → lv_has ls 1 [(0, .ref p0)] → W p l e rmX5_endsOnVowel s m args below meth c H locs 0 0 Q (F0 m 0 ls []) := by
  obtain ⟨hx, hb, hml, hown, hts, hK, hA, hEo, hE⟩ := id C0
  intro H locs ls hP hD hS hl
  unfold mX5_endsOnVowel_b0 at hM
  refine lv_aload_n hx hb dX5_endsOnVowel_0 rfl (lv_at hl 0 rfl) ?_
  obtain ⟨g_1, hM⟩ := ng hM
  refine va_get (D := G) (ci := 5) (v := .int (ln p0)) (C := RX5) (T := TX5) (N := 5) hx hb hts inX5 hown hK (sp_at hE hS (Decidable.not_not.mp g_1)) 0 rfl rfl 0 (by decide) (hts _ tb123) (fun _ h9 => h9) rfl dX5_endsOnVowel_1 ?_
  refine lv_if_le (tgt := 39) hx hb dX5_endsOnVowel_4 (by decide) (fun c_2 => ?_) (fun c_2 => ?_)
  · rw [if_pos c_2] at hM
    refine lv_iconst (v := 0) hx hb dX5_endsOnVowel_39 (by decide) ?_
    have q1 := Option.some.inj hM
    subst q1
    exact kr _ _ _ _ dX5_endsOnVowel_40 (by decide) hP hD hS
  · rw [if_neg c_2] at hM
    refine lv_aload_n hx hb dX5_endsOnVowel_7 rfl (lv_at hl 0 rfl) ?_
    obtain ⟨g_3, hM⟩ := ng hM
    refine va_get (D := G) (ci := 5) (v := .int (sn p0)) (C := RX5) (T := TX5) (N := 5) hx hb hts inX5 hown hK (sp_at hE hS (Decidable.not_not.mp g_3)) 0 rfl rfl 4 (by decide) (hts _ tb135) (fun _ h9 => h9) rfl dX5_endsOnVowel_8 ?_
    refine lv_aload_n hx hb dX5_endsOnVowel_11 rfl (lv_at hl 0 rfl) ?_
    obtain ⟨g_4, hM⟩ := ng hM
    refine va_get (D := G) (ci := 5) (v := .int (ln p0)) (C := RX5) (T := TX5) (N := 5) hx hb hts inX5 hown hK (sp_at hE hS (Decidable.not_not.mp g_4)) 0 rfl rfl 0 (by decide) (hts _ tb123) (fun _ h9 => h9) rfl dX5_endsOnVowel_12 ?_
    refine lv_icmp_ne (tgt := 39) hx hb dX5_endsOnVowel_15 (by decide) (fun c_5 => ?_) (fun c_5 => ?_)
    · rw [if_neg c_5] at hM
      refine lv_iconst (v := 0) hx hb dX5_endsOnVowel_39 (by decide) ?_
      have q1 := Option.some.inj hM
      subst q1
      exact kr _ _ _ _ dX5_endsOnVowel_40 (by decide) hP hD hS
    · rw [if_pos c_5] at hM
      refine lv_aload_n hx hb dX5_endsOnVowel_18 rfl (lv_at hl 0 rfl) ?_
      obtain ⟨g_6, hM⟩ := ng hM
      refine va_get (D := G) (ci := 5) (v := .ref (la p0)) (C := RX5) (T := TX5) (N := 5) hx hb hts inX5 hown hK (sp_at hE hS (Decidable.not_not.mp g_6)) 0 rfl rfl 1 (by decide) (hts _ tb126) (fun _ h9 => h9) rfl dX5_endsOnVowel_19 ?_
      refine lv_aload_n hx hb dX5_endsOnVowel_22 rfl (lv_at hl 0 rfl) ?_
      obtain ⟨g_7, hM⟩ := ng hM
      refine va_get (D := G) (ci := 5) (v := .int (ln p0)) (C := RX5) (T := TX5) (N := 5) hx hb hts inX5 hown hK (sp_at hE hS (Decidable.not_not.mp g_7)) 0 rfl rfl 0 (by decide) (hts _ tb123) (fun _ h9 => h9) rfl dX5_endsOnVowel_23 ?_
      refine lv_iconst (v := 1) hx hb dX5_endsOnVowel_26 (by decide) ?_
      refine lv_isub hx hb dX5_endsOnVowel_27 ?_
      obtain ⟨g_8, hM⟩ := ng hM
      refine va_iald hx hb hK (sp_at hE hS (Decidable.not_not.mp g_6)) 1 0 rfl rfl g_8 dX5_endsOnVowel_28 ?_
      obtain ⟨r_9, hC, hM⟩ := oe1 hM
      refine cN_i (As := [.int (lt p0 ((ln p0) - (1 : Int32)).toNatClampNeg)]) (rest := []) C0 hP hD hS [] (kX6_isVowel l G K tt L la sa ln sy sn lt st (lt p0 ((ln p0) - (1 : Int32)).toNatClampNeg) H.size r_9 hC) rfl rfl rfl (nw119 hE.2.2.2) tb120 tb1 tb121 hdX6_isVowel ⟨Nat.le_of_ble_eq_true rfl, Nat.le_of_ble_eq_true rfl⟩ rfl hl.1 (Nat.le_of_ble_eq_true rfl) rfl ⟨Nat.le_refl _, Nat.le_refl _⟩ dX5_endsOnVowel_29 (fun H locs hP hD hS => ?_)
      have hP : va_P G vwCl [] H := hP
      have hD : va_D A [] := hD
      refine lv_if_eq (tgt := 39) hx hb dX5_endsOnVowel_32 (by decide) (fun c_10 => ?_) (fun c_10 => ?_)
      · rw [if_pos c_10] at hM
        refine lv_iconst (v := 0) hx hb dX5_endsOnVowel_39 (by decide) ?_
        have q1 := Option.some.inj hM
        subst q1
        exact kr _ _ _ _ dX5_endsOnVowel_40 (by decide) hP hD hS
      · rw [if_neg c_10] at hM
        refine lv_iconst (v := 1) hx hb dX5_endsOnVowel_35 (by decide) ?_
        refine lv_goto (tgt := 40) hx hb dX5_endsOnVowel_36 (by decide) ?_
        have q1 := Option.some.inj hM
        subst q1
        exact kr _ _ _ _ dX5_endsOnVowel_40 (by decide) hP hD hS
set_option maxHeartbeats 4000000 in
set_option maxRecDepth 100000 in
theorem kX5_endsOnVowel (l : Launch) (G : va_G) (K : Nat → ClassId) (tt : Nat → Nat) (L : List Nat) (la : Nat → Nat) (sa : Nat → Nat) (ln : Nat → Int32) (sy : Nat → Int32) (sn : Nat → Int32) (lt : Nat → Nat → Int32) (st : Nat → Nat → Int32) (p0 : Nat)   (sz : Nat) (r : Int32)  (hM : mX5_endsOnVowel L ln sn lt p0 = some r) : Met l yX5_endsOnVowel (mC yX5_endsOnVowel cX5_endsOnVowel 1 (some .boolean)) rmX5_endsOnVowel (va_Pc [.ref p0] (PCe G K (EC G K tt L la sa ln sy sn lt st) [] sz)) (va_Qi (fun (x : Int32) (_ : Unit) => x = r) (fun _ t => va_P G vwCl [] t.heap) (va_A [] sz)) rmX5_endsOnVowel.cells rmX5_endsOnVowel.slots (va_A [] sz) := by
  refine Met.ofW (cc := cX5_endsOnVowel) (maxL := 1) (ret := (some .boolean)) (by decide) rfl ?_
  intro p e s m args below meth c s₁ B hml hv
  obtain ⟨rfl, hsz, hP, hK, hD0, hE⟩ := hv
  have hx := B.exec
  have hb := B.bytes
  have hr := B.returns
  have hts0 := atoms_spec (ws := mC yX5_endsOnVowel cX5_endsOnVowel 1 (some .boolean)) B.pre
  have hts : ∀ w ∈ tbG, w.before _ s = true := fun w h => hts0 w (List.mem_cons_of_mem _ h)
  have hown : s.vm.findClass RX5 = some m.cls := findClass_of_methodNamed B.named
  subst hsz
  have hD := hD0.self (sz := s.heap.size)
  generalize hAe : va_A [] s.heap.size = A at hD hE ⊢
  have hA : ∀ q : Nat, s.heap.size ≤ q → A q := fun q h => by rw [← hAe]; exact Or.inr h
  have hS : va_S A s.heap s.heap [] := va_S.rf
  have hl := lv_entry ([.ref p0]) (n := 1) (Nat.le_of_ble_eq_true rfl)
  rw [lg_entry_eq]
  generalize (lg_sl ([.ref p0]) ++ List.replicate (1 - (lg_sl ([.ref p0])).length) Slot.unset).toArray = ls at hl ⊢
  have hl : lv_has ls 1 [(0, .ref p0)] := hl
  exact wX5_endsOnVowel_b0 ⟨hx, hb, hml, hown, hts, hK, hA, EC_ok _ _ _ _ _ _ _ _ _ _ _, hE⟩ p0 r (fun H locs ls pc hdg hz hP hD hS => W.zret (v := r) (ty := .boolean) hx hb hr (nar_b hz) (fun t ht hW => ⟨⟨r, (), rfl, rfl, (show va_P G vwCl _ t.heap by rw [ht]; exact hP)⟩, hS.F ht⟩) hS.2.2 hdg)   hM _ _ _ hP hD hS hl
def rmX5_beginsWithVowel : Room := { frames := 1, cells := 0, slots := 0, locals := 20 }
theorem hdX5_beginsWithVowel : yX5_beginsWithVowel.cls = RX5 ∧ yX5_beginsWithVowel.cls ≠ "java/lang/invoke/MethodHandle" ∧ yX5_beginsWithVowel.cls ≠ "java/lang/invoke/VarHandle" ∧ (parseMethodDescriptor yX5_beginsWithVowel.desc).map (fun d => d.parameters.length) = some 0 := by decide +kernel
set_option maxHeartbeats 4000000 in
set_option maxRecDepth 100000 in
theorem wX5_beginsWithVowel_b0 {p : Program} {l : Launch} {e : Env} {s : State} {m : MethodId} {args : Array Value} {below : List Frame} {meth : Method} {c : Code} {Q : State → Prop} {G : va_G} {K : Nat → ClassId} {A : Nat → Prop} {tt : Nat → Nat} {L : List Nat} {la : Nat → Nat} {sa : Nat → Nat} {ln : Nat → Int32} {sy : Nat → Int32} {sn : Nat → Int32} {lt : Nat → Nat → Int32} {st : Nat → Nat → Int32} (C0 : CX p s m args c cX5_beginsWithVowel 1 RX5 G K (EC G K tt L la sa ln sy sn lt st) A) (p0 : Nat)   (r : Int32)  (kr : ∀ (H : Heap) (locs : List Loc) (ls : Array Slot) (pc : Nat), decode cX5_beginsWithVowel pc = .ok (.ireturn, 1) → (r = 0 ∨ r = 1) → va_P G vwCl [] H → va_D A [] → va_S A s.heap H locs → W p l e rmX5_beginsWithVowel s m args below meth c H locs 0 0 Q (F0 m pc ls [.int r]))  (hM : mX5_beginsWithVowel_b0 L ln lt p0   = some r) : ∀ (H : Heap) (locs : List Loc) (ls : Array Slot), va_P G vwCl [] H → va_D A [] → va_S A s.heap H locs → lv_has ls 1 [(0, .ref p0)] → W p l e rmX5_beginsWithVowel s m args below meth c H locs 0 0 Q (F0 m 0 ls []) := by
  obtain ⟨hx, hb, hml, hown, hts, hK, hA, hEo, hE⟩ := id C0
  intro H locs ls hP hD hS hl
  unfold mX5_beginsWithVowel_b0 at hM
  refine lv_aload_n hx hb dX5_beginsWithVowel_0 rfl (lv_at hl 0 rfl) ?_
  obtain ⟨g_1, hM⟩ := ng hM
  refine va_get (D := G) (ci := 5) (v := .int (ln p0)) (C := RX5) (T := TX5) (N := 5) hx hb hts inX5 hown hK (sp_at hE hS (Decidable.not_not.mp g_1)) 0 rfl rfl 0 (by decide) (hts _ tb123) (fun _ h9 => h9) rfl dX5_beginsWithVowel_1 ?_
  refine lv_if_le (tgt := 23) hx hb dX5_beginsWithVowel_4 (by decide) (fun c_2 => ?_) (fun c_2 => ?_)
  · rw [if_pos c_2] at hM
    refine lv_iconst (v := 0) hx hb dX5_beginsWithVowel_23 (by decide) ?_
    have q1 := Option.some.inj hM
    subst q1
    exact kr _ _ _ _ dX5_beginsWithVowel_24 (by decide) hP hD hS
  · rw [if_neg c_2] at hM
    refine lv_aload_n hx hb dX5_beginsWithVowel_7 rfl (lv_at hl 0 rfl) ?_
    obtain ⟨g_3, hM⟩ := ng hM
    refine va_get (D := G) (ci := 5) (v := .ref (la p0)) (C := RX5) (T := TX5) (N := 5) hx hb hts inX5 hown hK (sp_at hE hS (Decidable.not_not.mp g_3)) 0 rfl rfl 1 (by decide) (hts _ tb126) (fun _ h9 => h9) rfl dX5_beginsWithVowel_8 ?_
    refine lv_iconst (v := 0) hx hb dX5_beginsWithVowel_11 (by decide) ?_
    obtain ⟨g_4, hM⟩ := ng hM
    refine va_iald hx hb hK (sp_at hE hS (Decidable.not_not.mp g_3)) 1 0 rfl rfl g_4 dX5_beginsWithVowel_12 ?_
    obtain ⟨r_5, hC, hM⟩ := oe1 hM
    refine cN_i (As := [.int (lt p0 (0 : Int32).toNatClampNeg)]) (rest := []) C0 hP hD hS [] (kX6_isVowel l G K tt L la sa ln sy sn lt st (lt p0 (0 : Int32).toNatClampNeg) H.size r_5 hC) rfl rfl rfl (nw119 hE.2.2.2) tb120 tb1 tb121 hdX6_isVowel ⟨Nat.le_of_ble_eq_true rfl, Nat.le_of_ble_eq_true rfl⟩ rfl hl.1 (Nat.le_of_ble_eq_true rfl) rfl ⟨Nat.le_refl _, Nat.le_refl _⟩ dX5_beginsWithVowel_13 (fun H locs hP hD hS => ?_)
    have hP : va_P G vwCl [] H := hP
    have hD : va_D A [] := hD
    refine lv_if_eq (tgt := 23) hx hb dX5_beginsWithVowel_16 (by decide) (fun c_6 => ?_) (fun c_6 => ?_)
    · rw [if_pos c_6] at hM
      refine lv_iconst (v := 0) hx hb dX5_beginsWithVowel_23 (by decide) ?_
      have q1 := Option.some.inj hM
      subst q1
      exact kr _ _ _ _ dX5_beginsWithVowel_24 (by decide) hP hD hS
    · rw [if_neg c_6] at hM
      refine lv_iconst (v := 1) hx hb dX5_beginsWithVowel_19 (by decide) ?_
      refine lv_goto (tgt := 24) hx hb dX5_beginsWithVowel_20 (by decide) ?_
      have q1 := Option.some.inj hM
      subst q1
      exact kr _ _ _ _ dX5_beginsWithVowel_24 (by decide) hP hD hS
set_option maxHeartbeats 4000000 in
set_option maxRecDepth 100000 in
theorem kX5_beginsWithVowel (l : Launch) (G : va_G) (K : Nat → ClassId) (tt : Nat → Nat) (L : List Nat) (la : Nat → Nat) (sa : Nat → Nat) (ln : Nat → Int32) (sy : Nat → Int32) (sn : Nat → Int32) (lt : Nat → Nat → Int32) (st : Nat → Nat → Int32) (p0 : Nat)   (sz : Nat) (r : Int32)  (hM : mX5_beginsWithVowel L ln lt p0 = some r) : Met l yX5_beginsWithVowel (mC yX5_beginsWithVowel cX5_beginsWithVowel 1 (some .boolean)) rmX5_beginsWithVowel (va_Pc [.ref p0] (PCe G K (EC G K tt L la sa ln sy sn lt st) [] sz)) (va_Qi (fun (x : Int32) (_ : Unit) => x = r) (fun _ t => va_P G vwCl [] t.heap) (va_A [] sz)) rmX5_beginsWithVowel.cells rmX5_beginsWithVowel.slots (va_A [] sz) := by
  refine Met.ofW (cc := cX5_beginsWithVowel) (maxL := 1) (ret := (some .boolean)) (by decide) rfl ?_
  intro p e s m args below meth c s₁ B hml hv
  obtain ⟨rfl, hsz, hP, hK, hD0, hE⟩ := hv
  have hx := B.exec
  have hb := B.bytes
  have hr := B.returns
  have hts0 := atoms_spec (ws := mC yX5_beginsWithVowel cX5_beginsWithVowel 1 (some .boolean)) B.pre
  have hts : ∀ w ∈ tbG, w.before _ s = true := fun w h => hts0 w (List.mem_cons_of_mem _ h)
  have hown : s.vm.findClass RX5 = some m.cls := findClass_of_methodNamed B.named
  subst hsz
  have hD := hD0.self (sz := s.heap.size)
  generalize hAe : va_A [] s.heap.size = A at hD hE ⊢
  have hA : ∀ q : Nat, s.heap.size ≤ q → A q := fun q h => by rw [← hAe]; exact Or.inr h
  have hS : va_S A s.heap s.heap [] := va_S.rf
  have hl := lv_entry ([.ref p0]) (n := 1) (Nat.le_of_ble_eq_true rfl)
  rw [lg_entry_eq]
  generalize (lg_sl ([.ref p0]) ++ List.replicate (1 - (lg_sl ([.ref p0])).length) Slot.unset).toArray = ls at hl ⊢
  have hl : lv_has ls 1 [(0, .ref p0)] := hl
  exact wX5_beginsWithVowel_b0 ⟨hx, hb, hml, hown, hts, hK, hA, EC_ok _ _ _ _ _ _ _ _ _ _ _, hE⟩ p0 r (fun H locs ls pc hdg hz hP hD hS => W.zret (v := r) (ty := .boolean) hx hb hr (nar_b hz) (fun t ht hW => ⟨⟨r, (), rfl, rfl, (show va_P G vwCl _ t.heap by rw [ht]; exact hP)⟩, hS.F ht⟩) hS.2.2 hdg)   hM _ _ _ hP hD hS hl
abbrev WX2_joinsOf (K : Nat → ClassId) (po_a poA_sizes poA_kinds poA_spelled poA_scheme : Nat) (po_foot : Int32) (po_feet : Int32) (po_lines : Int32) (po_words : Int32) (po_sizes : Nat → Int32) (po_kinds : Nat → Int32) (po_spelled : Nat → Nat) (po_scheme : Nat → Int32) : va_W := [(po_a, .inr (2, [.int po_foot, .int po_feet, .int po_lines, .int po_words, .ref poA_sizes, .ref poA_kinds, .ref poA_spelled, .ref poA_scheme])), aI K poA_sizes 4 po_sizes, aI K poA_kinds 20 po_kinds, aS K poA_spelled 20 po_spelled, aI K poA_scheme 4 po_scheme]
def rmX2_joinsOf : Room := { frames := 2, cells := 0, slots := 0, locals := 40 }
theorem hdX2_joinsOf : yX2_joinsOf.cls = RX2 ∧ yX2_joinsOf.cls ≠ "java/lang/invoke/MethodHandle" ∧ yX2_joinsOf.cls ≠ "java/lang/invoke/VarHandle" ∧ (parseMethodDescriptor yX2_joinsOf.desc).map (fun d => d.parameters.length) = some 1 := by decide +kernel
set_option maxHeartbeats 4000000 in
set_option maxRecDepth 100000 in
theorem wX2_joinsOf_b11 {p : Program} {l : Launch} {e : Env} {s : State} {m : MethodId} {args : Array Value} {below : List Frame} {meth : Method} {c : Code} {Q : State → Prop} {G : va_G} {K : Nat → ClassId} {A : Nat → Prop} {tt : Nat → Nat} {L : List Nat} {la : Nat → Nat} {sa : Nat → Nat} {ln : Nat → Int32} {sy : Nat → Int32} {sn : Nat → Int32} {lt : Nat → Nat → Int32} {st : Nat → Nat → Int32} (C0 : CX p s m args c cX2_joinsOf 5 RX2 G K (EC G K tt L la sa ln sy sn lt st) A) (po_a poA_sizes poA_kinds poA_spelled poA_scheme : Nat) (po_foot : Int32) (po_feet : Int32) (po_lines : Int32) (po_words : Int32) (po_sizes : Nat → Int32) (po_kinds : Nat → Int32) (po_spelled : Nat → Nat) (po_scheme : Nat → Int32) (p1 : Int32) (r : Int32)  (kr : ∀ (H : Heap) (locs : List Loc) (ls : Array Slot) (pc : Nat), decode cX2_joinsOf pc = .ok (.ireturn, 1) → va_P G vwCl (WX2_joinsOf K po_a poA_sizes poA_kinds poA_spelled poA_scheme po_foot po_feet po_lines po_words po_sizes po_kinds po_spelled po_scheme) H → va_D A (WX2_joinsOf K po_a poA_sizes poA_kinds poA_spelled poA_scheme po_foot po_feet po_lines po_words po_sizes po_kinds po_spelled po_scheme) → va_S A s.heap H locs → W p l e rmX2_joinsOf s m args below meth c H locs 0 0 Q (F0 m pc ls [.int r])) (n : Nat) : ∀ (x2 : Int32) (x3 : Int32) (x4 : Int32), mX2_joinsOf_b11 L ln sn lt po_sizes po_spelled p1  n x2 x3 x4 = some r → ∀ (H : Heap) (locs : List Loc) (ls : Array Slot), va_P G vwCl (WX2_joinsOf K po_a poA_sizes poA_kinds poA_spelled poA_scheme po_foot po_feet po_lines po_words po_sizes po_kinds po_spelled po_scheme) H → va_D A (WX2_joinsOf K po_a poA_sizes poA_kinds poA_spelled poA_scheme po_foot po_feet po_lines po_words po_sizes po_kinds po_spelled po_scheme) → va_S A s.heap H locs → lv_has ls 5 [(0, .ref po_a), (1, .int p1), (2, .int x2), (3, .int x3), (4, .int x4)] → W p l e rmX2_joinsOf s m args below meth c H locs 0 0 Q (F0 m 11 ls []) := by
  obtain ⟨hx, hb, hml, hown, hts, hK, hA, hEo, hE⟩ := id C0
  induction n with
  | zero =>
    intro x2 x3 x4 hM
    cases hM
  | succ n ih =>
    intro x2 x3 x4 hM H locs ls hP hD hS hl
    rw [mX2_joinsOf_b11] at hM
    refine lv_iload hx hb dX2_joinsOf_11 (lv_at hl 4 rfl) ?_
    refine lv_iconst (v := 1) hx hb dX2_joinsOf_13 (by decide) ?_
    refine lv_iadd hx hb dX2_joinsOf_14 ?_
    refine lv_aload_n hx hb dX2_joinsOf_15 rfl (lv_at hl 0 rfl) ?_
    refine va_get (D := G) (ci := 2) (v := .ref poA_sizes) (C := RX2) (T := TX2) (N := 8) hx hb hts inX2 hown hK hP 0 rfl rfl 4 (by decide) (hts _ tb187) (fun _ h9 => h9) rfl dX2_joinsOf_16 ?_
    refine lv_iload_n hx hb dX2_joinsOf_19 rfl (lv_at hl 1 rfl) ?_
    obtain ⟨g_1, hM⟩ := ng hM
    refine va_iald hx hb hK hP 1 0 rfl rfl g_1 dX2_joinsOf_20 ?_
    refine lv_icmp_ge (tgt := 80) hx hb dX2_joinsOf_21 (by decide) (fun c_2 => ?_) (fun c_2 => ?_)
    · rw [if_pos c_2] at hM
      refine lv_iload_n hx hb dX2_joinsOf_80 rfl (lv_at hl 3 rfl) ?_
      have q1 := Option.some.inj hM
      subst q1
      exact kr _ _ _ _ dX2_joinsOf_81 hP hD hS
    · rw [if_neg c_2] at hM
      refine lv_iload_n hx hb dX2_joinsOf_24 rfl (lv_at hl 2 rfl) ?_
      refine lv_iload hx hb dX2_joinsOf_25 (lv_at hl 4 rfl) ?_
      refine lv_iadd hx hb dX2_joinsOf_27 ?_
      refine lv_iconst (v := 1) hx hb dX2_joinsOf_28 (by decide) ?_
      refine lv_iadd hx hb dX2_joinsOf_29 ?_
      refine lv_bipush (v := 20) hx hb dX2_joinsOf_30 (by decide) ?_
      refine lv_icmp_ge (tgt := 80) hx hb dX2_joinsOf_32 (by decide) (fun c_3 => ?_) (fun c_3 => ?_)
      · rw [if_pos c_3] at hM
        refine lv_iload_n hx hb dX2_joinsOf_80 rfl (lv_at hl 3 rfl) ?_
        have q1 := Option.some.inj hM
        subst q1
        exact kr _ _ _ _ dX2_joinsOf_81 hP hD hS
      · rw [if_neg c_3] at hM
        refine lv_aload_n hx hb dX2_joinsOf_35 rfl (lv_at hl 0 rfl) ?_
        refine va_get (D := G) (ci := 2) (v := .ref poA_spelled) (C := RX2) (T := TX2) (N := 8) hx hb hts inX2 hown hK hP 0 rfl rfl 6 (by decide) (hts _ tb193) (fun _ h9 => h9) rfl dX2_joinsOf_36 ?_
        refine lv_iload_n hx hb dX2_joinsOf_39 rfl (lv_at hl 2 rfl) ?_
        refine lv_iload hx hb dX2_joinsOf_40 (lv_at hl 4 rfl) ?_
        refine lv_iadd hx hb dX2_joinsOf_42 ?_
        obtain ⟨g_4, hM⟩ := ng hM
        refine va_aldq hx hb hK hP 3 2 rfl rfl g_4 dX2_joinsOf_43 ?_
        show W p l e rmX2_joinsOf s m args below meth c H locs 0 0 Q (F0 m 44 ls [.ref (po_spelled (x2 + x4).toNatClampNeg)])
        obtain ⟨g_6, hM⟩ := ng hM
        obtain ⟨r_5, hC, hM⟩ := oe1 hM
        refine cV_i (As := []) (rest := []) C0 hP hD hS [] (kX5_endsOnVowel l G K tt L la sa ln sy sn lt st (po_spelled (x2 + x4).toNatClampNeg) H.size r_5 hC) rfl rfl rfl tb543 tb544 tb545 tb4 tb546 hdX5_endsOnVowel (va_recv hK (sp_at hE hS (Decidable.not_not.mp g_6)) (ci := 5) (q0 := 0) rfl rfl) ⟨Nat.le_of_ble_eq_true rfl, Nat.le_of_ble_eq_true rfl⟩ rfl hl.1 (Nat.le_of_ble_eq_true rfl) rfl ⟨Nat.le_refl _, Nat.le_refl _⟩ dX2_joinsOf_44 (fun H locs hP hD hS => ?_)
        have hP : va_P G vwCl (WX2_joinsOf K po_a poA_sizes poA_kinds poA_spelled poA_scheme po_foot po_feet po_lines po_words po_sizes po_kinds po_spelled po_scheme) H := hP
        have hD : va_D A (WX2_joinsOf K po_a poA_sizes poA_kinds poA_spelled poA_scheme po_foot po_feet po_lines po_words po_sizes po_kinds po_spelled po_scheme) := hD
        refine lv_if_eq (tgt := 74) hx hb dX2_joinsOf_47 (by decide) (fun c_7 => ?_) (fun c_7 => ?_)
        · rw [if_pos c_7] at hM
          refine lv_iinc (v := (x4 + 1)) (lv' := [(4, .int (x4 + 1)), (0, .ref po_a), (1, .int p1), (2, .int x2), (3, .int x3)]) hx hb dX2_joinsOf_74 hl (k := 4) rfl rfl (by decide) rfl (fun ls hl => ?_)
          refine lv_goto (tgt := 11) hx hb dX2_joinsOf_77 (by decide) ?_
          exact ih x2 x3 (x4 + 1) hM _ _ _ hP hD hS (lv_sub hl [1, 2, 3, 4, 0] rfl)
        · rw [if_neg c_7] at hM
          refine lv_aload_n hx hb dX2_joinsOf_50 rfl (lv_at hl 0 rfl) ?_
          refine va_get (D := G) (ci := 2) (v := .ref poA_spelled) (C := RX2) (T := TX2) (N := 8) hx hb hts inX2 hown hK hP 0 rfl rfl 6 (by decide) (hts _ tb193) (fun _ h9 => h9) rfl dX2_joinsOf_51 ?_
          refine lv_iload_n hx hb dX2_joinsOf_54 rfl (lv_at hl 2 rfl) ?_
          refine lv_iload hx hb dX2_joinsOf_55 (lv_at hl 4 rfl) ?_
          refine lv_iadd hx hb dX2_joinsOf_57 ?_
          refine lv_iconst (v := 1) hx hb dX2_joinsOf_58 (by decide) ?_
          refine lv_iadd hx hb dX2_joinsOf_59 ?_
          obtain ⟨g_8, hM⟩ := ng hM
          refine va_aldq hx hb hK hP 3 2 rfl rfl g_8 dX2_joinsOf_60 ?_
          show W p l e rmX2_joinsOf s m args below meth c H locs 0 0 Q (F0 m 61 ls [.ref (po_spelled ((x2 + x4) + (1 : Int32)).toNatClampNeg)])
          obtain ⟨g_10, hM⟩ := ng hM
          obtain ⟨r_9, hC, hM⟩ := oe1 hM
          refine cV_i (As := []) (rest := []) C0 hP hD hS [] (kX5_beginsWithVowel l G K tt L la sa ln sy sn lt st (po_spelled ((x2 + x4) + (1 : Int32)).toNatClampNeg) H.size r_9 hC) rfl rfl rfl tb547 tb548 tb549 tb4 tb550 hdX5_beginsWithVowel (va_recv hK (sp_at hE hS (Decidable.not_not.mp g_10)) (ci := 5) (q0 := 0) rfl rfl) ⟨Nat.le_of_ble_eq_true rfl, Nat.le_of_ble_eq_true rfl⟩ rfl hl.1 (Nat.le_of_ble_eq_true rfl) rfl ⟨Nat.le_refl _, Nat.le_refl _⟩ dX2_joinsOf_61 (fun H locs hP hD hS => ?_)
          have hP : va_P G vwCl (WX2_joinsOf K po_a poA_sizes poA_kinds poA_spelled poA_scheme po_foot po_feet po_lines po_words po_sizes po_kinds po_spelled po_scheme) H := hP
          have hD : va_D A (WX2_joinsOf K po_a poA_sizes poA_kinds poA_spelled poA_scheme po_foot po_feet po_lines po_words po_sizes po_kinds po_spelled po_scheme) := hD
          refine lv_if_eq (tgt := 74) hx hb dX2_joinsOf_64 (by decide) (fun c_11 => ?_) (fun c_11 => ?_)
          · rw [if_pos c_11] at hM
            refine lv_iinc (v := (x4 + 1)) (lv' := [(4, .int (x4 + 1)), (0, .ref po_a), (1, .int p1), (2, .int x2), (3, .int x3)]) hx hb dX2_joinsOf_74 hl (k := 4) rfl rfl (by decide) rfl (fun ls hl => ?_)
            refine lv_goto (tgt := 11) hx hb dX2_joinsOf_77 (by decide) ?_
            exact ih x2 x3 (x4 + 1) hM _ _ _ hP hD hS (lv_sub hl [1, 2, 3, 4, 0] rfl)
          · rw [if_neg c_11] at hM
            refine lv_iload_n hx hb dX2_joinsOf_67 rfl (lv_at hl 3 rfl) ?_
            refine lv_iconst (v := 1) hx hb dX2_joinsOf_68 (by decide) ?_
            refine lv_iload hx hb dX2_joinsOf_69 (lv_at hl 4 rfl) ?_
            refine lv_ishl hx hb dX2_joinsOf_71 ?_
            refine lv_ior hx hb dX2_joinsOf_72 ?_
            refine lv_istore_n (lv' := [(3, .int (x3 ||| ((1 : Int32) <<< (x4 &&& 31)))), (0, .ref po_a), (1, .int p1), (2, .int x2), (4, .int x4)]) hx hb dX2_joinsOf_73 rfl hl (by decide) rfl (fun ls hl => ?_)
            refine lv_iinc (v := (x4 + 1)) (lv' := [(4, .int (x4 + 1)), (3, .int (x3 ||| ((1 : Int32) <<< (x4 &&& 31)))), (0, .ref po_a), (1, .int p1), (2, .int x2)]) hx hb dX2_joinsOf_74 hl (k := 4) rfl rfl (by decide) rfl (fun ls hl => ?_)
            refine lv_goto (tgt := 11) hx hb dX2_joinsOf_77 (by decide) ?_
            exact ih x2 (x3 ||| ((1 : Int32) <<< (x4 &&& 31))) (x4 + 1) hM _ _ _ hP hD hS (lv_sub hl [2, 3, 4, 1, 0] rfl)
set_option maxHeartbeats 4000000 in
set_option maxRecDepth 100000 in
theorem wX2_joinsOf_b0 {p : Program} {l : Launch} {e : Env} {s : State} {m : MethodId} {args : Array Value} {below : List Frame} {meth : Method} {c : Code} {Q : State → Prop} {G : va_G} {K : Nat → ClassId} {A : Nat → Prop} {tt : Nat → Nat} {L : List Nat} {la : Nat → Nat} {sa : Nat → Nat} {ln : Nat → Int32} {sy : Nat → Int32} {sn : Nat → Int32} {lt : Nat → Nat → Int32} {st : Nat → Nat → Int32} (C0 : CX p s m args c cX2_joinsOf 5 RX2 G K (EC G K tt L la sa ln sy sn lt st) A) (po_a poA_sizes poA_kinds poA_spelled poA_scheme : Nat) (po_foot : Int32) (po_feet : Int32) (po_lines : Int32) (po_words : Int32) (po_sizes : Nat → Int32) (po_kinds : Nat → Int32) (po_spelled : Nat → Nat) (po_scheme : Nat → Int32) (p1 : Int32) (r : Int32)  (kr : ∀ (H : Heap) (locs : List Loc) (ls : Array Slot) (pc : Nat), decode cX2_joinsOf pc = .ok (.ireturn, 1) → va_P G vwCl (WX2_joinsOf K po_a poA_sizes poA_kinds poA_spelled poA_scheme po_foot po_feet po_lines po_words po_sizes po_kinds po_spelled po_scheme) H → va_D A (WX2_joinsOf K po_a poA_sizes poA_kinds poA_spelled poA_scheme po_foot po_feet po_lines po_words po_sizes po_kinds po_spelled po_scheme) → va_S A s.heap H locs → W p l e rmX2_joinsOf s m args below meth c H locs 0 0 Q (F0 m pc ls [.int r]))  (hM : mX2_joinsOf_b0 L ln sn lt po_sizes po_spelled p1   = some r) : ∀ (H : Heap) (locs : List Loc) (ls : Array Slot), va_P G vwCl (WX2_joinsOf K po_a poA_sizes poA_kinds poA_spelled poA_scheme po_foot po_feet po_lines po_words po_sizes po_kinds po_spelled po_scheme) H → va_D A (WX2_joinsOf K po_a poA_sizes poA_kinds poA_spelled poA_scheme po_foot po_feet po_lines po_words po_sizes po_kinds po_spelled po_scheme) → va_S A s.heap H locs → lv_has ls 5 [(0, .ref po_a), (1, .int p1)] → W p l e rmX2_joinsOf s m args below meth c H locs 0 0 Q (F0 m 0 ls []) := by
  obtain ⟨hx, hb, hml, hown, hts, hK, hA, hEo, hE⟩ := id C0
  intro H locs ls hP hD hS hl
  unfold mX2_joinsOf_b0 at hM
  refine lv_aload_n hx hb dX2_joinsOf_0 rfl (lv_at hl 0 rfl) ?_
  refine lv_iload_n hx hb dX2_joinsOf_1 rfl (lv_at hl 1 rfl) ?_
  obtain ⟨r_12, hC, hM⟩ := oe1 hM
  refine cV_i (As := [.int p1]) (rest := []) C0 hP hD hS [0, 1, 2, 3, 4] (kX2_firstOf l G K tt L la sa ln sy sn lt st po_a poA_sizes poA_kinds poA_spelled poA_scheme po_foot po_feet po_lines po_words po_sizes po_kinds po_spelled po_scheme p1 H.size r_12 hC) rfl rfl rfl tb507 tb451 tb452 tb7 tb453 hdX2_firstOf (va_recv hK hP (ci := 2) (q0 := 0) rfl rfl) ⟨Nat.le_of_ble_eq_true rfl, Nat.le_of_ble_eq_true rfl⟩ rfl hl.1 (Nat.le_of_ble_eq_true rfl) rfl ⟨Nat.le_refl _, Nat.le_refl _⟩ dX2_joinsOf_2 (fun H locs hP hD hS => ?_)
  have hP : va_P G vwCl (WX2_joinsOf K po_a poA_sizes poA_kinds poA_spelled poA_scheme po_foot po_feet po_lines po_words po_sizes po_kinds po_spelled po_scheme) H := hP
  have hD : va_D A (WX2_joinsOf K po_a poA_sizes poA_kinds poA_spelled poA_scheme po_foot po_feet po_lines po_words po_sizes po_kinds po_spelled po_scheme) := hD
  refine lv_istore_n (lv' := [(2, .int r_12), (0, .ref po_a), (1, .int p1)]) hx hb dX2_joinsOf_5 rfl hl (by decide) rfl (fun ls hl => ?_)
  refine lv_iconst (v := 0) hx hb dX2_joinsOf_6 (by decide) ?_
  refine lv_istore_n (lv' := [(3, .int (0 : Int32)), (2, .int r_12), (0, .ref po_a), (1, .int p1)]) hx hb dX2_joinsOf_7 rfl hl (by decide) rfl (fun ls hl => ?_)
  refine lv_iconst (v := 0) hx hb dX2_joinsOf_8 (by decide) ?_
  refine lv_istore (lv' := [(4, .int (0 : Int32)), (3, .int (0 : Int32)), (2, .int r_12), (0, .ref po_a), (1, .int p1)]) hx hb dX2_joinsOf_9 hl (by decide) rfl (fun ls hl => ?_)
  exact wX2_joinsOf_b11 C0 po_a poA_sizes poA_kinds poA_spelled poA_scheme po_foot po_feet po_lines po_words po_sizes po_kinds po_spelled po_scheme p1 r kr  FU r_12 (0 : Int32) (0 : Int32) hM _ _ _ hP hD hS (lv_sub hl [3, 4, 2, 1, 0] rfl)
set_option maxHeartbeats 4000000 in
set_option maxRecDepth 100000 in
theorem kX2_joinsOf (l : Launch) (G : va_G) (K : Nat → ClassId) (tt : Nat → Nat) (L : List Nat) (la : Nat → Nat) (sa : Nat → Nat) (ln : Nat → Int32) (sy : Nat → Int32) (sn : Nat → Int32) (lt : Nat → Nat → Int32) (st : Nat → Nat → Int32) (po_a poA_sizes poA_kinds poA_spelled poA_scheme : Nat) (po_foot : Int32) (po_feet : Int32) (po_lines : Int32) (po_words : Int32) (po_sizes : Nat → Int32) (po_kinds : Nat → Int32) (po_spelled : Nat → Nat) (po_scheme : Nat → Int32) (p1 : Int32) (sz : Nat) (r : Int32)  (hM : mX2_joinsOf L ln sn lt po_sizes po_spelled p1 = some r) : Met l yX2_joinsOf (mC yX2_joinsOf cX2_joinsOf 5 (some .int)) rmX2_joinsOf (va_Pc [.ref po_a, .int p1] (PCe G K (EC G K tt L la sa ln sy sn lt st) (WX2_joinsOf K po_a poA_sizes poA_kinds poA_spelled poA_scheme po_foot po_feet po_lines po_words po_sizes po_kinds po_spelled po_scheme) sz)) (va_Qi (fun (x : Int32) (_ : Unit) => x = r) (fun _ t => va_P G vwCl (WX2_joinsOf K po_a poA_sizes poA_kinds poA_spelled poA_scheme po_foot po_feet po_lines po_words po_sizes po_kinds po_spelled po_scheme) t.heap) (va_A (WX2_joinsOf K po_a poA_sizes poA_kinds poA_spelled poA_scheme po_foot po_feet po_lines po_words po_sizes po_kinds po_spelled po_scheme) sz)) rmX2_joinsOf.cells rmX2_joinsOf.slots (va_A (WX2_joinsOf K po_a poA_sizes poA_kinds poA_spelled poA_scheme po_foot po_feet po_lines po_words po_sizes po_kinds po_spelled po_scheme) sz) := by
  refine Met.ofW (cc := cX2_joinsOf) (maxL := 5) (ret := (some .int)) (by decide) rfl ?_
  intro p e s m args below meth c s₁ B hml hv
  obtain ⟨rfl, hsz, hP, hK, hD0, hE⟩ := hv
  have hx := B.exec
  have hb := B.bytes
  have hr := B.returns
  have hts0 := atoms_spec (ws := mC yX2_joinsOf cX2_joinsOf 5 (some .int)) B.pre
  have hts : ∀ w ∈ tbG, w.before _ s = true := fun w h => hts0 w (List.mem_cons_of_mem _ h)
  have hown : s.vm.findClass RX2 = some m.cls := findClass_of_methodNamed B.named
  subst hsz
  have hD := hD0.self (sz := s.heap.size)
  generalize hAe : va_A (WX2_joinsOf K po_a poA_sizes poA_kinds poA_spelled poA_scheme po_foot po_feet po_lines po_words po_sizes po_kinds po_spelled po_scheme) s.heap.size = A at hD hE ⊢
  have hA : ∀ q : Nat, s.heap.size ≤ q → A q := fun q h => by rw [← hAe]; exact Or.inr h
  have hS : va_S A s.heap s.heap [] := va_S.rf
  have hl := lv_entry ([.ref po_a, .int p1]) (n := 5) (Nat.le_of_ble_eq_true rfl)
  rw [lg_entry_eq]
  generalize (lg_sl ([.ref po_a, .int p1]) ++ List.replicate (5 - (lg_sl ([.ref po_a, .int p1])).length) Slot.unset).toArray = ls at hl ⊢
  have hl : lv_has ls 5 [(0, .ref po_a), (1, .int p1)] := hl
  exact wX2_joinsOf_b0 ⟨hx, hb, hml, hown, hts, hK, hA, EC_ok _ _ _ _ _ _ _ _ _ _ _, hE⟩ po_a poA_sizes poA_kinds poA_spelled poA_scheme po_foot po_feet po_lines po_words po_sizes po_kinds po_spelled po_scheme p1 r (fun H locs ls pc hdg hP hD hS => W.iret (v := r) hx hb hr (fun t ht hW => ⟨⟨r, (), rfl, rfl, (show va_P G vwCl _ t.heap by rw [ht]; exact hP)⟩, hS.F ht⟩) hS.2.2 hdg)   hM _ _ _ hP hD hS hl
abbrev WX6_line (K : Nat → ClassId) (x_a xA_rows rd_a v_a d_a xA_images ac_a er_a xA_hits xA_bodies vA_sizes vA_kinds vA_spelled vA_scheme : Nat) (x_begun : Int32) (x_latestFault : Int32) (x_latestFinding : Int32) (v_foot : Int32) (v_feet : Int32) (v_lines : Int32) (v_words : Int32) (v_sizes : Nat → Int32) (v_kinds : Nat → Int32) (v_spelled : Nat → Nat) (v_scheme : Nat → Int32) : va_W := [(x_a, .inr (6, [.ref xA_rows, .ref rd_a, .ref v_a, .ref d_a, .ref xA_images, .ref ac_a, .ref er_a, .ref xA_hits, .ref xA_bodies, .int x_begun, .int x_latestFault, .int x_latestFinding])), (v_a, .inr (2, [.int v_foot, .int v_feet, .int v_lines, .int v_words, .ref vA_sizes, .ref vA_kinds, .ref vA_spelled, .ref vA_scheme])), aI K vA_sizes 4 v_sizes, aI K vA_kinds 20 v_kinds, aS K vA_spelled 20 v_spelled, aI K vA_scheme 4 v_scheme]
def rmX6_line : Room := { frames := 5, cells := 0, slots := 0, locals := 118 }
theorem hdX6_line : yX6_line.cls = RX6 ∧ yX6_line.cls ≠ "java/lang/invoke/MethodHandle" ∧ yX6_line.cls ≠ "java/lang/invoke/VarHandle" ∧ (parseMethodDescriptor yX6_line.desc).map (fun d => d.parameters.length) = some 2 := by decide +kernel
set_option maxHeartbeats 4000000 in
set_option maxRecDepth 100000 in
theorem wX6_line_b0 {p : Program} {l : Launch} {e : Env} {s : State} {m : MethodId} {args : Array Value} {below : List Frame} {meth : Method} {c : Code} {Q : State → Prop} {G : va_G} {K : Nat → ClassId} {A : Nat → Prop} {tt : Nat → Nat} {L : List Nat} {la : Nat → Nat} {sa : Nat → Nat} {ln : Nat → Int32} {sy : Nat → Int32} {sn : Nat → Int32} {lt : Nat → Nat → Int32} {st : Nat → Nat → Int32} (C0 : CX p s m args c cX6_line 4 RX6 G K (EC G K tt L la sa ln sy sn lt st) A) (x_a xA_rows rd_a v_a d_a xA_images ac_a er_a xA_hits xA_bodies vA_sizes vA_kinds vA_spelled vA_scheme : Nat) (x_begun : Int32) (x_latestFault : Int32) (x_latestFinding : Int32) (v_foot : Int32) (v_feet : Int32) (v_lines : Int32) (v_words : Int32) (v_sizes : Nat → Int32) (v_kinds : Nat → Int32) (v_spelled : Nat → Nat) (p1 : Int32) (p2 : Int32) (r : Int32) (o_v_scheme : Nat → Int32) (kr : ∀ (H : Heap) (locs : List Loc) (ls : Array Slot) (pc : Nat), decode cX6_line pc = .ok (.ireturn, 1) → va_P G vwCl (WX6_line K x_a xA_rows rd_a v_a d_a xA_images ac_a er_a xA_hits xA_bodies vA_sizes vA_kinds vA_spelled vA_scheme x_begun x_latestFault x_latestFinding v_foot v_feet v_lines v_words v_sizes v_kinds v_spelled o_v_scheme) H → va_D A (WX6_line K x_a xA_rows rd_a v_a d_a xA_images ac_a er_a xA_hits xA_bodies vA_sizes vA_kinds vA_spelled vA_scheme x_begun x_latestFault x_latestFinding v_foot v_feet v_lines v_words v_sizes v_kinds v_spelled o_v_scheme) → va_S A s.heap H locs → W p l e rmX6_line s m args below meth c H locs 0 0 Q (F0 m pc ls [.int r])) (v_scheme : Nat → Int32) (hM : mX6_line_b0 L ln sy sn lt st v_lines v_sizes v_kinds v_spelled p1 p2  v_scheme = some (r, o_v_scheme)) : ∀ (H : Heap) (locs : List Loc) (ls : Array Slot), va_P G vwCl (WX6_line K x_a xA_rows rd_a v_a d_a xA_images ac_a er_a xA_hits xA_bodies vA_sizes vA_kinds vA_spelled vA_scheme x_begun x_latestFault x_latestFinding v_foot v_feet v_lines v_words v_sizes v_kinds v_spelled v_scheme) H → va_D A (WX6_line K x_a xA_rows rd_a v_a d_a xA_images ac_a er_a xA_hits xA_bodies vA_sizes vA_kinds vA_spelled vA_scheme x_begun x_latestFault x_latestFinding v_foot v_feet v_lines v_words v_sizes v_kinds v_spelled v_scheme) → va_S A s.heap H locs → lv_has ls 4 [(0, .ref x_a), (1, .int p1), (2, .int p2)] → W p l e rmX6_line s m args below meth c H locs 0 0 Q (F0 m 0 ls []) := by
  obtain ⟨hx, hb, hml, hown, hts, hK, hA, hEo, hE⟩ := id C0
  intro H locs ls hP hD hS hl
  unfold mX6_line_b0 at hM
  refine lv_aload_n hx hb dX6_line_0 rfl (lv_at hl 0 rfl) ?_
  refine va_get (D := G) (ci := 6) (v := .ref v_a) (C := RX6) (T := TX6) (N := 12) hx hb hts inX6 hown hK hP 0 rfl rfl 2 (by decide) (hts _ tb247) (fun _ h9 => h9) rfl dX6_line_1 ?_
  refine lv_iload_n hx hb dX6_line_4 rfl (lv_at hl 1 rfl) ?_
  obtain ⟨r_1, hC, hM⟩ := oe1 hM
  refine cV_i (As := [.int p1]) (rest := []) C0 hP hD hS [1, 2, 3, 4, 5] (kX2_hasLine l G K tt L la sa ln sy sn lt st v_a vA_sizes vA_kinds vA_spelled vA_scheme v_foot v_feet v_lines v_words v_sizes v_kinds v_spelled v_scheme p1 H.size r_1 hC) rfl rfl rfl tb445 tb393 tb394 tb7 tb395 hdX2_hasLine (va_recv hK hP (ci := 2) (q0 := 1) rfl rfl) ⟨Nat.le_of_ble_eq_true rfl, Nat.le_of_ble_eq_true rfl⟩ rfl hl.1 (Nat.le_of_ble_eq_true rfl) rfl ⟨Nat.le_refl _, Nat.le_refl _⟩ dX6_line_5 (fun H locs hP hD hS => ?_)
  have hP : va_P G vwCl (WX6_line K x_a xA_rows rd_a v_a d_a xA_images ac_a er_a xA_hits xA_bodies vA_sizes vA_kinds vA_spelled vA_scheme x_begun x_latestFault x_latestFinding v_foot v_feet v_lines v_words v_sizes v_kinds v_spelled v_scheme) H := hP
  have hD : va_D A (WX6_line K x_a xA_rows rd_a v_a d_a xA_images ac_a er_a xA_hits xA_bodies vA_sizes vA_kinds vA_spelled vA_scheme x_begun x_latestFault x_latestFinding v_foot v_feet v_lines v_words v_sizes v_kinds v_spelled v_scheme) := hD
  refine lv_if_ne (tgt := 14) hx hb dX6_line_8 (by decide) (fun c_2 => ?_) (fun c_2 => ?_)
  · rw [if_neg c_2] at hM
    refine lv_aload_n hx hb dX6_line_14 rfl (lv_at hl 0 rfl) ?_
    refine va_get (D := G) (ci := 6) (v := .ref v_a) (C := RX6) (T := TX6) (N := 12) hx hb hts inX6 hown hK hP 0 rfl rfl 2 (by decide) (hts _ tb247) (fun _ h9 => h9) rfl dX6_line_15 ?_
    refine lv_iload_n hx hb dX6_line_18 rfl (lv_at hl 1 rfl) ?_
    obtain ⟨r_3, hC, hM⟩ := oe1 hM
    refine cV_i (As := [.int p1]) (rest := []) C0 hP hD hS [1, 2, 3, 4, 5] (kX2_lastOf l G K tt L la sa ln sy sn lt st v_a vA_sizes vA_kinds vA_spelled vA_scheme v_foot v_feet v_lines v_words v_sizes v_kinds v_spelled v_scheme p1 H.size r_3 hC) rfl rfl rfl tb503 tb504 tb505 tb7 tb506 hdX2_lastOf (va_recv hK hP (ci := 2) (q0 := 1) rfl rfl) ⟨Nat.le_of_ble_eq_true rfl, Nat.le_of_ble_eq_true rfl⟩ rfl hl.1 (Nat.le_of_ble_eq_true rfl) rfl ⟨Nat.le_refl _, Nat.le_refl _⟩ dX6_line_19 (fun H locs hP hD hS => ?_)
    have hP : va_P G vwCl (WX6_line K x_a xA_rows rd_a v_a d_a xA_images ac_a er_a xA_hits xA_bodies vA_sizes vA_kinds vA_spelled vA_scheme x_begun x_latestFault x_latestFinding v_foot v_feet v_lines v_words v_sizes v_kinds v_spelled v_scheme) H := hP
    have hD : va_D A (WX6_line K x_a xA_rows rd_a v_a d_a xA_images ac_a er_a xA_hits xA_bodies vA_sizes vA_kinds vA_spelled vA_scheme x_begun x_latestFault x_latestFinding v_foot v_feet v_lines v_words v_sizes v_kinds v_spelled v_scheme) := hD
    refine lv_istore_n (lv' := [(3, .int r_3), (0, .ref x_a), (1, .int p1), (2, .int p2)]) hx hb dX6_line_22 rfl hl (by decide) rfl (fun ls hl => ?_)
    refine lv_iload_n hx hb dX6_line_23 rfl (lv_at hl 3 rfl) ?_
    refine lv_bipush (v := 10) hx hb dX6_line_24 (by decide) ?_
    refine lv_icmp_lt (tgt := 42) hx hb dX6_line_26 (by decide) (fun c_4 => ?_) (fun c_4 => ?_)
    · rw [if_pos c_4] at hM
      refine lv_iload_n hx hb dX6_line_42 rfl (lv_at hl 3 rfl) ?_
      by_cases c_5 : p2 = 0
      · rw [if_pos c_5] at hM
        refine lv_tableIn (off := 37) (tgt := 80) hx hb dX6_line_43 (by rw [c_5]; decide) (by rw [c_5]; decide) (by rw [c_5]; decide) (by decide) ?_
        refine lv_aload_n hx hb dX6_line_80 rfl (lv_at hl 1 rfl) ?_
        refine va_get (D := G) (ci := 6) (v := .ref v_a) (C := RX6) (T := TX6) (N := 12) hx hb hts inX6 hown hK hP 0 rfl rfl 2 (by decide) (hts _ tb247) (fun _ h9 => h9) rfl dX6_line_81 ?_
        refine va_get (D := G) (ci := 2) (v := .ref vA_sizes) (C := RX2) (T := TX2) (N := 8) hx hb hts inX2 hown hK hP 1 rfl rfl 4 (by decide) (hts _ tb189) (fun _ h9 => h9) rfl dX6_line_84 ?_
        refine lv_iload_n hx hb dX6_line_87 rfl (lv_at hl 2 rfl) ?_
        obtain ⟨g_6, hM⟩ := ng hM
        refine va_iald hx hb hK hP 2 0 rfl rfl g_6 dX6_line_88 ?_
        have t0 := Option.some.inj hM
        obtain ⟨q1, t1⟩ := Prod.mk.inj t0
        subst q1
        subst t1
        exact kr _ _ _ _ dX6_line_89 hP hD hS
      · rw [if_neg c_5] at hM
        by_cases c_7 : p2 = 1
        · rw [if_pos c_7] at hM
          refine lv_tableIn (off := 47) (tgt := 90) hx hb dX6_line_43 (by rw [c_7]; decide) (by rw [c_7]; decide) (by rw [c_7]; decide) (by decide) ?_
          refine lv_aload_n hx hb dX6_line_90 rfl (lv_at hl 1 rfl) ?_
          refine va_get (D := G) (ci := 6) (v := .ref v_a) (C := RX6) (T := TX6) (N := 12) hx hb hts inX6 hown hK hP 0 rfl rfl 2 (by decide) (hts _ tb247) (fun _ h9 => h9) rfl dX6_line_91 ?_
          refine lv_iload_n hx hb dX6_line_94 rfl (lv_at hl 2 rfl) ?_
          obtain ⟨r_8, hC, hM⟩ := oe1 hM
          refine cV_i (As := [.int p1]) (rest := []) C0 hP hD hS [1, 2, 3, 4, 5] (kX2_firstOf l G K tt L la sa ln sy sn lt st v_a vA_sizes vA_kinds vA_spelled vA_scheme v_foot v_feet v_lines v_words v_sizes v_kinds v_spelled v_scheme p1 H.size r_8 hC) rfl rfl rfl tb450 tb451 tb452 tb7 tb453 hdX2_firstOf (va_recv hK hP (ci := 2) (q0 := 1) rfl rfl) ⟨Nat.le_of_ble_eq_true rfl, Nat.le_of_ble_eq_true rfl⟩ rfl hl.1 (Nat.le_of_ble_eq_true rfl) rfl ⟨Nat.le_refl _, Nat.le_refl _⟩ dX6_line_95 (fun H locs hP hD hS => ?_)
          have hP : va_P G vwCl (WX6_line K x_a xA_rows rd_a v_a d_a xA_images ac_a er_a xA_hits xA_bodies vA_sizes vA_kinds vA_spelled vA_scheme x_begun x_latestFault x_latestFinding v_foot v_feet v_lines v_words v_sizes v_kinds v_spelled v_scheme) H := hP
          have hD : va_D A (WX6_line K x_a xA_rows rd_a v_a d_a xA_images ac_a er_a xA_hits xA_bodies vA_sizes vA_kinds vA_spelled vA_scheme x_begun x_latestFault x_latestFinding v_foot v_feet v_lines v_words v_sizes v_kinds v_spelled v_scheme) := hD
          have t0 := Option.some.inj hM
          obtain ⟨q1, t1⟩ := Prod.mk.inj t0
          subst q1
          subst t1
          exact kr _ _ _ _ dX6_line_98 hP hD hS
        · rw [if_neg c_7] at hM
          by_cases c_9 : p2 = 2
          · rw [if_pos c_9] at hM
            refine lv_tableIn (off := 56) (tgt := 99) hx hb dX6_line_43 (by rw [c_9]; decide) (by rw [c_9]; decide) (by rw [c_9]; decide) (by decide) ?_
            refine lv_aload_n hx hb dX6_line_99 rfl (lv_at hl 1 rfl) ?_
            refine va_get (D := G) (ci := 6) (v := .ref v_a) (C := RX6) (T := TX6) (N := 12) hx hb hts inX6 hown hK hP 0 rfl rfl 2 (by decide) (hts _ tb247) (fun _ h9 => h9) rfl dX6_line_100 ?_
            refine lv_iload_n hx hb dX6_line_103 rfl (lv_at hl 2 rfl) ?_
            obtain ⟨r_10, hC, hM⟩ := oe1 hM
            refine cV_i (As := [.int p1]) (rest := []) C0 hP hD hS [1, 2, 3, 4, 5] (kX2_syllablesOf l G K tt L la sa ln sy sn lt st v_a vA_sizes vA_kinds vA_spelled vA_scheme v_foot v_feet v_lines v_words v_sizes v_kinds v_spelled v_scheme p1 H.size r_10 hC) rfl rfl rfl tb518 tb519 tb520 tb7 tb521 hdX2_syllablesOf (va_recv hK hP (ci := 2) (q0 := 1) rfl rfl) ⟨Nat.le_of_ble_eq_true rfl, Nat.le_of_ble_eq_true rfl⟩ rfl hl.1 (Nat.le_of_ble_eq_true rfl) rfl ⟨Nat.le_refl _, Nat.le_refl _⟩ dX6_line_104 (fun H locs hP hD hS => ?_)
            have hP : va_P G vwCl (WX6_line K x_a xA_rows rd_a v_a d_a xA_images ac_a er_a xA_hits xA_bodies vA_sizes vA_kinds vA_spelled vA_scheme x_begun x_latestFault x_latestFinding v_foot v_feet v_lines v_words v_sizes v_kinds v_spelled v_scheme) H := hP
            have hD : va_D A (WX6_line K x_a xA_rows rd_a v_a d_a xA_images ac_a er_a xA_hits xA_bodies vA_sizes vA_kinds vA_spelled vA_scheme x_begun x_latestFault x_latestFinding v_foot v_feet v_lines v_words v_sizes v_kinds v_spelled v_scheme) := hD
            have t0 := Option.some.inj hM
            obtain ⟨q1, t1⟩ := Prod.mk.inj t0
            subst q1
            subst t1
            exact kr _ _ _ _ dX6_line_107 hP hD hS
          · rw [if_neg c_9] at hM
            by_cases c_11 : p2 = 3
            · rw [if_pos c_11] at hM
              refine lv_tableIn (off := 65) (tgt := 108) hx hb dX6_line_43 (by rw [c_11]; decide) (by rw [c_11]; decide) (by rw [c_11]; decide) (by decide) ?_
              refine lv_aload_n hx hb dX6_line_108 rfl (lv_at hl 1 rfl) ?_
              refine va_get (D := G) (ci := 6) (v := .ref v_a) (C := RX6) (T := TX6) (N := 12) hx hb hts inX6 hown hK hP 0 rfl rfl 2 (by decide) (hts _ tb247) (fun _ h9 => h9) rfl dX6_line_109 ?_
              refine lv_iload_n hx hb dX6_line_112 rfl (lv_at hl 2 rfl) ?_
              obtain ⟨r_12, u0_12, hC, hM⟩ := oe2 hM
              refine cV_i (As := [.int p1]) (rest := []) C0 hP hD hS [1, 2, 3, 4, 5] (kX2_schemeNumber l G K tt L la sa ln sy sn lt st v_a vA_sizes vA_kinds vA_spelled vA_scheme v_foot v_feet v_lines v_words v_sizes v_kinds v_spelled v_scheme p1 H.size r_12 u0_12 hC) rfl rfl rfl tb522 tb523 tb524 tb7 tb525 hdX2_schemeNumber (va_recv hK hP (ci := 2) (q0 := 1) rfl rfl) ⟨Nat.le_of_ble_eq_true rfl, Nat.le_of_ble_eq_true rfl⟩ rfl hl.1 (Nat.le_of_ble_eq_true rfl) rfl ⟨Nat.le_refl _, Nat.le_refl _⟩ dX6_line_113 (fun H locs hP hD hS => ?_)
              have hP : va_P G vwCl (WX6_line K x_a xA_rows rd_a v_a d_a xA_images ac_a er_a xA_hits xA_bodies vA_sizes vA_kinds vA_spelled vA_scheme x_begun x_latestFault x_latestFinding v_foot v_feet v_lines v_words v_sizes v_kinds v_spelled u0_12) H := hP
              have hD : va_D A (WX6_line K x_a xA_rows rd_a v_a d_a xA_images ac_a er_a xA_hits xA_bodies vA_sizes vA_kinds vA_spelled vA_scheme x_begun x_latestFault x_latestFinding v_foot v_feet v_lines v_words v_sizes v_kinds v_spelled u0_12) := hD
              have t0 := Option.some.inj hM
              obtain ⟨q1, t1⟩ := Prod.mk.inj t0
              subst q1
              subst t1
              exact kr _ _ _ _ dX6_line_116 hP hD hS
            · rw [if_neg c_11] at hM
              by_cases c_13 : p2 = 4
              · rw [if_pos c_13] at hM
                refine lv_tableIn (off := 74) (tgt := 117) hx hb dX6_line_43 (by rw [c_13]; decide) (by rw [c_13]; decide) (by rw [c_13]; decide) (by decide) ?_
                refine lv_aload_n hx hb dX6_line_117 rfl (lv_at hl 1 rfl) ?_
                refine va_get (D := G) (ci := 6) (v := .ref v_a) (C := RX6) (T := TX6) (N := 12) hx hb hts inX6 hown hK hP 0 rfl rfl 2 (by decide) (hts _ tb247) (fun _ h9 => h9) rfl dX6_line_118 ?_
                refine lv_iload_n hx hb dX6_line_121 rfl (lv_at hl 0 rfl) ?_
                obtain ⟨r_14, hC, hM⟩ := oe1 hM
                refine cV_i (As := [.int r_3]) (rest := []) C0 hP hD hS [1, 2, 3, 4, 5] (kX2_tailLength l G K tt L la sa ln sy sn lt st v_a vA_sizes vA_kinds vA_spelled vA_scheme v_foot v_feet v_lines v_words v_sizes v_kinds v_spelled v_scheme r_3 H.size r_14 hC) rfl rfl rfl tb535 tb536 tb537 tb7 tb538 hdX2_tailLength (va_recv hK hP (ci := 2) (q0 := 1) rfl rfl) ⟨Nat.le_of_ble_eq_true rfl, Nat.le_of_ble_eq_true rfl⟩ rfl hl.1 (Nat.le_of_ble_eq_true rfl) rfl ⟨Nat.le_refl _, Nat.le_refl _⟩ dX6_line_122 (fun H locs hP hD hS => ?_)
                have hP : va_P G vwCl (WX6_line K x_a xA_rows rd_a v_a d_a xA_images ac_a er_a xA_hits xA_bodies vA_sizes vA_kinds vA_spelled vA_scheme x_begun x_latestFault x_latestFinding v_foot v_feet v_lines v_words v_sizes v_kinds v_spelled v_scheme) H := hP
                have hD : va_D A (WX6_line K x_a xA_rows rd_a v_a d_a xA_images ac_a er_a xA_hits xA_bodies vA_sizes vA_kinds vA_spelled vA_scheme x_begun x_latestFault x_latestFinding v_foot v_feet v_lines v_words v_sizes v_kinds v_spelled v_scheme) := hD
                have t0 := Option.some.inj hM
                obtain ⟨q1, t1⟩ := Prod.mk.inj t0
                subst q1
                subst t1
                exact kr _ _ _ _ dX6_line_125 hP hD hS
              · rw [if_neg c_13] at hM
                by_cases c_15 : p2 = 5
                · rw [if_pos c_15] at hM
                  refine lv_tableIn (off := 83) (tgt := 126) hx hb dX6_line_43 (by rw [c_15]; decide) (by rw [c_15]; decide) (by rw [c_15]; decide) (by decide) ?_
                  refine lv_aload_n hx hb dX6_line_126 rfl (lv_at hl 1 rfl) ?_
                  refine va_get (D := G) (ci := 6) (v := .ref v_a) (C := RX6) (T := TX6) (N := 12) hx hb hts inX6 hown hK hP 0 rfl rfl 2 (by decide) (hts _ tb247) (fun _ h9 => h9) rfl dX6_line_127 ?_
                  refine lv_iload_n hx hb dX6_line_130 rfl (lv_at hl 2 rfl) ?_
                  obtain ⟨r_16, hC, hM⟩ := oe1 hM
                  refine cV_i (As := [.int p1]) (rest := []) C0 hP hD hS [1, 2, 3, 4, 5] (kX2_joinsOf l G K tt L la sa ln sy sn lt st v_a vA_sizes vA_kinds vA_spelled vA_scheme v_foot v_feet v_lines v_words v_sizes v_kinds v_spelled v_scheme p1 H.size r_16 hC) rfl rfl rfl tb539 tb540 tb541 tb7 tb542 hdX2_joinsOf (va_recv hK hP (ci := 2) (q0 := 1) rfl rfl) ⟨Nat.le_of_ble_eq_true rfl, Nat.le_of_ble_eq_true rfl⟩ rfl hl.1 (Nat.le_of_ble_eq_true rfl) rfl ⟨Nat.le_refl _, Nat.le_refl _⟩ dX6_line_131 (fun H locs hP hD hS => ?_)
                  have hP : va_P G vwCl (WX6_line K x_a xA_rows rd_a v_a d_a xA_images ac_a er_a xA_hits xA_bodies vA_sizes vA_kinds vA_spelled vA_scheme x_begun x_latestFault x_latestFinding v_foot v_feet v_lines v_words v_sizes v_kinds v_spelled v_scheme) H := hP
                  have hD : va_D A (WX6_line K x_a xA_rows rd_a v_a d_a xA_images ac_a er_a xA_hits xA_bodies vA_sizes vA_kinds vA_spelled vA_scheme x_begun x_latestFault x_latestFinding v_foot v_feet v_lines v_words v_sizes v_kinds v_spelled v_scheme) := hD
                  have t0 := Option.some.inj hM
                  obtain ⟨q1, t1⟩ := Prod.mk.inj t0
                  subst q1
                  subst t1
                  exact kr _ _ _ _ dX6_line_134 hP hD hS
                · rw [if_neg c_15] at hM
                  refine lv_tableOut (tgt := 135) hx hb dX6_line_43 (by have q0 : p2.toInt ≠ 0 := (fun q => c_5 (Int32.toInt_inj.mp (q.trans (by decide)))); have q1 : p2.toInt ≠ 1 := (fun q => c_7 (Int32.toInt_inj.mp (q.trans (by decide)))); have q2 : p2.toInt ≠ 2 := (fun q => c_9 (Int32.toInt_inj.mp (q.trans (by decide)))); have q3 : p2.toInt ≠ 3 := (fun q => c_11 (Int32.toInt_inj.mp (q.trans (by decide)))); have q4 : p2.toInt ≠ 4 := (fun q => c_13 (Int32.toInt_inj.mp (q.trans (by decide)))); have q5 : p2.toInt ≠ 5 := (fun q => c_15 (Int32.toInt_inj.mp (q.trans (by decide)))); omega) (by decide) ?_
                  refine lv_ldc (v := -1000001) hx hb hown (hts _ tb289) dX6_line_135 ?_
                  have t0 := Option.some.inj hM
                  obtain ⟨q1, t1⟩ := Prod.mk.inj t0
                  subst q1
                  subst t1
                  exact kr _ _ _ _ dX6_line_137 hP hD hS
    · rw [if_neg c_4] at hM
      refine lv_aload_n hx hb dX6_line_29 rfl (lv_at hl 1 rfl) ?_
      refine va_get (D := G) (ci := 6) (v := .ref v_a) (C := RX6) (T := TX6) (N := 12) hx hb hts inX6 hown hK hP 0 rfl rfl 2 (by decide) (hts _ tb247) (fun _ h9 => h9) rfl dX6_line_30 ?_
      refine lv_iload_n hx hb dX6_line_33 rfl (lv_at hl 0 rfl) ?_
      refine lv_iload_n hx hb dX6_line_34 rfl (lv_at hl 3 rfl) ?_
      refine lv_bipush (v := 10) hx hb dX6_line_35 (by decide) ?_
      refine lv_isub hx hb dX6_line_37 ?_
      obtain ⟨r_17, hC, hM⟩ := oe1 hM
      refine cV_i (As := [.int r_3, .int (p2 - (10 : Int32))]) (rest := []) C0 hP hD hS [1, 2, 3, 4, 5] (kX2_tailLetter l G K tt L la sa ln sy sn lt st v_a vA_sizes vA_kinds vA_spelled vA_scheme v_foot v_feet v_lines v_words v_sizes v_kinds v_spelled v_scheme r_3 (p2 - (10 : Int32)) H.size r_17 hC) rfl rfl rfl tb508 tb509 tb510 tb7 tb511 hdX2_tailLetter (va_recv hK hP (ci := 2) (q0 := 1) rfl rfl) ⟨Nat.le_of_ble_eq_true rfl, Nat.le_of_ble_eq_true rfl⟩ rfl hl.1 (Nat.le_of_ble_eq_true rfl) rfl ⟨Nat.le_refl _, Nat.le_refl _⟩ dX6_line_38 (fun H locs hP hD hS => ?_)
      have hP : va_P G vwCl (WX6_line K x_a xA_rows rd_a v_a d_a xA_images ac_a er_a xA_hits xA_bodies vA_sizes vA_kinds vA_spelled vA_scheme x_begun x_latestFault x_latestFinding v_foot v_feet v_lines v_words v_sizes v_kinds v_spelled v_scheme) H := hP
      have hD : va_D A (WX6_line K x_a xA_rows rd_a v_a d_a xA_images ac_a er_a xA_hits xA_bodies vA_sizes vA_kinds vA_spelled vA_scheme x_begun x_latestFault x_latestFinding v_foot v_feet v_lines v_words v_sizes v_kinds v_spelled v_scheme) := hD
      have t0 := Option.some.inj hM
      obtain ⟨q1, t1⟩ := Prod.mk.inj t0
      subst q1
      subst t1
      exact kr _ _ _ _ dX6_line_41 hP hD hS
  · rw [if_pos c_2] at hM
    refine lv_ldc (v := -1000001) hx hb hown (hts _ tb289) dX6_line_11 ?_
    have t0 := Option.some.inj hM
    obtain ⟨q1, t1⟩ := Prod.mk.inj t0
    subst q1
    subst t1
    exact kr _ _ _ _ dX6_line_13 hP hD hS
set_option maxHeartbeats 4000000 in
set_option maxRecDepth 100000 in
theorem kX6_line (l : Launch) (G : va_G) (K : Nat → ClassId) (tt : Nat → Nat) (L : List Nat) (la : Nat → Nat) (sa : Nat → Nat) (ln : Nat → Int32) (sy : Nat → Int32) (sn : Nat → Int32) (lt : Nat → Nat → Int32) (st : Nat → Nat → Int32) (x_a xA_rows rd_a v_a d_a xA_images ac_a er_a xA_hits xA_bodies vA_sizes vA_kinds vA_spelled vA_scheme : Nat) (x_begun : Int32) (x_latestFault : Int32) (x_latestFinding : Int32) (v_foot : Int32) (v_feet : Int32) (v_lines : Int32) (v_words : Int32) (v_sizes : Nat → Int32) (v_kinds : Nat → Int32) (v_spelled : Nat → Nat) (v_scheme : Nat → Int32) (p1 : Int32) (p2 : Int32) (sz : Nat) (r : Int32) (o_v_scheme : Nat → Int32) (hM : mX6_line L ln sy sn lt st v_lines v_sizes v_kinds v_spelled v_scheme p1 p2 = some (r, o_v_scheme)) : Met l yX6_line (mC yX6_line cX6_line 4 (some .int)) rmX6_line (va_Pc [.ref x_a, .int p1, .int p2] (PCe G K (EC G K tt L la sa ln sy sn lt st) (WX6_line K x_a xA_rows rd_a v_a d_a xA_images ac_a er_a xA_hits xA_bodies vA_sizes vA_kinds vA_spelled vA_scheme x_begun x_latestFault x_latestFinding v_foot v_feet v_lines v_words v_sizes v_kinds v_spelled v_scheme) sz)) (va_Qi (fun (x : Int32) (_ : Unit) => x = r) (fun _ t => va_P G vwCl (WX6_line K x_a xA_rows rd_a v_a d_a xA_images ac_a er_a xA_hits xA_bodies vA_sizes vA_kinds vA_spelled vA_scheme x_begun x_latestFault x_latestFinding v_foot v_feet v_lines v_words v_sizes v_kinds v_spelled o_v_scheme) t.heap) (va_A (WX6_line K x_a xA_rows rd_a v_a d_a xA_images ac_a er_a xA_hits xA_bodies vA_sizes vA_kinds vA_spelled vA_scheme x_begun x_latestFault x_latestFinding v_foot v_feet v_lines v_words v_sizes v_kinds v_spelled v_scheme) sz)) rmX6_line.cells rmX6_line.slots (va_A (WX6_line K x_a xA_rows rd_a v_a d_a xA_images ac_a er_a xA_hits xA_bodies vA_sizes vA_kinds vA_spelled vA_scheme x_begun x_latestFault x_latestFinding v_foot v_feet v_lines v_words v_sizes v_kinds v_spelled v_scheme) sz) := by
  refine Met.ofW (cc := cX6_line) (maxL := 4) (ret := (some .int)) (by decide) rfl ?_
  intro p e s m args below meth c s₁ B hml hv
  obtain ⟨rfl, hsz, hP, hK, hD0, hE⟩ := hv
  have hx := B.exec
  have hb := B.bytes
  have hr := B.returns
  have hts0 := atoms_spec (ws := mC yX6_line cX6_line 4 (some .int)) B.pre
  have hts : ∀ w ∈ tbG, w.before _ s = true := fun w h => hts0 w (List.mem_cons_of_mem _ h)
  have hown : s.vm.findClass RX6 = some m.cls := findClass_of_methodNamed B.named
  subst hsz
  have hD := hD0.self (sz := s.heap.size)
  generalize hAe : va_A (WX6_line K x_a xA_rows rd_a v_a d_a xA_images ac_a er_a xA_hits xA_bodies vA_sizes vA_kinds vA_spelled vA_scheme x_begun x_latestFault x_latestFinding v_foot v_feet v_lines v_words v_sizes v_kinds v_spelled v_scheme) s.heap.size = A at hD hE ⊢
  have hA : ∀ q : Nat, s.heap.size ≤ q → A q := fun q h => by rw [← hAe]; exact Or.inr h
  have hS : va_S A s.heap s.heap [] := va_S.rf
  have hl := lv_entry ([.ref x_a, .int p1, .int p2]) (n := 4) (Nat.le_of_ble_eq_true rfl)
  rw [lg_entry_eq]
  generalize (lg_sl ([.ref x_a, .int p1, .int p2]) ++ List.replicate (4 - (lg_sl ([.ref x_a, .int p1, .int p2])).length) Slot.unset).toArray = ls at hl ⊢
  have hl : lv_has ls 4 [(0, .ref x_a), (1, .int p1), (2, .int p2)] := hl
  exact wX6_line_b0 ⟨hx, hb, hml, hown, hts, hK, hA, EC_ok _ _ _ _ _ _ _ _ _ _ _, hE⟩ x_a xA_rows rd_a v_a d_a xA_images ac_a er_a xA_hits xA_bodies vA_sizes vA_kinds vA_spelled vA_scheme x_begun x_latestFault x_latestFinding v_foot v_feet v_lines v_words v_sizes v_kinds v_spelled p1 p2 r o_v_scheme (fun H locs ls pc hdg hP hD hS => W.iret (v := r) hx hb hr (fun t ht hW => ⟨⟨r, (), rfl, rfl, (show va_P G vwCl _ t.heap by rw [ht]; exact hP)⟩, hS.F ht⟩) hS.2.2 hdg) v_scheme  hM _ _ _ hP hD hS hl
abbrev WX1_hear (K : Nat → ClassId) (er_a erA_lastAt erA_fees erA_heavy erA_light erA_over po_a poA_sizes poA_kinds poA_spelled poA_scheme : Nat) (er_words : Int32) (er_syllables : Int32) (er_strong : Int32) (er_either : Int32) (er_joins : Int32) (er_singles : Int32) (er_options : Int32) (er_least : Int32) (er_ways : Int32) (er_lastAt : Nat → Int32) (er_fees : Nat → Int32) (er_heavy : Nat → Int32) (er_light : Nat → Int32) (er_over : Nat → Int32) (po_foot : Int32) (po_feet : Int32) (po_lines : Int32) (po_words : Int32) (po_sizes : Nat → Int32) (po_kinds : Nat → Int32) (po_spelled : Nat → Nat) (po_scheme : Nat → Int32) : va_W := [(er_a, .inr (1, [.int er_words, .int er_syllables, .int er_strong, .int er_either, .int er_joins, .int er_singles, .ref erA_lastAt, .int er_options, .ref erA_fees, .ref erA_heavy, .ref erA_light, .ref erA_over, .int er_least, .int er_ways])), aI K erA_lastAt 5 er_lastAt, aI K erA_fees 32 er_fees, aI K erA_heavy 32 er_heavy, aI K erA_light 32 er_light, aI K erA_over 32 er_over, (po_a, .inr (2, [.int po_foot, .int po_feet, .int po_lines, .int po_words, .ref poA_sizes, .ref poA_kinds, .ref poA_spelled, .ref poA_scheme])), aI K poA_sizes 4 po_sizes, aI K poA_kinds 20 po_kinds, aS K poA_spelled 20 po_spelled, aI K poA_scheme 4 po_scheme]
def rmX1_hear : Room := { frames := 3, cells := 0, slots := 0, locals := 64 }
theorem hdX1_hear : yX1_hear.cls = RX1 ∧ yX1_hear.cls ≠ "java/lang/invoke/MethodHandle" ∧ yX1_hear.cls ≠ "java/lang/invoke/VarHandle" ∧ (parseMethodDescriptor yX1_hear.desc).map (fun d => d.parameters.length) = some 2 := by decide +kernel
set_option maxHeartbeats 4000000 in
set_option maxRecDepth 100000 in
theorem wX1_hear_b147 {p : Program} {l : Launch} {e : Env} {s : State} {m : MethodId} {args : Array Value} {below : List Frame} {meth : Method} {c : Code} {Q : State → Prop} {G : va_G} {K : Nat → ClassId} {A : Nat → Prop} {tt : Nat → Nat} {L : List Nat} {la : Nat → Nat} {sa : Nat → Nat} {ln : Nat → Int32} {sy : Nat → Int32} {sn : Nat → Int32} {lt : Nat → Nat → Int32} {st : Nat → Nat → Int32} (C0 : CX p s m args c cX1_hear 6 RX1 G K (EC G K tt L la sa ln sy sn lt st) A) (er_a erA_lastAt erA_fees erA_heavy erA_light erA_over po_a poA_sizes poA_kinds poA_spelled poA_scheme : Nat) (er_options : Int32) (er_least : Int32) (er_ways : Int32) (er_fees : Nat → Int32) (er_heavy : Nat → Int32) (er_light : Nat → Int32) (er_over : Nat → Int32) (po_foot : Int32) (po_feet : Int32) (po_lines : Int32) (po_words : Int32) (po_sizes : Nat → Int32) (po_kinds : Nat → Int32) (po_spelled : Nat → Nat) (po_scheme : Nat → Int32) (p2 : Int32) (o_er_words : Int32) (o_er_syllables : Int32) (o_er_strong : Int32) (o_er_either : Int32) (o_er_joins : Int32) (o_er_singles : Int32) (o_er_lastAt : Nat → Int32) (kr : ∀ (H : Heap) (locs : List Loc) (ls : Array Slot) (pc : Nat), decode cX1_hear pc = .ok (.return_, 1) → va_P G vwCl (WX1_hear K er_a erA_lastAt erA_fees erA_heavy erA_light erA_over po_a poA_sizes poA_kinds poA_spelled poA_scheme o_er_words o_er_syllables o_er_strong o_er_either o_er_joins o_er_singles er_options er_least er_ways o_er_lastAt er_fees er_heavy er_light er_over po_foot po_feet po_lines po_words po_sizes po_kinds po_spelled po_scheme) H → va_D A (WX1_hear K er_a erA_lastAt erA_fees erA_heavy erA_light erA_over po_a poA_sizes poA_kinds poA_spelled poA_scheme o_er_words o_er_syllables o_er_strong o_er_either o_er_joins o_er_singles er_options er_least er_ways o_er_lastAt er_fees er_heavy er_light er_over po_foot po_feet po_lines po_words po_sizes po_kinds po_spelled po_scheme) → va_S A s.heap H locs → W p l e rmX1_hear s m args below meth c H locs 0 0 Q (F0 m pc ls [])) (k52 : Int32 → Int32 → Int32 → Int32 → Int32 → Int32 → (Nat → Int32) → Int32 → Int32 → Option ((Int32) × (Int32) × (Int32) × (Int32) × (Int32) × (Int32) × (Nat → Int32))) (hk52 : ∀ (er_words : Int32) (er_syllables : Int32) (er_strong : Int32) (er_either : Int32) (er_joins : Int32) (er_singles : Int32) (er_lastAt : Nat → Int32) (x3 : Int32) (x4 : Int32), k52 er_words er_syllables er_strong er_either er_joins er_singles er_lastAt x3 x4 = some (o_er_words, o_er_syllables, o_er_strong, o_er_either, o_er_joins, o_er_singles, o_er_lastAt) → ∀ (H : Heap) (locs : List Loc) (ls : Array Slot), va_P G vwCl (WX1_hear K er_a erA_lastAt erA_fees erA_heavy erA_light erA_over po_a poA_sizes poA_kinds poA_spelled poA_scheme er_words er_syllables er_strong er_either er_joins er_singles er_options er_least er_ways er_lastAt er_fees er_heavy er_light er_over po_foot po_feet po_lines po_words po_sizes po_kinds po_spelled po_scheme) H → va_D A (WX1_hear K er_a erA_lastAt erA_fees erA_heavy erA_light erA_over po_a poA_sizes poA_kinds poA_spelled poA_scheme er_words er_syllables er_strong er_either er_joins er_singles er_options er_least er_ways er_lastAt er_fees er_heavy er_light er_over po_foot po_feet po_lines po_words po_sizes po_kinds po_spelled po_scheme) → va_S A s.heap H locs → lv_has ls 6 [(0, .ref er_a), (1, .ref po_a), (3, .int x3), (4, .int x4)] → W p l e rmX1_hear s m args below meth c H locs 0 0 Q (F0 m 52 ls [])) (er_words : Int32) (er_syllables : Int32) (er_strong : Int32) (er_either : Int32) (er_joins : Int32) (er_singles : Int32) (er_lastAt : Nat → Int32) (x3 : Int32) (x4 : Int32) (x5 : Int32) (hM : mX1_hear_b147 L ln sy sn lt po_sizes po_kinds po_spelled p2 k52 er_words er_syllables er_strong er_either er_joins er_singles er_lastAt x3 x4 x5 = some (o_er_words, o_er_syllables, o_er_strong, o_er_either, o_er_joins, o_er_singles, o_er_lastAt)) : ∀ (H : Heap) (locs : List Loc) (ls : Array Slot), va_P G vwCl (WX1_hear K er_a erA_lastAt erA_fees erA_heavy erA_light erA_over po_a poA_sizes poA_kinds poA_spelled poA_scheme er_words er_syllables er_strong er_either er_joins er_singles er_options er_least er_ways er_lastAt er_fees er_heavy er_light er_over po_foot po_feet po_lines po_words po_sizes po_kinds po_spelled po_scheme) H → va_D A (WX1_hear K er_a erA_lastAt erA_fees erA_heavy erA_light erA_over po_a poA_sizes poA_kinds poA_spelled poA_scheme er_words er_syllables er_strong er_either er_joins er_singles er_options er_least er_ways er_lastAt er_fees er_heavy er_light er_over po_foot po_feet po_lines po_words po_sizes po_kinds po_spelled po_scheme) → va_S A s.heap H locs → lv_has ls 6 [(0, .ref er_a), (1, .ref po_a), (3, .int x3), (4, .int x4), (5, .int x5)] → W p l e rmX1_hear s m args below meth c H locs 0 0 Q (F0 m 147 ls []) := by
  obtain ⟨hx, hb, hml, hown, hts, hK, hA, hEo, hE⟩ := id C0
  intro H locs ls hP hD hS hl
  unfold mX1_hear_b147 at hM
  refine lv_aload_n hx hb dX1_hear_147 rfl (lv_at hl 0 rfl) ?_
  refine lv_dup hx hb dX1_hear_148 rfl ?_
  refine va_get (D := G) (ci := 1) (v := .int er_syllables) (C := RX1) (T := TX1) (N := 14) hx hb hts inX1 hown hK hP 0 rfl rfl 1 (by decide) (hts _ tb61) (fun _ h9 => h9) rfl dX1_hear_149 ?_
  refine lv_iload hx hb dX1_hear_152 (lv_at hl 4 rfl) ?_
  refine lv_iadd hx hb dX1_hear_154 ?_
  refine va_put (D := G) (ci := 1) (v := .int (er_syllables + x5)) (ty := .int) (C := RX1) (T := TX1) (N := 14) hx hb hts inX1 tyX1 tyX1_ok nmX1 hown hK hP hD hS 0 rfl rfl 1 (by decide) (hts _ tb61) (fun _ h9 => h9) rfl (tyX1_ok 1 (by decide)) rfl rfl (Nat.le_of_ble_eq_true rfl) dX1_hear_155 (fun H locs hP hD hS => ?_)
  have hP : va_P G vwCl (WX1_hear K er_a erA_lastAt erA_fees erA_heavy erA_light erA_over po_a poA_sizes poA_kinds poA_spelled poA_scheme er_words (er_syllables + x5) er_strong er_either er_joins er_singles er_options er_least er_ways er_lastAt er_fees er_heavy er_light er_over po_foot po_feet po_lines po_words po_sizes po_kinds po_spelled po_scheme) H := hP
  have hD : va_D A (WX1_hear K er_a erA_lastAt erA_fees erA_heavy erA_light erA_over po_a poA_sizes poA_kinds poA_spelled poA_scheme er_words (er_syllables + x5) er_strong er_either er_joins er_singles er_options er_least er_ways er_lastAt er_fees er_heavy er_light er_over po_foot po_feet po_lines po_words po_sizes po_kinds po_spelled po_scheme) := hD
  refine lv_aload_n hx hb dX1_hear_158 rfl (lv_at hl 0 rfl) ?_
  refine va_get (D := G) (ci := 1) (v := .ref erA_lastAt) (C := RX1) (T := TX1) (N := 14) hx hb hts inX1 hown hK hP 0 rfl rfl 6 (by decide) (hts _ tb68) (fun _ h9 => h9) rfl dX1_hear_159 ?_
  refine lv_iload hx hb dX1_hear_162 (lv_at hl 3 rfl) ?_
  refine lv_aload_n hx hb dX1_hear_164 rfl (lv_at hl 0 rfl) ?_
  refine va_get (D := G) (ci := 1) (v := .int (er_syllables + x5)) (C := RX1) (T := TX1) (N := 14) hx hb hts inX1 hown hK hP 0 rfl rfl 1 (by decide) (hts _ tb61) (fun _ h9 => h9) rfl dX1_hear_165 ?_
  refine lv_iconst (v := 1) hx hb dX1_hear_168 (by decide) ?_
  refine lv_isub hx hb dX1_hear_169 ?_
  obtain ⟨g_1, hM⟩ := ng hM
  refine va_iast hx hb hK hP hD hS 1 0 rfl rfl g_1 dX1_hear_170 (fun H locs hP hD hS => ?_)
  have hP : va_P G vwCl (WX1_hear K er_a erA_lastAt erA_fees erA_heavy erA_light erA_over po_a poA_sizes poA_kinds poA_spelled poA_scheme er_words (er_syllables + x5) er_strong er_either er_joins er_singles er_options er_least er_ways (upd er_lastAt x4.toNatClampNeg ((er_syllables + x5) - (1 : Int32))) er_fees er_heavy er_light er_over po_foot po_feet po_lines po_words po_sizes po_kinds po_spelled po_scheme) H := hP
  have hD : va_D A (WX1_hear K er_a erA_lastAt erA_fees erA_heavy erA_light erA_over po_a poA_sizes poA_kinds poA_spelled poA_scheme er_words (er_syllables + x5) er_strong er_either er_joins er_singles er_options er_least er_ways (upd er_lastAt x4.toNatClampNeg ((er_syllables + x5) - (1 : Int32))) er_fees er_heavy er_light er_over po_foot po_feet po_lines po_words po_sizes po_kinds po_spelled po_scheme) := hD
  refine lv_iinc (v := (x4 + 1)) (lv' := [(4, .int (x4 + 1)), (0, .ref er_a), (1, .ref po_a), (3, .int x3), (5, .int x5)]) hx hb dX1_hear_171 hl (k := 3) rfl rfl (by decide) rfl (fun ls hl => ?_)
  refine lv_goto (tgt := 52) hx hb dX1_hear_174 (by decide) ?_
  exact hk52 er_words (er_syllables + x5) er_strong er_either er_joins er_singles (upd er_lastAt x4.toNatClampNeg ((er_syllables + x5) - (1 : Int32))) x3 (x4 + 1) hM _ _ _ hP hD hS (lv_sub hl [1, 2, 3, 0] rfl)
set_option maxHeartbeats 4000000 in
set_option maxRecDepth 100000 in
theorem wX1_hear_b52 {p : Program} {l : Launch} {e : Env} {s : State} {m : MethodId} {args : Array Value} {below : List Frame} {meth : Method} {c : Code} {Q : State → Prop} {G : va_G} {K : Nat → ClassId} {A : Nat → Prop} {tt : Nat → Nat} {L : List Nat} {la : Nat → Nat} {sa : Nat → Nat} {ln : Nat → Int32} {sy : Nat → Int32} {sn : Nat → Int32} {lt : Nat → Nat → Int32} {st : Nat → Nat → Int32} (C0 : CX p s m args c cX1_hear 6 RX1 G K (EC G K tt L la sa ln sy sn lt st) A) (er_a erA_lastAt erA_fees erA_heavy erA_light erA_over po_a poA_sizes poA_kinds poA_spelled poA_scheme : Nat) (er_options : Int32) (er_least : Int32) (er_ways : Int32) (er_fees : Nat → Int32) (er_heavy : Nat → Int32) (er_light : Nat → Int32) (er_over : Nat → Int32) (po_foot : Int32) (po_feet : Int32) (po_lines : Int32) (po_words : Int32) (po_sizes : Nat → Int32) (po_kinds : Nat → Int32) (po_spelled : Nat → Nat) (po_scheme : Nat → Int32) (p2 : Int32) (o_er_words : Int32) (o_er_syllables : Int32) (o_er_strong : Int32) (o_er_either : Int32) (o_er_joins : Int32) (o_er_singles : Int32) (o_er_lastAt : Nat → Int32) (kr : ∀ (H : Heap) (locs : List Loc) (ls : Array Slot) (pc : Nat), decode cX1_hear pc = .ok (.return_, 1) → va_P G vwCl (WX1_hear K er_a erA_lastAt erA_fees erA_heavy erA_light erA_over po_a poA_sizes poA_kinds poA_spelled poA_scheme o_er_words o_er_syllables o_er_strong o_er_either o_er_joins o_er_singles er_options er_least er_ways o_er_lastAt er_fees er_heavy er_light er_over po_foot po_feet po_lines po_words po_sizes po_kinds po_spelled po_scheme) H → va_D A (WX1_hear K er_a erA_lastAt erA_fees erA_heavy erA_light erA_over po_a poA_sizes poA_kinds poA_spelled poA_scheme o_er_words o_er_syllables o_er_strong o_er_either o_er_joins o_er_singles er_options er_least er_ways o_er_lastAt er_fees er_heavy er_light er_over po_foot po_feet po_lines po_words po_sizes po_kinds po_spelled po_scheme) → va_S A s.heap H locs → W p l e rmX1_hear s m args below meth c H locs 0 0 Q (F0 m pc ls [])) (n : Nat) : ∀ (er_words : Int32) (er_syllables : Int32) (er_strong : Int32) (er_either : Int32) (er_joins : Int32) (er_singles : Int32) (er_lastAt : Nat → Int32) (x3 : Int32) (x4 : Int32), mX1_hear_b52 L ln sy sn lt po_sizes po_kinds po_spelled p2  n er_words er_syllables er_strong er_either er_joins er_singles er_lastAt x3 x4 = some (o_er_words, o_er_syllables, o_er_strong, o_er_either, o_er_joins, o_er_singles, o_er_lastAt) → ∀ (H : Heap) (locs : List Loc) (ls : Array Slot), va_P G vwCl (WX1_hear K er_a erA_lastAt erA_fees erA_heavy erA_light erA_over po_a poA_sizes poA_kinds poA_spelled poA_scheme er_words er_syllables er_strong er_either er_joins er_singles er_options er_least er_ways er_lastAt er_fees er_heavy er_light er_over po_foot po_feet po_lines po_words po_sizes po_kinds po_spelled po_scheme) H → va_D A (WX1_hear K er_a erA_lastAt erA_fees erA_heavy erA_light erA_over po_a poA_sizes poA_kinds poA_spelled poA_scheme er_words er_syllables er_strong er_either er_joins er_singles er_options er_least er_ways er_lastAt er_fees er_heavy er_light er_over po_foot po_feet po_lines po_words po_sizes po_kinds po_spelled po_scheme) → va_S A s.heap H locs → lv_has ls 6 [(0, .ref er_a), (1, .ref po_a), (3, .int x3), (4, .int x4)] → W p l e rmX1_hear s m args below meth c H locs 0 0 Q (F0 m 52 ls []) := by
  obtain ⟨hx, hb, hml, hown, hts, hK, hA, hEo, hE⟩ := id C0
  induction n with
  | zero =>
    intro er_words er_syllables er_strong er_either er_joins er_singles er_lastAt x3 x4 hM
    cases hM
  | succ n ih =>
    intro er_words er_syllables er_strong er_either er_joins er_singles er_lastAt x3 x4 hM H locs ls hP hD hS hl
    rw [mX1_hear_b52] at hM
    refine lv_iload hx hb dX1_hear_52 (lv_at hl 3 rfl) ?_
    refine lv_aload_n hx hb dX1_hear_54 rfl (lv_at hl 0 rfl) ?_
    refine va_get (D := G) (ci := 1) (v := .int er_words) (C := RX1) (T := TX1) (N := 14) hx hb hts inX1 hown hK hP 0 rfl rfl 0 (by decide) (hts _ tb60) (fun _ h9 => h9) rfl dX1_hear_55 ?_
    refine lv_icmp_ge (tgt := 177) hx hb dX1_hear_58 (by decide) (fun c_2 => ?_) (fun c_2 => ?_)
    · rw [if_pos c_2] at hM
      have t0 := Option.some.inj hM
      obtain ⟨q1, t1⟩ := Prod.mk.inj t0
      obtain ⟨q2, t2⟩ := Prod.mk.inj t1
      obtain ⟨q3, t3⟩ := Prod.mk.inj t2
      obtain ⟨q4, t4⟩ := Prod.mk.inj t3
      obtain ⟨q5, t5⟩ := Prod.mk.inj t4
      obtain ⟨q6, t6⟩ := Prod.mk.inj t5
      subst q1
      subst q2
      subst q3
      subst q4
      subst q5
      subst q6
      subst t6
      exact kr _ _ _ _ dX1_hear_177 hP hD hS
    · rw [if_neg c_2] at hM
      refine lv_iload_n hx hb dX1_hear_61 rfl (lv_at hl 2 rfl) ?_
      refine lv_iload hx hb dX1_hear_62 (lv_at hl 3 rfl) ?_
      refine lv_iadd hx hb dX1_hear_64 ?_
      refine lv_bipush (v := 20) hx hb dX1_hear_65 (by decide) ?_
      refine lv_icmp_ge (tgt := 177) hx hb dX1_hear_67 (by decide) (fun c_3 => ?_) (fun c_3 => ?_)
      · rw [if_pos c_3] at hM
        have t0 := Option.some.inj hM
        obtain ⟨q1, t1⟩ := Prod.mk.inj t0
        obtain ⟨q2, t2⟩ := Prod.mk.inj t1
        obtain ⟨q3, t3⟩ := Prod.mk.inj t2
        obtain ⟨q4, t4⟩ := Prod.mk.inj t3
        obtain ⟨q5, t5⟩ := Prod.mk.inj t4
        obtain ⟨q6, t6⟩ := Prod.mk.inj t5
        subst q1
        subst q2
        subst q3
        subst q4
        subst q5
        subst q6
        subst t6
        exact kr _ _ _ _ dX1_hear_177 hP hD hS
      · rw [if_neg c_3] at hM
        refine lv_aload_n hx hb dX1_hear_70 rfl (lv_at hl 1 rfl) ?_
        refine va_get (D := G) (ci := 2) (v := .ref poA_spelled) (C := RX2) (T := TX2) (N := 8) hx hb hts inX2 hown hK hP 6 rfl rfl 6 (by decide) (hts _ tb194) (fun _ h9 => h9) rfl dX1_hear_71 ?_
        refine lv_iload_n hx hb dX1_hear_74 rfl (lv_at hl 2 rfl) ?_
        refine lv_iload hx hb dX1_hear_75 (lv_at hl 3 rfl) ?_
        refine lv_iadd hx hb dX1_hear_77 ?_
        obtain ⟨g_4, hM⟩ := ng hM
        refine va_aldq hx hb hK hP 9 2 rfl rfl g_4 dX1_hear_78 ?_
        show W p l e rmX1_hear s m args below meth c H locs 0 0 Q (F0 m 79 ls [.ref (po_spelled (x3 + x4).toNatClampNeg)])
        obtain ⟨g_5, hM⟩ := ng hM
        refine va_get (D := G) (ci := 5) (v := .int (sy (po_spelled (x3 + x4).toNatClampNeg))) (C := RX5) (T := TX5) (N := 5) hx hb hts inX5 hown hK (sp_at hE hS (Decidable.not_not.mp g_5)) 0 rfl rfl 2 (by decide) (hts _ tb130) (fun _ h9 => h9) rfl dX1_hear_79 ?_
        refine lv_istore (lv' := [(5, .int (sy (po_spelled (x3 + x4).toNatClampNeg))), (0, .ref er_a), (1, .ref po_a), (3, .int x3), (4, .int x4)]) hx hb dX1_hear_82 hl (by decide) rfl (fun ls hl => ?_)
        refine lv_aload_n hx hb dX1_hear_84 rfl (lv_at hl 1 rfl) ?_
        refine lv_dup hx hb dX1_hear_85 rfl ?_
        refine va_get (D := G) (ci := 1) (v := .int er_strong) (C := RX1) (T := TX1) (N := 14) hx hb hts inX1 hown hK hP 0 rfl rfl 2 (by decide) (hts _ tb62) (fun _ h9 => h9) rfl dX1_hear_86 ?_
        refine lv_aload_n hx hb dX1_hear_89 rfl (lv_at hl 2 rfl) ?_
        refine lv_iload_n hx hb dX1_hear_90 rfl (lv_at hl 3 rfl) ?_
        refine lv_iload hx hb dX1_hear_91 (lv_at hl 4 rfl) ?_
        refine lv_iadd hx hb dX1_hear_93 ?_
        obtain ⟨r_6, hC, hM⟩ := oe1 hM
        refine cV_i (As := [.int (x3 + x4)]) (rest := [.int er_strong, .ref er_a]) C0 hP hD hS [6, 7, 8, 9, 10] (kX2_strongOnes l G K tt L la sa ln sy sn lt st po_a poA_sizes poA_kinds poA_spelled poA_scheme po_foot po_feet po_lines po_words po_sizes po_kinds po_spelled po_scheme (x3 + x4) H.size r_6 hC) rfl rfl rfl tb562 tb491 tb492 tb7 tb493 hdX2_strongOnes (va_recv hK hP (ci := 2) (q0 := 6) rfl rfl) ⟨Nat.le_of_ble_eq_true rfl, Nat.le_of_ble_eq_true rfl⟩ rfl hl.1 (Nat.le_of_ble_eq_true rfl) rfl ⟨Nat.le_refl _, Nat.le_refl _⟩ dX1_hear_94 (fun H locs hP hD hS => ?_)
        have hP : va_P G vwCl (WX1_hear K er_a erA_lastAt erA_fees erA_heavy erA_light erA_over po_a poA_sizes poA_kinds poA_spelled poA_scheme er_words er_syllables er_strong er_either er_joins er_singles er_options er_least er_ways er_lastAt er_fees er_heavy er_light er_over po_foot po_feet po_lines po_words po_sizes po_kinds po_spelled po_scheme) H := hP
        have hD : va_D A (WX1_hear K er_a erA_lastAt erA_fees erA_heavy erA_light erA_over po_a poA_sizes poA_kinds poA_spelled poA_scheme er_words er_syllables er_strong er_either er_joins er_singles er_options er_least er_ways er_lastAt er_fees er_heavy er_light er_over po_foot po_feet po_lines po_words po_sizes po_kinds po_spelled po_scheme) := hD
        refine lv_aload_n hx hb dX1_hear_97 rfl (lv_at hl 1 rfl) ?_
        refine va_get (D := G) (ci := 1) (v := .int er_syllables) (C := RX1) (T := TX1) (N := 14) hx hb hts inX1 hown hK hP 0 rfl rfl 1 (by decide) (hts _ tb61) (fun _ h9 => h9) rfl dX1_hear_98 ?_
        refine lv_ishl hx hb dX1_hear_101 ?_
        refine lv_ior hx hb dX1_hear_102 ?_
        refine va_put (D := G) (ci := 1) (v := .int (er_strong ||| (r_6 <<< (er_syllables &&& 31)))) (ty := .int) (C := RX1) (T := TX1) (N := 14) hx hb hts inX1 tyX1 tyX1_ok nmX1 hown hK hP hD hS 0 rfl rfl 2 (by decide) (hts _ tb62) (fun _ h9 => h9) rfl (tyX1_ok 2 (by decide)) rfl rfl (Nat.le_of_ble_eq_true rfl) dX1_hear_103 (fun H locs hP hD hS => ?_)
        have hP : va_P G vwCl (WX1_hear K er_a erA_lastAt erA_fees erA_heavy erA_light erA_over po_a poA_sizes poA_kinds poA_spelled poA_scheme er_words er_syllables (er_strong ||| (r_6 <<< (er_syllables &&& 31))) er_either er_joins er_singles er_options er_least er_ways er_lastAt er_fees er_heavy er_light er_over po_foot po_feet po_lines po_words po_sizes po_kinds po_spelled po_scheme) H := hP
        have hD : va_D A (WX1_hear K er_a erA_lastAt erA_fees erA_heavy erA_light erA_over po_a poA_sizes poA_kinds poA_spelled poA_scheme er_words er_syllables (er_strong ||| (r_6 <<< (er_syllables &&& 31))) er_either er_joins er_singles er_options er_least er_ways er_lastAt er_fees er_heavy er_light er_over po_foot po_feet po_lines po_words po_sizes po_kinds po_spelled po_scheme) := hD
        refine lv_aload_n hx hb dX1_hear_106 rfl (lv_at hl 1 rfl) ?_
        refine lv_dup hx hb dX1_hear_107 rfl ?_
        refine va_get (D := G) (ci := 1) (v := .int er_either) (C := RX1) (T := TX1) (N := 14) hx hb hts inX1 hown hK hP 0 rfl rfl 3 (by decide) (hts _ tb64) (fun _ h9 => h9) rfl dX1_hear_108 ?_
        refine lv_aload_n hx hb dX1_hear_111 rfl (lv_at hl 2 rfl) ?_
        refine lv_iload_n hx hb dX1_hear_112 rfl (lv_at hl 3 rfl) ?_
        refine lv_iload hx hb dX1_hear_113 (lv_at hl 4 rfl) ?_
        refine lv_iadd hx hb dX1_hear_115 ?_
        obtain ⟨r_7, hC, hM⟩ := oe1 hM
        refine cV_i (As := [.int (x3 + x4)]) (rest := [.int er_either, .ref er_a]) C0 hP hD hS [6, 7, 8, 9, 10] (kX2_eitherOnes l G K tt L la sa ln sy sn lt st po_a poA_sizes poA_kinds poA_spelled poA_scheme po_foot po_feet po_lines po_words po_sizes po_kinds po_spelled po_scheme (x3 + x4) H.size r_7 hC) rfl rfl rfl tb563 tb496 tb497 tb7 tb498 hdX2_eitherOnes (va_recv hK hP (ci := 2) (q0 := 6) rfl rfl) ⟨Nat.le_of_ble_eq_true rfl, Nat.le_of_ble_eq_true rfl⟩ rfl hl.1 (Nat.le_of_ble_eq_true rfl) rfl ⟨Nat.le_refl _, Nat.le_refl _⟩ dX1_hear_116 (fun H locs hP hD hS => ?_)
        have hP : va_P G vwCl (WX1_hear K er_a erA_lastAt erA_fees erA_heavy erA_light erA_over po_a poA_sizes poA_kinds poA_spelled poA_scheme er_words er_syllables (er_strong ||| (r_6 <<< (er_syllables &&& 31))) er_either er_joins er_singles er_options er_least er_ways er_lastAt er_fees er_heavy er_light er_over po_foot po_feet po_lines po_words po_sizes po_kinds po_spelled po_scheme) H := hP
        have hD : va_D A (WX1_hear K er_a erA_lastAt erA_fees erA_heavy erA_light erA_over po_a poA_sizes poA_kinds poA_spelled poA_scheme er_words er_syllables (er_strong ||| (r_6 <<< (er_syllables &&& 31))) er_either er_joins er_singles er_options er_least er_ways er_lastAt er_fees er_heavy er_light er_over po_foot po_feet po_lines po_words po_sizes po_kinds po_spelled po_scheme) := hD
        refine lv_aload_n hx hb dX1_hear_119 rfl (lv_at hl 1 rfl) ?_
        refine va_get (D := G) (ci := 1) (v := .int er_syllables) (C := RX1) (T := TX1) (N := 14) hx hb hts inX1 hown hK hP 0 rfl rfl 1 (by decide) (hts _ tb61) (fun _ h9 => h9) rfl dX1_hear_120 ?_
        refine lv_ishl hx hb dX1_hear_123 ?_
        refine lv_ior hx hb dX1_hear_124 ?_
        refine va_put (D := G) (ci := 1) (v := .int (er_either ||| (r_7 <<< (er_syllables &&& 31)))) (ty := .int) (C := RX1) (T := TX1) (N := 14) hx hb hts inX1 tyX1 tyX1_ok nmX1 hown hK hP hD hS 0 rfl rfl 3 (by decide) (hts _ tb64) (fun _ h9 => h9) rfl (tyX1_ok 3 (by decide)) rfl rfl (Nat.le_of_ble_eq_true rfl) dX1_hear_125 (fun H locs hP hD hS => ?_)
        have hP : va_P G vwCl (WX1_hear K er_a erA_lastAt erA_fees erA_heavy erA_light erA_over po_a poA_sizes poA_kinds poA_spelled poA_scheme er_words er_syllables (er_strong ||| (r_6 <<< (er_syllables &&& 31))) (er_either ||| (r_7 <<< (er_syllables &&& 31))) er_joins er_singles er_options er_least er_ways er_lastAt er_fees er_heavy er_light er_over po_foot po_feet po_lines po_words po_sizes po_kinds po_spelled po_scheme) H := hP
        have hD : va_D A (WX1_hear K er_a erA_lastAt erA_fees erA_heavy erA_light erA_over po_a poA_sizes poA_kinds poA_spelled poA_scheme er_words er_syllables (er_strong ||| (r_6 <<< (er_syllables &&& 31))) (er_either ||| (r_7 <<< (er_syllables &&& 31))) er_joins er_singles er_options er_least er_ways er_lastAt er_fees er_heavy er_light er_over po_foot po_feet po_lines po_words po_sizes po_kinds po_spelled po_scheme) := hD
        refine lv_iload hx hb dX1_hear_128 (lv_at hl 0 rfl) ?_
        refine lv_iconst (v := 1) hx hb dX1_hear_130 (by decide) ?_
        refine lv_icmp_ne (tgt := 147) hx hb dX1_hear_131 (by decide) (fun c_8 => ?_) (fun c_8 => ?_)
        · rw [if_neg c_8] at hM
          exact wX1_hear_b147 C0 er_a erA_lastAt erA_fees erA_heavy erA_light erA_over po_a poA_sizes poA_kinds poA_spelled poA_scheme er_options er_least er_ways er_fees er_heavy er_light er_over po_foot po_feet po_lines po_words po_sizes po_kinds po_spelled po_scheme p2 o_er_words o_er_syllables o_er_strong o_er_either o_er_joins o_er_singles o_er_lastAt kr (mX1_hear_b52 L ln sy sn lt po_sizes po_kinds po_spelled p2  n) ih er_words er_syllables (er_strong ||| (r_6 <<< (er_syllables &&& 31))) (er_either ||| (r_7 <<< (er_syllables &&& 31))) er_joins er_singles er_lastAt x3 x4 (sy (po_spelled (x3 + x4).toNatClampNeg)) hM _ _ _ hP hD hS (lv_sub hl [1, 2, 3, 4, 0] rfl)
        · rw [if_pos c_8] at hM
          refine lv_aload_n hx hb dX1_hear_134 rfl (lv_at hl 1 rfl) ?_
          refine lv_dup hx hb dX1_hear_135 rfl ?_
          refine va_get (D := G) (ci := 1) (v := .int er_singles) (C := RX1) (T := TX1) (N := 14) hx hb hts inX1 hown hK hP 0 rfl rfl 5 (by decide) (hts _ tb67) (fun _ h9 => h9) rfl dX1_hear_136 ?_
          refine lv_iconst (v := 1) hx hb dX1_hear_139 (by decide) ?_
          refine lv_iload hx hb dX1_hear_140 (lv_at hl 4 rfl) ?_
          refine lv_ishl hx hb dX1_hear_142 ?_
          refine lv_ior hx hb dX1_hear_143 ?_
          refine va_put (D := G) (ci := 1) (v := .int (er_singles ||| ((1 : Int32) <<< (x4 &&& 31)))) (ty := .int) (C := RX1) (T := TX1) (N := 14) hx hb hts inX1 tyX1 tyX1_ok nmX1 hown hK hP hD hS 0 rfl rfl 5 (by decide) (hts _ tb67) (fun _ h9 => h9) rfl (tyX1_ok 5 (by decide)) rfl rfl (Nat.le_of_ble_eq_true rfl) dX1_hear_144 (fun H locs hP hD hS => ?_)
          have hP : va_P G vwCl (WX1_hear K er_a erA_lastAt erA_fees erA_heavy erA_light erA_over po_a poA_sizes poA_kinds poA_spelled poA_scheme er_words er_syllables (er_strong ||| (r_6 <<< (er_syllables &&& 31))) (er_either ||| (r_7 <<< (er_syllables &&& 31))) er_joins (er_singles ||| ((1 : Int32) <<< (x4 &&& 31))) er_options er_least er_ways er_lastAt er_fees er_heavy er_light er_over po_foot po_feet po_lines po_words po_sizes po_kinds po_spelled po_scheme) H := hP
          have hD : va_D A (WX1_hear K er_a erA_lastAt erA_fees erA_heavy erA_light erA_over po_a poA_sizes poA_kinds poA_spelled poA_scheme er_words er_syllables (er_strong ||| (r_6 <<< (er_syllables &&& 31))) (er_either ||| (r_7 <<< (er_syllables &&& 31))) er_joins (er_singles ||| ((1 : Int32) <<< (x4 &&& 31))) er_options er_least er_ways er_lastAt er_fees er_heavy er_light er_over po_foot po_feet po_lines po_words po_sizes po_kinds po_spelled po_scheme) := hD
          exact wX1_hear_b147 C0 er_a erA_lastAt erA_fees erA_heavy erA_light erA_over po_a poA_sizes poA_kinds poA_spelled poA_scheme er_options er_least er_ways er_fees er_heavy er_light er_over po_foot po_feet po_lines po_words po_sizes po_kinds po_spelled po_scheme p2 o_er_words o_er_syllables o_er_strong o_er_either o_er_joins o_er_singles o_er_lastAt kr (mX1_hear_b52 L ln sy sn lt po_sizes po_kinds po_spelled p2  n) ih er_words er_syllables (er_strong ||| (r_6 <<< (er_syllables &&& 31))) (er_either ||| (r_7 <<< (er_syllables &&& 31))) er_joins (er_singles ||| ((1 : Int32) <<< (x4 &&& 31))) er_lastAt x3 x4 (sy (po_spelled (x3 + x4).toNatClampNeg)) hM _ _ _ hP hD hS (lv_sub hl [1, 2, 3, 4, 0] rfl)
set_option maxHeartbeats 4000000 in
set_option maxRecDepth 100000 in
theorem wX1_hear_b0 {p : Program} {l : Launch} {e : Env} {s : State} {m : MethodId} {args : Array Value} {below : List Frame} {meth : Method} {c : Code} {Q : State → Prop} {G : va_G} {K : Nat → ClassId} {A : Nat → Prop} {tt : Nat → Nat} {L : List Nat} {la : Nat → Nat} {sa : Nat → Nat} {ln : Nat → Int32} {sy : Nat → Int32} {sn : Nat → Int32} {lt : Nat → Nat → Int32} {st : Nat → Nat → Int32} (C0 : CX p s m args c cX1_hear 6 RX1 G K (EC G K tt L la sa ln sy sn lt st) A) (er_a erA_lastAt erA_fees erA_heavy erA_light erA_over po_a poA_sizes poA_kinds poA_spelled poA_scheme : Nat) (er_options : Int32) (er_least : Int32) (er_ways : Int32) (er_fees : Nat → Int32) (er_heavy : Nat → Int32) (er_light : Nat → Int32) (er_over : Nat → Int32) (po_foot : Int32) (po_feet : Int32) (po_lines : Int32) (po_words : Int32) (po_sizes : Nat → Int32) (po_kinds : Nat → Int32) (po_spelled : Nat → Nat) (po_scheme : Nat → Int32) (p2 : Int32) (o_er_words : Int32) (o_er_syllables : Int32) (o_er_strong : Int32) (o_er_either : Int32) (o_er_joins : Int32) (o_er_singles : Int32) (o_er_lastAt : Nat → Int32) (kr : ∀ (H : Heap) (locs : List Loc) (ls : Array Slot) (pc : Nat), decode cX1_hear pc = .ok (.return_, 1) → va_P G vwCl (WX1_hear K er_a erA_lastAt erA_fees erA_heavy erA_light erA_over po_a poA_sizes poA_kinds poA_spelled poA_scheme o_er_words o_er_syllables o_er_strong o_er_either o_er_joins o_er_singles er_options er_least er_ways o_er_lastAt er_fees er_heavy er_light er_over po_foot po_feet po_lines po_words po_sizes po_kinds po_spelled po_scheme) H → va_D A (WX1_hear K er_a erA_lastAt erA_fees erA_heavy erA_light erA_over po_a poA_sizes poA_kinds poA_spelled poA_scheme o_er_words o_er_syllables o_er_strong o_er_either o_er_joins o_er_singles er_options er_least er_ways o_er_lastAt er_fees er_heavy er_light er_over po_foot po_feet po_lines po_words po_sizes po_kinds po_spelled po_scheme) → va_S A s.heap H locs → W p l e rmX1_hear s m args below meth c H locs 0 0 Q (F0 m pc ls [])) (er_words : Int32) (er_syllables : Int32) (er_strong : Int32) (er_either : Int32) (er_joins : Int32) (er_singles : Int32) (er_lastAt : Nat → Int32) (hM : mX1_hear_b0 L ln sy sn lt po_sizes po_kinds po_spelled p2  er_words er_syllables er_strong er_either er_joins er_singles er_lastAt = some (o_er_words, o_er_syllables, o_er_strong, o_er_either, o_er_joins, o_er_singles, o_er_lastAt)) : ∀ (H : Heap) (locs : List Loc) (ls : Array Slot), va_P G vwCl (WX1_hear K er_a erA_lastAt erA_fees erA_heavy erA_light erA_over po_a poA_sizes poA_kinds poA_spelled poA_scheme er_words er_syllables er_strong er_either er_joins er_singles er_options er_least er_ways er_lastAt er_fees er_heavy er_light er_over po_foot po_feet po_lines po_words po_sizes po_kinds po_spelled po_scheme) H → va_D A (WX1_hear K er_a erA_lastAt erA_fees erA_heavy erA_light erA_over po_a poA_sizes poA_kinds poA_spelled poA_scheme er_words er_syllables er_strong er_either er_joins er_singles er_options er_least er_ways er_lastAt er_fees er_heavy er_light er_over po_foot po_feet po_lines po_words po_sizes po_kinds po_spelled po_scheme) → va_S A s.heap H locs → lv_has ls 6 [(0, .ref er_a), (1, .ref po_a), (2, .int p2)] → W p l e rmX1_hear s m args below meth c H locs 0 0 Q (F0 m 0 ls []) := by
  obtain ⟨hx, hb, hml, hown, hts, hK, hA, hEo, hE⟩ := id C0
  intro H locs ls hP hD hS hl
  unfold mX1_hear_b0 at hM
  refine lv_aload_n hx hb dX1_hear_0 rfl (lv_at hl 1 rfl) ?_
  refine lv_iload_n hx hb dX1_hear_1 rfl (lv_at hl 2 rfl) ?_
  obtain ⟨r_9, hC, hM⟩ := oe1 hM
  refine cV_i (As := [.int p2]) (rest := []) C0 hP hD hS [6, 7, 8, 9, 10] (kX2_firstOf l G K tt L la sa ln sy sn lt st po_a poA_sizes poA_kinds poA_spelled poA_scheme po_foot po_feet po_lines po_words po_sizes po_kinds po_spelled po_scheme p2 H.size r_9 hC) rfl rfl rfl tb559 tb451 tb452 tb7 tb453 hdX2_firstOf (va_recv hK hP (ci := 2) (q0 := 6) rfl rfl) ⟨Nat.le_of_ble_eq_true rfl, Nat.le_of_ble_eq_true rfl⟩ rfl hl.1 (Nat.le_of_ble_eq_true rfl) rfl ⟨Nat.le_refl _, Nat.le_refl _⟩ dX1_hear_2 (fun H locs hP hD hS => ?_)
  have hP : va_P G vwCl (WX1_hear K er_a erA_lastAt erA_fees erA_heavy erA_light erA_over po_a poA_sizes poA_kinds poA_spelled poA_scheme er_words er_syllables er_strong er_either er_joins er_singles er_options er_least er_ways er_lastAt er_fees er_heavy er_light er_over po_foot po_feet po_lines po_words po_sizes po_kinds po_spelled po_scheme) H := hP
  have hD : va_D A (WX1_hear K er_a erA_lastAt erA_fees erA_heavy erA_light erA_over po_a poA_sizes poA_kinds poA_spelled poA_scheme er_words er_syllables er_strong er_either er_joins er_singles er_options er_least er_ways er_lastAt er_fees er_heavy er_light er_over po_foot po_feet po_lines po_words po_sizes po_kinds po_spelled po_scheme) := hD
  refine lv_istore_n (lv' := [(3, .int r_9), (0, .ref er_a), (1, .ref po_a), (2, .int p2)]) hx hb dX1_hear_5 rfl hl (by decide) rfl (fun ls hl => ?_)
  refine lv_aload_n hx hb dX1_hear_6 rfl (lv_at hl 1 rfl) ?_
  refine lv_aload_n hx hb dX1_hear_7 rfl (lv_at hl 2 rfl) ?_
  refine va_get (D := G) (ci := 2) (v := .ref poA_sizes) (C := RX2) (T := TX2) (N := 8) hx hb hts inX2 hown hK hP 6 rfl rfl 4 (by decide) (hts _ tb188) (fun _ h9 => h9) rfl dX1_hear_8 ?_
  refine lv_iload_n hx hb dX1_hear_11 rfl (lv_at hl 3 rfl) ?_
  obtain ⟨g_10, hM⟩ := ng hM
  refine va_iald hx hb hK hP 7 0 rfl rfl g_10 dX1_hear_12 ?_
  refine lv_iconst (v := 5) hx hb dX1_hear_13 (by decide) ?_
  refine va_mmin hx hb (hml.trans hl.1.symm) hown (hts _ tb560) (hts _ tb114) (hts _ tb5) (hts _ tb115) (Nat.le_of_ble_eq_true rfl) (Nat.le_of_ble_eq_true rfl) (Nat.zero_le _) (Nat.zero_le _) dX1_hear_14 ?_
  refine va_put (D := G) (ci := 1) (v := .int (if (5 : Int32) < (po_sizes p2.toNatClampNeg) then (5 : Int32) else (po_sizes p2.toNatClampNeg))) (ty := .int) (C := RX1) (T := TX1) (N := 14) hx hb hts inX1 tyX1 tyX1_ok nmX1 hown hK hP hD hS 0 rfl rfl 0 (by decide) (hts _ tb60) (fun _ h9 => h9) rfl (tyX1_ok 0 (by decide)) rfl rfl (Nat.le_of_ble_eq_true rfl) dX1_hear_17 (fun H locs hP hD hS => ?_)
  have hP : va_P G vwCl (WX1_hear K er_a erA_lastAt erA_fees erA_heavy erA_light erA_over po_a poA_sizes poA_kinds poA_spelled poA_scheme (if (5 : Int32) < (po_sizes p2.toNatClampNeg) then (5 : Int32) else (po_sizes p2.toNatClampNeg)) er_syllables er_strong er_either er_joins er_singles er_options er_least er_ways er_lastAt er_fees er_heavy er_light er_over po_foot po_feet po_lines po_words po_sizes po_kinds po_spelled po_scheme) H := hP
  have hD : va_D A (WX1_hear K er_a erA_lastAt erA_fees erA_heavy erA_light erA_over po_a poA_sizes poA_kinds poA_spelled poA_scheme (if (5 : Int32) < (po_sizes p2.toNatClampNeg) then (5 : Int32) else (po_sizes p2.toNatClampNeg)) er_syllables er_strong er_either er_joins er_singles er_options er_least er_ways er_lastAt er_fees er_heavy er_light er_over po_foot po_feet po_lines po_words po_sizes po_kinds po_spelled po_scheme) := hD
  refine lv_aload_n hx hb dX1_hear_20 rfl (lv_at hl 1 rfl) ?_
  refine lv_aload_n hx hb dX1_hear_21 rfl (lv_at hl 2 rfl) ?_
  refine lv_iload_n hx hb dX1_hear_22 rfl (lv_at hl 3 rfl) ?_
  obtain ⟨r_11, hC, hM⟩ := oe1 hM
  refine cV_i (As := [.int p2]) (rest := [.ref er_a]) C0 hP hD hS [6, 7, 8, 9, 10] (kX2_joinsOf l G K tt L la sa ln sy sn lt st po_a poA_sizes poA_kinds poA_spelled poA_scheme po_foot po_feet po_lines po_words po_sizes po_kinds po_spelled po_scheme p2 H.size r_11 hC) rfl rfl rfl tb561 tb540 tb541 tb7 tb542 hdX2_joinsOf (va_recv hK hP (ci := 2) (q0 := 6) rfl rfl) ⟨Nat.le_of_ble_eq_true rfl, Nat.le_of_ble_eq_true rfl⟩ rfl hl.1 (Nat.le_of_ble_eq_true rfl) rfl ⟨Nat.le_refl _, Nat.le_refl _⟩ dX1_hear_23 (fun H locs hP hD hS => ?_)
  have hP : va_P G vwCl (WX1_hear K er_a erA_lastAt erA_fees erA_heavy erA_light erA_over po_a poA_sizes poA_kinds poA_spelled poA_scheme (if (5 : Int32) < (po_sizes p2.toNatClampNeg) then (5 : Int32) else (po_sizes p2.toNatClampNeg)) er_syllables er_strong er_either er_joins er_singles er_options er_least er_ways er_lastAt er_fees er_heavy er_light er_over po_foot po_feet po_lines po_words po_sizes po_kinds po_spelled po_scheme) H := hP
  have hD : va_D A (WX1_hear K er_a erA_lastAt erA_fees erA_heavy erA_light erA_over po_a poA_sizes poA_kinds poA_spelled poA_scheme (if (5 : Int32) < (po_sizes p2.toNatClampNeg) then (5 : Int32) else (po_sizes p2.toNatClampNeg)) er_syllables er_strong er_either er_joins er_singles er_options er_least er_ways er_lastAt er_fees er_heavy er_light er_over po_foot po_feet po_lines po_words po_sizes po_kinds po_spelled po_scheme) := hD
  refine va_put (D := G) (ci := 1) (v := .int r_11) (ty := .int) (C := RX1) (T := TX1) (N := 14) hx hb hts inX1 tyX1 tyX1_ok nmX1 hown hK hP hD hS 0 rfl rfl 4 (by decide) (hts _ tb66) (fun _ h9 => h9) rfl (tyX1_ok 4 (by decide)) rfl rfl (Nat.le_of_ble_eq_true rfl) dX1_hear_26 (fun H locs hP hD hS => ?_)
  have hP : va_P G vwCl (WX1_hear K er_a erA_lastAt erA_fees erA_heavy erA_light erA_over po_a poA_sizes poA_kinds poA_spelled poA_scheme (if (5 : Int32) < (po_sizes p2.toNatClampNeg) then (5 : Int32) else (po_sizes p2.toNatClampNeg)) er_syllables er_strong er_either r_11 er_singles er_options er_least er_ways er_lastAt er_fees er_heavy er_light er_over po_foot po_feet po_lines po_words po_sizes po_kinds po_spelled po_scheme) H := hP
  have hD : va_D A (WX1_hear K er_a erA_lastAt erA_fees erA_heavy erA_light erA_over po_a poA_sizes poA_kinds poA_spelled poA_scheme (if (5 : Int32) < (po_sizes p2.toNatClampNeg) then (5 : Int32) else (po_sizes p2.toNatClampNeg)) er_syllables er_strong er_either r_11 er_singles er_options er_least er_ways er_lastAt er_fees er_heavy er_light er_over po_foot po_feet po_lines po_words po_sizes po_kinds po_spelled po_scheme) := hD
  refine lv_aload_n hx hb dX1_hear_29 rfl (lv_at hl 1 rfl) ?_
  refine lv_iconst (v := 0) hx hb dX1_hear_30 (by decide) ?_
  refine va_put (D := G) (ci := 1) (v := .int (0 : Int32)) (ty := .int) (C := RX1) (T := TX1) (N := 14) hx hb hts inX1 tyX1 tyX1_ok nmX1 hown hK hP hD hS 0 rfl rfl 1 (by decide) (hts _ tb61) (fun _ h9 => h9) rfl (tyX1_ok 1 (by decide)) rfl rfl (Nat.le_of_ble_eq_true rfl) dX1_hear_31 (fun H locs hP hD hS => ?_)
  have hP : va_P G vwCl (WX1_hear K er_a erA_lastAt erA_fees erA_heavy erA_light erA_over po_a poA_sizes poA_kinds poA_spelled poA_scheme (if (5 : Int32) < (po_sizes p2.toNatClampNeg) then (5 : Int32) else (po_sizes p2.toNatClampNeg)) (0 : Int32) er_strong er_either r_11 er_singles er_options er_least er_ways er_lastAt er_fees er_heavy er_light er_over po_foot po_feet po_lines po_words po_sizes po_kinds po_spelled po_scheme) H := hP
  have hD : va_D A (WX1_hear K er_a erA_lastAt erA_fees erA_heavy erA_light erA_over po_a poA_sizes poA_kinds poA_spelled poA_scheme (if (5 : Int32) < (po_sizes p2.toNatClampNeg) then (5 : Int32) else (po_sizes p2.toNatClampNeg)) (0 : Int32) er_strong er_either r_11 er_singles er_options er_least er_ways er_lastAt er_fees er_heavy er_light er_over po_foot po_feet po_lines po_words po_sizes po_kinds po_spelled po_scheme) := hD
  refine lv_aload_n hx hb dX1_hear_34 rfl (lv_at hl 1 rfl) ?_
  refine lv_iconst (v := 0) hx hb dX1_hear_35 (by decide) ?_
  refine va_put (D := G) (ci := 1) (v := .int (0 : Int32)) (ty := .int) (C := RX1) (T := TX1) (N := 14) hx hb hts inX1 tyX1 tyX1_ok nmX1 hown hK hP hD hS 0 rfl rfl 2 (by decide) (hts _ tb62) (fun _ h9 => h9) rfl (tyX1_ok 2 (by decide)) rfl rfl (Nat.le_of_ble_eq_true rfl) dX1_hear_36 (fun H locs hP hD hS => ?_)
  have hP : va_P G vwCl (WX1_hear K er_a erA_lastAt erA_fees erA_heavy erA_light erA_over po_a poA_sizes poA_kinds poA_spelled poA_scheme (if (5 : Int32) < (po_sizes p2.toNatClampNeg) then (5 : Int32) else (po_sizes p2.toNatClampNeg)) (0 : Int32) (0 : Int32) er_either r_11 er_singles er_options er_least er_ways er_lastAt er_fees er_heavy er_light er_over po_foot po_feet po_lines po_words po_sizes po_kinds po_spelled po_scheme) H := hP
  have hD : va_D A (WX1_hear K er_a erA_lastAt erA_fees erA_heavy erA_light erA_over po_a poA_sizes poA_kinds poA_spelled poA_scheme (if (5 : Int32) < (po_sizes p2.toNatClampNeg) then (5 : Int32) else (po_sizes p2.toNatClampNeg)) (0 : Int32) (0 : Int32) er_either r_11 er_singles er_options er_least er_ways er_lastAt er_fees er_heavy er_light er_over po_foot po_feet po_lines po_words po_sizes po_kinds po_spelled po_scheme) := hD
  refine lv_aload_n hx hb dX1_hear_39 rfl (lv_at hl 1 rfl) ?_
  refine lv_iconst (v := 0) hx hb dX1_hear_40 (by decide) ?_
  refine va_put (D := G) (ci := 1) (v := .int (0 : Int32)) (ty := .int) (C := RX1) (T := TX1) (N := 14) hx hb hts inX1 tyX1 tyX1_ok nmX1 hown hK hP hD hS 0 rfl rfl 3 (by decide) (hts _ tb64) (fun _ h9 => h9) rfl (tyX1_ok 3 (by decide)) rfl rfl (Nat.le_of_ble_eq_true rfl) dX1_hear_41 (fun H locs hP hD hS => ?_)
  have hP : va_P G vwCl (WX1_hear K er_a erA_lastAt erA_fees erA_heavy erA_light erA_over po_a poA_sizes poA_kinds poA_spelled poA_scheme (if (5 : Int32) < (po_sizes p2.toNatClampNeg) then (5 : Int32) else (po_sizes p2.toNatClampNeg)) (0 : Int32) (0 : Int32) (0 : Int32) r_11 er_singles er_options er_least er_ways er_lastAt er_fees er_heavy er_light er_over po_foot po_feet po_lines po_words po_sizes po_kinds po_spelled po_scheme) H := hP
  have hD : va_D A (WX1_hear K er_a erA_lastAt erA_fees erA_heavy erA_light erA_over po_a poA_sizes poA_kinds poA_spelled poA_scheme (if (5 : Int32) < (po_sizes p2.toNatClampNeg) then (5 : Int32) else (po_sizes p2.toNatClampNeg)) (0 : Int32) (0 : Int32) (0 : Int32) r_11 er_singles er_options er_least er_ways er_lastAt er_fees er_heavy er_light er_over po_foot po_feet po_lines po_words po_sizes po_kinds po_spelled po_scheme) := hD
  refine lv_aload_n hx hb dX1_hear_44 rfl (lv_at hl 1 rfl) ?_
  refine lv_iconst (v := 0) hx hb dX1_hear_45 (by decide) ?_
  refine va_put (D := G) (ci := 1) (v := .int (0 : Int32)) (ty := .int) (C := RX1) (T := TX1) (N := 14) hx hb hts inX1 tyX1 tyX1_ok nmX1 hown hK hP hD hS 0 rfl rfl 5 (by decide) (hts _ tb67) (fun _ h9 => h9) rfl (tyX1_ok 5 (by decide)) rfl rfl (Nat.le_of_ble_eq_true rfl) dX1_hear_46 (fun H locs hP hD hS => ?_)
  have hP : va_P G vwCl (WX1_hear K er_a erA_lastAt erA_fees erA_heavy erA_light erA_over po_a poA_sizes poA_kinds poA_spelled poA_scheme (if (5 : Int32) < (po_sizes p2.toNatClampNeg) then (5 : Int32) else (po_sizes p2.toNatClampNeg)) (0 : Int32) (0 : Int32) (0 : Int32) r_11 (0 : Int32) er_options er_least er_ways er_lastAt er_fees er_heavy er_light er_over po_foot po_feet po_lines po_words po_sizes po_kinds po_spelled po_scheme) H := hP
  have hD : va_D A (WX1_hear K er_a erA_lastAt erA_fees erA_heavy erA_light erA_over po_a poA_sizes poA_kinds poA_spelled poA_scheme (if (5 : Int32) < (po_sizes p2.toNatClampNeg) then (5 : Int32) else (po_sizes p2.toNatClampNeg)) (0 : Int32) (0 : Int32) (0 : Int32) r_11 (0 : Int32) er_options er_least er_ways er_lastAt er_fees er_heavy er_light er_over po_foot po_feet po_lines po_words po_sizes po_kinds po_spelled po_scheme) := hD
  refine lv_iconst (v := 0) hx hb dX1_hear_49 (by decide) ?_
  refine lv_istore (lv' := [(4, .int (0 : Int32)), (3, .int r_9), (0, .ref er_a), (1, .ref po_a), (2, .int p2)]) hx hb dX1_hear_50 hl (by decide) rfl (fun ls hl => ?_)
  exact wX1_hear_b52 C0 er_a erA_lastAt erA_fees erA_heavy erA_light erA_over po_a poA_sizes poA_kinds poA_spelled poA_scheme er_options er_least er_ways er_fees er_heavy er_light er_over po_foot po_feet po_lines po_words po_sizes po_kinds po_spelled po_scheme p2 o_er_words o_er_syllables o_er_strong o_er_either o_er_joins o_er_singles o_er_lastAt kr  FU (if (5 : Int32) < (po_sizes p2.toNatClampNeg) then (5 : Int32) else (po_sizes p2.toNatClampNeg)) (0 : Int32) (0 : Int32) (0 : Int32) r_11 (0 : Int32) er_lastAt r_9 (0 : Int32) hM _ _ _ hP hD hS (lv_sub hl [2, 3, 1, 0] rfl)
set_option maxHeartbeats 4000000 in
set_option maxRecDepth 100000 in
theorem kX1_hear (l : Launch) (G : va_G) (K : Nat → ClassId) (tt : Nat → Nat) (L : List Nat) (la : Nat → Nat) (sa : Nat → Nat) (ln : Nat → Int32) (sy : Nat → Int32) (sn : Nat → Int32) (lt : Nat → Nat → Int32) (st : Nat → Nat → Int32) (er_a erA_lastAt erA_fees erA_heavy erA_light erA_over po_a poA_sizes poA_kinds poA_spelled poA_scheme : Nat) (er_words : Int32) (er_syllables : Int32) (er_strong : Int32) (er_either : Int32) (er_joins : Int32) (er_singles : Int32) (er_options : Int32) (er_least : Int32) (er_ways : Int32) (er_lastAt : Nat → Int32) (er_fees : Nat → Int32) (er_heavy : Nat → Int32) (er_light : Nat → Int32) (er_over : Nat → Int32) (po_foot : Int32) (po_feet : Int32) (po_lines : Int32) (po_words : Int32) (po_sizes : Nat → Int32) (po_kinds : Nat → Int32) (po_spelled : Nat → Nat) (po_scheme : Nat → Int32) (p2 : Int32) (sz : Nat) (o_er_words : Int32) (o_er_syllables : Int32) (o_er_strong : Int32) (o_er_either : Int32) (o_er_joins : Int32) (o_er_singles : Int32) (o_er_lastAt : Nat → Int32) (hM : mX1_hear L ln sy sn lt po_sizes po_kinds po_spelled er_words er_syllables er_strong er_either er_joins er_singles er_lastAt p2 = some (o_er_words, o_er_syllables, o_er_strong, o_er_either, o_er_joins, o_er_singles, o_er_lastAt)) : Met l yX1_hear (mC yX1_hear cX1_hear 6 none) rmX1_hear (va_Pc [.ref er_a, .ref po_a, .int p2] (PCe G K (EC G K tt L la sa ln sy sn lt st) (WX1_hear K er_a erA_lastAt erA_fees erA_heavy erA_light erA_over po_a poA_sizes poA_kinds poA_spelled poA_scheme er_words er_syllables er_strong er_either er_joins er_singles er_options er_least er_ways er_lastAt er_fees er_heavy er_light er_over po_foot po_feet po_lines po_words po_sizes po_kinds po_spelled po_scheme) sz)) (va_Qv (fun (_ : Unit) => True) (fun _ t => va_P G vwCl (WX1_hear K er_a erA_lastAt erA_fees erA_heavy erA_light erA_over po_a poA_sizes poA_kinds poA_spelled poA_scheme o_er_words o_er_syllables o_er_strong o_er_either o_er_joins o_er_singles er_options er_least er_ways o_er_lastAt er_fees er_heavy er_light er_over po_foot po_feet po_lines po_words po_sizes po_kinds po_spelled po_scheme) t.heap) (va_A (WX1_hear K er_a erA_lastAt erA_fees erA_heavy erA_light erA_over po_a poA_sizes poA_kinds poA_spelled poA_scheme er_words er_syllables er_strong er_either er_joins er_singles er_options er_least er_ways er_lastAt er_fees er_heavy er_light er_over po_foot po_feet po_lines po_words po_sizes po_kinds po_spelled po_scheme) sz)) rmX1_hear.cells rmX1_hear.slots (va_A (WX1_hear K er_a erA_lastAt erA_fees erA_heavy erA_light erA_over po_a poA_sizes poA_kinds poA_spelled poA_scheme er_words er_syllables er_strong er_either er_joins er_singles er_options er_least er_ways er_lastAt er_fees er_heavy er_light er_over po_foot po_feet po_lines po_words po_sizes po_kinds po_spelled po_scheme) sz) := by
  refine Met.ofW (cc := cX1_hear) (maxL := 6) (ret := none) (by decide) rfl ?_
  intro p e s m args below meth c s₁ B hml hv
  obtain ⟨rfl, hsz, hP, hK, hD0, hE⟩ := hv
  have hx := B.exec
  have hb := B.bytes
  have hr := B.returns
  have hts0 := atoms_spec (ws := mC yX1_hear cX1_hear 6 none) B.pre
  have hts : ∀ w ∈ tbG, w.before _ s = true := fun w h => hts0 w (List.mem_cons_of_mem _ h)
  have hown : s.vm.findClass RX1 = some m.cls := findClass_of_methodNamed B.named
  subst hsz
  have hD := hD0.self (sz := s.heap.size)
  generalize hAe : va_A (WX1_hear K er_a erA_lastAt erA_fees erA_heavy erA_light erA_over po_a poA_sizes poA_kinds poA_spelled poA_scheme er_words er_syllables er_strong er_either er_joins er_singles er_options er_least er_ways er_lastAt er_fees er_heavy er_light er_over po_foot po_feet po_lines po_words po_sizes po_kinds po_spelled po_scheme) s.heap.size = A at hD hE ⊢
  have hA : ∀ q : Nat, s.heap.size ≤ q → A q := fun q h => by rw [← hAe]; exact Or.inr h
  have hS : va_S A s.heap s.heap [] := va_S.rf
  have hl := lv_entry ([.ref er_a, .ref po_a, .int p2]) (n := 6) (Nat.le_of_ble_eq_true rfl)
  rw [lg_entry_eq]
  generalize (lg_sl ([.ref er_a, .ref po_a, .int p2]) ++ List.replicate (6 - (lg_sl ([.ref er_a, .ref po_a, .int p2])).length) Slot.unset).toArray = ls at hl ⊢
  have hl : lv_has ls 6 [(0, .ref er_a), (1, .ref po_a), (2, .int p2)] := hl
  exact wX1_hear_b0 ⟨hx, hb, hml, hown, hts, hK, hA, EC_ok _ _ _ _ _ _ _ _ _ _ _, hE⟩ er_a erA_lastAt erA_fees erA_heavy erA_light erA_over po_a poA_sizes poA_kinds poA_spelled poA_scheme er_options er_least er_ways er_fees er_heavy er_light er_over po_foot po_feet po_lines po_words po_sizes po_kinds po_spelled po_scheme p2 o_er_words o_er_syllables o_er_strong o_er_either o_er_joins o_er_singles o_er_lastAt (fun H locs ls pc hdg hP hD hS => W.vret hx hb hr (fun t ht hW => ⟨⟨(), rfl, trivial, (show va_P G vwCl _ t.heap by rw [ht]; exact hP)⟩, hS.F ht⟩) hS.2.2 hdg) er_words er_syllables er_strong er_either er_joins er_singles er_lastAt  hM _ _ _ hP hD hS hl
def rmX1_heavyPlaces : Room := { frames := 0, cells := 0, slots := 0, locals := 0 }
theorem hdX1_heavyPlaces : yX1_heavyPlaces.cls ≠ "java/lang/invoke/MethodHandle" ∧ yX1_heavyPlaces.cls ≠ "java/lang/invoke/VarHandle" ∧ (parseMethodDescriptor yX1_heavyPlaces.desc).map (fun d => d.parameters.length) = some 3 := by decide +kernel
set_option maxHeartbeats 4000000 in
set_option maxRecDepth 100000 in
theorem wX1_heavyPlaces_b9 {p : Program} {l : Launch} {e : Env} {s : State} {m : MethodId} {args : Array Value} {below : List Frame} {meth : Method} {c : Code} {Q : State → Prop} {G : va_G} {K : Nat → ClassId} {A : Nat → Prop} {tt : Nat → Nat} {L : List Nat} {la : Nat → Nat} {sa : Nat → Nat} {ln : Nat → Int32} {sy : Nat → Int32} {sn : Nat → Int32} {lt : Nat → Nat → Int32} {st : Nat → Nat → Int32} (C0 : CX p s m args c cX1_heavyPlaces 5 RX1 G K (EC G K tt L la sa ln sy sn lt st) A)  (p1 : Int32) (p2 : Int32) (p3 : Int32) (r : Int32)  (kr : ∀ (H : Heap) (locs : List Loc) (ls : Array Slot) (pc : Nat), decode cX1_heavyPlaces pc = .ok (.ireturn, 1) → va_P G vwCl [] H → va_D A [] → va_S A s.heap H locs → W p l e rmX1_heavyPlaces s m args below meth c H locs 0 0 Q (F0 m pc ls [.int r])) (n : Nat) : ∀ (x3 : Int32) (x4 : Int32), mX1_heavyPlaces_b9 p1 p2 p3  n x3 x4 = some r → ∀ (H : Heap) (locs : List Loc) (ls : Array Slot), va_P G vwCl [] H → va_D A [] → va_S A s.heap H locs → lv_has ls 5 [(1, .int p2), (2, .int p3), (3, .int x3), (4, .int x4)] → W p l e rmX1_heavyPlaces s m args below meth c H locs 0 0 Q (F0 m 9 ls []) := by
  obtain ⟨hx, hb, hml, hown, hts, hK, hA, hEo, hE⟩ := id C0
  induction n with
  | zero =>
    intro x3 x4 hM
    cases hM
  | succ n ih =>
    intro x3 x4 hM H locs ls hP hD hS hl
    rw [mX1_heavyPlaces_b9] at hM
    refine lv_iload hx hb dX1_heavyPlaces_9 (lv_at hl 3 rfl) ?_
    refine lv_iload_n hx hb dX1_heavyPlaces_11 rfl (lv_at hl 1 rfl) ?_
    refine lv_icmp_ge (tgt := 38) hx hb dX1_heavyPlaces_12 (by decide) (fun c_1 => ?_) (fun c_1 => ?_)
    · rw [if_pos c_1] at hM
      refine lv_iload_n hx hb dX1_heavyPlaces_38 rfl (lv_at hl 2 rfl) ?_
      have q1 := Option.some.inj hM
      subst q1
      exact kr _ _ _ _ dX1_heavyPlaces_39 hP hD hS
    · rw [if_neg c_1] at hM
      refine lv_iload_n hx hb dX1_heavyPlaces_15 rfl (lv_at hl 2 rfl) ?_
      refine va_getsN hx hb (sZ1 hE.2.2.1) hS hown ((nw576 hE.2.2.2).use rfl) (fun _ h9 => h9) dX1_heavyPlaces_16 ?_
      refine lv_iload_n hx hb dX1_heavyPlaces_19 rfl (lv_at hl 0 rfl) ?_
      obtain ⟨g_2, hM⟩ := ng hM
      refine va_ti hx hb (sV1 hE.2.2.1) hS g_2 rfl dX1_heavyPlaces_20 ?_
      refine lv_iload hx hb dX1_heavyPlaces_21 (lv_at hl 3 rfl) ?_
      refine va_getsN hx hb (sZ0 hE.2.2.1) hS hown ((nw578 hE.2.2.2).use rfl) (fun _ h9 => h9) dX1_heavyPlaces_23 ?_
      refine lv_iload_n hx hb dX1_heavyPlaces_26 rfl (lv_at hl 0 rfl) ?_
      obtain ⟨g_3, hM⟩ := ng hM
      refine va_ti hx hb (sV0 hE.2.2.1) hS g_3 rfl dX1_heavyPlaces_27 ?_
      refine lv_imul hx hb dX1_heavyPlaces_28 ?_
      refine lv_ishl hx hb dX1_heavyPlaces_29 ?_
      refine lv_ior hx hb dX1_heavyPlaces_30 ?_
      refine lv_istore_n (lv' := [(3, .int (x3 ||| ((sT1 p2.toNatClampNeg) <<< ((x4 * (sT0 p2.toNatClampNeg)) &&& 31)))), (1, .int p2), (2, .int p3), (4, .int x4)]) hx hb dX1_heavyPlaces_31 rfl hl (by decide) rfl (fun ls hl => ?_)
      refine lv_iinc (v := (x4 + 1)) (lv' := [(4, .int (x4 + 1)), (3, .int (x3 ||| ((sT1 p2.toNatClampNeg) <<< ((x4 * (sT0 p2.toNatClampNeg)) &&& 31)))), (1, .int p2), (2, .int p3)]) hx hb dX1_heavyPlaces_32 hl (k := 3) rfl rfl (by decide) rfl (fun ls hl => ?_)
      refine lv_goto (tgt := 9) hx hb dX1_heavyPlaces_35 (by decide) ?_
      exact ih (x3 ||| ((sT1 p2.toNatClampNeg) <<< ((x4 * (sT0 p2.toNatClampNeg)) &&& 31))) (x4 + 1) hM _ _ _ hP hD hS (lv_sub hl [2, 3, 1, 0] rfl)
set_option maxHeartbeats 4000000 in
set_option maxRecDepth 100000 in
theorem wX1_heavyPlaces_b0 {p : Program} {l : Launch} {e : Env} {s : State} {m : MethodId} {args : Array Value} {below : List Frame} {meth : Method} {c : Code} {Q : State → Prop} {G : va_G} {K : Nat → ClassId} {A : Nat → Prop} {tt : Nat → Nat} {L : List Nat} {la : Nat → Nat} {sa : Nat → Nat} {ln : Nat → Int32} {sy : Nat → Int32} {sn : Nat → Int32} {lt : Nat → Nat → Int32} {st : Nat → Nat → Int32} (C0 : CX p s m args c cX1_heavyPlaces 5 RX1 G K (EC G K tt L la sa ln sy sn lt st) A)  (p1 : Int32) (p2 : Int32) (p3 : Int32) (r : Int32)  (kr : ∀ (H : Heap) (locs : List Loc) (ls : Array Slot) (pc : Nat), decode cX1_heavyPlaces pc = .ok (.ireturn, 1) → va_P G vwCl [] H → va_D A [] → va_S A s.heap H locs → W p l e rmX1_heavyPlaces s m args below meth c H locs 0 0 Q (F0 m pc ls [.int r]))  (hM : mX1_heavyPlaces_b0 p1 p2 p3   = some r) : ∀ (H : Heap) (locs : List Loc) (ls : Array Slot), va_P G vwCl [] H → va_D A [] → va_S A s.heap H locs → lv_has ls 5 [(0, .int p1), (1, .int p2), (2, .int p3)] → W p l e rmX1_heavyPlaces s m args below meth c H locs 0 0 Q (F0 m 0 ls []) := by
  obtain ⟨hx, hb, hml, hown, hts, hK, hA, hEo, hE⟩ := id C0
  intro H locs ls hP hD hS hl
  unfold mX1_heavyPlaces_b0 at hM
  refine va_getsN hx hb (sZ1 hE.2.2.1) hS hown ((nw576 hE.2.2.2).use rfl) (fun _ h9 => h9) dX1_heavyPlaces_0 ?_
  refine lv_iload_n hx hb dX1_heavyPlaces_3 rfl (lv_at hl 0 rfl) ?_
  obtain ⟨g_4, hM⟩ := ng hM
  refine va_ti hx hb (sV1 hE.2.2.1) hS g_4 rfl dX1_heavyPlaces_4 ?_
  refine lv_istore_n (lv' := [(3, .int (sT1 p1.toNatClampNeg)), (0, .int p1), (1, .int p2), (2, .int p3)]) hx hb dX1_heavyPlaces_5 rfl hl (by decide) rfl (fun ls hl => ?_)
  refine lv_iconst (v := 1) hx hb dX1_heavyPlaces_6 (by decide) ?_
  refine lv_istore (lv' := [(4, .int (1 : Int32)), (3, .int (sT1 p1.toNatClampNeg)), (0, .int p1), (1, .int p2), (2, .int p3)]) hx hb dX1_heavyPlaces_7 hl (by decide) rfl (fun ls hl => ?_)
  exact wX1_heavyPlaces_b9 C0 p1 p2 p3 r kr  FU (sT1 p1.toNatClampNeg) (1 : Int32) hM _ _ _ hP hD hS (lv_sub hl [3, 4, 1, 0] rfl)
set_option maxHeartbeats 4000000 in
set_option maxRecDepth 100000 in
theorem kX1_heavyPlaces (l : Launch) (G : va_G) (K : Nat → ClassId) (tt : Nat → Nat) (L : List Nat) (la : Nat → Nat) (sa : Nat → Nat) (ln : Nat → Int32) (sy : Nat → Int32) (sn : Nat → Int32) (lt : Nat → Nat → Int32) (st : Nat → Nat → Int32)  (p1 : Int32) (p2 : Int32) (p3 : Int32) (sz : Nat) (r : Int32)  (hM : mX1_heavyPlaces p1 p2 p3 = some r) : Met l yX1_heavyPlaces (mC yX1_heavyPlaces cX1_heavyPlaces 5 (some .int)) rmX1_heavyPlaces (va_Pc [.int p1, .int p2, .int p3] (PCe G K (EC G K tt L la sa ln sy sn lt st) [] sz)) (va_Qi (fun (x : Int32) (_ : Unit) => x = r) (fun _ t => va_P G vwCl [] t.heap) (va_A [] sz)) rmX1_heavyPlaces.cells rmX1_heavyPlaces.slots (va_A [] sz) := by
  refine Met.ofW (cc := cX1_heavyPlaces) (maxL := 5) (ret := (some .int)) (by decide) rfl ?_
  intro p e s m args below meth c s₁ B hml hv
  obtain ⟨rfl, hsz, hP, hK, hD0, hE⟩ := hv
  have hx := B.exec
  have hb := B.bytes
  have hr := B.returns
  have hts0 := atoms_spec (ws := mC yX1_heavyPlaces cX1_heavyPlaces 5 (some .int)) B.pre
  have hts : ∀ w ∈ tbG, w.before _ s = true := fun w h => hts0 w (List.mem_cons_of_mem _ h)
  have hown : s.vm.findClass RX1 = some m.cls := findClass_of_methodNamed B.named
  subst hsz
  have hD := hD0.self (sz := s.heap.size)
  generalize hAe : va_A [] s.heap.size = A at hD hE ⊢
  have hA : ∀ q : Nat, s.heap.size ≤ q → A q := fun q h => by rw [← hAe]; exact Or.inr h
  have hS : va_S A s.heap s.heap [] := va_S.rf
  have hl := lv_entry ([.int p1, .int p2, .int p3]) (n := 5) (Nat.le_of_ble_eq_true rfl)
  rw [lg_entry_eq]
  generalize (lg_sl ([.int p1, .int p2, .int p3]) ++ List.replicate (5 - (lg_sl ([.int p1, .int p2, .int p3])).length) Slot.unset).toArray = ls at hl ⊢
  have hl : lv_has ls 5 [(0, .int p1), (1, .int p2), (2, .int p3)] := hl
  exact wX1_heavyPlaces_b0 ⟨hx, hb, hml, hown, hts, hK, hA, EC_ok _ _ _ _ _ _ _ _ _ _ _, hE⟩ p1 p2 p3 r (fun H locs ls pc hdg hP hD hS => W.iret (v := r) hx hb hr (fun t ht hW => ⟨⟨r, (), rfl, rfl, (show va_P G vwCl _ t.heap by rw [ht]; exact hP)⟩, hS.F ht⟩) hS.2.2 hdg)   hM _ _ _ hP hD hS hl
def rmJ6_bitCount_0f7a4 : Room := { frames := 0, cells := 0, slots := 0, locals := 0 }
theorem hdJ6_bitCount_0f7a4 : yJ6_bitCount_0f7a4.cls ≠ "java/lang/invoke/MethodHandle" ∧ yJ6_bitCount_0f7a4.cls ≠ "java/lang/invoke/VarHandle" ∧ (parseMethodDescriptor yJ6_bitCount_0f7a4.desc).map (fun d => d.parameters.length) = some 1 := by decide +kernel
set_option maxHeartbeats 4000000 in
set_option maxRecDepth 100000 in
theorem wJ6_bitCount_0f7a4_b0 {p : Program} {l : Launch} {e : Env} {s : State} {m : MethodId} {args : Array Value} {below : List Frame} {meth : Method} {c : Code} {Q : State → Prop} {G : va_G} {K : Nat → ClassId} {A : Nat → Prop} {tt : Nat → Nat} {L : List Nat} {la : Nat → Nat} {sa : Nat → Nat} {ln : Nat → Int32} {sy : Nat → Int32} {sn : Nat → Int32} {lt : Nat → Nat → Int32} {st : Nat → Nat → Int32} (C0 : CX p s m args c cJ6_bitCount_0f7a4 1 RJ6 G K (EC G K tt L la sa ln sy sn lt st) A)   (r : Int32)  (kr : ∀ (H : Heap) (locs : List Loc) (ls : Array Slot) (pc : Nat), decode cJ6_bitCount_0f7a4 pc = .ok (.ireturn, 1) → va_P G vwCl [] H → va_D A [] → va_S A s.heap H locs → W p l e rmJ6_bitCount_0f7a4 s m args below meth c H locs 0 0 Q (F0 m pc ls [.int r])) (p1 : Int32) (hM : mJ6_bitCount_0f7a4_b0   p1 = some r) : ∀ (H : Heap) (locs : List Loc) (ls : Array Slot), va_P G vwCl [] H → va_D A [] → va_S A s.heap H locs → lv_has ls 1 [(0, .int p1)] → W p l e rmJ6_bitCount_0f7a4 s m args below meth c H locs 0 0 Q (F0 m 0 ls []) := by
  obtain ⟨hx, hb, hml, hown, hts, hK, hA, hEo, hE⟩ := id C0
  intro H locs ls hP hD hS hl
  unfold mJ6_bitCount_0f7a4_b0 at hM
  refine lv_iload_n hx hb dJ6_bitCount_0f7a4_0 rfl (lv_at hl 0 rfl) ?_
  refine lv_iload_n hx hb dJ6_bitCount_0f7a4_1 rfl (lv_at hl 0 rfl) ?_
  refine lv_iconst (v := 1) hx hb dJ6_bitCount_0f7a4_2 (by decide) ?_
  refine lv_iushr hx hb dJ6_bitCount_0f7a4_3 rfl ?_
  refine lv_ldcw (v := 1431655765) hx hb hown (hts _ tb588) dJ6_bitCount_0f7a4_4 ?_
  refine lv_iand hx hb dJ6_bitCount_0f7a4_7 ?_
  refine lv_isub hx hb dJ6_bitCount_0f7a4_8 ?_
  refine lv_istore_n (lv' := [(0, .int (p1 - (((p1.toUInt32 >>> ((1 : Int32).toUInt32 &&& Int32.toUInt32 31)).toInt32) &&& (1431655765 : Int32))))]) hx hb dJ6_bitCount_0f7a4_9 rfl hl (by decide) rfl (fun ls hl => ?_)
  refine lv_iload_n hx hb dJ6_bitCount_0f7a4_10 rfl (lv_at hl 0 rfl) ?_
  refine lv_ldcw (v := 858993459) hx hb hown (hts _ tb589) dJ6_bitCount_0f7a4_11 ?_
  refine lv_iand hx hb dJ6_bitCount_0f7a4_14 ?_
  refine lv_iload_n hx hb dJ6_bitCount_0f7a4_15 rfl (lv_at hl 0 rfl) ?_
  refine lv_iconst (v := 2) hx hb dJ6_bitCount_0f7a4_16 (by decide) ?_
  refine lv_iushr hx hb dJ6_bitCount_0f7a4_17 rfl ?_
  refine lv_ldcw (v := 858993459) hx hb hown (hts _ tb589) dJ6_bitCount_0f7a4_18 ?_
  refine lv_iand hx hb dJ6_bitCount_0f7a4_21 ?_
  refine lv_iadd hx hb dJ6_bitCount_0f7a4_22 ?_
  refine lv_istore_n (lv' := [(0, .int (((p1 - (((p1.toUInt32 >>> ((1 : Int32).toUInt32 &&& Int32.toUInt32 31)).toInt32) &&& (1431655765 : Int32))) &&& (858993459 : Int32)) + ((((p1 - (((p1.toUInt32 >>> ((1 : Int32).toUInt32 &&& Int32.toUInt32 31)).toInt32) &&& (1431655765 : Int32))).toUInt32 >>> ((2 : Int32).toUInt32 &&& Int32.toUInt32 31)).toInt32) &&& (858993459 : Int32))))]) hx hb dJ6_bitCount_0f7a4_23 rfl hl (by decide) rfl (fun ls hl => ?_)
  refine lv_iload_n hx hb dJ6_bitCount_0f7a4_24 rfl (lv_at hl 0 rfl) ?_
  refine lv_iload_n hx hb dJ6_bitCount_0f7a4_25 rfl (lv_at hl 0 rfl) ?_
  refine lv_iconst (v := 4) hx hb dJ6_bitCount_0f7a4_26 (by decide) ?_
  refine lv_iushr hx hb dJ6_bitCount_0f7a4_27 rfl ?_
  refine lv_iadd hx hb dJ6_bitCount_0f7a4_28 ?_
  refine lv_ldcw (v := 252645135) hx hb hown (hts _ tb590) dJ6_bitCount_0f7a4_29 ?_
  refine lv_iand hx hb dJ6_bitCount_0f7a4_32 ?_
  refine lv_istore_n (lv' := [(0, .int (((((p1 - (((p1.toUInt32 >>> ((1 : Int32).toUInt32 &&& Int32.toUInt32 31)).toInt32) &&& (1431655765 : Int32))) &&& (858993459 : Int32)) + ((((p1 - (((p1.toUInt32 >>> ((1 : Int32).toUInt32 &&& Int32.toUInt32 31)).toInt32) &&& (1431655765 : Int32))).toUInt32 >>> ((2 : Int32).toUInt32 &&& Int32.toUInt32 31)).toInt32) &&& (858993459 : Int32))) + (((((p1 - (((p1.toUInt32 >>> ((1 : Int32).toUInt32 &&& Int32.toUInt32 31)).toInt32) &&& (1431655765 : Int32))) &&& (858993459 : Int32)) + ((((p1 - (((p1.toUInt32 >>> ((1 : Int32).toUInt32 &&& Int32.toUInt32 31)).toInt32) &&& (1431655765 : Int32))).toUInt32 >>> ((2 : Int32).toUInt32 &&& Int32.toUInt32 31)).toInt32) &&& (858993459 : Int32))).toUInt32 >>> ((4 : Int32).toUInt32 &&& Int32.toUInt32 31)).toInt32)) &&& (252645135 : Int32)))]) hx hb dJ6_bitCount_0f7a4_33 rfl hl (by decide) rfl (fun ls hl => ?_)
  refine lv_iload_n hx hb dJ6_bitCount_0f7a4_34 rfl (lv_at hl 0 rfl) ?_
  refine lv_iload_n hx hb dJ6_bitCount_0f7a4_35 rfl (lv_at hl 0 rfl) ?_
  refine lv_bipush (v := 8) hx hb dJ6_bitCount_0f7a4_36 (by decide) ?_
  refine lv_iushr hx hb dJ6_bitCount_0f7a4_38 rfl ?_
  refine lv_iadd hx hb dJ6_bitCount_0f7a4_39 ?_
  refine lv_istore_n (lv' := [(0, .int ((((((p1 - (((p1.toUInt32 >>> ((1 : Int32).toUInt32 &&& Int32.toUInt32 31)).toInt32) &&& (1431655765 : Int32))) &&& (858993459 : Int32)) + ((((p1 - (((p1.toUInt32 >>> ((1 : Int32).toUInt32 &&& Int32.toUInt32 31)).toInt32) &&& (1431655765 : Int32))).toUInt32 >>> ((2 : Int32).toUInt32 &&& Int32.toUInt32 31)).toInt32) &&& (858993459 : Int32))) + (((((p1 - (((p1.toUInt32 >>> ((1 : Int32).toUInt32 &&& Int32.toUInt32 31)).toInt32) &&& (1431655765 : Int32))) &&& (858993459 : Int32)) + ((((p1 - (((p1.toUInt32 >>> ((1 : Int32).toUInt32 &&& Int32.toUInt32 31)).toInt32) &&& (1431655765 : Int32))).toUInt32 >>> ((2 : Int32).toUInt32 &&& Int32.toUInt32 31)).toInt32) &&& (858993459 : Int32))).toUInt32 >>> ((4 : Int32).toUInt32 &&& Int32.toUInt32 31)).toInt32)) &&& (252645135 : Int32)) + (((((((p1 - (((p1.toUInt32 >>> ((1 : Int32).toUInt32 &&& Int32.toUInt32 31)).toInt32) &&& (1431655765 : Int32))) &&& (858993459 : Int32)) + ((((p1 - (((p1.toUInt32 >>> ((1 : Int32).toUInt32 &&& Int32.toUInt32 31)).toInt32) &&& (1431655765 : Int32))).toUInt32 >>> ((2 : Int32).toUInt32 &&& Int32.toUInt32 31)).toInt32) &&& (858993459 : Int32))) + (((((p1 - (((p1.toUInt32 >>> ((1 : Int32).toUInt32 &&& Int32.toUInt32 31)).toInt32) &&& (1431655765 : Int32))) &&& (858993459 : Int32)) + ((((p1 - (((p1.toUInt32 >>> ((1 : Int32).toUInt32 &&& Int32.toUInt32 31)).toInt32) &&& (1431655765 : Int32))).toUInt32 >>> ((2 : Int32).toUInt32 &&& Int32.toUInt32 31)).toInt32) &&& (858993459 : Int32))).toUInt32 >>> ((4 : Int32).toUInt32 &&& Int32.toUInt32 31)).toInt32)) &&& (252645135 : Int32)).toUInt32 >>> ((8 : Int32).toUInt32 &&& Int32.toUInt32 31)).toInt32)))]) hx hb dJ6_bitCount_0f7a4_40 rfl hl (by decide) rfl (fun ls hl => ?_)
  refine lv_iload_n hx hb dJ6_bitCount_0f7a4_41 rfl (lv_at hl 0 rfl) ?_
  refine lv_iload_n hx hb dJ6_bitCount_0f7a4_42 rfl (lv_at hl 0 rfl) ?_
  refine lv_bipush (v := 16) hx hb dJ6_bitCount_0f7a4_43 (by decide) ?_
  refine lv_iushr hx hb dJ6_bitCount_0f7a4_45 rfl ?_
  refine lv_iadd hx hb dJ6_bitCount_0f7a4_46 ?_
  refine lv_istore_n (lv' := [(0, .int (((((((p1 - (((p1.toUInt32 >>> ((1 : Int32).toUInt32 &&& Int32.toUInt32 31)).toInt32) &&& (1431655765 : Int32))) &&& (858993459 : Int32)) + ((((p1 - (((p1.toUInt32 >>> ((1 : Int32).toUInt32 &&& Int32.toUInt32 31)).toInt32) &&& (1431655765 : Int32))).toUInt32 >>> ((2 : Int32).toUInt32 &&& Int32.toUInt32 31)).toInt32) &&& (858993459 : Int32))) + (((((p1 - (((p1.toUInt32 >>> ((1 : Int32).toUInt32 &&& Int32.toUInt32 31)).toInt32) &&& (1431655765 : Int32))) &&& (858993459 : Int32)) + ((((p1 - (((p1.toUInt32 >>> ((1 : Int32).toUInt32 &&& Int32.toUInt32 31)).toInt32) &&& (1431655765 : Int32))).toUInt32 >>> ((2 : Int32).toUInt32 &&& Int32.toUInt32 31)).toInt32) &&& (858993459 : Int32))).toUInt32 >>> ((4 : Int32).toUInt32 &&& Int32.toUInt32 31)).toInt32)) &&& (252645135 : Int32)) + (((((((p1 - (((p1.toUInt32 >>> ((1 : Int32).toUInt32 &&& Int32.toUInt32 31)).toInt32) &&& (1431655765 : Int32))) &&& (858993459 : Int32)) + ((((p1 - (((p1.toUInt32 >>> ((1 : Int32).toUInt32 &&& Int32.toUInt32 31)).toInt32) &&& (1431655765 : Int32))).toUInt32 >>> ((2 : Int32).toUInt32 &&& Int32.toUInt32 31)).toInt32) &&& (858993459 : Int32))) + (((((p1 - (((p1.toUInt32 >>> ((1 : Int32).toUInt32 &&& Int32.toUInt32 31)).toInt32) &&& (1431655765 : Int32))) &&& (858993459 : Int32)) + ((((p1 - (((p1.toUInt32 >>> ((1 : Int32).toUInt32 &&& Int32.toUInt32 31)).toInt32) &&& (1431655765 : Int32))).toUInt32 >>> ((2 : Int32).toUInt32 &&& Int32.toUInt32 31)).toInt32) &&& (858993459 : Int32))).toUInt32 >>> ((4 : Int32).toUInt32 &&& Int32.toUInt32 31)).toInt32)) &&& (252645135 : Int32)).toUInt32 >>> ((8 : Int32).toUInt32 &&& Int32.toUInt32 31)).toInt32)) + ((((((((p1 - (((p1.toUInt32 >>> ((1 : Int32).toUInt32 &&& Int32.toUInt32 31)).toInt32) &&& (1431655765 : Int32))) &&& (858993459 : Int32)) + ((((p1 - (((p1.toUInt32 >>> ((1 : Int32).toUInt32 &&& Int32.toUInt32 31)).toInt32) &&& (1431655765 : Int32))).toUInt32 >>> ((2 : Int32).toUInt32 &&& Int32.toUInt32 31)).toInt32) &&& (858993459 : Int32))) + (((((p1 - (((p1.toUInt32 >>> ((1 : Int32).toUInt32 &&& Int32.toUInt32 31)).toInt32) &&& (1431655765 : Int32))) &&& (858993459 : Int32)) + ((((p1 - (((p1.toUInt32 >>> ((1 : Int32).toUInt32 &&& Int32.toUInt32 31)).toInt32) &&& (1431655765 : Int32))).toUInt32 >>> ((2 : Int32).toUInt32 &&& Int32.toUInt32 31)).toInt32) &&& (858993459 : Int32))).toUInt32 >>> ((4 : Int32).toUInt32 &&& Int32.toUInt32 31)).toInt32)) &&& (252645135 : Int32)) + (((((((p1 - (((p1.toUInt32 >>> ((1 : Int32).toUInt32 &&& Int32.toUInt32 31)).toInt32) &&& (1431655765 : Int32))) &&& (858993459 : Int32)) + ((((p1 - (((p1.toUInt32 >>> ((1 : Int32).toUInt32 &&& Int32.toUInt32 31)).toInt32) &&& (1431655765 : Int32))).toUInt32 >>> ((2 : Int32).toUInt32 &&& Int32.toUInt32 31)).toInt32) &&& (858993459 : Int32))) + (((((p1 - (((p1.toUInt32 >>> ((1 : Int32).toUInt32 &&& Int32.toUInt32 31)).toInt32) &&& (1431655765 : Int32))) &&& (858993459 : Int32)) + ((((p1 - (((p1.toUInt32 >>> ((1 : Int32).toUInt32 &&& Int32.toUInt32 31)).toInt32) &&& (1431655765 : Int32))).toUInt32 >>> ((2 : Int32).toUInt32 &&& Int32.toUInt32 31)).toInt32) &&& (858993459 : Int32))).toUInt32 >>> ((4 : Int32).toUInt32 &&& Int32.toUInt32 31)).toInt32)) &&& (252645135 : Int32)).toUInt32 >>> ((8 : Int32).toUInt32 &&& Int32.toUInt32 31)).toInt32)).toUInt32 >>> ((16 : Int32).toUInt32 &&& Int32.toUInt32 31)).toInt32)))]) hx hb dJ6_bitCount_0f7a4_47 rfl hl (by decide) rfl (fun ls hl => ?_)
  refine lv_iload_n hx hb dJ6_bitCount_0f7a4_48 rfl (lv_at hl 0 rfl) ?_
  refine lv_bipush (v := 63) hx hb dJ6_bitCount_0f7a4_49 (by decide) ?_
  refine lv_iand hx hb dJ6_bitCount_0f7a4_51 ?_
  have q1 := Option.some.inj hM
  subst q1
  exact kr _ _ _ _ dJ6_bitCount_0f7a4_52 hP hD hS
set_option maxHeartbeats 4000000 in
set_option maxRecDepth 100000 in
theorem kJ6_bitCount_0f7a4 (l : Launch) (G : va_G) (K : Nat → ClassId) (tt : Nat → Nat) (L : List Nat) (la : Nat → Nat) (sa : Nat → Nat) (ln : Nat → Int32) (sy : Nat → Int32) (sn : Nat → Int32) (lt : Nat → Nat → Int32) (st : Nat → Nat → Int32)  (p1 : Int32) (sz : Nat) (r : Int32)  (hM : mJ6_bitCount_0f7a4 p1 = some r) : Met l yJ6_bitCount_0f7a4 (mC yJ6_bitCount_0f7a4 cJ6_bitCount_0f7a4 1 (some .int)) rmJ6_bitCount_0f7a4 (va_Pc [.int p1] (PCe G K (EC G K tt L la sa ln sy sn lt st) [] sz)) (va_Qi (fun (x : Int32) (_ : Unit) => x = r) (fun _ t => va_P G vwCl [] t.heap) (va_A [] sz)) rmJ6_bitCount_0f7a4.cells rmJ6_bitCount_0f7a4.slots (va_A [] sz) := by
  refine Met.ofW (cc := cJ6_bitCount_0f7a4) (maxL := 1) (ret := (some .int)) (by decide) rfl ?_
  intro p e s m args below meth c s₁ B hml hv
  obtain ⟨rfl, hsz, hP, hK, hD0, hE⟩ := hv
  have hx := B.exec
  have hb := B.bytes
  have hr := B.returns
  have hts0 := atoms_spec (ws := mC yJ6_bitCount_0f7a4 cJ6_bitCount_0f7a4 1 (some .int)) B.pre
  have hts : ∀ w ∈ tbG, w.before _ s = true := fun w h => hts0 w (List.mem_cons_of_mem _ h)
  have hown : s.vm.findClass RJ6 = some m.cls := findClass_of_methodNamed B.named
  subst hsz
  have hD := hD0.self (sz := s.heap.size)
  generalize hAe : va_A [] s.heap.size = A at hD hE ⊢
  have hA : ∀ q : Nat, s.heap.size ≤ q → A q := fun q h => by rw [← hAe]; exact Or.inr h
  have hS : va_S A s.heap s.heap [] := va_S.rf
  have hl := lv_entry ([.int p1]) (n := 1) (Nat.le_of_ble_eq_true rfl)
  rw [lg_entry_eq]
  generalize (lg_sl ([.int p1]) ++ List.replicate (1 - (lg_sl ([.int p1])).length) Slot.unset).toArray = ls at hl ⊢
  have hl : lv_has ls 1 [(0, .int p1)] := hl
  exact wJ6_bitCount_0f7a4_b0 ⟨hx, hb, hml, hown, hts, hK, hA, EC_ok _ _ _ _ _ _ _ _ _ _ _, hE⟩ r (fun H locs ls pc hdg hP hD hS => W.iret (v := r) hx hb hr (fun t ht hW => ⟨⟨r, (), rfl, rfl, (show va_P G vwCl _ t.heap by rw [ht]; exact hP)⟩, hS.F ht⟩) hS.2.2 hdg)  p1 hM _ _ _ hP hD hS hl
abbrev WX1_spread (K : Nat → ClassId) (er_a erA_lastAt erA_fees erA_heavy erA_light erA_over : Nat) (er_words : Int32) (er_syllables : Int32) (er_strong : Int32) (er_either : Int32) (er_joins : Int32) (er_singles : Int32) (er_options : Int32) (er_least : Int32) (er_ways : Int32) (er_lastAt : Nat → Int32) (er_fees : Nat → Int32) (er_heavy : Nat → Int32) (er_light : Nat → Int32) (er_over : Nat → Int32) : va_W := [(er_a, .inr (1, [.int er_words, .int er_syllables, .int er_strong, .int er_either, .int er_joins, .int er_singles, .ref erA_lastAt, .int er_options, .ref erA_fees, .ref erA_heavy, .ref erA_light, .ref erA_over, .int er_least, .int er_ways])), aI K erA_lastAt 5 er_lastAt, aI K erA_fees 32 er_fees, aI K erA_heavy 32 er_heavy, aI K erA_light 32 er_light, aI K erA_over 32 er_over]
def rmX1_spread : Room := { frames := 0, cells := 0, slots := 0, locals := 0 }
theorem hdX1_spread : yX1_spread.cls = RX1 ∧ yX1_spread.cls ≠ "java/lang/invoke/MethodHandle" ∧ yX1_spread.cls ≠ "java/lang/invoke/VarHandle" ∧ (parseMethodDescriptor yX1_spread.desc).map (fun d => d.parameters.length) = some 2 := by decide +kernel
set_option maxHeartbeats 4000000 in
set_option maxRecDepth 100000 in
theorem wX1_spread_b5 {p : Program} {l : Launch} {e : Env} {s : State} {m : MethodId} {args : Array Value} {below : List Frame} {meth : Method} {c : Code} {Q : State → Prop} {G : va_G} {K : Nat → ClassId} {A : Nat → Prop} {tt : Nat → Nat} {L : List Nat} {la : Nat → Nat} {sa : Nat → Nat} {ln : Nat → Int32} {sy : Nat → Int32} {sn : Nat → Int32} {lt : Nat → Nat → Int32} {st : Nat → Nat → Int32} (C0 : CX p s m args c cX1_spread 6 RX1 G K (EC G K tt L la sa ln sy sn lt st) A) (er_a erA_lastAt erA_fees erA_heavy erA_light erA_over : Nat) (er_words : Int32) (er_syllables : Int32) (er_strong : Int32) (er_either : Int32) (er_joins : Int32) (er_singles : Int32) (er_options : Int32) (er_least : Int32) (er_ways : Int32) (er_lastAt : Nat → Int32) (er_fees : Nat → Int32) (er_heavy : Nat → Int32) (er_light : Nat → Int32) (er_over : Nat → Int32) (p1 : Int32) (p2 : Int32) (r : Int32)  (kr : ∀ (H : Heap) (locs : List Loc) (ls : Array Slot) (pc : Nat), decode cX1_spread pc = .ok (.ireturn, 1) → va_P G vwCl (WX1_spread K er_a erA_lastAt erA_fees erA_heavy erA_light erA_over er_words er_syllables er_strong er_either er_joins er_singles er_options er_least er_ways er_lastAt er_fees er_heavy er_light er_over) H → va_D A (WX1_spread K er_a erA_lastAt erA_fees erA_heavy erA_light erA_over er_words er_syllables er_strong er_either er_joins er_singles er_options er_least er_ways er_lastAt er_fees er_heavy er_light er_over) → va_S A s.heap H locs → W p l e rmX1_spread s m args below meth c H locs 0 0 Q (F0 m pc ls [.int r])) (n : Nat) : ∀ (x3 : Int32) (x4 : Int32), mX1_spread_b5 er_words er_lastAt p1 p2  n x3 x4 = some r → ∀ (H : Heap) (locs : List Loc) (ls : Array Slot), va_P G vwCl (WX1_spread K er_a erA_lastAt erA_fees erA_heavy erA_light erA_over er_words er_syllables er_strong er_either er_joins er_singles er_options er_least er_ways er_lastAt er_fees er_heavy er_light er_over) H → va_D A (WX1_spread K er_a erA_lastAt erA_fees erA_heavy erA_light erA_over er_words er_syllables er_strong er_either er_joins er_singles er_options er_least er_ways er_lastAt er_fees er_heavy er_light er_over) → va_S A s.heap H locs → lv_has ls 6 [(0, .ref er_a), (2, .int p2), (3, .int x3), (4, .int x4)] → W p l e rmX1_spread s m args below meth c H locs 0 0 Q (F0 m 5 ls []) := by
  obtain ⟨hx, hb, hml, hown, hts, hK, hA, hEo, hE⟩ := id C0
  induction n with
  | zero =>
    intro x3 x4 hM
    cases hM
  | succ n ih =>
    intro x3 x4 hM H locs ls hP hD hS hl
    rw [mX1_spread_b5] at hM
    refine lv_iload hx hb dX1_spread_5 (lv_at hl 3 rfl) ?_
    refine lv_aload_n hx hb dX1_spread_7 rfl (lv_at hl 0 rfl) ?_
    refine va_get (D := G) (ci := 1) (v := .int er_words) (C := RX1) (T := TX1) (N := 14) hx hb hts inX1 hown hK hP 0 rfl rfl 0 (by decide) (hts _ tb60) (fun _ h9 => h9) rfl dX1_spread_8 ?_
    refine lv_icmp_ge (tgt := 57) hx hb dX1_spread_11 (by decide) (fun c_1 => ?_) (fun c_1 => ?_)
    · rw [if_pos c_1] at hM
      refine lv_iload_n hx hb dX1_spread_57 rfl (lv_at hl 2 rfl) ?_
      have q1 := Option.some.inj hM
      subst q1
      exact kr _ _ _ _ dX1_spread_58 hP hD hS
    · rw [if_neg c_1] at hM
      refine lv_iload_n hx hb dX1_spread_14 rfl (lv_at hl 1 rfl) ?_
      refine lv_iload hx hb dX1_spread_15 (lv_at hl 3 rfl) ?_
      refine lv_ishr hx hb dX1_spread_17 ?_
      refine lv_iconst (v := 1) hx hb dX1_spread_18 (by decide) ?_
      refine lv_iand hx hb dX1_spread_19 ?_
      refine lv_iconst (v := 1) hx hb dX1_spread_20 (by decide) ?_
      refine lv_icmp_ne (tgt := 51) hx hb dX1_spread_21 (by decide) (fun c_2 => ?_) (fun c_2 => ?_)
      · rw [if_neg c_2] at hM
        refine lv_iinc (v := (x4 + 1)) (lv' := [(4, .int (x4 + 1)), (0, .ref er_a), (2, .int p2), (3, .int x3)]) hx hb dX1_spread_51 hl (k := 3) rfl rfl (by decide) rfl (fun ls hl => ?_)
        refine lv_goto (tgt := 5) hx hb dX1_spread_54 (by decide) ?_
        exact ih x3 (x4 + 1) hM _ _ _ hP hD hS (lv_sub hl [1, 2, 3, 0] rfl)
      · rw [if_pos c_2] at hM
        refine lv_iconst (v := 1) hx hb dX1_spread_24 (by decide) ?_
        refine lv_aload_n hx hb dX1_spread_25 rfl (lv_at hl 0 rfl) ?_
        refine va_get (D := G) (ci := 1) (v := .ref erA_lastAt) (C := RX1) (T := TX1) (N := 14) hx hb hts inX1 hown hK hP 0 rfl rfl 6 (by decide) (hts _ tb68) (fun _ h9 => h9) rfl dX1_spread_26 ?_
        refine lv_iload hx hb dX1_spread_29 (lv_at hl 3 rfl) ?_
        obtain ⟨g_3, hM⟩ := ng hM
        refine va_iald hx hb hK hP 1 0 rfl rfl g_3 dX1_spread_31 ?_
        refine lv_ishl hx hb dX1_spread_32 ?_
        refine lv_iconst (v := 1) hx hb dX1_spread_33 (by decide) ?_
        refine lv_isub hx hb dX1_spread_34 ?_
        refine lv_istore (lv' := [(5, .int (((1 : Int32) <<< ((er_lastAt x4.toNatClampNeg) &&& 31)) - (1 : Int32))), (0, .ref er_a), (2, .int p2), (3, .int x3), (4, .int x4)]) hx hb dX1_spread_35 hl (by decide) rfl (fun ls hl => ?_)
        refine lv_iload_n hx hb dX1_spread_37 rfl (lv_at hl 3 rfl) ?_
        refine lv_iload hx hb dX1_spread_38 (lv_at hl 0 rfl) ?_
        refine lv_iand hx hb dX1_spread_40 ?_
        refine lv_iload_n hx hb dX1_spread_41 rfl (lv_at hl 3 rfl) ?_
        refine lv_iload hx hb dX1_spread_42 (lv_at hl 0 rfl) ?_
        refine lv_iconst (v := (-1)) hx hb dX1_spread_44 (by decide) ?_
        refine lv_ixor hx hb dX1_spread_45 ?_
        refine lv_iand hx hb dX1_spread_46 ?_
        refine lv_iconst (v := 1) hx hb dX1_spread_47 (by decide) ?_
        refine lv_ishl hx hb dX1_spread_48 ?_
        refine lv_ior hx hb dX1_spread_49 ?_
        refine lv_istore_n (lv' := [(3, .int ((x3 &&& (((1 : Int32) <<< ((er_lastAt x4.toNatClampNeg) &&& 31)) - (1 : Int32))) ||| ((x3 &&& ((((1 : Int32) <<< ((er_lastAt x4.toNatClampNeg) &&& 31)) - (1 : Int32)) ^^^ ((-1) : Int32))) <<< ((1 : Int32) &&& 31)))), (5, .int (((1 : Int32) <<< ((er_lastAt x4.toNatClampNeg) &&& 31)) - (1 : Int32))), (0, .ref er_a), (2, .int p2), (4, .int x4)]) hx hb dX1_spread_50 rfl hl (by decide) rfl (fun ls hl => ?_)
        refine lv_iinc (v := (x4 + 1)) (lv' := [(4, .int (x4 + 1)), (3, .int ((x3 &&& (((1 : Int32) <<< ((er_lastAt x4.toNatClampNeg) &&& 31)) - (1 : Int32))) ||| ((x3 &&& ((((1 : Int32) <<< ((er_lastAt x4.toNatClampNeg) &&& 31)) - (1 : Int32)) ^^^ ((-1) : Int32))) <<< ((1 : Int32) &&& 31)))), (5, .int (((1 : Int32) <<< ((er_lastAt x4.toNatClampNeg) &&& 31)) - (1 : Int32))), (0, .ref er_a), (2, .int p2)]) hx hb dX1_spread_51 hl (k := 4) rfl rfl (by decide) rfl (fun ls hl => ?_)
        refine lv_goto (tgt := 5) hx hb dX1_spread_54 (by decide) ?_
        exact ih ((x3 &&& (((1 : Int32) <<< ((er_lastAt x4.toNatClampNeg) &&& 31)) - (1 : Int32))) ||| ((x3 &&& ((((1 : Int32) <<< ((er_lastAt x4.toNatClampNeg) &&& 31)) - (1 : Int32)) ^^^ ((-1) : Int32))) <<< ((1 : Int32) &&& 31))) (x4 + 1) hM _ _ _ hP hD hS (lv_sub hl [3, 4, 1, 0] rfl)
set_option maxHeartbeats 4000000 in
set_option maxRecDepth 100000 in
theorem wX1_spread_b0 {p : Program} {l : Launch} {e : Env} {s : State} {m : MethodId} {args : Array Value} {below : List Frame} {meth : Method} {c : Code} {Q : State → Prop} {G : va_G} {K : Nat → ClassId} {A : Nat → Prop} {tt : Nat → Nat} {L : List Nat} {la : Nat → Nat} {sa : Nat → Nat} {ln : Nat → Int32} {sy : Nat → Int32} {sn : Nat → Int32} {lt : Nat → Nat → Int32} {st : Nat → Nat → Int32} (C0 : CX p s m args c cX1_spread 6 RX1 G K (EC G K tt L la sa ln sy sn lt st) A) (er_a erA_lastAt erA_fees erA_heavy erA_light erA_over : Nat) (er_words : Int32) (er_syllables : Int32) (er_strong : Int32) (er_either : Int32) (er_joins : Int32) (er_singles : Int32) (er_options : Int32) (er_least : Int32) (er_ways : Int32) (er_lastAt : Nat → Int32) (er_fees : Nat → Int32) (er_heavy : Nat → Int32) (er_light : Nat → Int32) (er_over : Nat → Int32) (p1 : Int32) (p2 : Int32) (r : Int32)  (kr : ∀ (H : Heap) (locs : List Loc) (ls : Array Slot) (pc : Nat), decode cX1_spread pc = .ok (.ireturn, 1) → va_P G vwCl (WX1_spread K er_a erA_lastAt erA_fees erA_heavy erA_light erA_over er_words er_syllables er_strong er_either er_joins er_singles er_options er_least er_ways er_lastAt er_fees er_heavy er_light er_over) H → va_D A (WX1_spread K er_a erA_lastAt erA_fees erA_heavy erA_light erA_over er_words er_syllables er_strong er_either er_joins er_singles er_options er_least er_ways er_lastAt er_fees er_heavy er_light er_over) → va_S A s.heap H locs → W p l e rmX1_spread s m args below meth c H locs 0 0 Q (F0 m pc ls [.int r]))  (hM : mX1_spread_b0 er_words er_lastAt p1 p2   = some r) : ∀ (H : Heap) (locs : List Loc) (ls : Array Slot), va_P G vwCl (WX1_spread K er_a erA_lastAt erA_fees erA_heavy erA_light erA_over er_words er_syllables er_strong er_either er_joins er_singles er_options er_least er_ways er_lastAt er_fees er_heavy er_light er_over) H → va_D A (WX1_spread K er_a erA_lastAt erA_fees erA_heavy erA_light erA_over er_words er_syllables er_strong er_either er_joins er_singles er_options er_least er_ways er_lastAt er_fees er_heavy er_light er_over) → va_S A s.heap H locs → lv_has ls 6 [(0, .ref er_a), (1, .int p1), (2, .int p2)] → W p l e rmX1_spread s m args below meth c H locs 0 0 Q (F0 m 0 ls []) := by
  obtain ⟨hx, hb, hml, hown, hts, hK, hA, hEo, hE⟩ := id C0
  intro H locs ls hP hD hS hl
  unfold mX1_spread_b0 at hM
  refine lv_iload_n hx hb dX1_spread_0 rfl (lv_at hl 1 rfl) ?_
  refine lv_istore_n (lv' := [(3, .int p1), (0, .ref er_a), (1, .int p1), (2, .int p2)]) hx hb dX1_spread_1 rfl hl (by decide) rfl (fun ls hl => ?_)
  refine lv_iconst (v := 0) hx hb dX1_spread_2 (by decide) ?_
  refine lv_istore (lv' := [(4, .int (0 : Int32)), (3, .int p1), (0, .ref er_a), (1, .int p1), (2, .int p2)]) hx hb dX1_spread_3 hl (by decide) rfl (fun ls hl => ?_)
  exact wX1_spread_b5 C0 er_a erA_lastAt erA_fees erA_heavy erA_light erA_over er_words er_syllables er_strong er_either er_joins er_singles er_options er_least er_ways er_lastAt er_fees er_heavy er_light er_over p1 p2 r kr  FU p1 (0 : Int32) hM _ _ _ hP hD hS (lv_sub hl [2, 4, 1, 0] rfl)
set_option maxHeartbeats 4000000 in
set_option maxRecDepth 100000 in
theorem kX1_spread (l : Launch) (G : va_G) (K : Nat → ClassId) (tt : Nat → Nat) (L : List Nat) (la : Nat → Nat) (sa : Nat → Nat) (ln : Nat → Int32) (sy : Nat → Int32) (sn : Nat → Int32) (lt : Nat → Nat → Int32) (st : Nat → Nat → Int32) (er_a erA_lastAt erA_fees erA_heavy erA_light erA_over : Nat) (er_words : Int32) (er_syllables : Int32) (er_strong : Int32) (er_either : Int32) (er_joins : Int32) (er_singles : Int32) (er_options : Int32) (er_least : Int32) (er_ways : Int32) (er_lastAt : Nat → Int32) (er_fees : Nat → Int32) (er_heavy : Nat → Int32) (er_light : Nat → Int32) (er_over : Nat → Int32) (p1 : Int32) (p2 : Int32) (sz : Nat) (r : Int32)  (hM : mX1_spread er_words er_lastAt p1 p2 = some r) : Met l yX1_spread (mC yX1_spread cX1_spread 6 (some .int)) rmX1_spread (va_Pc [.ref er_a, .int p1, .int p2] (PCe G K (EC G K tt L la sa ln sy sn lt st) (WX1_spread K er_a erA_lastAt erA_fees erA_heavy erA_light erA_over er_words er_syllables er_strong er_either er_joins er_singles er_options er_least er_ways er_lastAt er_fees er_heavy er_light er_over) sz)) (va_Qi (fun (x : Int32) (_ : Unit) => x = r) (fun _ t => va_P G vwCl (WX1_spread K er_a erA_lastAt erA_fees erA_heavy erA_light erA_over er_words er_syllables er_strong er_either er_joins er_singles er_options er_least er_ways er_lastAt er_fees er_heavy er_light er_over) t.heap) (va_A (WX1_spread K er_a erA_lastAt erA_fees erA_heavy erA_light erA_over er_words er_syllables er_strong er_either er_joins er_singles er_options er_least er_ways er_lastAt er_fees er_heavy er_light er_over) sz)) rmX1_spread.cells rmX1_spread.slots (va_A (WX1_spread K er_a erA_lastAt erA_fees erA_heavy erA_light erA_over er_words er_syllables er_strong er_either er_joins er_singles er_options er_least er_ways er_lastAt er_fees er_heavy er_light er_over) sz) := by
  refine Met.ofW (cc := cX1_spread) (maxL := 6) (ret := (some .int)) (by decide) rfl ?_
  intro p e s m args below meth c s₁ B hml hv
  obtain ⟨rfl, hsz, hP, hK, hD0, hE⟩ := hv
  have hx := B.exec
  have hb := B.bytes
  have hr := B.returns
  have hts0 := atoms_spec (ws := mC yX1_spread cX1_spread 6 (some .int)) B.pre
  have hts : ∀ w ∈ tbG, w.before _ s = true := fun w h => hts0 w (List.mem_cons_of_mem _ h)
  have hown : s.vm.findClass RX1 = some m.cls := findClass_of_methodNamed B.named
  subst hsz
  have hD := hD0.self (sz := s.heap.size)
  generalize hAe : va_A (WX1_spread K er_a erA_lastAt erA_fees erA_heavy erA_light erA_over er_words er_syllables er_strong er_either er_joins er_singles er_options er_least er_ways er_lastAt er_fees er_heavy er_light er_over) s.heap.size = A at hD hE ⊢
  have hA : ∀ q : Nat, s.heap.size ≤ q → A q := fun q h => by rw [← hAe]; exact Or.inr h
  have hS : va_S A s.heap s.heap [] := va_S.rf
  have hl := lv_entry ([.ref er_a, .int p1, .int p2]) (n := 6) (Nat.le_of_ble_eq_true rfl)
  rw [lg_entry_eq]
  generalize (lg_sl ([.ref er_a, .int p1, .int p2]) ++ List.replicate (6 - (lg_sl ([.ref er_a, .int p1, .int p2])).length) Slot.unset).toArray = ls at hl ⊢
  have hl : lv_has ls 6 [(0, .ref er_a), (1, .int p1), (2, .int p2)] := hl
  exact wX1_spread_b0 ⟨hx, hb, hml, hown, hts, hK, hA, EC_ok _ _ _ _ _ _ _ _ _ _ _, hE⟩ er_a erA_lastAt erA_fees erA_heavy erA_light erA_over er_words er_syllables er_strong er_either er_joins er_singles er_options er_least er_ways er_lastAt er_fees er_heavy er_light er_over p1 p2 r (fun H locs ls pc hdg hP hD hS => W.iret (v := r) hx hb hr (fun t ht hW => ⟨⟨r, (), rfl, rfl, (show va_P G vwCl _ t.heap by rw [ht]; exact hP)⟩, hS.F ht⟩) hS.2.2 hdg)   hM _ _ _ hP hD hS hl
abbrev WX1_addOption (K : Nat → ClassId) (er_a erA_lastAt erA_fees erA_heavy erA_light erA_over : Nat) (er_words : Int32) (er_syllables : Int32) (er_strong : Int32) (er_either : Int32) (er_joins : Int32) (er_singles : Int32) (er_options : Int32) (er_least : Int32) (er_ways : Int32) (er_lastAt : Nat → Int32) (er_fees : Nat → Int32) (er_heavy : Nat → Int32) (er_light : Nat → Int32) (er_over : Nat → Int32) : va_W := [(er_a, .inr (1, [.int er_words, .int er_syllables, .int er_strong, .int er_either, .int er_joins, .int er_singles, .ref erA_lastAt, .int er_options, .ref erA_fees, .ref erA_heavy, .ref erA_light, .ref erA_over, .int er_least, .int er_ways])), aI K erA_lastAt 5 er_lastAt, aI K erA_fees 32 er_fees, aI K erA_heavy 32 er_heavy, aI K erA_light 32 er_light, aI K erA_over 32 er_over]
def rmX1_addOption : Room := { frames := 1, cells := 0, slots := 0, locals := 25 }
theorem hdX1_addOption : yX1_addOption.cls = RX1 ∧ yX1_addOption.cls ≠ "java/lang/invoke/MethodHandle" ∧ yX1_addOption.cls ≠ "java/lang/invoke/VarHandle" ∧ (parseMethodDescriptor yX1_addOption.desc).map (fun d => d.parameters.length) = some 5 := by decide +kernel
set_option maxHeartbeats 4000000 in
set_option maxRecDepth 100000 in
theorem wX1_addOption_b0 {p : Program} {l : Launch} {e : Env} {s : State} {m : MethodId} {args : Array Value} {below : List Frame} {meth : Method} {c : Code} {Q : State → Prop} {G : va_G} {K : Nat → ClassId} {A : Nat → Prop} {tt : Nat → Nat} {L : List Nat} {la : Nat → Nat} {sa : Nat → Nat} {ln : Nat → Int32} {sy : Nat → Int32} {sn : Nat → Int32} {lt : Nat → Nat → Int32} {st : Nat → Nat → Int32} (C0 : CX p s m args c cX1_addOption 11 RX1 G K (EC G K tt L la sa ln sy sn lt st) A) (er_a erA_lastAt erA_fees erA_heavy erA_light erA_over : Nat) (er_words : Int32) (er_syllables : Int32) (er_strong : Int32) (er_either : Int32) (er_joins : Int32) (er_singles : Int32) (er_least : Int32) (er_ways : Int32) (er_lastAt : Nat → Int32) (p1 : Int32) (p2 : Int32) (p3 : Int32) (p4 : Int32) (p5 : Int32) (o_er_options : Int32) (o_er_fees : Nat → Int32) (o_er_heavy : Nat → Int32) (o_er_light : Nat → Int32) (o_er_over : Nat → Int32) (kr : ∀ (H : Heap) (locs : List Loc) (ls : Array Slot) (pc : Nat), decode cX1_addOption pc = .ok (.return_, 1) → va_P G vwCl (WX1_addOption K er_a erA_lastAt erA_fees erA_heavy erA_light erA_over er_words er_syllables er_strong er_either er_joins er_singles o_er_options er_least er_ways er_lastAt o_er_fees o_er_heavy o_er_light o_er_over) H → va_D A (WX1_addOption K er_a erA_lastAt erA_fees erA_heavy erA_light erA_over er_words er_syllables er_strong er_either er_joins er_singles o_er_options er_least er_ways er_lastAt o_er_fees o_er_heavy o_er_light o_er_over) → va_S A s.heap H locs → W p l e rmX1_addOption s m args below meth c H locs 0 0 Q (F0 m pc ls [])) (er_options : Int32) (er_fees : Nat → Int32) (er_heavy : Nat → Int32) (er_light : Nat → Int32) (er_over : Nat → Int32) (hM : mX1_addOption_b0 er_words er_syllables er_lastAt p1 p2 p3 p4 p5  er_options er_fees er_heavy er_light er_over = some (o_er_options, o_er_fees, o_er_heavy, o_er_light, o_er_over)) : ∀ (H : Heap) (locs : List Loc) (ls : Array Slot), va_P G vwCl (WX1_addOption K er_a erA_lastAt erA_fees erA_heavy erA_light erA_over er_words er_syllables er_strong er_either er_joins er_singles er_options er_least er_ways er_lastAt er_fees er_heavy er_light er_over) H → va_D A (WX1_addOption K er_a erA_lastAt erA_fees erA_heavy erA_light erA_over er_words er_syllables er_strong er_either er_joins er_singles er_options er_least er_ways er_lastAt er_fees er_heavy er_light er_over) → va_S A s.heap H locs → lv_has ls 11 [(0, .ref er_a), (1, .int p1), (2, .int p2), (3, .int p3), (4, .int p4), (5, .int p5)] → W p l e rmX1_addOption s m args below meth c H locs 0 0 Q (F0 m 0 ls []) := by
  obtain ⟨hx, hb, hml, hown, hts, hK, hA, hEo, hE⟩ := id C0
  intro H locs ls hP hD hS hl
  unfold mX1_addOption_b0 at hM
  refine lv_aload_n hx hb dX1_addOption_0 rfl (lv_at hl 0 rfl) ?_
  refine va_get (D := G) (ci := 1) (v := .int er_syllables) (C := RX1) (T := TX1) (N := 14) hx hb hts inX1 hown hK hP 0 rfl rfl 1 (by decide) (hts _ tb61) (fun _ h9 => h9) rfl dX1_addOption_1 ?_
  refine lv_iload_n hx hb dX1_addOption_4 rfl (lv_at hl 1 rfl) ?_
  obtain ⟨r_1, hC, hM⟩ := oe1 hM
  refine cS_i (As := [.int p1]) (rest := [.int er_syllables]) C0 hP hD hS [] (kJ6_bitCount_0f7a4 l G K tt L la sa ln sy sn lt st p1 H.size r_1 hC) rfl rfl rfl tb585 tb586 tb11 tb587 hdJ6_bitCount_0f7a4 ⟨Nat.le_of_ble_eq_true rfl, Nat.le_of_ble_eq_true rfl⟩ rfl hl.1 (Nat.le_of_ble_eq_true rfl) rfl ⟨Nat.le_refl _, Nat.le_refl _⟩ dX1_addOption_5 (fun H locs hP hD hS => ?_)
  have hP : va_P G vwCl (WX1_addOption K er_a erA_lastAt erA_fees erA_heavy erA_light erA_over er_words er_syllables er_strong er_either er_joins er_singles er_options er_least er_ways er_lastAt er_fees er_heavy er_light er_over) H := hP
  have hD : va_D A (WX1_addOption K er_a erA_lastAt erA_fees erA_heavy erA_light erA_over er_words er_syllables er_strong er_either er_joins er_singles er_options er_least er_ways er_lastAt er_fees er_heavy er_light er_over) := hD
  refine lv_isub hx hb dX1_addOption_8 ?_
  refine lv_istore (lv' := [(6, .int (er_syllables - r_1)), (0, .ref er_a), (1, .int p1), (2, .int p2), (3, .int p3), (4, .int p4), (5, .int p5)]) hx hb dX1_addOption_9 hl (by decide) rfl (fun ls hl => ?_)
  refine lv_iload_n hx hb dX1_addOption_11 rfl (lv_at hl 4 rfl) ?_
  refine va_getsN hx hb (sZ0 hE.2.2.1) hS hown ((nw578 hE.2.2.2).use rfl) (fun _ h9 => h9) dX1_addOption_12 ?_
  refine lv_iload_n hx hb dX1_addOption_15 rfl (lv_at hl 3 rfl) ?_
  obtain ⟨g_2, hM⟩ := ng hM
  refine va_ti hx hb (sV0 hE.2.2.1) hS g_2 rfl dX1_addOption_16 ?_
  refine lv_imul hx hb dX1_addOption_17 ?_
  refine lv_istore (lv' := [(7, .int (p3 * (sT0 p2.toNatClampNeg))), (6, .int (er_syllables - r_1)), (0, .ref er_a), (1, .int p1), (2, .int p2), (3, .int p3), (4, .int p4), (5, .int p5)]) hx hb dX1_addOption_18 hl (by decide) rfl (fun ls hl => ?_)
  refine lv_iload hx hb dX1_addOption_20 (lv_at hl 1 rfl) ?_
  refine lv_iload hx hb dX1_addOption_22 (lv_at hl 0 rfl) ?_
  refine lv_isub hx hb dX1_addOption_24 ?_
  refine lv_istore (lv' := [(8, .int ((er_syllables - r_1) - (p3 * (sT0 p2.toNatClampNeg)))), (7, .int (p3 * (sT0 p2.toNatClampNeg))), (6, .int (er_syllables - r_1)), (0, .ref er_a), (1, .int p1), (2, .int p2), (3, .int p3), (4, .int p4), (5, .int p5)]) hx hb dX1_addOption_25 hl (by decide) rfl (fun ls hl => ?_)
  refine lv_iload hx hb dX1_addOption_27 (lv_at hl 0 rfl) ?_
  refine va_getsN hx hb (sZ3 hE.2.2.1) hS hown ((nw591 hE.2.2.2).use rfl) (fun _ h9 => h9) dX1_addOption_29 ?_
  refine lv_iload_n hx hb dX1_addOption_32 rfl (lv_at hl 5 rfl) ?_
  obtain ⟨g_3, hM⟩ := ng hM
  refine va_ti hx hb (sV3 hE.2.2.1) hS g_3 rfl dX1_addOption_33 ?_
  refine lv_ineg hx hb dX1_addOption_34 ?_
  refine lv_icmp_lt (tgt := 53) hx hb dX1_addOption_35 (by decide) (fun c_4 => ?_) (fun c_4 => ?_)
  · rw [if_pos c_4] at hM
    have t0 := Option.some.inj hM
    obtain ⟨q1, t1⟩ := Prod.mk.inj t0
    obtain ⟨q2, t2⟩ := Prod.mk.inj t1
    obtain ⟨q3, t3⟩ := Prod.mk.inj t2
    obtain ⟨q4, t4⟩ := Prod.mk.inj t3
    subst q1
    subst q2
    subst q3
    subst q4
    subst t4
    exact kr _ _ _ _ dX1_addOption_53 hP hD hS
  · rw [if_neg c_4] at hM
    refine lv_iload hx hb dX1_addOption_38 (lv_at hl 0 rfl) ?_
    refine lv_iconst (v := 2) hx hb dX1_addOption_40 (by decide) ?_
    refine lv_icmp_gt (tgt := 53) hx hb dX1_addOption_41 (by decide) (fun c_5 => ?_) (fun c_5 => ?_)
    · rw [if_pos c_5] at hM
      have t0 := Option.some.inj hM
      obtain ⟨q1, t1⟩ := Prod.mk.inj t0
      obtain ⟨q2, t2⟩ := Prod.mk.inj t1
      obtain ⟨q3, t3⟩ := Prod.mk.inj t2
      obtain ⟨q4, t4⟩ := Prod.mk.inj t3
      subst q1
      subst q2
      subst q3
      subst q4
      subst t4
      exact kr _ _ _ _ dX1_addOption_53 hP hD hS
    · rw [if_neg c_5] at hM
      refine lv_aload_n hx hb dX1_addOption_44 rfl (lv_at hl 3 rfl) ?_
      refine va_get (D := G) (ci := 1) (v := .int er_options) (C := RX1) (T := TX1) (N := 14) hx hb hts inX1 hown hK hP 0 rfl rfl 7 (by decide) (hts _ tb69) (fun _ h9 => h9) rfl dX1_addOption_45 ?_
      refine lv_bipush (v := 32) hx hb dX1_addOption_48 (by decide) ?_
      refine lv_icmp_lt (tgt := 54) hx hb dX1_addOption_50 (by decide) (fun c_6 => ?_) (fun c_6 => ?_)
      · rw [if_pos c_6] at hM
        refine lv_iconst (v := 1) hx hb dX1_addOption_54 (by decide) ?_
        refine lv_iload hx hb dX1_addOption_55 (lv_at hl 2 rfl) ?_
        refine lv_ishl hx hb dX1_addOption_57 ?_
        refine lv_iconst (v := 1) hx hb dX1_addOption_58 (by decide) ?_
        refine lv_isub hx hb dX1_addOption_59 ?_
        refine lv_istore (lv' := [(9, .int (((1 : Int32) <<< ((er_syllables - r_1) &&& 31)) - (1 : Int32))), (8, .int ((er_syllables - r_1) - (p3 * (sT0 p2.toNatClampNeg)))), (7, .int (p3 * (sT0 p2.toNatClampNeg))), (6, .int (er_syllables - r_1)), (0, .ref er_a), (1, .int p1), (2, .int p2), (3, .int p3), (4, .int p4), (5, .int p5)]) hx hb dX1_addOption_60 hl (by decide) rfl (fun ls hl => ?_)
        refine lv_iload hx hb dX1_addOption_62 (lv_at hl 0 rfl) ?_
        refine lv_iconst (v := 1) hx hb dX1_addOption_64 (by decide) ?_
        refine lv_iload hx hb dX1_addOption_65 (lv_at hl 2 rfl) ?_
        refine lv_ishl hx hb dX1_addOption_67 ?_
        refine lv_iconst (v := 1) hx hb dX1_addOption_68 (by decide) ?_
        refine lv_isub hx hb dX1_addOption_69 ?_
        refine lv_iand hx hb dX1_addOption_70 ?_
        refine lv_istore (lv' := [(10, .int ((((1 : Int32) <<< ((er_syllables - r_1) &&& 31)) - (1 : Int32)) &&& (((1 : Int32) <<< ((p3 * (sT0 p2.toNatClampNeg)) &&& 31)) - (1 : Int32)))), (9, .int (((1 : Int32) <<< ((er_syllables - r_1) &&& 31)) - (1 : Int32))), (8, .int ((er_syllables - r_1) - (p3 * (sT0 p2.toNatClampNeg)))), (7, .int (p3 * (sT0 p2.toNatClampNeg))), (6, .int (er_syllables - r_1)), (0, .ref er_a), (1, .int p1), (2, .int p2), (3, .int p3), (4, .int p4), (5, .int p5)]) hx hb dX1_addOption_71 hl (by decide) rfl (fun ls hl => ?_)
        refine lv_aload_n hx hb dX1_addOption_73 rfl (lv_at hl 5 rfl) ?_
        refine va_get (D := G) (ci := 1) (v := .ref erA_fees) (C := RX1) (T := TX1) (N := 14) hx hb hts inX1 hown hK hP 0 rfl rfl 8 (by decide) (hts _ tb70) (fun _ h9 => h9) rfl dX1_addOption_74 ?_
        refine lv_aload_n hx hb dX1_addOption_77 rfl (lv_at hl 5 rfl) ?_
        refine va_get (D := G) (ci := 1) (v := .int er_options) (C := RX1) (T := TX1) (N := 14) hx hb hts inX1 hown hK hP 0 rfl rfl 7 (by decide) (hts _ tb69) (fun _ h9 => h9) rfl dX1_addOption_78 ?_
        refine lv_iload hx hb dX1_addOption_81 (lv_at hl 10 rfl) ?_
        refine lv_iload_n hx hb dX1_addOption_83 rfl (lv_at hl 6 rfl) ?_
        obtain ⟨r_7, hC, hM⟩ := oe1 hM
        refine cS_i (As := [.int p1]) (rest := [.int p5, .int er_options, .ref erA_fees]) C0 hP hD hS [] (kJ6_bitCount_0f7a4 l G K tt L la sa ln sy sn lt st p1 H.size r_7 hC) rfl rfl rfl tb585 tb586 tb11 tb587 hdJ6_bitCount_0f7a4 ⟨Nat.le_of_ble_eq_true rfl, Nat.le_of_ble_eq_true rfl⟩ rfl hl.1 (Nat.le_of_ble_eq_true rfl) rfl ⟨Nat.le_refl _, Nat.le_refl _⟩ dX1_addOption_84 (fun H locs hP hD hS => ?_)
        have hP : va_P G vwCl (WX1_addOption K er_a erA_lastAt erA_fees erA_heavy erA_light erA_over er_words er_syllables er_strong er_either er_joins er_singles er_options er_least er_ways er_lastAt er_fees er_heavy er_light er_over) H := hP
        have hD : va_D A (WX1_addOption K er_a erA_lastAt erA_fees erA_heavy erA_light erA_over er_words er_syllables er_strong er_either er_joins er_singles er_options er_least er_ways er_lastAt er_fees er_heavy er_light er_over) := hD
        refine lv_iadd hx hb dX1_addOption_87 ?_
        refine lv_iload hx hb dX1_addOption_88 (lv_at hl 2 rfl) ?_
        refine va_mabs hx hb (hml.trans hl.1.symm) hown (hts _ tb593) (hts _ tb475) (hts _ tb5) (hts _ tb476) (Nat.le_of_ble_eq_true rfl) (Nat.le_of_ble_eq_true rfl) (Nat.zero_le _) (Nat.zero_le _) dX1_addOption_90 ?_
        refine lv_iadd hx hb dX1_addOption_93 ?_
        obtain ⟨g_8, hM⟩ := ng hM
        refine va_iast hx hb hK hP hD hS 2 0 rfl rfl g_8 dX1_addOption_94 (fun H locs hP hD hS => ?_)
        have hP : va_P G vwCl (WX1_addOption K er_a erA_lastAt erA_fees erA_heavy erA_light erA_over er_words er_syllables er_strong er_either er_joins er_singles er_options er_least er_ways er_lastAt (upd er_fees er_options.toNatClampNeg ((p5 + r_7) + (if 0 ≤ ((er_syllables - r_1) - (p3 * (sT0 p2.toNatClampNeg))) then ((er_syllables - r_1) - (p3 * (sT0 p2.toNatClampNeg))) else 0 - ((er_syllables - r_1) - (p3 * (sT0 p2.toNatClampNeg)))))) er_heavy er_light er_over) H := hP
        have hD : va_D A (WX1_addOption K er_a erA_lastAt erA_fees erA_heavy erA_light erA_over er_words er_syllables er_strong er_either er_joins er_singles er_options er_least er_ways er_lastAt (upd er_fees er_options.toNatClampNeg ((p5 + r_7) + (if 0 ≤ ((er_syllables - r_1) - (p3 * (sT0 p2.toNatClampNeg))) then ((er_syllables - r_1) - (p3 * (sT0 p2.toNatClampNeg))) else 0 - ((er_syllables - r_1) - (p3 * (sT0 p2.toNatClampNeg)))))) er_heavy er_light er_over) := hD
        refine lv_aload_n hx hb dX1_addOption_95 rfl (lv_at hl 5 rfl) ?_
        refine va_get (D := G) (ci := 1) (v := .ref erA_heavy) (C := RX1) (T := TX1) (N := 14) hx hb hts inX1 hown hK hP 0 rfl rfl 9 (by decide) (hts _ tb71) (fun _ h9 => h9) rfl dX1_addOption_96 ?_
        refine lv_aload_n hx hb dX1_addOption_99 rfl (lv_at hl 5 rfl) ?_
        refine va_get (D := G) (ci := 1) (v := .int er_options) (C := RX1) (T := TX1) (N := 14) hx hb hts inX1 hown hK hP 0 rfl rfl 7 (by decide) (hts _ tb69) (fun _ h9 => h9) rfl dX1_addOption_100 ?_
        refine lv_aload_n hx hb dX1_addOption_103 rfl (lv_at hl 5 rfl) ?_
        refine lv_iload hx hb dX1_addOption_104 (lv_at hl 0 rfl) ?_
        refine lv_iload hx hb dX1_addOption_106 (lv_at hl 9 rfl) ?_
        refine lv_iand hx hb dX1_addOption_108 ?_
        refine lv_iload_n hx hb dX1_addOption_109 rfl (lv_at hl 6 rfl) ?_
        obtain ⟨r_9, hC, hM⟩ := oe1 hM
        refine cV_i (As := [.int (((((1 : Int32) <<< ((er_syllables - r_1) &&& 31)) - (1 : Int32)) &&& (((1 : Int32) <<< ((p3 * (sT0 p2.toNatClampNeg)) &&& 31)) - (1 : Int32))) &&& p4), .int p1]) (rest := [.int er_options, .ref erA_heavy]) C0 hP hD hS [0, 1, 2, 3, 4, 5] (kX1_spread l G K tt L la sa ln sy sn lt st er_a erA_lastAt erA_fees erA_heavy erA_light erA_over er_words er_syllables er_strong er_either er_joins er_singles er_options er_least er_ways er_lastAt (upd er_fees er_options.toNatClampNeg ((p5 + r_7) + (if 0 ≤ ((er_syllables - r_1) - (p3 * (sT0 p2.toNatClampNeg))) then ((er_syllables - r_1) - (p3 * (sT0 p2.toNatClampNeg))) else 0 - ((er_syllables - r_1) - (p3 * (sT0 p2.toNatClampNeg)))))) er_heavy er_light er_over (((((1 : Int32) <<< ((er_syllables - r_1) &&& 31)) - (1 : Int32)) &&& (((1 : Int32) <<< ((p3 * (sT0 p2.toNatClampNeg)) &&& 31)) - (1 : Int32))) &&& p4) p1 H.size r_9 hC) rfl rfl rfl tb594 tb595 tb596 tb3 tb597 hdX1_spread (va_recv hK hP (ci := 1) (q0 := 0) rfl rfl) ⟨Nat.le_of_ble_eq_true rfl, Nat.le_of_ble_eq_true rfl⟩ rfl hl.1 (Nat.le_of_ble_eq_true rfl) rfl ⟨Nat.le_refl _, Nat.le_refl _⟩ dX1_addOption_110 (fun H locs hP hD hS => ?_)
        have hP : va_P G vwCl (WX1_addOption K er_a erA_lastAt erA_fees erA_heavy erA_light erA_over er_words er_syllables er_strong er_either er_joins er_singles er_options er_least er_ways er_lastAt (upd er_fees er_options.toNatClampNeg ((p5 + r_7) + (if 0 ≤ ((er_syllables - r_1) - (p3 * (sT0 p2.toNatClampNeg))) then ((er_syllables - r_1) - (p3 * (sT0 p2.toNatClampNeg))) else 0 - ((er_syllables - r_1) - (p3 * (sT0 p2.toNatClampNeg)))))) er_heavy er_light er_over) H := hP
        have hD : va_D A (WX1_addOption K er_a erA_lastAt erA_fees erA_heavy erA_light erA_over er_words er_syllables er_strong er_either er_joins er_singles er_options er_least er_ways er_lastAt (upd er_fees er_options.toNatClampNeg ((p5 + r_7) + (if 0 ≤ ((er_syllables - r_1) - (p3 * (sT0 p2.toNatClampNeg))) then ((er_syllables - r_1) - (p3 * (sT0 p2.toNatClampNeg))) else 0 - ((er_syllables - r_1) - (p3 * (sT0 p2.toNatClampNeg)))))) er_heavy er_light er_over) := hD
        obtain ⟨g_10, hM⟩ := ng hM
        refine va_iast hx hb hK hP hD hS 3 0 rfl rfl g_10 dX1_addOption_113 (fun H locs hP hD hS => ?_)
        have hP : va_P G vwCl (WX1_addOption K er_a erA_lastAt erA_fees erA_heavy erA_light erA_over er_words er_syllables er_strong er_either er_joins er_singles er_options er_least er_ways er_lastAt (upd er_fees er_options.toNatClampNeg ((p5 + r_7) + (if 0 ≤ ((er_syllables - r_1) - (p3 * (sT0 p2.toNatClampNeg))) then ((er_syllables - r_1) - (p3 * (sT0 p2.toNatClampNeg))) else 0 - ((er_syllables - r_1) - (p3 * (sT0 p2.toNatClampNeg)))))) (upd er_heavy er_options.toNatClampNeg r_9) er_light er_over) H := hP
        have hD : va_D A (WX1_addOption K er_a erA_lastAt erA_fees erA_heavy erA_light erA_over er_words er_syllables er_strong er_either er_joins er_singles er_options er_least er_ways er_lastAt (upd er_fees er_options.toNatClampNeg ((p5 + r_7) + (if 0 ≤ ((er_syllables - r_1) - (p3 * (sT0 p2.toNatClampNeg))) then ((er_syllables - r_1) - (p3 * (sT0 p2.toNatClampNeg))) else 0 - ((er_syllables - r_1) - (p3 * (sT0 p2.toNatClampNeg)))))) (upd er_heavy er_options.toNatClampNeg r_9) er_light er_over) := hD
        refine lv_aload_n hx hb dX1_addOption_114 rfl (lv_at hl 5 rfl) ?_
        refine va_get (D := G) (ci := 1) (v := .ref erA_light) (C := RX1) (T := TX1) (N := 14) hx hb hts inX1 hown hK hP 0 rfl rfl 10 (by decide) (hts _ tb72) (fun _ h9 => h9) rfl dX1_addOption_115 ?_
        refine lv_aload_n hx hb dX1_addOption_118 rfl (lv_at hl 5 rfl) ?_
        refine va_get (D := G) (ci := 1) (v := .int er_options) (C := RX1) (T := TX1) (N := 14) hx hb hts inX1 hown hK hP 0 rfl rfl 7 (by decide) (hts _ tb69) (fun _ h9 => h9) rfl dX1_addOption_119 ?_
        refine lv_aload_n hx hb dX1_addOption_122 rfl (lv_at hl 5 rfl) ?_
        refine lv_iload hx hb dX1_addOption_123 (lv_at hl 0 rfl) ?_
        refine lv_iload hx hb dX1_addOption_125 (lv_at hl 9 rfl) ?_
        refine lv_iconst (v := (-1)) hx hb dX1_addOption_127 (by decide) ?_
        refine lv_ixor hx hb dX1_addOption_128 ?_
        refine lv_iand hx hb dX1_addOption_129 ?_
        refine lv_iload_n hx hb dX1_addOption_130 rfl (lv_at hl 6 rfl) ?_
        obtain ⟨r_11, hC, hM⟩ := oe1 hM
        refine cV_i (As := [.int (((((1 : Int32) <<< ((er_syllables - r_1) &&& 31)) - (1 : Int32)) &&& (((1 : Int32) <<< ((p3 * (sT0 p2.toNatClampNeg)) &&& 31)) - (1 : Int32))) &&& (p4 ^^^ ((-1) : Int32))), .int p1]) (rest := [.int er_options, .ref erA_light]) C0 hP hD hS [0, 1, 2, 3, 4, 5] (kX1_spread l G K tt L la sa ln sy sn lt st er_a erA_lastAt erA_fees erA_heavy erA_light erA_over er_words er_syllables er_strong er_either er_joins er_singles er_options er_least er_ways er_lastAt (upd er_fees er_options.toNatClampNeg ((p5 + r_7) + (if 0 ≤ ((er_syllables - r_1) - (p3 * (sT0 p2.toNatClampNeg))) then ((er_syllables - r_1) - (p3 * (sT0 p2.toNatClampNeg))) else 0 - ((er_syllables - r_1) - (p3 * (sT0 p2.toNatClampNeg)))))) (upd er_heavy er_options.toNatClampNeg r_9) er_light er_over (((((1 : Int32) <<< ((er_syllables - r_1) &&& 31)) - (1 : Int32)) &&& (((1 : Int32) <<< ((p3 * (sT0 p2.toNatClampNeg)) &&& 31)) - (1 : Int32))) &&& (p4 ^^^ ((-1) : Int32))) p1 H.size r_11 hC) rfl rfl rfl tb594 tb595 tb596 tb3 tb597 hdX1_spread (va_recv hK hP (ci := 1) (q0 := 0) rfl rfl) ⟨Nat.le_of_ble_eq_true rfl, Nat.le_of_ble_eq_true rfl⟩ rfl hl.1 (Nat.le_of_ble_eq_true rfl) rfl ⟨Nat.le_refl _, Nat.le_refl _⟩ dX1_addOption_131 (fun H locs hP hD hS => ?_)
        have hP : va_P G vwCl (WX1_addOption K er_a erA_lastAt erA_fees erA_heavy erA_light erA_over er_words er_syllables er_strong er_either er_joins er_singles er_options er_least er_ways er_lastAt (upd er_fees er_options.toNatClampNeg ((p5 + r_7) + (if 0 ≤ ((er_syllables - r_1) - (p3 * (sT0 p2.toNatClampNeg))) then ((er_syllables - r_1) - (p3 * (sT0 p2.toNatClampNeg))) else 0 - ((er_syllables - r_1) - (p3 * (sT0 p2.toNatClampNeg)))))) (upd er_heavy er_options.toNatClampNeg r_9) er_light er_over) H := hP
        have hD : va_D A (WX1_addOption K er_a erA_lastAt erA_fees erA_heavy erA_light erA_over er_words er_syllables er_strong er_either er_joins er_singles er_options er_least er_ways er_lastAt (upd er_fees er_options.toNatClampNeg ((p5 + r_7) + (if 0 ≤ ((er_syllables - r_1) - (p3 * (sT0 p2.toNatClampNeg))) then ((er_syllables - r_1) - (p3 * (sT0 p2.toNatClampNeg))) else 0 - ((er_syllables - r_1) - (p3 * (sT0 p2.toNatClampNeg)))))) (upd er_heavy er_options.toNatClampNeg r_9) er_light er_over) := hD
        obtain ⟨g_12, hM⟩ := ng hM
        refine va_iast hx hb hK hP hD hS 4 0 rfl rfl g_12 dX1_addOption_134 (fun H locs hP hD hS => ?_)
        have hP : va_P G vwCl (WX1_addOption K er_a erA_lastAt erA_fees erA_heavy erA_light erA_over er_words er_syllables er_strong er_either er_joins er_singles er_options er_least er_ways er_lastAt (upd er_fees er_options.toNatClampNeg ((p5 + r_7) + (if 0 ≤ ((er_syllables - r_1) - (p3 * (sT0 p2.toNatClampNeg))) then ((er_syllables - r_1) - (p3 * (sT0 p2.toNatClampNeg))) else 0 - ((er_syllables - r_1) - (p3 * (sT0 p2.toNatClampNeg)))))) (upd er_heavy er_options.toNatClampNeg r_9) (upd er_light er_options.toNatClampNeg r_11) er_over) H := hP
        have hD : va_D A (WX1_addOption K er_a erA_lastAt erA_fees erA_heavy erA_light erA_over er_words er_syllables er_strong er_either er_joins er_singles er_options er_least er_ways er_lastAt (upd er_fees er_options.toNatClampNeg ((p5 + r_7) + (if 0 ≤ ((er_syllables - r_1) - (p3 * (sT0 p2.toNatClampNeg))) then ((er_syllables - r_1) - (p3 * (sT0 p2.toNatClampNeg))) else 0 - ((er_syllables - r_1) - (p3 * (sT0 p2.toNatClampNeg)))))) (upd er_heavy er_options.toNatClampNeg r_9) (upd er_light er_options.toNatClampNeg r_11) er_over) := hD
        refine lv_aload_n hx hb dX1_addOption_135 rfl (lv_at hl 5 rfl) ?_
        refine va_get (D := G) (ci := 1) (v := .ref erA_over) (C := RX1) (T := TX1) (N := 14) hx hb hts inX1 hown hK hP 0 rfl rfl 11 (by decide) (hts _ tb73) (fun _ h9 => h9) rfl dX1_addOption_136 ?_
        refine lv_aload_n hx hb dX1_addOption_139 rfl (lv_at hl 5 rfl) ?_
        refine va_get (D := G) (ci := 1) (v := .int er_options) (C := RX1) (T := TX1) (N := 14) hx hb hts inX1 hown hK hP 0 rfl rfl 7 (by decide) (hts _ tb69) (fun _ h9 => h9) rfl dX1_addOption_140 ?_
        refine lv_aload_n hx hb dX1_addOption_143 rfl (lv_at hl 5 rfl) ?_
        refine lv_iload hx hb dX1_addOption_144 (lv_at hl 1 rfl) ?_
        refine lv_iload hx hb dX1_addOption_146 (lv_at hl 0 rfl) ?_
        refine lv_iconst (v := (-1)) hx hb dX1_addOption_148 (by decide) ?_
        refine lv_ixor hx hb dX1_addOption_149 ?_
        refine lv_iand hx hb dX1_addOption_150 ?_
        refine lv_iload_n hx hb dX1_addOption_151 rfl (lv_at hl 6 rfl) ?_
        obtain ⟨r_13, hC, hM⟩ := oe1 hM
        refine cV_i (As := [.int ((((1 : Int32) <<< ((er_syllables - r_1) &&& 31)) - (1 : Int32)) &&& (((((1 : Int32) <<< ((er_syllables - r_1) &&& 31)) - (1 : Int32)) &&& (((1 : Int32) <<< ((p3 * (sT0 p2.toNatClampNeg)) &&& 31)) - (1 : Int32))) ^^^ ((-1) : Int32))), .int p1]) (rest := [.int er_options, .ref erA_over]) C0 hP hD hS [0, 1, 2, 3, 4, 5] (kX1_spread l G K tt L la sa ln sy sn lt st er_a erA_lastAt erA_fees erA_heavy erA_light erA_over er_words er_syllables er_strong er_either er_joins er_singles er_options er_least er_ways er_lastAt (upd er_fees er_options.toNatClampNeg ((p5 + r_7) + (if 0 ≤ ((er_syllables - r_1) - (p3 * (sT0 p2.toNatClampNeg))) then ((er_syllables - r_1) - (p3 * (sT0 p2.toNatClampNeg))) else 0 - ((er_syllables - r_1) - (p3 * (sT0 p2.toNatClampNeg)))))) (upd er_heavy er_options.toNatClampNeg r_9) (upd er_light er_options.toNatClampNeg r_11) er_over ((((1 : Int32) <<< ((er_syllables - r_1) &&& 31)) - (1 : Int32)) &&& (((((1 : Int32) <<< ((er_syllables - r_1) &&& 31)) - (1 : Int32)) &&& (((1 : Int32) <<< ((p3 * (sT0 p2.toNatClampNeg)) &&& 31)) - (1 : Int32))) ^^^ ((-1) : Int32))) p1 H.size r_13 hC) rfl rfl rfl tb594 tb595 tb596 tb3 tb597 hdX1_spread (va_recv hK hP (ci := 1) (q0 := 0) rfl rfl) ⟨Nat.le_of_ble_eq_true rfl, Nat.le_of_ble_eq_true rfl⟩ rfl hl.1 (Nat.le_of_ble_eq_true rfl) rfl ⟨Nat.le_refl _, Nat.le_refl _⟩ dX1_addOption_152 (fun H locs hP hD hS => ?_)
        have hP : va_P G vwCl (WX1_addOption K er_a erA_lastAt erA_fees erA_heavy erA_light erA_over er_words er_syllables er_strong er_either er_joins er_singles er_options er_least er_ways er_lastAt (upd er_fees er_options.toNatClampNeg ((p5 + r_7) + (if 0 ≤ ((er_syllables - r_1) - (p3 * (sT0 p2.toNatClampNeg))) then ((er_syllables - r_1) - (p3 * (sT0 p2.toNatClampNeg))) else 0 - ((er_syllables - r_1) - (p3 * (sT0 p2.toNatClampNeg)))))) (upd er_heavy er_options.toNatClampNeg r_9) (upd er_light er_options.toNatClampNeg r_11) er_over) H := hP
        have hD : va_D A (WX1_addOption K er_a erA_lastAt erA_fees erA_heavy erA_light erA_over er_words er_syllables er_strong er_either er_joins er_singles er_options er_least er_ways er_lastAt (upd er_fees er_options.toNatClampNeg ((p5 + r_7) + (if 0 ≤ ((er_syllables - r_1) - (p3 * (sT0 p2.toNatClampNeg))) then ((er_syllables - r_1) - (p3 * (sT0 p2.toNatClampNeg))) else 0 - ((er_syllables - r_1) - (p3 * (sT0 p2.toNatClampNeg)))))) (upd er_heavy er_options.toNatClampNeg r_9) (upd er_light er_options.toNatClampNeg r_11) er_over) := hD
        obtain ⟨g_14, hM⟩ := ng hM
        refine va_iast hx hb hK hP hD hS 5 0 rfl rfl g_14 dX1_addOption_155 (fun H locs hP hD hS => ?_)
        have hP : va_P G vwCl (WX1_addOption K er_a erA_lastAt erA_fees erA_heavy erA_light erA_over er_words er_syllables er_strong er_either er_joins er_singles er_options er_least er_ways er_lastAt (upd er_fees er_options.toNatClampNeg ((p5 + r_7) + (if 0 ≤ ((er_syllables - r_1) - (p3 * (sT0 p2.toNatClampNeg))) then ((er_syllables - r_1) - (p3 * (sT0 p2.toNatClampNeg))) else 0 - ((er_syllables - r_1) - (p3 * (sT0 p2.toNatClampNeg)))))) (upd er_heavy er_options.toNatClampNeg r_9) (upd er_light er_options.toNatClampNeg r_11) (upd er_over er_options.toNatClampNeg r_13)) H := hP
        have hD : va_D A (WX1_addOption K er_a erA_lastAt erA_fees erA_heavy erA_light erA_over er_words er_syllables er_strong er_either er_joins er_singles er_options er_least er_ways er_lastAt (upd er_fees er_options.toNatClampNeg ((p5 + r_7) + (if 0 ≤ ((er_syllables - r_1) - (p3 * (sT0 p2.toNatClampNeg))) then ((er_syllables - r_1) - (p3 * (sT0 p2.toNatClampNeg))) else 0 - ((er_syllables - r_1) - (p3 * (sT0 p2.toNatClampNeg)))))) (upd er_heavy er_options.toNatClampNeg r_9) (upd er_light er_options.toNatClampNeg r_11) (upd er_over er_options.toNatClampNeg r_13)) := hD
        refine lv_aload_n hx hb dX1_addOption_156 rfl (lv_at hl 5 rfl) ?_
        refine lv_dup hx hb dX1_addOption_157 rfl ?_
        refine va_get (D := G) (ci := 1) (v := .int er_options) (C := RX1) (T := TX1) (N := 14) hx hb hts inX1 hown hK hP 0 rfl rfl 7 (by decide) (hts _ tb69) (fun _ h9 => h9) rfl dX1_addOption_158 ?_
        refine lv_iconst (v := 1) hx hb dX1_addOption_161 (by decide) ?_
        refine lv_iadd hx hb dX1_addOption_162 ?_
        refine va_put (D := G) (ci := 1) (v := .int (er_options + (1 : Int32))) (ty := .int) (C := RX1) (T := TX1) (N := 14) hx hb hts inX1 tyX1 tyX1_ok nmX1 hown hK hP hD hS 0 rfl rfl 7 (by decide) (hts _ tb69) (fun _ h9 => h9) rfl (tyX1_ok 7 (by decide)) rfl rfl (Nat.le_of_ble_eq_true rfl) dX1_addOption_163 (fun H locs hP hD hS => ?_)
        have hP : va_P G vwCl (WX1_addOption K er_a erA_lastAt erA_fees erA_heavy erA_light erA_over er_words er_syllables er_strong er_either er_joins er_singles (er_options + (1 : Int32)) er_least er_ways er_lastAt (upd er_fees er_options.toNatClampNeg ((p5 + r_7) + (if 0 ≤ ((er_syllables - r_1) - (p3 * (sT0 p2.toNatClampNeg))) then ((er_syllables - r_1) - (p3 * (sT0 p2.toNatClampNeg))) else 0 - ((er_syllables - r_1) - (p3 * (sT0 p2.toNatClampNeg)))))) (upd er_heavy er_options.toNatClampNeg r_9) (upd er_light er_options.toNatClampNeg r_11) (upd er_over er_options.toNatClampNeg r_13)) H := hP
        have hD : va_D A (WX1_addOption K er_a erA_lastAt erA_fees erA_heavy erA_light erA_over er_words er_syllables er_strong er_either er_joins er_singles (er_options + (1 : Int32)) er_least er_ways er_lastAt (upd er_fees er_options.toNatClampNeg ((p5 + r_7) + (if 0 ≤ ((er_syllables - r_1) - (p3 * (sT0 p2.toNatClampNeg))) then ((er_syllables - r_1) - (p3 * (sT0 p2.toNatClampNeg))) else 0 - ((er_syllables - r_1) - (p3 * (sT0 p2.toNatClampNeg)))))) (upd er_heavy er_options.toNatClampNeg r_9) (upd er_light er_options.toNatClampNeg r_11) (upd er_over er_options.toNatClampNeg r_13)) := hD
        have t0 := Option.some.inj hM
        obtain ⟨q1, t1⟩ := Prod.mk.inj t0
        obtain ⟨q2, t2⟩ := Prod.mk.inj t1
        obtain ⟨q3, t3⟩ := Prod.mk.inj t2
        obtain ⟨q4, t4⟩ := Prod.mk.inj t3
        subst q1
        subst q2
        subst q3
        subst q4
        subst t4
        exact kr _ _ _ _ dX1_addOption_166 hP hD hS
      · rw [if_neg c_6] at hM
        have t0 := Option.some.inj hM
        obtain ⟨q1, t1⟩ := Prod.mk.inj t0
        obtain ⟨q2, t2⟩ := Prod.mk.inj t1
        obtain ⟨q3, t3⟩ := Prod.mk.inj t2
        obtain ⟨q4, t4⟩ := Prod.mk.inj t3
        subst q1
        subst q2
        subst q3
        subst q4
        subst t4
        exact kr _ _ _ _ dX1_addOption_53 hP hD hS
set_option maxHeartbeats 4000000 in
set_option maxRecDepth 100000 in
theorem kX1_addOption (l : Launch) (G : va_G) (K : Nat → ClassId) (tt : Nat → Nat) (L : List Nat) (la : Nat → Nat) (sa : Nat → Nat) (ln : Nat → Int32) (sy : Nat → Int32) (sn : Nat → Int32) (lt : Nat → Nat → Int32) (st : Nat → Nat → Int32) (er_a erA_lastAt erA_fees erA_heavy erA_light erA_over : Nat) (er_words : Int32) (er_syllables : Int32) (er_strong : Int32) (er_either : Int32) (er_joins : Int32) (er_singles : Int32) (er_options : Int32) (er_least : Int32) (er_ways : Int32) (er_lastAt : Nat → Int32) (er_fees : Nat → Int32) (er_heavy : Nat → Int32) (er_light : Nat → Int32) (er_over : Nat → Int32) (p1 : Int32) (p2 : Int32) (p3 : Int32) (p4 : Int32) (p5 : Int32) (sz : Nat) (o_er_options : Int32) (o_er_fees : Nat → Int32) (o_er_heavy : Nat → Int32) (o_er_light : Nat → Int32) (o_er_over : Nat → Int32) (hM : mX1_addOption er_words er_syllables er_lastAt er_options er_fees er_heavy er_light er_over p1 p2 p3 p4 p5 = some (o_er_options, o_er_fees, o_er_heavy, o_er_light, o_er_over)) : Met l yX1_addOption (mC yX1_addOption cX1_addOption 11 none) rmX1_addOption (va_Pc [.ref er_a, .int p1, .int p2, .int p3, .int p4, .int p5] (PCe G K (EC G K tt L la sa ln sy sn lt st) (WX1_addOption K er_a erA_lastAt erA_fees erA_heavy erA_light erA_over er_words er_syllables er_strong er_either er_joins er_singles er_options er_least er_ways er_lastAt er_fees er_heavy er_light er_over) sz)) (va_Qv (fun (_ : Unit) => True) (fun _ t => va_P G vwCl (WX1_addOption K er_a erA_lastAt erA_fees erA_heavy erA_light erA_over er_words er_syllables er_strong er_either er_joins er_singles o_er_options er_least er_ways er_lastAt o_er_fees o_er_heavy o_er_light o_er_over) t.heap) (va_A (WX1_addOption K er_a erA_lastAt erA_fees erA_heavy erA_light erA_over er_words er_syllables er_strong er_either er_joins er_singles er_options er_least er_ways er_lastAt er_fees er_heavy er_light er_over) sz)) rmX1_addOption.cells rmX1_addOption.slots (va_A (WX1_addOption K er_a erA_lastAt erA_fees erA_heavy erA_light erA_over er_words er_syllables er_strong er_either er_joins er_singles er_options er_least er_ways er_lastAt er_fees er_heavy er_light er_over) sz) := by
  refine Met.ofW (cc := cX1_addOption) (maxL := 11) (ret := none) (by decide) rfl ?_
  intro p e s m args below meth c s₁ B hml hv
  obtain ⟨rfl, hsz, hP, hK, hD0, hE⟩ := hv
  have hx := B.exec
  have hb := B.bytes
  have hr := B.returns
  have hts0 := atoms_spec (ws := mC yX1_addOption cX1_addOption 11 none) B.pre
  have hts : ∀ w ∈ tbG, w.before _ s = true := fun w h => hts0 w (List.mem_cons_of_mem _ h)
  have hown : s.vm.findClass RX1 = some m.cls := findClass_of_methodNamed B.named
  subst hsz
  have hD := hD0.self (sz := s.heap.size)
  generalize hAe : va_A (WX1_addOption K er_a erA_lastAt erA_fees erA_heavy erA_light erA_over er_words er_syllables er_strong er_either er_joins er_singles er_options er_least er_ways er_lastAt er_fees er_heavy er_light er_over) s.heap.size = A at hD hE ⊢
  have hA : ∀ q : Nat, s.heap.size ≤ q → A q := fun q h => by rw [← hAe]; exact Or.inr h
  have hS : va_S A s.heap s.heap [] := va_S.rf
  have hl := lv_entry ([.ref er_a, .int p1, .int p2, .int p3, .int p4, .int p5]) (n := 11) (Nat.le_of_ble_eq_true rfl)
  rw [lg_entry_eq]
  generalize (lg_sl ([.ref er_a, .int p1, .int p2, .int p3, .int p4, .int p5]) ++ List.replicate (11 - (lg_sl ([.ref er_a, .int p1, .int p2, .int p3, .int p4, .int p5])).length) Slot.unset).toArray = ls at hl ⊢
  have hl : lv_has ls 11 [(0, .ref er_a), (1, .int p1), (2, .int p2), (3, .int p3), (4, .int p4), (5, .int p5)] := hl
  exact wX1_addOption_b0 ⟨hx, hb, hml, hown, hts, hK, hA, EC_ok _ _ _ _ _ _ _ _ _ _ _, hE⟩ er_a erA_lastAt erA_fees erA_heavy erA_light erA_over er_words er_syllables er_strong er_either er_joins er_singles er_least er_ways er_lastAt p1 p2 p3 p4 p5 o_er_options o_er_fees o_er_heavy o_er_light o_er_over (fun H locs ls pc hdg hP hD hS => W.vret hx hb hr (fun t ht hW => ⟨⟨(), rfl, trivial, (show va_P G vwCl _ t.heap by rw [ht]; exact hP)⟩, hS.F ht⟩) hS.2.2 hdg) er_options er_fees er_heavy er_light er_over  hM _ _ _ hP hD hS hl
abbrev WX1_fit (K : Nat → ClassId) (er_a erA_lastAt erA_fees erA_heavy erA_light erA_over : Nat) (er_words : Int32) (er_syllables : Int32) (er_strong : Int32) (er_either : Int32) (er_joins : Int32) (er_singles : Int32) (er_options : Int32) (er_least : Int32) (er_ways : Int32) (er_lastAt : Nat → Int32) (er_fees : Nat → Int32) (er_heavy : Nat → Int32) (er_light : Nat → Int32) (er_over : Nat → Int32) : va_W := [(er_a, .inr (1, [.int er_words, .int er_syllables, .int er_strong, .int er_either, .int er_joins, .int er_singles, .ref erA_lastAt, .int er_options, .ref erA_fees, .ref erA_heavy, .ref erA_light, .ref erA_over, .int er_least, .int er_ways])), aI K erA_lastAt 5 er_lastAt, aI K erA_fees 32 er_fees, aI K erA_heavy 32 er_heavy, aI K erA_light 32 er_light, aI K erA_over 32 er_over]
def rmX1_fit : Room := { frames := 2, cells := 0, slots := 0, locals := 55 }
theorem hdX1_fit : yX1_fit.cls = RX1 ∧ yX1_fit.cls ≠ "java/lang/invoke/MethodHandle" ∧ yX1_fit.cls ≠ "java/lang/invoke/VarHandle" ∧ (parseMethodDescriptor yX1_fit.desc).map (fun d => d.parameters.length) = some 2 := by decide +kernel
set_option maxHeartbeats 4000000 in
set_option maxRecDepth 100000 in
theorem wX1_fit_b67 {p : Program} {l : Launch} {e : Env} {s : State} {m : MethodId} {args : Array Value} {below : List Frame} {meth : Method} {c : Code} {Q : State → Prop} {G : va_G} {K : Nat → ClassId} {A : Nat → Prop} {tt : Nat → Nat} {L : List Nat} {la : Nat → Nat} {sa : Nat → Nat} {ln : Nat → Int32} {sy : Nat → Int32} {sn : Nat → Int32} {lt : Nat → Nat → Int32} {st : Nat → Nat → Int32} (C0 : CX p s m args c cX1_fit 7 RX1 G K (EC G K tt L la sa ln sy sn lt st) A) (er_a erA_lastAt erA_fees erA_heavy erA_light erA_over : Nat) (er_words : Int32) (er_syllables : Int32) (er_strong : Int32) (er_either : Int32) (er_joins : Int32) (er_singles : Int32) (er_least : Int32) (er_ways : Int32) (er_lastAt : Nat → Int32) (p1 : Int32) (p2 : Int32) (o_er_options : Int32) (o_er_fees : Nat → Int32) (o_er_heavy : Nat → Int32) (o_er_light : Nat → Int32) (o_er_over : Nat → Int32) (kr : ∀ (H : Heap) (locs : List Loc) (ls : Array Slot) (pc : Nat), decode cX1_fit pc = .ok (.return_, 1) → va_P G vwCl (WX1_fit K er_a erA_lastAt erA_fees erA_heavy erA_light erA_over er_words er_syllables er_strong er_either er_joins er_singles o_er_options er_least er_ways er_lastAt o_er_fees o_er_heavy o_er_light o_er_over) H → va_D A (WX1_fit K er_a erA_lastAt erA_fees erA_heavy erA_light erA_over er_words er_syllables er_strong er_either er_joins er_singles o_er_options er_least er_ways er_lastAt o_er_fees o_er_heavy o_er_light o_er_over) → va_S A s.heap H locs → W p l e rmX1_fit s m args below meth c H locs 0 0 Q (F0 m pc ls [])) (k36 : Int32 → (Nat → Int32) → (Nat → Int32) → (Nat → Int32) → (Nat → Int32) → Int32 → Int32 → Int32 → Option ((Int32) × (Nat → Int32) × (Nat → Int32) × (Nat → Int32) × (Nat → Int32))) (hk36 : ∀ (er_options : Int32) (er_fees : Nat → Int32) (er_heavy : Nat → Int32) (er_light : Nat → Int32) (er_over : Nat → Int32) (x3 : Int32) (x4 : Int32) (x5 : Int32), k36 er_options er_fees er_heavy er_light er_over x3 x4 x5 = some (o_er_options, o_er_fees, o_er_heavy, o_er_light, o_er_over) → ∀ (H : Heap) (locs : List Loc) (ls : Array Slot), va_P G vwCl (WX1_fit K er_a erA_lastAt erA_fees erA_heavy erA_light erA_over er_words er_syllables er_strong er_either er_joins er_singles er_options er_least er_ways er_lastAt er_fees er_heavy er_light er_over) H → va_D A (WX1_fit K er_a erA_lastAt erA_fees erA_heavy erA_light erA_over er_words er_syllables er_strong er_either er_joins er_singles er_options er_least er_ways er_lastAt er_fees er_heavy er_light er_over) → va_S A s.heap H locs → lv_has ls 7 [(0, .ref er_a), (1, .int p1), (2, .int p2), (3, .int x3), (4, .int x4), (5, .int x5)] → W p l e rmX1_fit s m args below meth c H locs 0 0 Q (F0 m 36 ls [])) (er_options : Int32) (er_fees : Nat → Int32) (er_heavy : Nat → Int32) (er_light : Nat → Int32) (er_over : Nat → Int32) (x3 : Int32) (x4 : Int32) (x5 : Int32) (s0 : Int32) (hM : mX1_fit_b67 er_words er_syllables er_joins er_singles er_lastAt p1 p2 k36 er_options er_fees er_heavy er_light er_over x3 x4 x5 s0 = some (o_er_options, o_er_fees, o_er_heavy, o_er_light, o_er_over)) : ∀ (H : Heap) (locs : List Loc) (ls : Array Slot), va_P G vwCl (WX1_fit K er_a erA_lastAt erA_fees erA_heavy erA_light erA_over er_words er_syllables er_strong er_either er_joins er_singles er_options er_least er_ways er_lastAt er_fees er_heavy er_light er_over) H → va_D A (WX1_fit K er_a erA_lastAt erA_fees erA_heavy erA_light erA_over er_words er_syllables er_strong er_either er_joins er_singles er_options er_least er_ways er_lastAt er_fees er_heavy er_light er_over) → va_S A s.heap H locs → lv_has ls 7 [(0, .ref er_a), (1, .int p1), (2, .int p2), (3, .int x3), (4, .int x4), (5, .int x5)] → W p l e rmX1_fit s m args below meth c H locs 0 0 Q (F0 m 67 ls [.int s0]) := by
  obtain ⟨hx, hb, hml, hown, hts, hK, hA, hEo, hE⟩ := id C0
  intro H locs ls hP hD hS hl
  unfold mX1_fit_b67 at hM
  refine lv_istore (lv' := [(6, .int s0), (0, .ref er_a), (1, .int p1), (2, .int p2), (3, .int x3), (4, .int x4), (5, .int x5)]) hx hb dX1_fit_67 hl (by decide) rfl (fun ls hl => ?_)
  refine lv_iload hx hb dX1_fit_69 (lv_at hl 6 rfl) ?_
  refine lv_aload_n hx hb dX1_fit_71 rfl (lv_at hl 1 rfl) ?_
  refine va_get (D := G) (ci := 1) (v := .int er_joins) (C := RX1) (T := TX1) (N := 14) hx hb hts inX1 hown hK hP 0 rfl rfl 4 (by decide) (hts _ tb66) (fun _ h9 => h9) rfl dX1_fit_72 ?_
  refine lv_iconst (v := (-1)) hx hb dX1_fit_75 (by decide) ?_
  refine lv_ixor hx hb dX1_fit_76 ?_
  refine lv_iand hx hb dX1_fit_77 ?_
  refine lv_if_ne (tgt := 112) hx hb dX1_fit_78 (by decide) (fun c_1 => ?_) (fun c_1 => ?_)
  · rw [if_neg c_1] at hM
    refine lv_iinc (v := (x5 + 1)) (lv' := [(5, .int (x5 + 1)), (6, .int s0), (0, .ref er_a), (1, .int p1), (2, .int p2), (3, .int x3), (4, .int x4)]) hx hb dX1_fit_112 hl (k := 6) rfl rfl (by decide) rfl (fun ls hl => ?_)
    refine lv_goto (tgt := 36) hx hb dX1_fit_115 (by decide) ?_
    exact hk36 er_options er_fees er_heavy er_light er_over x3 x4 (x5 + 1) hM _ _ _ hP hD hS (lv_sub hl [2, 3, 4, 5, 6, 0] rfl)
  · rw [if_pos c_1] at hM
    refine lv_iload hx hb dX1_fit_81 (lv_at hl 0 rfl) ?_
    refine lv_if_ne (tgt := 112) hx hb dX1_fit_83 (by decide) (fun c_2 => ?_) (fun c_2 => ?_)
    · rw [if_neg c_2] at hM
      refine lv_iinc (v := (x5 + 1)) (lv' := [(5, .int (x5 + 1)), (6, .int s0), (0, .ref er_a), (1, .int p1), (2, .int p2), (3, .int x3), (4, .int x4)]) hx hb dX1_fit_112 hl (k := 6) rfl rfl (by decide) rfl (fun ls hl => ?_)
      refine lv_goto (tgt := 36) hx hb dX1_fit_115 (by decide) ?_
      exact hk36 er_options er_fees er_heavy er_light er_over x3 x4 (x5 + 1) hM _ _ _ hP hD hS (lv_sub hl [2, 3, 4, 5, 6, 0] rfl)
    · rw [if_pos c_2] at hM
      refine lv_aload_n hx hb dX1_fit_86 rfl (lv_at hl 1 rfl) ?_
      refine lv_iload hx hb dX1_fit_87 (lv_at hl 6 rfl) ?_
      refine lv_iload_n hx hb dX1_fit_89 rfl (lv_at hl 2 rfl) ?_
      refine lv_iload_n hx hb dX1_fit_90 rfl (lv_at hl 3 rfl) ?_
      refine lv_iload_n hx hb dX1_fit_91 rfl (lv_at hl 4 rfl) ?_
      refine lv_iconst (v := 0) hx hb dX1_fit_92 (by decide) ?_
      obtain ⟨u0_3, u1_3, u2_3, u3_3, u4_3, hC, hM⟩ := oe5 hM
      refine cV_v (As := [.int x5, .int p1, .int p2, .int x3, .int (0 : Int32)]) (rest := []) C0 hP hD hS [0, 1, 2, 3, 4, 5] (kX1_addOption l G K tt L la sa ln sy sn lt st er_a erA_lastAt erA_fees erA_heavy erA_light erA_over er_words er_syllables er_strong er_either er_joins er_singles er_options er_least er_ways er_lastAt er_fees er_heavy er_light er_over x5 p1 p2 x3 (0 : Int32) H.size u0_3 u1_3 u2_3 u3_3 u4_3 hC) rfl rfl rfl tb581 tb582 tb583 tb3 tb584 hdX1_addOption (va_recv hK hP (ci := 1) (q0 := 0) rfl rfl) ⟨Nat.le_of_ble_eq_true rfl, Nat.le_of_ble_eq_true rfl⟩ rfl hl.1 (Nat.le_of_ble_eq_true rfl) rfl ⟨Nat.le_refl _, Nat.le_refl _⟩ dX1_fit_93 (fun H locs hP hD hS => ?_)
      have hP : va_P G vwCl (WX1_fit K er_a erA_lastAt erA_fees erA_heavy erA_light erA_over er_words er_syllables er_strong er_either er_joins er_singles u0_3 er_least er_ways er_lastAt u1_3 u2_3 u3_3 u4_3) H := hP
      have hD : va_D A (WX1_fit K er_a erA_lastAt erA_fees erA_heavy erA_light erA_over er_words er_syllables er_strong er_either er_joins er_singles u0_3 er_least er_ways er_lastAt u1_3 u2_3 u3_3 u4_3) := hD
      refine lv_iload_n hx hb dX1_fit_96 rfl (lv_at hl 3 rfl) ?_
      refine lv_iconst (v := 2) hx hb dX1_fit_97 (by decide) ?_
      refine lv_icmp_lt (tgt := 112) hx hb dX1_fit_98 (by decide) (fun c_4 => ?_) (fun c_4 => ?_)
      · rw [if_pos c_4] at hM
        refine lv_iinc (v := (x5 + 1)) (lv' := [(5, .int (x5 + 1)), (6, .int s0), (0, .ref er_a), (1, .int p1), (2, .int p2), (3, .int x3), (4, .int x4)]) hx hb dX1_fit_112 hl (k := 6) rfl rfl (by decide) rfl (fun ls hl => ?_)
        refine lv_goto (tgt := 36) hx hb dX1_fit_115 (by decide) ?_
        exact hk36 u0_3 u1_3 u2_3 u3_3 u4_3 x3 x4 (x5 + 1) hM _ _ _ hP hD hS (lv_sub hl [2, 3, 4, 5, 6, 0] rfl)
      · rw [if_neg c_4] at hM
        refine lv_aload_n hx hb dX1_fit_101 rfl (lv_at hl 1 rfl) ?_
        refine lv_iload hx hb dX1_fit_102 (lv_at hl 6 rfl) ?_
        refine lv_iload_n hx hb dX1_fit_104 rfl (lv_at hl 2 rfl) ?_
        refine lv_iload_n hx hb dX1_fit_105 rfl (lv_at hl 3 rfl) ?_
        refine lv_iload hx hb dX1_fit_106 (lv_at hl 5 rfl) ?_
        refine lv_iconst (v := 1) hx hb dX1_fit_108 (by decide) ?_
        obtain ⟨u0_5, u1_5, u2_5, u3_5, u4_5, hC, hM⟩ := oe5 hM
        refine cV_v (As := [.int x5, .int p1, .int p2, .int x4, .int (1 : Int32)]) (rest := []) C0 hP hD hS [0, 1, 2, 3, 4, 5] (kX1_addOption l G K tt L la sa ln sy sn lt st er_a erA_lastAt erA_fees erA_heavy erA_light erA_over er_words er_syllables er_strong er_either er_joins er_singles u0_3 er_least er_ways er_lastAt u1_3 u2_3 u3_3 u4_3 x5 p1 p2 x4 (1 : Int32) H.size u0_5 u1_5 u2_5 u3_5 u4_5 hC) rfl rfl rfl tb581 tb582 tb583 tb3 tb584 hdX1_addOption (va_recv hK hP (ci := 1) (q0 := 0) rfl rfl) ⟨Nat.le_of_ble_eq_true rfl, Nat.le_of_ble_eq_true rfl⟩ rfl hl.1 (Nat.le_of_ble_eq_true rfl) rfl ⟨Nat.le_refl _, Nat.le_refl _⟩ dX1_fit_109 (fun H locs hP hD hS => ?_)
        have hP : va_P G vwCl (WX1_fit K er_a erA_lastAt erA_fees erA_heavy erA_light erA_over er_words er_syllables er_strong er_either er_joins er_singles u0_5 er_least er_ways er_lastAt u1_5 u2_5 u3_5 u4_5) H := hP
        have hD : va_D A (WX1_fit K er_a erA_lastAt erA_fees erA_heavy erA_light erA_over er_words er_syllables er_strong er_either er_joins er_singles u0_5 er_least er_ways er_lastAt u1_5 u2_5 u3_5 u4_5) := hD
        refine lv_iinc (v := (x5 + 1)) (lv' := [(5, .int (x5 + 1)), (6, .int s0), (0, .ref er_a), (1, .int p1), (2, .int p2), (3, .int x3), (4, .int x4)]) hx hb dX1_fit_112 hl (k := 6) rfl rfl (by decide) rfl (fun ls hl => ?_)
        refine lv_goto (tgt := 36) hx hb dX1_fit_115 (by decide) ?_
        exact hk36 u0_5 u1_5 u2_5 u3_5 u4_5 x3 x4 (x5 + 1) hM _ _ _ hP hD hS (lv_sub hl [2, 3, 4, 5, 6, 0] rfl)
set_option maxHeartbeats 4000000 in
set_option maxRecDepth 100000 in
theorem wX1_fit_b36 {p : Program} {l : Launch} {e : Env} {s : State} {m : MethodId} {args : Array Value} {below : List Frame} {meth : Method} {c : Code} {Q : State → Prop} {G : va_G} {K : Nat → ClassId} {A : Nat → Prop} {tt : Nat → Nat} {L : List Nat} {la : Nat → Nat} {sa : Nat → Nat} {ln : Nat → Int32} {sy : Nat → Int32} {sn : Nat → Int32} {lt : Nat → Nat → Int32} {st : Nat → Nat → Int32} (C0 : CX p s m args c cX1_fit 7 RX1 G K (EC G K tt L la sa ln sy sn lt st) A) (er_a erA_lastAt erA_fees erA_heavy erA_light erA_over : Nat) (er_words : Int32) (er_syllables : Int32) (er_strong : Int32) (er_either : Int32) (er_joins : Int32) (er_singles : Int32) (er_least : Int32) (er_ways : Int32) (er_lastAt : Nat → Int32) (p1 : Int32) (p2 : Int32) (o_er_options : Int32) (o_er_fees : Nat → Int32) (o_er_heavy : Nat → Int32) (o_er_light : Nat → Int32) (o_er_over : Nat → Int32) (kr : ∀ (H : Heap) (locs : List Loc) (ls : Array Slot) (pc : Nat), decode cX1_fit pc = .ok (.return_, 1) → va_P G vwCl (WX1_fit K er_a erA_lastAt erA_fees erA_heavy erA_light erA_over er_words er_syllables er_strong er_either er_joins er_singles o_er_options er_least er_ways er_lastAt o_er_fees o_er_heavy o_er_light o_er_over) H → va_D A (WX1_fit K er_a erA_lastAt erA_fees erA_heavy erA_light erA_over er_words er_syllables er_strong er_either er_joins er_singles o_er_options er_least er_ways er_lastAt o_er_fees o_er_heavy o_er_light o_er_over) → va_S A s.heap H locs → W p l e rmX1_fit s m args below meth c H locs 0 0 Q (F0 m pc ls [])) (n : Nat) : ∀ (er_options : Int32) (er_fees : Nat → Int32) (er_heavy : Nat → Int32) (er_light : Nat → Int32) (er_over : Nat → Int32) (x3 : Int32) (x4 : Int32) (x5 : Int32), mX1_fit_b36 er_words er_syllables er_joins er_singles er_lastAt p1 p2  n er_options er_fees er_heavy er_light er_over x3 x4 x5 = some (o_er_options, o_er_fees, o_er_heavy, o_er_light, o_er_over) → ∀ (H : Heap) (locs : List Loc) (ls : Array Slot), va_P G vwCl (WX1_fit K er_a erA_lastAt erA_fees erA_heavy erA_light erA_over er_words er_syllables er_strong er_either er_joins er_singles er_options er_least er_ways er_lastAt er_fees er_heavy er_light er_over) H → va_D A (WX1_fit K er_a erA_lastAt erA_fees erA_heavy erA_light erA_over er_words er_syllables er_strong er_either er_joins er_singles er_options er_least er_ways er_lastAt er_fees er_heavy er_light er_over) → va_S A s.heap H locs → lv_has ls 7 [(0, .ref er_a), (1, .int p1), (2, .int p2), (3, .int x3), (4, .int x4), (5, .int x5)] → W p l e rmX1_fit s m args below meth c H locs 0 0 Q (F0 m 36 ls []) := by
  obtain ⟨hx, hb, hml, hown, hts, hK, hA, hEo, hE⟩ := id C0
  induction n with
  | zero =>
    intro er_options er_fees er_heavy er_light er_over x3 x4 x5 hM
    cases hM
  | succ n ih =>
    intro er_options er_fees er_heavy er_light er_over x3 x4 x5 hM H locs ls hP hD hS hl
    rw [mX1_fit_b36] at hM
    refine lv_iload hx hb dX1_fit_36 (lv_at hl 5 rfl) ?_
    refine lv_iconst (v := 1) hx hb dX1_fit_38 (by decide) ?_
    refine lv_aload_n hx hb dX1_fit_39 rfl (lv_at hl 0 rfl) ?_
    refine va_get (D := G) (ci := 1) (v := .int er_words) (C := RX1) (T := TX1) (N := 14) hx hb hts inX1 hown hK hP 0 rfl rfl 0 (by decide) (hts _ tb60) (fun _ h9 => h9) rfl dX1_fit_40 ?_
    refine lv_ishl hx hb dX1_fit_43 ?_
    refine lv_icmp_ge (tgt := 118) hx hb dX1_fit_44 (by decide) (fun c_6 => ?_) (fun c_6 => ?_)
    · rw [if_pos c_6] at hM
      have t0 := Option.some.inj hM
      obtain ⟨q1, t1⟩ := Prod.mk.inj t0
      obtain ⟨q2, t2⟩ := Prod.mk.inj t1
      obtain ⟨q3, t3⟩ := Prod.mk.inj t2
      obtain ⟨q4, t4⟩ := Prod.mk.inj t3
      subst q1
      subst q2
      subst q3
      subst q4
      subst t4
      exact kr _ _ _ _ dX1_fit_118 hP hD hS
    · rw [if_neg c_6] at hM
      refine lv_iload hx hb dX1_fit_47 (lv_at hl 5 rfl) ?_
      refine lv_iload hx hb dX1_fit_49 (lv_at hl 5 rfl) ?_
      refine lv_iconst (v := 1) hx hb dX1_fit_51 (by decide) ?_
      refine lv_ishl hx hb dX1_fit_52 ?_
      refine lv_iand hx hb dX1_fit_53 ?_
      refine lv_aload_n hx hb dX1_fit_54 rfl (lv_at hl 0 rfl) ?_
      refine va_get (D := G) (ci := 1) (v := .int er_singles) (C := RX1) (T := TX1) (N := 14) hx hb hts inX1 hown hK hP 0 rfl rfl 5 (by decide) (hts _ tb67) (fun _ h9 => h9) rfl dX1_fit_55 ?_
      refine lv_iand hx hb dX1_fit_58 ?_
      refine lv_if_eq (tgt := 66) hx hb dX1_fit_59 (by decide) (fun c_7 => ?_) (fun c_7 => ?_)
      · rw [if_pos c_7] at hM
        refine lv_iconst (v := 0) hx hb dX1_fit_66 (by decide) ?_
        exact wX1_fit_b67 C0 er_a erA_lastAt erA_fees erA_heavy erA_light erA_over er_words er_syllables er_strong er_either er_joins er_singles er_least er_ways er_lastAt p1 p2 o_er_options o_er_fees o_er_heavy o_er_light o_er_over kr (mX1_fit_b36 er_words er_syllables er_joins er_singles er_lastAt p1 p2  n) ih er_options er_fees er_heavy er_light er_over x3 x4 x5 (0 : Int32) hM _ _ _ hP hD hS (lv_sub hl [0, 1, 2, 3, 4, 5] rfl)
      · rw [if_neg c_7] at hM
        refine lv_iconst (v := 1) hx hb dX1_fit_62 (by decide) ?_
        refine lv_goto (tgt := 67) hx hb dX1_fit_63 (by decide) ?_
        exact wX1_fit_b67 C0 er_a erA_lastAt erA_fees erA_heavy erA_light erA_over er_words er_syllables er_strong er_either er_joins er_singles er_least er_ways er_lastAt p1 p2 o_er_options o_er_fees o_er_heavy o_er_light o_er_over kr (mX1_fit_b36 er_words er_syllables er_joins er_singles er_lastAt p1 p2  n) ih er_options er_fees er_heavy er_light er_over x3 x4 x5 (1 : Int32) hM _ _ _ hP hD hS (lv_sub hl [0, 1, 2, 3, 4, 5] rfl)
set_option maxHeartbeats 4000000 in
set_option maxRecDepth 100000 in
theorem wX1_fit_b0 {p : Program} {l : Launch} {e : Env} {s : State} {m : MethodId} {args : Array Value} {below : List Frame} {meth : Method} {c : Code} {Q : State → Prop} {G : va_G} {K : Nat → ClassId} {A : Nat → Prop} {tt : Nat → Nat} {L : List Nat} {la : Nat → Nat} {sa : Nat → Nat} {ln : Nat → Int32} {sy : Nat → Int32} {sn : Nat → Int32} {lt : Nat → Nat → Int32} {st : Nat → Nat → Int32} (C0 : CX p s m args c cX1_fit 7 RX1 G K (EC G K tt L la sa ln sy sn lt st) A) (er_a erA_lastAt erA_fees erA_heavy erA_light erA_over : Nat) (er_words : Int32) (er_syllables : Int32) (er_strong : Int32) (er_either : Int32) (er_joins : Int32) (er_singles : Int32) (er_least : Int32) (er_ways : Int32) (er_lastAt : Nat → Int32) (p1 : Int32) (p2 : Int32) (o_er_options : Int32) (o_er_fees : Nat → Int32) (o_er_heavy : Nat → Int32) (o_er_light : Nat → Int32) (o_er_over : Nat → Int32) (kr : ∀ (H : Heap) (locs : List Loc) (ls : Array Slot) (pc : Nat), decode cX1_fit pc = .ok (.return_, 1) → va_P G vwCl (WX1_fit K er_a erA_lastAt erA_fees erA_heavy erA_light erA_over er_words er_syllables er_strong er_either er_joins er_singles o_er_options er_least er_ways er_lastAt o_er_fees o_er_heavy o_er_light o_er_over) H → va_D A (WX1_fit K er_a erA_lastAt erA_fees erA_heavy erA_light erA_over er_words er_syllables er_strong er_either er_joins er_singles o_er_options er_least er_ways er_lastAt o_er_fees o_er_heavy o_er_light o_er_over) → va_S A s.heap H locs → W p l e rmX1_fit s m args below meth c H locs 0 0 Q (F0 m pc ls [])) (er_options : Int32) (er_fees : Nat → Int32) (er_heavy : Nat → Int32) (er_light : Nat → Int32) (er_over : Nat → Int32) (hM : mX1_fit_b0 er_words er_syllables er_joins er_singles er_lastAt p1 p2  er_options er_fees er_heavy er_light er_over = some (o_er_options, o_er_fees, o_er_heavy, o_er_light, o_er_over)) : ∀ (H : Heap) (locs : List Loc) (ls : Array Slot), va_P G vwCl (WX1_fit K er_a erA_lastAt erA_fees erA_heavy erA_light erA_over er_words er_syllables er_strong er_either er_joins er_singles er_options er_least er_ways er_lastAt er_fees er_heavy er_light er_over) H → va_D A (WX1_fit K er_a erA_lastAt erA_fees erA_heavy erA_light erA_over er_words er_syllables er_strong er_either er_joins er_singles er_options er_least er_ways er_lastAt er_fees er_heavy er_light er_over) → va_S A s.heap H locs → lv_has ls 7 [(0, .ref er_a), (1, .int p1), (2, .int p2)] → W p l e rmX1_fit s m args below meth c H locs 0 0 Q (F0 m 0 ls []) := by
  obtain ⟨hx, hb, hml, hown, hts, hK, hA, hEo, hE⟩ := id C0
  intro H locs ls hP hD hS hl
  unfold mX1_fit_b0 at hM
  refine lv_aload_n hx hb dX1_fit_0 rfl (lv_at hl 0 rfl) ?_
  refine lv_iconst (v := 0) hx hb dX1_fit_1 (by decide) ?_
  refine va_put (D := G) (ci := 1) (v := .int (0 : Int32)) (ty := .int) (C := RX1) (T := TX1) (N := 14) hx hb hts inX1 tyX1 tyX1_ok nmX1 hown hK hP hD hS 0 rfl rfl 7 (by decide) (hts _ tb69) (fun _ h9 => h9) rfl (tyX1_ok 7 (by decide)) rfl rfl (Nat.le_of_ble_eq_true rfl) dX1_fit_2 (fun H locs hP hD hS => ?_)
  have hP : va_P G vwCl (WX1_fit K er_a erA_lastAt erA_fees erA_heavy erA_light erA_over er_words er_syllables er_strong er_either er_joins er_singles (0 : Int32) er_least er_ways er_lastAt er_fees er_heavy er_light er_over) H := hP
  have hD : va_D A (WX1_fit K er_a erA_lastAt erA_fees erA_heavy erA_light erA_over er_words er_syllables er_strong er_either er_joins er_singles (0 : Int32) er_least er_ways er_lastAt er_fees er_heavy er_light er_over) := hD
  refine lv_iload_n hx hb dX1_fit_5 rfl (lv_at hl 1 rfl) ?_
  refine lv_iload_n hx hb dX1_fit_6 rfl (lv_at hl 2 rfl) ?_
  obtain ⟨r_8, hC, hM⟩ := oe1 hM
  refine cN_i (As := [.int p1, .int p2]) (rest := []) C0 hP hD hS [] (kX6_isMetre l G K tt L la sa ln sy sn lt st p1 p2 H.size r_8 hC) rfl rfl rfl (nw572 hE.2.2.2) tb482 tb1 tb483 hdX6_isMetre ⟨Nat.le_of_ble_eq_true rfl, Nat.le_of_ble_eq_true rfl⟩ rfl hl.1 (Nat.le_of_ble_eq_true rfl) rfl ⟨Nat.le_refl _, Nat.le_refl _⟩ dX1_fit_7 (fun H locs hP hD hS => ?_)
  have hP : va_P G vwCl (WX1_fit K er_a erA_lastAt erA_fees erA_heavy erA_light erA_over er_words er_syllables er_strong er_either er_joins er_singles (0 : Int32) er_least er_ways er_lastAt er_fees er_heavy er_light er_over) H := hP
  have hD : va_D A (WX1_fit K er_a erA_lastAt erA_fees erA_heavy erA_light erA_over er_words er_syllables er_strong er_either er_joins er_singles (0 : Int32) er_least er_ways er_lastAt er_fees er_heavy er_light er_over) := hD
  refine lv_if_ne (tgt := 14) hx hb dX1_fit_10 (by decide) (fun c_9 => ?_) (fun c_9 => ?_)
  · rw [if_neg c_9] at hM
    refine lv_iload_n hx hb dX1_fit_14 rfl (lv_at hl 1 rfl) ?_
    refine lv_iload_n hx hb dX1_fit_15 rfl (lv_at hl 1 rfl) ?_
    refine lv_iload_n hx hb dX1_fit_16 rfl (lv_at hl 2 rfl) ?_
    obtain ⟨r_10, hC, hM⟩ := oe1 hM
    refine cS_i (As := [.int p1, .int p1, .int p2]) (rest := []) C0 hP hD hS [] (kX1_heavyPlaces l G K tt L la sa ln sy sn lt st p1 p1 p2 H.size r_10 hC) rfl rfl rfl tb573 tb574 tb3 tb575 hdX1_heavyPlaces ⟨Nat.le_of_ble_eq_true rfl, Nat.le_of_ble_eq_true rfl⟩ rfl hl.1 (Nat.le_of_ble_eq_true rfl) rfl ⟨Nat.le_refl _, Nat.le_refl _⟩ dX1_fit_17 (fun H locs hP hD hS => ?_)
    have hP : va_P G vwCl (WX1_fit K er_a erA_lastAt erA_fees erA_heavy erA_light erA_over er_words er_syllables er_strong er_either er_joins er_singles (0 : Int32) er_least er_ways er_lastAt er_fees er_heavy er_light er_over) H := hP
    have hD : va_D A (WX1_fit K er_a erA_lastAt erA_fees erA_heavy erA_light erA_over er_words er_syllables er_strong er_either er_joins er_singles (0 : Int32) er_least er_ways er_lastAt er_fees er_heavy er_light er_over) := hD
    refine lv_istore_n (lv' := [(3, .int r_10), (0, .ref er_a), (1, .int p1), (2, .int p2)]) hx hb dX1_fit_20 rfl hl (by decide) rfl (fun ls hl => ?_)
    refine va_getsN hx hb (sZ2 hE.2.2.1) hS hown ((nw579 hE.2.2.2).use rfl) (fun _ h9 => h9) dX1_fit_21 ?_
    refine lv_iload_n hx hb dX1_fit_24 rfl (lv_at hl 2 rfl) ?_
    obtain ⟨g_11, hM⟩ := ng hM
    refine va_ti hx hb (sV2 hE.2.2.1) hS g_11 rfl dX1_fit_25 ?_
    refine lv_iload_n hx hb dX1_fit_26 rfl (lv_at hl 2 rfl) ?_
    refine lv_iload_n hx hb dX1_fit_27 rfl (lv_at hl 3 rfl) ?_
    obtain ⟨r_12, hC, hM⟩ := oe1 hM
    refine cS_i (As := [.int (sT2 p1.toNatClampNeg), .int p1, .int p2]) (rest := []) C0 hP hD hS [] (kX1_heavyPlaces l G K tt L la sa ln sy sn lt st (sT2 p1.toNatClampNeg) p1 p2 H.size r_12 hC) rfl rfl rfl tb573 tb574 tb3 tb575 hdX1_heavyPlaces ⟨Nat.le_of_ble_eq_true rfl, Nat.le_of_ble_eq_true rfl⟩ rfl hl.1 (Nat.le_of_ble_eq_true rfl) rfl ⟨Nat.le_refl _, Nat.le_refl _⟩ dX1_fit_28 (fun H locs hP hD hS => ?_)
    have hP : va_P G vwCl (WX1_fit K er_a erA_lastAt erA_fees erA_heavy erA_light erA_over er_words er_syllables er_strong er_either er_joins er_singles (0 : Int32) er_least er_ways er_lastAt er_fees er_heavy er_light er_over) H := hP
    have hD : va_D A (WX1_fit K er_a erA_lastAt erA_fees erA_heavy erA_light erA_over er_words er_syllables er_strong er_either er_joins er_singles (0 : Int32) er_least er_ways er_lastAt er_fees er_heavy er_light er_over) := hD
    refine lv_istore (lv' := [(4, .int r_12), (3, .int r_10), (0, .ref er_a), (1, .int p1), (2, .int p2)]) hx hb dX1_fit_31 hl (by decide) rfl (fun ls hl => ?_)
    refine lv_iconst (v := 0) hx hb dX1_fit_33 (by decide) ?_
    refine lv_istore (lv' := [(5, .int (0 : Int32)), (4, .int r_12), (3, .int r_10), (0, .ref er_a), (1, .int p1), (2, .int p2)]) hx hb dX1_fit_34 hl (by decide) rfl (fun ls hl => ?_)
    exact wX1_fit_b36 C0 er_a erA_lastAt erA_fees erA_heavy erA_light erA_over er_words er_syllables er_strong er_either er_joins er_singles er_least er_ways er_lastAt p1 p2 o_er_options o_er_fees o_er_heavy o_er_light o_er_over kr  FU (0 : Int32) er_fees er_heavy er_light er_over r_10 r_12 (0 : Int32) hM _ _ _ hP hD hS (lv_sub hl [3, 4, 5, 2, 1, 0] rfl)
  · rw [if_pos c_9] at hM
    have t0 := Option.some.inj hM
    obtain ⟨q1, t1⟩ := Prod.mk.inj t0
    obtain ⟨q2, t2⟩ := Prod.mk.inj t1
    obtain ⟨q3, t3⟩ := Prod.mk.inj t2
    obtain ⟨q4, t4⟩ := Prod.mk.inj t3
    subst q1
    subst q2
    subst q3
    subst q4
    subst t4
    exact kr _ _ _ _ dX1_fit_13 hP hD hS
set_option maxHeartbeats 4000000 in
set_option maxRecDepth 100000 in
theorem kX1_fit (l : Launch) (G : va_G) (K : Nat → ClassId) (tt : Nat → Nat) (L : List Nat) (la : Nat → Nat) (sa : Nat → Nat) (ln : Nat → Int32) (sy : Nat → Int32) (sn : Nat → Int32) (lt : Nat → Nat → Int32) (st : Nat → Nat → Int32) (er_a erA_lastAt erA_fees erA_heavy erA_light erA_over : Nat) (er_words : Int32) (er_syllables : Int32) (er_strong : Int32) (er_either : Int32) (er_joins : Int32) (er_singles : Int32) (er_options : Int32) (er_least : Int32) (er_ways : Int32) (er_lastAt : Nat → Int32) (er_fees : Nat → Int32) (er_heavy : Nat → Int32) (er_light : Nat → Int32) (er_over : Nat → Int32) (p1 : Int32) (p2 : Int32) (sz : Nat) (o_er_options : Int32) (o_er_fees : Nat → Int32) (o_er_heavy : Nat → Int32) (o_er_light : Nat → Int32) (o_er_over : Nat → Int32) (hM : mX1_fit er_words er_syllables er_joins er_singles er_lastAt er_options er_fees er_heavy er_light er_over p1 p2 = some (o_er_options, o_er_fees, o_er_heavy, o_er_light, o_er_over)) : Met l yX1_fit (mC yX1_fit cX1_fit 7 none) rmX1_fit (va_Pc [.ref er_a, .int p1, .int p2] (PCe G K (EC G K tt L la sa ln sy sn lt st) (WX1_fit K er_a erA_lastAt erA_fees erA_heavy erA_light erA_over er_words er_syllables er_strong er_either er_joins er_singles er_options er_least er_ways er_lastAt er_fees er_heavy er_light er_over) sz)) (va_Qv (fun (_ : Unit) => True) (fun _ t => va_P G vwCl (WX1_fit K er_a erA_lastAt erA_fees erA_heavy erA_light erA_over er_words er_syllables er_strong er_either er_joins er_singles o_er_options er_least er_ways er_lastAt o_er_fees o_er_heavy o_er_light o_er_over) t.heap) (va_A (WX1_fit K er_a erA_lastAt erA_fees erA_heavy erA_light erA_over er_words er_syllables er_strong er_either er_joins er_singles er_options er_least er_ways er_lastAt er_fees er_heavy er_light er_over) sz)) rmX1_fit.cells rmX1_fit.slots (va_A (WX1_fit K er_a erA_lastAt erA_fees erA_heavy erA_light erA_over er_words er_syllables er_strong er_either er_joins er_singles er_options er_least er_ways er_lastAt er_fees er_heavy er_light er_over) sz) := by
  refine Met.ofW (cc := cX1_fit) (maxL := 7) (ret := none) (by decide) rfl ?_
  intro p e s m args below meth c s₁ B hml hv
  obtain ⟨rfl, hsz, hP, hK, hD0, hE⟩ := hv
  have hx := B.exec
  have hb := B.bytes
  have hr := B.returns
  have hts0 := atoms_spec (ws := mC yX1_fit cX1_fit 7 none) B.pre
  have hts : ∀ w ∈ tbG, w.before _ s = true := fun w h => hts0 w (List.mem_cons_of_mem _ h)
  have hown : s.vm.findClass RX1 = some m.cls := findClass_of_methodNamed B.named
  subst hsz
  have hD := hD0.self (sz := s.heap.size)
  generalize hAe : va_A (WX1_fit K er_a erA_lastAt erA_fees erA_heavy erA_light erA_over er_words er_syllables er_strong er_either er_joins er_singles er_options er_least er_ways er_lastAt er_fees er_heavy er_light er_over) s.heap.size = A at hD hE ⊢
  have hA : ∀ q : Nat, s.heap.size ≤ q → A q := fun q h => by rw [← hAe]; exact Or.inr h
  have hS : va_S A s.heap s.heap [] := va_S.rf
  have hl := lv_entry ([.ref er_a, .int p1, .int p2]) (n := 7) (Nat.le_of_ble_eq_true rfl)
  rw [lg_entry_eq]
  generalize (lg_sl ([.ref er_a, .int p1, .int p2]) ++ List.replicate (7 - (lg_sl ([.ref er_a, .int p1, .int p2])).length) Slot.unset).toArray = ls at hl ⊢
  have hl : lv_has ls 7 [(0, .ref er_a), (1, .int p1), (2, .int p2)] := hl
  exact wX1_fit_b0 ⟨hx, hb, hml, hown, hts, hK, hA, EC_ok _ _ _ _ _ _ _ _ _ _ _, hE⟩ er_a erA_lastAt erA_fees erA_heavy erA_light erA_over er_words er_syllables er_strong er_either er_joins er_singles er_least er_ways er_lastAt p1 p2 o_er_options o_er_fees o_er_heavy o_er_light o_er_over (fun H locs ls pc hdg hP hD hS => W.vret hx hb hr (fun t ht hW => ⟨⟨(), rfl, trivial, (show va_P G vwCl _ t.heap by rw [ht]; exact hP)⟩, hS.F ht⟩) hS.2.2 hdg) er_options er_fees er_heavy er_light er_over  hM _ _ _ hP hD hS hl
