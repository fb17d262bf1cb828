abbrev WX7_strength (K : Nat → ClassId) (arA1 : Nat) (ar1 : Nat → Int32) : va_W := [aI K arA1 207 ar1]
def rmX7_strength : Room := { frames := 5, cells := 0, slots := 0, locals := 110 }
theorem hdX7_strength : yX7_strength.cls ≠ "java/lang/invoke/MethodHandle" ∧ yX7_strength.cls ≠ "java/lang/invoke/VarHandle" ∧ (parseMethodDescriptor yX7_strength.desc).map (fun d => d.parameters.length) = some 3 := by decide +kernel
set_option maxHeartbeats 4000000 in
set_option maxRecDepth 100000 in
theorem wX7_strength_b0 {p : Program} {l : Launch} {e : Env} {s : State} {m : MethodId} {args : Array Value} {below : List Frame} {meth : Method} {c : Code} {Q : State → Prop} {G : va_G} {K : Nat → ClassId} {A : Nat → Prop} (C0 : CX p s m args c cX7_strength 3 RX7 G K E0 A) (arA1 : Nat) (ar1 : Nat → Int32) (p2 : Int32) (p3 : Int32) (r : Int32)  (kr : ∀ (H : Heap) (locs : List Loc) (ls : Array Slot) (pc : Nat), decode cX7_strength pc = .ok (.ireturn, 1) → va_P G vwCl (WX7_strength K arA1 ar1) H → va_D A (WX7_strength K arA1 ar1) → va_S A s.heap H locs → W p l e rmX7_strength s m args below meth c H locs 0 0 Q (F0 m pc ls [.int r]))  (hM : mX7_strength_b0 ar1 p2 p3   = some r) : ∀ (H : Heap) (locs : List Loc) (ls : Array Slot), va_P G vwCl (WX7_strength K arA1 ar1) H → va_D A (WX7_strength K arA1 ar1) → va_S A s.heap H locs → lv_has ls 3 [(0, .ref arA1), (1, .int p2), (2, .int p3)] → W p l e rmX7_strength s m args below meth c H locs 0 0 Q (F0 m 0 ls []) := by
  obtain ⟨hx, hb, hml, hown, hts, hK, hA, hEo, hE⟩ := id C0
  intro H locs ls hP hD hS hl
  unfold mX7_strength_b0 at hM
  refine lv_aload_n hx hb dX7_strength_0 rfl (lv_at hl 0 rfl) ?_
  refine lv_iload_n hx hb dX7_strength_1 rfl (lv_at hl 1 rfl) ?_
  obtain ⟨r_1, hC, hM⟩ := oe1 hM
  refine cS_i (As := [.ref arA1, .int p2]) (rest := []) C0 hP hD hS [0] (kX7_kindOf l G K arA1 ar1 p2 H.size r_1 hC) rfl rfl rfl tb974 tb975 tb9 tb976 hdX7_kindOf ⟨Nat.le_of_ble_eq_true rfl, Nat.le_of_ble_eq_true rfl⟩ rfl hl.1 (Nat.le_of_ble_eq_true rfl) rfl ⟨Nat.le_refl _, Nat.le_refl _⟩ dX7_strength_2 (fun H locs hP hD hS => ?_)
  have hP : va_P G vwCl (WX7_strength K arA1 ar1) H := hP
  have hD : va_D A (WX7_strength K arA1 ar1) := hD
  by_cases c_2 : r_1 = 1
  · rw [if_pos c_2] at hM
    refine lv_tableIn (off := 31) (tgt := 36) hx hb dX7_strength_5 (by rw [c_2]; decide) (by rw [c_2]; decide) (by rw [c_2]; decide) (by decide) ?_
    refine lv_iload_n hx hb dX7_strength_36 rfl (lv_at hl 2 rfl) ?_
    refine lv_if_ne (tgt := 44) hx hb dX7_strength_37 (by decide) (fun c_3 => ?_) (fun c_3 => ?_)
    · rw [if_neg c_3] at hM
      refine lv_iconst (v := 0) hx hb dX7_strength_44 (by decide) ?_
      have q1 := Option.some.inj hM
      subst q1
      exact kr _ _ _ _ dX7_strength_45 hP hD hS
    · rw [if_pos c_3] at hM
      refine lv_iconst (v := 1) hx hb dX7_strength_40 (by decide) ?_
      refine lv_goto (tgt := 45) hx hb dX7_strength_41 (by decide) ?_
      have q1 := Option.some.inj hM
      subst q1
      exact kr _ _ _ _ dX7_strength_45 hP hD hS
  · rw [if_neg c_2] at hM
    by_cases c_4 : r_1 = 2
    · rw [if_pos c_4] at hM
      refine lv_tableIn (off := 41) (tgt := 46) hx hb dX7_strength_5 (by rw [c_4]; decide) (by rw [c_4]; decide) (by rw [c_4]; decide) (by decide) ?_
      refine lv_iload_n hx hb dX7_strength_46 rfl (lv_at hl 2 rfl) ?_
      refine lv_aload_n hx hb dX7_strength_47 rfl (lv_at hl 0 rfl) ?_
      refine lv_iload_n hx hb dX7_strength_48 rfl (lv_at hl 1 rfl) ?_
      obtain ⟨r_5, hC, hM⟩ := oe1 hM
      refine cS_i (As := [.ref arA1, .int p2]) (rest := [.int p3]) C0 hP hD hS [0] (kX7_syllables l G K arA1 ar1 p2 H.size r_5 hC) rfl rfl rfl tb1036 tb1037 tb9 tb1038 hdX7_syllables ⟨Nat.le_of_ble_eq_true rfl, Nat.le_of_ble_eq_true rfl⟩ rfl hl.1 (Nat.le_of_ble_eq_true rfl) rfl ⟨Nat.le_refl _, Nat.le_refl _⟩ dX7_strength_49 (fun H locs hP hD hS => ?_)
      have hP : va_P G vwCl (WX7_strength K arA1 ar1) H := hP
      have hD : va_D A (WX7_strength K arA1 ar1) := hD
      refine lv_iconst (v := 1) hx hb dX7_strength_52 (by decide) ?_
      refine lv_isub hx hb dX7_strength_53 ?_
      refine lv_icmp_ne (tgt := 61) hx hb dX7_strength_54 (by decide) (fun c_6 => ?_) (fun c_6 => ?_)
      · rw [if_neg c_6] at hM
        refine lv_iconst (v := 0) hx hb dX7_strength_61 (by decide) ?_
        have q1 := Option.some.inj hM
        subst q1
        exact kr _ _ _ _ dX7_strength_62 hP hD hS
      · rw [if_pos c_6] at hM
        refine lv_iconst (v := 1) hx hb dX7_strength_57 (by decide) ?_
        refine lv_goto (tgt := 62) hx hb dX7_strength_58 (by decide) ?_
        have q1 := Option.some.inj hM
        subst q1
        exact kr _ _ _ _ dX7_strength_62 hP hD hS
    · rw [if_neg c_4] at hM
      by_cases c_7 : r_1 = 3
      · rw [if_pos c_7] at hM
        refine lv_tableIn (off := 58) (tgt := 63) hx hb dX7_strength_5 (by rw [c_7]; decide) (by rw [c_7]; decide) (by rw [c_7]; decide) (by decide) ?_
        refine lv_iload_n hx hb dX7_strength_63 rfl (lv_at hl 2 rfl) ?_
        refine lv_iconst (v := 2) hx hb dX7_strength_64 (by decide) ?_
        refine lv_irem hx hb dX7_strength_65 (by decide) ?_
        refine lv_if_ne (tgt := 73) hx hb dX7_strength_66 (by decide) (fun c_8 => ?_) (fun c_8 => ?_)
        · rw [if_neg c_8] at hM
          refine lv_iconst (v := 0) hx hb dX7_strength_73 (by decide) ?_
          have q1 := Option.some.inj hM
          subst q1
          exact kr _ _ _ _ dX7_strength_74 hP hD hS
        · rw [if_pos c_8] at hM
          refine lv_iconst (v := 1) hx hb dX7_strength_69 (by decide) ?_
          refine lv_goto (tgt := 74) hx hb dX7_strength_70 (by decide) ?_
          have q1 := Option.some.inj hM
          subst q1
          exact kr _ _ _ _ dX7_strength_74 hP hD hS
      · rw [if_neg c_7] at hM
        by_cases c_9 : r_1 = 4
        · rw [if_pos c_9] at hM
          refine lv_tableIn (off := 70) (tgt := 75) hx hb dX7_strength_5 (by rw [c_9]; decide) (by rw [c_9]; decide) (by rw [c_9]; decide) (by decide) ?_
          refine lv_iconst (v := 2) hx hb dX7_strength_75 (by decide) ?_
          have q1 := Option.some.inj hM
          subst q1
          exact kr _ _ _ _ dX7_strength_76 hP hD hS
        · rw [if_neg c_9] at hM
          refine lv_tableOut (tgt := 77) hx hb dX7_strength_5 (by have q0 : r_1.toInt ≠ 1 := (fun q => c_2 (Int32.toInt_inj.mp (q.trans (by decide)))); have q1 : r_1.toInt ≠ 2 := (fun q => c_4 (Int32.toInt_inj.mp (q.trans (by decide)))); have q2 : r_1.toInt ≠ 3 := (fun q => c_7 (Int32.toInt_inj.mp (q.trans (by decide)))); have q3 : r_1.toInt ≠ 4 := (fun q => c_9 (Int32.toInt_inj.mp (q.trans (by decide)))); omega) (by decide) ?_
          refine lv_iconst (v := 0) hx hb dX7_strength_77 (by decide) ?_
          have q1 := Option.some.inj hM
          subst q1
          exact kr _ _ _ _ dX7_strength_78 hP hD hS
set_option maxHeartbeats 4000000 in
set_option maxRecDepth 100000 in
theorem kX7_strength (l : Launch) (G : va_G) (K : Nat → ClassId) (arA1 : Nat) (ar1 : Nat → Int32) (p2 : Int32) (p3 : Int32) (sz : Nat) (r : Int32)  (hM : mX7_strength ar1 p2 p3 = some r) : Met l yX7_strength (mC yX7_strength cX7_strength 3 (some .int)) rmX7_strength (va_Pc [.ref arA1, .int p2, .int p3] (PCe G K E0 (WX7_strength K arA1 ar1) sz)) (va_Qi (fun (x : Int32) (_ : Unit) => x = r) (fun _ t => va_P G vwCl (WX7_strength K arA1 ar1) t.heap) (va_A (WX7_strength K arA1 ar1) sz)) rmX7_strength.cells rmX7_strength.slots (va_A (WX7_strength K arA1 ar1) sz) := by
  refine Met.ofW (cc := cX7_strength) (maxL := 3) (ret := (some .int)) (by decide) rfl ?_
  intro p e s m args below meth c s₁ B hml hv
  obtain ⟨rfl, hsz, hP, hK, hD0, hE⟩ := hv
  have hx := B.exec
  have hb := B.bytes
  have hr := B.returns
  have hts0 := atoms_spec (ws := mC yX7_strength cX7_strength 3 (some .int)) B.pre
  have hts : ∀ w ∈ tbG, w.before _ s = true := fun w h => hts0 w (List.mem_cons_of_mem _ h)
  have hown : s.vm.findClass RX7 = some m.cls := findClass_of_methodNamed B.named
  subst hsz
  have hD := hD0.self (sz := s.heap.size)
  generalize hAe : va_A (WX7_strength K arA1 ar1) s.heap.size = A at hD hE ⊢
  have hA : ∀ q : Nat, s.heap.size ≤ q → A q := fun q h => by rw [← hAe]; exact Or.inr h
  have hS : va_S A s.heap s.heap [] := va_S.rf
  have hl := lv_entry ([.ref arA1, .int p2, .int p3]) (n := 3) (Nat.le_of_ble_eq_true rfl)
  rw [lg_entry_eq]
  generalize (lg_sl ([.ref arA1, .int p2, .int p3]) ++ List.replicate (3 - (lg_sl ([.ref arA1, .int p2, .int p3])).length) Slot.unset).toArray = ls at hl ⊢
  have hl : lv_has ls 3 [(0, .ref arA1), (1, .int p2), (2, .int p3)] := hl
  exact wX7_strength_b0 ⟨hx, hb, hml, hown, hts, hK, hA, E0_ok, hE⟩ arA1 ar1 p2 p3 r (fun H locs ls pc hdg hP hD hS => W.iret (v := r) hx hb hr (fun t ht hW => ⟨⟨r, (), rfl, rfl, (show va_P G vwCl _ t.heap by rw [ht]; exact hP)⟩, hS.F ht⟩) hS.2.2 hdg)   hM _ _ _ hP hD hS hl
abbrev WX7_mayRun (K : Nat → ClassId) (arA1 : Nat) (ar1 : Nat → Int32) : va_W := [aI K arA1 207 ar1]
def rmX7_mayRun : Room := { frames := 4, cells := 0, slots := 0, locals := 89 }
theorem hdX7_mayRun : yX7_mayRun.cls ≠ "java/lang/invoke/MethodHandle" ∧ yX7_mayRun.cls ≠ "java/lang/invoke/VarHandle" ∧ (parseMethodDescriptor yX7_mayRun.desc).map (fun d => d.parameters.length) = some 2 := by decide +kernel
set_option maxHeartbeats 4000000 in
set_option maxRecDepth 100000 in
theorem wX7_mayRun_b0 {p : Program} {l : Launch} {e : Env} {s : State} {m : MethodId} {args : Array Value} {below : List Frame} {meth : Method} {c : Code} {Q : State → Prop} {G : va_G} {K : Nat → ClassId} {A : Nat → Prop} (C0 : CX p s m args c cX7_mayRun 3 RX7 G K E0 A) (arA1 : Nat) (ar1 : Nat → Int32) (p2 : Int32) (r : Int32)  (kr : ∀ (H : Heap) (locs : List Loc) (ls : Array Slot) (pc : Nat), decode cX7_mayRun pc = .ok (.ireturn, 1) → (r = 0 ∨ r = 1) → va_P G vwCl (WX7_mayRun K arA1 ar1) H → va_D A (WX7_mayRun K arA1 ar1) → va_S A s.heap H locs → W p l e rmX7_mayRun s m args below meth c H locs 0 0 Q (F0 m pc ls [.int r]))  (hM : mX7_mayRun_b0 ar1 p2   = some r) : ∀ (H : Heap) (locs : List Loc) (ls : Array Slot), va_P G vwCl (WX7_mayRun K arA1 ar1) H → va_D A (WX7_mayRun K arA1 ar1) → va_S A s.heap H locs → lv_has ls 3 [(0, .ref arA1), (1, .int p2)] → W p l e rmX7_mayRun s m args below meth c H locs 0 0 Q (F0 m 0 ls []) := by
  obtain ⟨hx, hb, hml, hown, hts, hK, hA, hEo, hE⟩ := id C0
  intro H locs ls hP hD hS hl
  unfold mX7_mayRun_b0 at hM
  refine lv_aload_n hx hb dX7_mayRun_0 rfl (lv_at hl 0 rfl) ?_
  refine lv_iload_n hx hb dX7_mayRun_1 rfl (lv_at hl 1 rfl) ?_
  obtain ⟨r_1, hC, hM⟩ := oe1 hM
  refine cS_i (As := [.ref arA1, .int p2]) (rest := []) C0 hP hD hS [0] (kX7_lineOf l G K arA1 ar1 p2 H.size r_1 hC) rfl rfl rfl tb1003 tb1004 tb9 tb1005 hdX7_lineOf ⟨Nat.le_of_ble_eq_true rfl, Nat.le_of_ble_eq_true rfl⟩ rfl hl.1 (Nat.le_of_ble_eq_true rfl) rfl ⟨Nat.le_refl _, Nat.le_refl _⟩ dX7_mayRun_2 (fun H locs hP hD hS => ?_)
  have hP : va_P G vwCl (WX7_mayRun K arA1 ar1) H := hP
  have hD : va_D A (WX7_mayRun K arA1 ar1) := hD
  refine lv_istore_n (lv' := [(2, .int r_1), (0, .ref arA1), (1, .int p2)]) hx hb dX7_mayRun_5 rfl hl (by decide) rfl (fun ls hl => ?_)
  refine lv_iload_n hx hb dX7_mayRun_6 rfl (lv_at hl 2 rfl) ?_
  refine lv_iconst (v := 1) hx hb dX7_mayRun_7 (by decide) ?_
  refine lv_iadd hx hb dX7_mayRun_8 ?_
  refine lv_aload_n hx hb dX7_mayRun_9 rfl (lv_at hl 1 rfl) ?_
  refine lv_iload_n hx hb dX7_mayRun_10 rfl (lv_at hl 0 rfl) ?_
  obtain ⟨r_2, hC, hM⟩ := oe1 hM
  refine cS_i (As := [.ref arA1, .int r_1]) (rest := [.int (p2 + (1 : Int32))]) C0 hP hD hS [0] (kX7_firstOf l G K arA1 ar1 r_1 H.size r_2 hC) rfl rfl rfl tb996 tb997 tb9 tb998 hdX7_firstOf ⟨Nat.le_of_ble_eq_true rfl, Nat.le_of_ble_eq_true rfl⟩ rfl hl.1 (Nat.le_of_ble_eq_true rfl) rfl ⟨Nat.le_refl _, Nat.le_refl _⟩ dX7_mayRun_11 (fun H locs hP hD hS => ?_)
  have hP : va_P G vwCl (WX7_mayRun K arA1 ar1) H := hP
  have hD : va_D A (WX7_mayRun K arA1 ar1) := hD
  refine lv_aload_n hx hb dX7_mayRun_14 rfl (lv_at hl 1 rfl) ?_
  refine lv_iconst (v := 3) hx hb dX7_mayRun_15 (by decide) ?_
  refine lv_iload_n hx hb dX7_mayRun_16 rfl (lv_at hl 0 rfl) ?_
  refine lv_iadd hx hb dX7_mayRun_17 ?_
  obtain ⟨g_3, hM⟩ := ng hM
  refine va_iald hx hb hK hP 0 0 rfl rfl g_3 dX7_mayRun_18 ?_
  refine lv_iadd hx hb dX7_mayRun_19 ?_
  refine lv_icmp_ne (tgt := 25) hx hb dX7_mayRun_20 (by decide) (fun c_4 => ?_) (fun c_4 => ?_)
  · rw [if_neg c_4] at hM
    refine lv_aload_n hx hb dX7_mayRun_25 rfl (lv_at hl 1 rfl) ?_
    refine lv_iload_n hx hb dX7_mayRun_26 rfl (lv_at hl 2 rfl) ?_
    refine lv_aload_n hx hb dX7_mayRun_27 rfl (lv_at hl 1 rfl) ?_
    refine lv_iload_n hx hb dX7_mayRun_28 rfl (lv_at hl 2 rfl) ?_
    obtain ⟨r_5, hC, hM⟩ := oe1 hM
    refine cS_i (As := [.ref arA1, .int p2]) (rest := [.int p2, .ref arA1]) C0 hP hD hS [0] (kX7_sizeOfWord l G K arA1 ar1 p2 H.size r_5 hC) rfl rfl rfl tb1030 tb1031 tb9 tb1032 hdX7_sizeOfWord ⟨Nat.le_of_ble_eq_true rfl, Nat.le_of_ble_eq_true rfl⟩ rfl hl.1 (Nat.le_of_ble_eq_true rfl) rfl ⟨Nat.le_refl _, Nat.le_refl _⟩ dX7_mayRun_29 (fun H locs hP hD hS => ?_)
    have hP : va_P G vwCl (WX7_mayRun K arA1 ar1) H := hP
    have hD : va_D A (WX7_mayRun K arA1 ar1) := hD
    refine lv_iconst (v := 1) hx hb dX7_mayRun_32 (by decide) ?_
    refine lv_isub hx hb dX7_mayRun_33 ?_
    obtain ⟨r_6, hC, hM⟩ := oe1 hM
    refine cS_i (As := [.ref arA1, .int p2, .int (r_5 - (1 : Int32))]) (rest := []) C0 hP hD hS [0] (kX7_letterOf l G K arA1 ar1 p2 (r_5 - (1 : Int32)) H.size r_6 hC) rfl rfl rfl tb1033 tb1034 tb9 tb1035 hdX7_letterOf ⟨Nat.le_of_ble_eq_true rfl, Nat.le_of_ble_eq_true rfl⟩ rfl hl.1 (Nat.le_of_ble_eq_true rfl) rfl ⟨Nat.le_refl _, Nat.le_refl _⟩ dX7_mayRun_34 (fun H locs hP hD hS => ?_)
    have hP : va_P G vwCl (WX7_mayRun K arA1 ar1) H := hP
    have hD : va_D A (WX7_mayRun K arA1 ar1) := hD
    obtain ⟨r_7, hC, hM⟩ := oe1 hM
    refine cS_i (As := [.int r_6]) (rest := []) C0 hP hD hS [] (kX7_isVowel l G K r_6 H.size r_7 hC) rfl rfl rfl tb954 tb955 tb9 tb956 hdX7_isVowel ⟨Nat.le_of_ble_eq_true rfl, Nat.le_of_ble_eq_true rfl⟩ rfl hl.1 (Nat.le_of_ble_eq_true rfl) rfl ⟨Nat.le_refl _, Nat.le_refl _⟩ dX7_mayRun_37 (fun H locs hP hD hS => ?_)
    have hP : va_P G vwCl (WX7_mayRun K arA1 ar1) H := hP
    have hD : va_D A (WX7_mayRun K arA1 ar1) := hD
    refine lv_if_eq (tgt := 69) hx hb dX7_mayRun_40 (by decide) (fun c_8 => ?_) (fun c_8 => ?_)
    · rw [if_pos c_8] at hM
      refine lv_iconst (v := 0) hx hb dX7_mayRun_69 (by decide) ?_
      have q1 := Option.some.inj hM
      subst q1
      exact kr _ _ _ _ dX7_mayRun_70 (by decide) hP hD hS
    · rw [if_neg c_8] at hM
      refine lv_aload_n hx hb dX7_mayRun_43 rfl (lv_at hl 1 rfl) ?_
      refine lv_iload_n hx hb dX7_mayRun_44 rfl (lv_at hl 2 rfl) ?_
      obtain ⟨r_9, hC, hM⟩ := oe1 hM
      refine cS_i (As := [.ref arA1, .int p2]) (rest := []) C0 hP hD hS [0] (kX7_isMuteEnd l G K arA1 ar1 p2 H.size r_9 hC) rfl rfl rfl tb1045 tb1046 tb9 tb1047 hdX7_isMuteEnd ⟨Nat.le_of_ble_eq_true rfl, Nat.le_of_ble_eq_true rfl⟩ rfl hl.1 (Nat.le_of_ble_eq_true rfl) rfl ⟨Nat.le_refl _, Nat.le_refl _⟩ dX7_mayRun_45 (fun H locs hP hD hS => ?_)
      have hP : va_P G vwCl (WX7_mayRun K arA1 ar1) H := hP
      have hD : va_D A (WX7_mayRun K arA1 ar1) := hD
      refine lv_if_ne (tgt := 69) hx hb dX7_mayRun_48 (by decide) (fun c_10 => ?_) (fun c_10 => ?_)
      · rw [if_neg c_10] at hM
        refine lv_iconst (v := 0) hx hb dX7_mayRun_69 (by decide) ?_
        have q1 := Option.some.inj hM
        subst q1
        exact kr _ _ _ _ dX7_mayRun_70 (by decide) hP hD hS
      · rw [if_pos c_10] at hM
        refine lv_aload_n hx hb dX7_mayRun_51 rfl (lv_at hl 1 rfl) ?_
        refine lv_iload_n hx hb dX7_mayRun_52 rfl (lv_at hl 2 rfl) ?_
        refine lv_iconst (v := 1) hx hb dX7_mayRun_53 (by decide) ?_
        refine lv_iadd hx hb dX7_mayRun_54 ?_
        refine lv_iconst (v := 0) hx hb dX7_mayRun_55 (by decide) ?_
        obtain ⟨r_11, hC, hM⟩ := oe1 hM
        refine cS_i (As := [.ref arA1, .int (p2 + (1 : Int32)), .int (0 : Int32)]) (rest := []) C0 hP hD hS [0] (kX7_letterOf l G K arA1 ar1 (p2 + (1 : Int32)) (0 : Int32) H.size r_11 hC) rfl rfl rfl tb1033 tb1034 tb9 tb1035 hdX7_letterOf ⟨Nat.le_of_ble_eq_true rfl, Nat.le_of_ble_eq_true rfl⟩ rfl hl.1 (Nat.le_of_ble_eq_true rfl) rfl ⟨Nat.le_refl _, Nat.le_refl _⟩ dX7_mayRun_56 (fun H locs hP hD hS => ?_)
        have hP : va_P G vwCl (WX7_mayRun K arA1 ar1) H := hP
        have hD : va_D A (WX7_mayRun K arA1 ar1) := hD
        obtain ⟨r_12, hC, hM⟩ := oe1 hM
        refine cS_i (As := [.int r_11]) (rest := []) C0 hP hD hS [] (kX7_isVowel l G K r_11 H.size r_12 hC) rfl rfl rfl tb954 tb955 tb9 tb956 hdX7_isVowel ⟨Nat.le_of_ble_eq_true rfl, Nat.le_of_ble_eq_true rfl⟩ rfl hl.1 (Nat.le_of_ble_eq_true rfl) rfl ⟨Nat.le_refl _, Nat.le_refl _⟩ dX7_mayRun_59 (fun H locs hP hD hS => ?_)
        have hP : va_P G vwCl (WX7_mayRun K arA1 ar1) H := hP
        have hD : va_D A (WX7_mayRun K arA1 ar1) := hD
        refine lv_if_eq (tgt := 69) hx hb dX7_mayRun_62 (by decide) (fun c_13 => ?_) (fun c_13 => ?_)
        · rw [if_pos c_13] at hM
          refine lv_iconst (v := 0) hx hb dX7_mayRun_69 (by decide) ?_
          have q1 := Option.some.inj hM
          subst q1
          exact kr _ _ _ _ dX7_mayRun_70 (by decide) hP hD hS
        · rw [if_neg c_13] at hM
          refine lv_iconst (v := 1) hx hb dX7_mayRun_65 (by decide) ?_
          refine lv_goto (tgt := 70) hx hb dX7_mayRun_66 (by decide) ?_
          have q1 := Option.some.inj hM
          subst q1
          exact kr _ _ _ _ dX7_mayRun_70 (by decide) hP hD hS
  · rw [if_pos c_4] at hM
    refine lv_iconst (v := 0) hx hb dX7_mayRun_23 (by decide) ?_
    have q1 := Option.some.inj hM
    subst q1
    exact kr _ _ _ _ dX7_mayRun_24 (by decide) hP hD hS
set_option maxHeartbeats 4000000 in
set_option maxRecDepth 100000 in
theorem kX7_mayRun (l : Launch) (G : va_G) (K : Nat → ClassId) (arA1 : Nat) (ar1 : Nat → Int32) (p2 : Int32) (sz : Nat) (r : Int32)  (hM : mX7_mayRun ar1 p2 = some r) : Met l yX7_mayRun (mC yX7_mayRun cX7_mayRun 3 (some .boolean)) rmX7_mayRun (va_Pc [.ref arA1, .int p2] (PCe G K E0 (WX7_mayRun K arA1 ar1) sz)) (va_Qi (fun (x : Int32) (_ : Unit) => x = r) (fun _ t => va_P G vwCl (WX7_mayRun K arA1 ar1) t.heap) (va_A (WX7_mayRun K arA1 ar1) sz)) rmX7_mayRun.cells rmX7_mayRun.slots (va_A (WX7_mayRun K arA1 ar1) sz) := by
  refine Met.ofW (cc := cX7_mayRun) (maxL := 3) (ret := (some .boolean)) (by decide) rfl ?_
  intro p e s m args below meth c s₁ B hml hv
  obtain ⟨rfl, hsz, hP, hK, hD0, hE⟩ := hv
  have hx := B.exec
  have hb := B.bytes
  have hr := B.returns
  have hts0 := atoms_spec (ws := mC yX7_mayRun cX7_mayRun 3 (some .boolean)) B.pre
  have hts : ∀ w ∈ tbG, w.before _ s = true := fun w h => hts0 w (List.mem_cons_of_mem _ h)
  have hown : s.vm.findClass RX7 = some m.cls := findClass_of_methodNamed B.named
  subst hsz
  have hD := hD0.self (sz := s.heap.size)
  generalize hAe : va_A (WX7_mayRun K arA1 ar1) s.heap.size = A at hD hE ⊢
  have hA : ∀ q : Nat, s.heap.size ≤ q → A q := fun q h => by rw [← hAe]; exact Or.inr h
  have hS : va_S A s.heap s.heap [] := va_S.rf
  have hl := lv_entry ([.ref arA1, .int p2]) (n := 3) (Nat.le_of_ble_eq_true rfl)
  rw [lg_entry_eq]
  generalize (lg_sl ([.ref arA1, .int p2]) ++ List.replicate (3 - (lg_sl ([.ref arA1, .int p2])).length) Slot.unset).toArray = ls at hl ⊢
  have hl : lv_has ls 3 [(0, .ref arA1), (1, .int p2)] := hl
  exact wX7_mayRun_b0 ⟨hx, hb, hml, hown, hts, hK, hA, E0_ok, hE⟩ arA1 ar1 p2 r (fun H locs ls pc hdg hz hP hD hS => W.zret (v := r) (ty := .boolean) hx hb hr (nar_b hz) (fun t ht hW => ⟨⟨r, (), rfl, rfl, (show va_P G vwCl _ t.heap by rw [ht]; exact hP)⟩, hS.F ht⟩) hS.2.2 hdg)   hM _ _ _ hP hD hS hl
abbrev WX7_layLine (K : Nat → ClassId) (m_a mA_lane mA_many mA_item mA_poem mA_fresh mA_then mA_was mA_tape mA_strengths mA_sounds mA_stand mA_scheme mA_isKept mA_kept mA_trace arA1 : Nat) (m_thrown : Int32) (m_status : Int32) (m_acts : Int32) (m_taped : Int32) (m_cursor : Int32) (m_start : Int32) (m_token : Int32) (m_value : Int32) (m_fault : Int32) (m_faultAt : Int32) (m_latest : Int32) (m_stands : Int32) (m_least : Int32) (m_ways : Int32) (m_nearFoot : Int32) (m_nearFeet : Int32) (m_nearCost : Int32) (m_traced : Int32) (m_strengths : Nat → Int32) (m_sounds : Nat → Int32) (ar1 : Nat → Int32) : va_W := [(m_a, .inr (7, [.int m_thrown, .int m_status, .ref mA_lane, .ref mA_many, .ref mA_item, .ref mA_poem, .ref mA_fresh, .ref mA_then, .ref mA_was, .int m_acts, .ref mA_tape, .int m_taped, .int m_cursor, .int m_start, .int m_token, .int m_value, .int m_fault, .int m_faultAt, .int m_latest, .ref mA_strengths, .ref mA_sounds, .ref mA_stand, .int m_stands, .int m_least, .int m_ways, .ref mA_scheme, .int m_nearFoot, .int m_nearFeet, .int m_nearCost, .ref mA_isKept, .ref mA_kept, .ref mA_trace, .int m_traced])), aI K mA_strengths 20 m_strengths, aI K mA_sounds 5 m_sounds, aI K arA1 207 ar1]
def rmX7_layLine : Room := { frames := 6, cells := 0, slots := 0, locals := 132 }
theorem hdX7_layLine : yX7_layLine.cls = RX7 ∧ yX7_layLine.cls ≠ "java/lang/invoke/MethodHandle" ∧ yX7_layLine.cls ≠ "java/lang/invoke/VarHandle" ∧ (parseMethodDescriptor yX7_layLine.desc).map (fun d => d.parameters.length) = some 3 := by decide +kernel
set_option maxHeartbeats 4000000 in
set_option maxRecDepth 100000 in
theorem wX7_layLine_b99 {p : Program} {l : Launch} {e : Env} {s : State} {m : MethodId} {args : Array Value} {below : List Frame} {meth : Method} {c : Code} {Q : State → Prop} {G : va_G} {K : Nat → ClassId} {A : Nat → Prop} (C0 : CX p s m args c cX7_layLine 9 RX7 G K E0 A) (m_a mA_lane mA_many mA_item mA_poem mA_fresh mA_then mA_was mA_tape mA_strengths mA_sounds mA_stand mA_scheme mA_isKept mA_kept mA_trace arA1 : Nat) (m_thrown : Int32) (m_status : Int32) (m_acts : Int32) (m_taped : Int32) (m_cursor : Int32) (m_start : Int32) (m_token : Int32) (m_value : Int32) (m_fault : Int32) (m_faultAt : Int32) (m_latest : Int32) (m_stands : Int32) (m_least : Int32) (m_ways : Int32) (m_nearFoot : Int32) (m_nearFeet : Int32) (m_nearCost : Int32) (m_traced : Int32) (ar1 : Nat → Int32) (p2 : Int32) (p3 : Int32) (r : Int32) (o_m_strengths : Nat → Int32) (o_m_sounds : Nat → Int32) (kr : ∀ (H : Heap) (locs : List Loc) (ls : Array Slot) (pc : Nat), decode cX7_layLine pc = .ok (.ireturn, 1) → va_P G vwCl (WX7_layLine K m_a mA_lane mA_many mA_item mA_poem mA_fresh mA_then mA_was mA_tape mA_strengths mA_sounds mA_stand mA_scheme mA_isKept mA_kept mA_trace arA1 m_thrown m_status m_acts m_taped m_cursor m_start m_token m_value m_fault m_faultAt m_latest m_stands m_least m_ways m_nearFoot m_nearFeet m_nearCost m_traced o_m_strengths o_m_sounds ar1) H → va_D A (WX7_layLine K m_a mA_lane mA_many mA_item mA_poem mA_fresh mA_then mA_was mA_tape mA_strengths mA_sounds mA_stand mA_scheme mA_isKept mA_kept mA_trace arA1 m_thrown m_status m_acts m_taped m_cursor m_start m_token m_value m_fault m_faultAt m_latest m_stands m_least m_ways m_nearFoot m_nearFeet m_nearCost m_traced o_m_strengths o_m_sounds ar1) → va_S A s.heap H locs → W p l e rmX7_layLine s m args below meth c H locs 0 0 Q (F0 m pc ls [.int r])) (k13 : (Nat → Int32) → (Nat → Int32) → Int32 → Int32 → Int32 → Option (Int32 × (Nat → Int32) × (Nat → Int32))) (hk13 : ∀ (m_strengths : Nat → Int32) (m_sounds : Nat → Int32) (x4 : Int32) (x5 : Int32) (x6 : Int32), k13 m_strengths m_sounds x4 x5 x6 = some (r, o_m_strengths, o_m_sounds) → ∀ (H : Heap) (locs : List Loc) (ls : Array Slot), va_P G vwCl (WX7_layLine K m_a mA_lane mA_many mA_item mA_poem mA_fresh mA_then mA_was mA_tape mA_strengths mA_sounds mA_stand mA_scheme mA_isKept mA_kept mA_trace arA1 m_thrown m_status m_acts m_taped m_cursor m_start m_token m_value m_fault m_faultAt m_latest m_stands m_least m_ways m_nearFoot m_nearFeet m_nearCost m_traced m_strengths m_sounds ar1) H → va_D A (WX7_layLine K m_a mA_lane mA_many mA_item mA_poem mA_fresh mA_then mA_was mA_tape mA_strengths mA_sounds mA_stand mA_scheme mA_isKept mA_kept mA_trace arA1 m_thrown m_status m_acts m_taped m_cursor m_start m_token m_value m_fault m_faultAt m_latest m_stands m_least m_ways m_nearFoot m_nearFeet m_nearCost m_traced m_strengths m_sounds ar1) → va_S A s.heap H locs → lv_has ls 9 [(0, .ref m_a), (1, .ref arA1), (2, .int p2), (3, .int p3), (4, .int x4), (5, .int x5), (6, .int x6)] → W p l e rmX7_layLine s m args below meth c H locs 0 0 Q (F0 m 13 ls [])) (k42 : (Nat → Int32) → (Nat → Int32) → Int32 → Int32 → Int32 → Int32 → Option (Int32 × (Nat → Int32) × (Nat → Int32))) (hk42 : ∀ (m_strengths : Nat → Int32) (m_sounds : Nat → Int32) (x4 : Int32) (x5 : Int32) (x6 : Int32) (x7 : Int32), k42 m_strengths m_sounds x4 x5 x6 x7 = some (r, o_m_strengths, o_m_sounds) → ∀ (H : Heap) (locs : List Loc) (ls : Array Slot), va_P G vwCl (WX7_layLine K m_a mA_lane mA_many mA_item mA_poem mA_fresh mA_then mA_was mA_tape mA_strengths mA_sounds mA_stand mA_scheme mA_isKept mA_kept mA_trace arA1 m_thrown m_status m_acts m_taped m_cursor m_start m_token m_value m_fault m_faultAt m_latest m_stands m_least m_ways m_nearFoot m_nearFeet m_nearCost m_traced m_strengths m_sounds ar1) H → va_D A (WX7_layLine K m_a mA_lane mA_many mA_item mA_poem mA_fresh mA_then mA_was mA_tape mA_strengths mA_sounds mA_stand mA_scheme mA_isKept mA_kept mA_trace arA1 m_thrown m_status m_acts m_taped m_cursor m_start m_token m_value m_fault m_faultAt m_latest m_stands m_least m_ways m_nearFoot m_nearFeet m_nearCost m_traced m_strengths m_sounds ar1) → va_S A s.heap H locs → lv_has ls 9 [(0, .ref m_a), (1, .ref arA1), (2, .int p2), (3, .int p3), (4, .int x4), (5, .int x5), (6, .int x6), (7, .int x7)] → W p l e rmX7_layLine s m args below meth c H locs 0 0 Q (F0 m 42 ls [])) (m_strengths : Nat → Int32) (m_sounds : Nat → Int32) (x4 : Int32) (x5 : Int32) (x6 : Int32) (x7 : Int32) (x8 : Int32) (s1 : Int32) (s2 : Int32) (hM : mX7_layLine_b99 ar1 p2 p3 k13 k42 m_strengths m_sounds x4 x5 x6 x7 x8 s1 s2 = some (r, o_m_strengths, o_m_sounds)) : ∀ (H : Heap) (locs : List Loc) (ls : Array Slot), va_P G vwCl (WX7_layLine K m_a mA_lane mA_many mA_item mA_poem mA_fresh mA_then mA_was mA_tape mA_strengths mA_sounds mA_stand mA_scheme mA_isKept mA_kept mA_trace arA1 m_thrown m_status m_acts m_taped m_cursor m_start m_token m_value m_fault m_faultAt m_latest m_stands m_least m_ways m_nearFoot m_nearFeet m_nearCost m_traced m_strengths m_sounds ar1) H → va_D A (WX7_layLine K m_a mA_lane mA_many mA_item mA_poem mA_fresh mA_then mA_was mA_tape mA_strengths mA_sounds mA_stand mA_scheme mA_isKept mA_kept mA_trace arA1 m_thrown m_status m_acts m_taped m_cursor m_start m_token m_value m_fault m_faultAt m_latest m_stands m_least m_ways m_nearFoot m_nearFeet m_nearCost m_traced m_strengths m_sounds ar1) → va_S A s.heap H locs → lv_has ls 9 [(0, .ref m_a), (1, .ref arA1), (2, .int p2), (3, .int p3), (4, .int x4), (5, .int x5), (6, .int x6), (7, .int x7), (8, .int x8)] → W p l e rmX7_layLine s m args below meth c H locs 0 0 Q (F0 m 99 ls [.int s2, .int s1, .ref mA_strengths]) := by
  obtain ⟨hx, hb, hml, hown, hts, hK, hA, hEo, hE⟩ := id C0
  intro H locs ls hP hD hS hl
  unfold mX7_layLine_b99 at hM
  obtain ⟨g_1, hM⟩ := ng hM
  refine va_iast hx hb hK hP hD hS 1 0 rfl rfl g_1 dX7_layLine_99 (fun H locs hP hD hS => ?_)
  have hP : va_P G vwCl (WX7_layLine K m_a mA_lane mA_many mA_item mA_poem mA_fresh mA_then mA_was mA_tape mA_strengths mA_sounds mA_stand mA_scheme mA_isKept mA_kept mA_trace arA1 m_thrown m_status m_acts m_taped m_cursor m_start m_token m_value m_fault m_faultAt m_latest m_stands m_least m_ways m_nearFoot m_nearFeet m_nearCost m_traced (upd m_strengths s1.toNatClampNeg s2) m_sounds ar1) H := hP
  have hD : va_D A (WX7_layLine K m_a mA_lane mA_many mA_item mA_poem mA_fresh mA_then mA_was mA_tape mA_strengths mA_sounds mA_stand mA_scheme mA_isKept mA_kept mA_trace arA1 m_thrown m_status m_acts m_taped m_cursor m_start m_token m_value m_fault m_faultAt m_latest m_stands m_least m_ways m_nearFoot m_nearFeet m_nearCost m_traced (upd m_strengths s1.toNatClampNeg s2) m_sounds ar1) := hD
  refine lv_iload hx hb dX7_layLine_100 (lv_at hl 4 rfl) ?_
  refine lv_iload hx hb dX7_layLine_102 (lv_at hl 8 rfl) ?_
  refine lv_iconst (v := 2) hx hb dX7_layLine_104 (by decide) ?_
  refine lv_icmp_ne (tgt := 112) hx hb dX7_layLine_105 (by decide) (fun c_2 => ?_) (fun c_2 => ?_)
  · rw [if_neg c_2] at hM
    refine lv_iconst (v := 0) hx hb dX7_layLine_112 (by decide) ?_
    refine lv_iadd hx hb dX7_layLine_113 ?_
    refine lv_istore (lv' := [(4, .int (x4 + (0 : Int32))), (0, .ref m_a), (1, .ref arA1), (2, .int p2), (3, .int p3), (5, .int x5), (6, .int x6), (7, .int x7), (8, .int x8)]) hx hb dX7_layLine_114 hl (by decide) rfl (fun ls hl => ?_)
    refine lv_iinc (v := (x7 + 1)) (lv' := [(7, .int (x7 + 1)), (4, .int (x4 + (0 : Int32))), (0, .ref m_a), (1, .ref arA1), (2, .int p2), (3, .int p3), (5, .int x5), (6, .int x6), (8, .int x8)]) hx hb dX7_layLine_116 hl (k := 7) rfl rfl (by decide) rfl (fun ls hl => ?_)
    refine lv_goto (tgt := 42) hx hb dX7_layLine_119 (by decide) ?_
    exact hk42 (upd m_strengths s1.toNatClampNeg s2) m_sounds (x4 + (0 : Int32)) x5 x6 (x7 + 1) hM _ _ _ hP hD hS (lv_sub hl [2, 3, 4, 5, 1, 6, 7, 0] rfl)
  · rw [if_pos c_2] at hM
    refine lv_iconst (v := 1) hx hb dX7_layLine_108 (by decide) ?_
    refine lv_goto (tgt := 113) hx hb dX7_layLine_109 (by decide) ?_
    refine lv_iadd hx hb dX7_layLine_113 ?_
    refine lv_istore (lv' := [(4, .int (x4 + (1 : Int32))), (0, .ref m_a), (1, .ref arA1), (2, .int p2), (3, .int p3), (5, .int x5), (6, .int x6), (7, .int x7), (8, .int x8)]) hx hb dX7_layLine_114 hl (by decide) rfl (fun ls hl => ?_)
    refine lv_iinc (v := (x7 + 1)) (lv' := [(7, .int (x7 + 1)), (4, .int (x4 + (1 : Int32))), (0, .ref m_a), (1, .ref arA1), (2, .int p2), (3, .int p3), (5, .int x5), (6, .int x6), (8, .int x8)]) hx hb dX7_layLine_116 hl (k := 7) rfl rfl (by decide) rfl (fun ls hl => ?_)
    refine lv_goto (tgt := 42) hx hb dX7_layLine_119 (by decide) ?_
    exact hk42 (upd m_strengths s1.toNatClampNeg s2) m_sounds (x4 + (1 : Int32)) x5 x6 (x7 + 1) hM _ _ _ hP hD hS (lv_sub hl [2, 3, 4, 5, 1, 6, 7, 0] rfl)
set_option maxHeartbeats 4000000 in
set_option maxRecDepth 100000 in
theorem wX7_layLine_b97 {p : Program} {l : Launch} {e : Env} {s : State} {m : MethodId} {args : Array Value} {below : List Frame} {meth : Method} {c : Code} {Q : State → Prop} {G : va_G} {K : Nat → ClassId} {A : Nat → Prop} (C0 : CX p s m args c cX7_layLine 9 RX7 G K E0 A) (m_a mA_lane mA_many mA_item mA_poem mA_fresh mA_then mA_was mA_tape mA_strengths mA_sounds mA_stand mA_scheme mA_isKept mA_kept mA_trace arA1 : Nat) (m_thrown : Int32) (m_status : Int32) (m_acts : Int32) (m_taped : Int32) (m_cursor : Int32) (m_start : Int32) (m_token : Int32) (m_value : Int32) (m_fault : Int32) (m_faultAt : Int32) (m_latest : Int32) (m_stands : Int32) (m_least : Int32) (m_ways : Int32) (m_nearFoot : Int32) (m_nearFeet : Int32) (m_nearCost : Int32) (m_traced : Int32) (ar1 : Nat → Int32) (p2 : Int32) (p3 : Int32) (r : Int32) (o_m_strengths : Nat → Int32) (o_m_sounds : Nat → Int32) (kr : ∀ (H : Heap) (locs : List Loc) (ls : Array Slot) (pc : Nat), decode cX7_layLine pc = .ok (.ireturn, 1) → va_P G vwCl (WX7_layLine K m_a mA_lane mA_many mA_item mA_poem mA_fresh mA_then mA_was mA_tape mA_strengths mA_sounds mA_stand mA_scheme mA_isKept mA_kept mA_trace arA1 m_thrown m_status m_acts m_taped m_cursor m_start m_token m_value m_fault m_faultAt m_latest m_stands m_least m_ways m_nearFoot m_nearFeet m_nearCost m_traced o_m_strengths o_m_sounds ar1) H → va_D A (WX7_layLine K m_a mA_lane mA_many mA_item mA_poem mA_fresh mA_then mA_was mA_tape mA_strengths mA_sounds mA_stand mA_scheme mA_isKept mA_kept mA_trace arA1 m_thrown m_status m_acts m_taped m_cursor m_start m_token m_value m_fault m_faultAt m_latest m_stands m_least m_ways m_nearFoot m_nearFeet m_nearCost m_traced o_m_strengths o_m_sounds ar1) → va_S A s.heap H locs → W p l e rmX7_layLine s m args below meth c H locs 0 0 Q (F0 m pc ls [.int r])) (k13 : (Nat → Int32) → (Nat → Int32) → Int32 → Int32 → Int32 → Option (Int32 × (Nat → Int32) × (Nat → Int32))) (hk13 : ∀ (m_strengths : Nat → Int32) (m_sounds : Nat → Int32) (x4 : Int32) (x5 : Int32) (x6 : Int32), k13 m_strengths m_sounds x4 x5 x6 = some (r, o_m_strengths, o_m_sounds) → ∀ (H : Heap) (locs : List Loc) (ls : Array Slot), va_P G vwCl (WX7_layLine K m_a mA_lane mA_many mA_item mA_poem mA_fresh mA_then mA_was mA_tape mA_strengths mA_sounds mA_stand mA_scheme mA_isKept mA_kept mA_trace arA1 m_thrown m_status m_acts m_taped m_cursor m_start m_token m_value m_fault m_faultAt m_latest m_stands m_least m_ways m_nearFoot m_nearFeet m_nearCost m_traced m_strengths m_sounds ar1) H → va_D A (WX7_layLine K m_a mA_lane mA_many mA_item mA_poem mA_fresh mA_then mA_was mA_tape mA_strengths mA_sounds mA_stand mA_scheme mA_isKept mA_kept mA_trace arA1 m_thrown m_status m_acts m_taped m_cursor m_start m_token m_value m_fault m_faultAt m_latest m_stands m_least m_ways m_nearFoot m_nearFeet m_nearCost m_traced m_strengths m_sounds ar1) → va_S A s.heap H locs → lv_has ls 9 [(0, .ref m_a), (1, .ref arA1), (2, .int p2), (3, .int p3), (4, .int x4), (5, .int x5), (6, .int x6)] → W p l e rmX7_layLine s m args below meth c H locs 0 0 Q (F0 m 13 ls [])) (k42 : (Nat → Int32) → (Nat → Int32) → Int32 → Int32 → Int32 → Int32 → Option (Int32 × (Nat → Int32) × (Nat → Int32))) (hk42 : ∀ (m_strengths : Nat → Int32) (m_sounds : Nat → Int32) (x4 : Int32) (x5 : Int32) (x6 : Int32) (x7 : Int32), k42 m_strengths m_sounds x4 x5 x6 x7 = some (r, o_m_strengths, o_m_sounds) → ∀ (H : Heap) (locs : List Loc) (ls : Array Slot), va_P G vwCl (WX7_layLine K m_a mA_lane mA_many mA_item mA_poem mA_fresh mA_then mA_was mA_tape mA_strengths mA_sounds mA_stand mA_scheme mA_isKept mA_kept mA_trace arA1 m_thrown m_status m_acts m_taped m_cursor m_start m_token m_value m_fault m_faultAt m_latest m_stands m_least m_ways m_nearFoot m_nearFeet m_nearCost m_traced m_strengths m_sounds ar1) H → va_D A (WX7_layLine K m_a mA_lane mA_many mA_item mA_poem mA_fresh mA_then mA_was mA_tape mA_strengths mA_sounds mA_stand mA_scheme mA_isKept mA_kept mA_trace arA1 m_thrown m_status m_acts m_taped m_cursor m_start m_token m_value m_fault m_faultAt m_latest m_stands m_least m_ways m_nearFoot m_nearFeet m_nearCost m_traced m_strengths m_sounds ar1) → va_S A s.heap H locs → lv_has ls 9 [(0, .ref m_a), (1, .ref arA1), (2, .int p2), (3, .int p3), (4, .int x4), (5, .int x5), (6, .int x6), (7, .int x7)] → W p l e rmX7_layLine s m args below meth c H locs 0 0 Q (F0 m 42 ls [])) (m_strengths : Nat → Int32) (m_sounds : Nat → Int32) (x4 : Int32) (x5 : Int32) (x6 : Int32) (x7 : Int32) (x8 : Int32) (s1 : Int32) (hM : mX7_layLine_b97 ar1 p2 p3 k13 k42 m_strengths m_sounds x4 x5 x6 x7 x8 s1 = some (r, o_m_strengths, o_m_sounds)) : ∀ (H : Heap) (locs : List Loc) (ls : Array Slot), va_P G vwCl (WX7_layLine K m_a mA_lane mA_many mA_item mA_poem mA_fresh mA_then mA_was mA_tape mA_strengths mA_sounds mA_stand mA_scheme mA_isKept mA_kept mA_trace arA1 m_thrown m_status m_acts m_taped m_cursor m_start m_token m_value m_fault m_faultAt m_latest m_stands m_least m_ways m_nearFoot m_nearFeet m_nearCost m_traced m_strengths m_sounds ar1) H → va_D A (WX7_layLine K m_a mA_lane mA_many mA_item mA_poem mA_fresh mA_then mA_was mA_tape mA_strengths mA_sounds mA_stand mA_scheme mA_isKept mA_kept mA_trace arA1 m_thrown m_status m_acts m_taped m_cursor m_start m_token m_value m_fault m_faultAt m_latest m_stands m_least m_ways m_nearFoot m_nearFeet m_nearCost m_traced m_strengths m_sounds ar1) → va_S A s.heap H locs → lv_has ls 9 [(0, .ref m_a), (1, .ref arA1), (2, .int p2), (3, .int p3), (4, .int x4), (5, .int x5), (6, .int x6), (7, .int x7), (8, .int x8)] → W p l e rmX7_layLine s m args below meth c H locs 0 0 Q (F0 m 97 ls [.int s1, .ref mA_strengths]) := by
  obtain ⟨hx, hb, hml, hown, hts, hK, hA, hEo, hE⟩ := id C0
  intro H locs ls hP hD hS hl
  unfold mX7_layLine_b97 at hM
  refine lv_iload hx hb dX7_layLine_97 (lv_at hl 8 rfl) ?_
  exact wX7_layLine_b99 C0 m_a mA_lane mA_many mA_item mA_poem mA_fresh mA_then mA_was mA_tape mA_strengths mA_sounds mA_stand mA_scheme mA_isKept mA_kept mA_trace arA1 m_thrown m_status m_acts m_taped m_cursor m_start m_token m_value m_fault m_faultAt m_latest m_stands m_least m_ways m_nearFoot m_nearFeet m_nearCost m_traced ar1 p2 p3 r o_m_strengths o_m_sounds kr k13 hk13 k42 hk42 m_strengths m_sounds x4 x5 x6 x7 x8 s1 x8 hM _ _ _ hP hD hS (lv_sub hl [0, 1, 2, 3, 4, 5, 6, 7, 8] rfl)
set_option maxHeartbeats 4000000 in
set_option maxRecDepth 100000 in
theorem wX7_layLine_b42 {p : Program} {l : Launch} {e : Env} {s : State} {m : MethodId} {args : Array Value} {below : List Frame} {meth : Method} {c : Code} {Q : State → Prop} {G : va_G} {K : Nat → ClassId} {A : Nat → Prop} (C0 : CX p s m args c cX7_layLine 9 RX7 G K E0 A) (m_a mA_lane mA_many mA_item mA_poem mA_fresh mA_then mA_was mA_tape mA_strengths mA_sounds mA_stand mA_scheme mA_isKept mA_kept mA_trace arA1 : Nat) (m_thrown : Int32) (m_status : Int32) (m_acts : Int32) (m_taped : Int32) (m_cursor : Int32) (m_start : Int32) (m_token : Int32) (m_value : Int32) (m_fault : Int32) (m_faultAt : Int32) (m_latest : Int32) (m_stands : Int32) (m_least : Int32) (m_ways : Int32) (m_nearFoot : Int32) (m_nearFeet : Int32) (m_nearCost : Int32) (m_traced : Int32) (ar1 : Nat → Int32) (p2 : Int32) (p3 : Int32) (r : Int32) (o_m_strengths : Nat → Int32) (o_m_sounds : Nat → Int32) (kr : ∀ (H : Heap) (locs : List Loc) (ls : Array Slot) (pc : Nat), decode cX7_layLine pc = .ok (.ireturn, 1) → va_P G vwCl (WX7_layLine K m_a mA_lane mA_many mA_item mA_poem mA_fresh mA_then mA_was mA_tape mA_strengths mA_sounds mA_stand mA_scheme mA_isKept mA_kept mA_trace arA1 m_thrown m_status m_acts m_taped m_cursor m_start m_token m_value m_fault m_faultAt m_latest m_stands m_least m_ways m_nearFoot m_nearFeet m_nearCost m_traced o_m_strengths o_m_sounds ar1) H → va_D A (WX7_layLine K m_a mA_lane mA_many mA_item mA_poem mA_fresh mA_then mA_was mA_tape mA_strengths mA_sounds mA_stand mA_scheme mA_isKept mA_kept mA_trace arA1 m_thrown m_status m_acts m_taped m_cursor m_start m_token m_value m_fault m_faultAt m_latest m_stands m_least m_ways m_nearFoot m_nearFeet m_nearCost m_traced o_m_strengths o_m_sounds ar1) → va_S A s.heap H locs → W p l e rmX7_layLine s m args below meth c H locs 0 0 Q (F0 m pc ls [.int r])) (k13 : (Nat → Int32) → (Nat → Int32) → Int32 → Int32 → Int32 → Option (Int32 × (Nat → Int32) × (Nat → Int32))) (hk13 : ∀ (m_strengths : Nat → Int32) (m_sounds : Nat → Int32) (x4 : Int32) (x5 : Int32) (x6 : Int32), k13 m_strengths m_sounds x4 x5 x6 = some (r, o_m_strengths, o_m_sounds) → ∀ (H : Heap) (locs : List Loc) (ls : Array Slot), va_P G vwCl (WX7_layLine K m_a mA_lane mA_many mA_item mA_poem mA_fresh mA_then mA_was mA_tape mA_strengths mA_sounds mA_stand mA_scheme mA_isKept mA_kept mA_trace arA1 m_thrown m_status m_acts m_taped m_cursor m_start m_token m_value m_fault m_faultAt m_latest m_stands m_least m_ways m_nearFoot m_nearFeet m_nearCost m_traced m_strengths m_sounds ar1) H → va_D A (WX7_layLine K m_a mA_lane mA_many mA_item mA_poem mA_fresh mA_then mA_was mA_tape mA_strengths mA_sounds mA_stand mA_scheme mA_isKept mA_kept mA_trace arA1 m_thrown m_status m_acts m_taped m_cursor m_start m_token m_value m_fault m_faultAt m_latest m_stands m_least m_ways m_nearFoot m_nearFeet m_nearCost m_traced m_strengths m_sounds ar1) → va_S A s.heap H locs → lv_has ls 9 [(0, .ref m_a), (1, .ref arA1), (2, .int p2), (3, .int p3), (4, .int x4), (5, .int x5), (6, .int x6)] → W p l e rmX7_layLine s m args below meth c H locs 0 0 Q (F0 m 13 ls [])) (n : Nat) : ∀ (m_strengths : Nat → Int32) (m_sounds : Nat → Int32) (x4 : Int32) (x5 : Int32) (x6 : Int32) (x7 : Int32), mX7_layLine_b42 ar1 p2 p3 k13 n m_strengths m_sounds x4 x5 x6 x7 = some (r, o_m_strengths, o_m_sounds) → ∀ (H : Heap) (locs : List Loc) (ls : Array Slot), va_P G vwCl (WX7_layLine K m_a mA_lane mA_many mA_item mA_poem mA_fresh mA_then mA_was mA_tape mA_strengths mA_sounds mA_stand mA_scheme mA_isKept mA_kept mA_trace arA1 m_thrown m_status m_acts m_taped m_cursor m_start m_token m_value m_fault m_faultAt m_latest m_stands m_least m_ways m_nearFoot m_nearFeet m_nearCost m_traced m_strengths m_sounds ar1) H → va_D A (WX7_layLine K m_a mA_lane mA_many mA_item mA_poem mA_fresh mA_then mA_was mA_tape mA_strengths mA_sounds mA_stand mA_scheme mA_isKept mA_kept mA_trace arA1 m_thrown m_status m_acts m_taped m_cursor m_start m_token m_value m_fault m_faultAt m_latest m_stands m_least m_ways m_nearFoot m_nearFeet m_nearCost m_traced m_strengths m_sounds ar1) → va_S A s.heap H locs → lv_has ls 9 [(0, .ref m_a), (1, .ref arA1), (2, .int p2), (3, .int p3), (4, .int x4), (5, .int x5), (6, .int x6), (7, .int x7)] → W p l e rmX7_layLine s m args below meth c H locs 0 0 Q (F0 m 42 ls []) := by
  obtain ⟨hx, hb, hml, hown, hts, hK, hA, hEo, hE⟩ := id C0
  induction n with
  | zero =>
    intro m_strengths m_sounds x4 x5 x6 x7 hM
    cases hM
  | succ n ih =>
    intro m_strengths m_sounds x4 x5 x6 x7 hM H locs ls hP hD hS hl
    rw [mX7_layLine_b42] at hM
    refine lv_iload hx hb dX7_layLine_42 (lv_at hl 7 rfl) ?_
    refine lv_aload_n hx hb dX7_layLine_44 rfl (lv_at hl 0 rfl) ?_
    refine va_get (D := G) (ci := 7) (v := .ref mA_sounds) (C := RX7) (T := TX7) (N := 33) hx hb hts inX7 hown hK hP 0 rfl rfl 20 (by decide) (hts _ tb784) (fun _ h9 => h9) rfl dX7_layLine_45 ?_
    refine lv_iload hx hb dX7_layLine_48 (lv_at hl 6 rfl) ?_
    obtain ⟨g_3, hM⟩ := ng hM
    refine va_iald hx hb hK hP 2 0 rfl rfl g_3 dX7_layLine_50 ?_
    refine lv_icmp_ge (tgt := 122) hx hb dX7_layLine_51 (by decide) (fun c_4 => ?_) (fun c_4 => ?_)
    · rw [if_pos c_4] at hM
      refine lv_iinc (v := (x6 + 1)) (lv' := [(6, .int (x6 + 1)), (0, .ref m_a), (1, .ref arA1), (2, .int p2), (3, .int p3), (4, .int x4), (5, .int x5), (7, .int x7)]) hx hb dX7_layLine_122 hl (k := 6) rfl rfl (by decide) rfl (fun ls hl => ?_)
      refine lv_goto (tgt := 13) hx hb dX7_layLine_125 (by decide) ?_
      exact hk13 m_strengths m_sounds x4 x5 (x6 + 1) hM _ _ _ hP hD hS (lv_sub hl [1, 2, 3, 4, 5, 6, 0] rfl)
    · rw [if_neg c_4] at hM
      refine lv_aload_n hx hb dX7_layLine_54 rfl (lv_at hl 1 rfl) ?_
      refine lv_iload hx hb dX7_layLine_55 (lv_at hl 5 rfl) ?_
      refine lv_iload hx hb dX7_layLine_57 (lv_at hl 6 rfl) ?_
      refine lv_iadd hx hb dX7_layLine_59 ?_
      refine lv_iload hx hb dX7_layLine_60 (lv_at hl 7 rfl) ?_
      obtain ⟨r_5, hC, hM⟩ := oe1 hM
      refine cS_i (As := [.ref arA1, .int (x5 + x6), .int x7]) (rest := []) C0 hP hD hS [3] (kX7_strength l G K arA1 ar1 (x5 + x6) x7 H.size r_5 hC) rfl rfl rfl tb1052 tb1053 tb9 tb1054 hdX7_strength ⟨Nat.le_of_ble_eq_true rfl, Nat.le_of_ble_eq_true rfl⟩ rfl hl.1 (Nat.le_of_ble_eq_true rfl) rfl ⟨Nat.le_refl _, Nat.le_refl _⟩ dX7_layLine_62 (fun H locs hP hD hS => ?_)
      have hP : va_P G vwCl (WX7_layLine K m_a mA_lane mA_many mA_item mA_poem mA_fresh mA_then mA_was mA_tape mA_strengths mA_sounds mA_stand mA_scheme mA_isKept mA_kept mA_trace arA1 m_thrown m_status m_acts m_taped m_cursor m_start m_token m_value m_fault m_faultAt m_latest m_stands m_least m_ways m_nearFoot m_nearFeet m_nearCost m_traced m_strengths m_sounds ar1) H := hP
      have hD : va_D A (WX7_layLine K m_a mA_lane mA_many mA_item mA_poem mA_fresh mA_then mA_was mA_tape mA_strengths mA_sounds mA_stand mA_scheme mA_isKept mA_kept mA_trace arA1 m_thrown m_status m_acts m_taped m_cursor m_start m_token m_value m_fault m_faultAt m_latest m_stands m_least m_ways m_nearFoot m_nearFeet m_nearCost m_traced m_strengths m_sounds ar1) := hD
      refine lv_istore (lv' := [(8, .int r_5), (0, .ref m_a), (1, .ref arA1), (2, .int p2), (3, .int p3), (4, .int x4), (5, .int x5), (6, .int x6), (7, .int x7)]) hx hb dX7_layLine_65 hl (by decide) rfl (fun ls hl => ?_)
      refine lv_aload_n hx hb dX7_layLine_67 rfl (lv_at hl 1 rfl) ?_
      refine va_get (D := G) (ci := 7) (v := .ref mA_strengths) (C := RX7) (T := TX7) (N := 33) hx hb hts inX7 hown hK hP 0 rfl rfl 19 (by decide) (hts _ tb783) (fun _ h9 => h9) rfl dX7_layLine_68 ?_
      refine lv_iconst (v := 4) hx hb dX7_layLine_71 (by decide) ?_
      refine lv_iload hx hb dX7_layLine_72 (lv_at hl 7 rfl) ?_
      refine lv_imul hx hb dX7_layLine_74 ?_
      refine lv_iload hx hb dX7_layLine_75 (lv_at hl 8 rfl) ?_
      refine lv_iadd hx hb dX7_layLine_77 ?_
      refine lv_iload hx hb dX7_layLine_78 (lv_at hl 0 rfl) ?_
      refine lv_iconst (v := 2) hx hb dX7_layLine_80 (by decide) ?_
      refine lv_icmp_ne (tgt := 97) hx hb dX7_layLine_81 (by decide) (fun c_6 => ?_) (fun c_6 => ?_)
      · rw [if_neg c_6] at hM
        exact wX7_layLine_b97 C0 m_a mA_lane mA_many mA_item mA_poem mA_fresh mA_then mA_was mA_tape mA_strengths mA_sounds mA_stand mA_scheme mA_isKept mA_kept mA_trace arA1 m_thrown m_status m_acts m_taped m_cursor m_start m_token m_value m_fault m_faultAt m_latest m_stands m_least m_ways m_nearFoot m_nearFeet m_nearCost m_traced ar1 p2 p3 r o_m_strengths o_m_sounds kr k13 hk13 (mX7_layLine_b42 ar1 p2 p3 k13 n) ih m_strengths m_sounds x4 x5 x6 x7 r_5 (((4 : Int32) * x6) + x7) hM _ _ _ hP hD hS (lv_sub hl [1, 2, 3, 4, 5, 6, 7, 8, 0] rfl)
      · rw [if_pos c_6] at hM
        refine lv_iload_n hx hb dX7_layLine_84 rfl (lv_at hl 4 rfl) ?_
        refine lv_if_lt (tgt := 97) hx hb dX7_layLine_85 (by decide) (fun c_7 => ?_) (fun c_7 => ?_)
        · rw [if_pos c_7] at hM
          exact wX7_layLine_b97 C0 m_a mA_lane mA_many mA_item mA_poem mA_fresh mA_then mA_was mA_tape mA_strengths mA_sounds mA_stand mA_scheme mA_isKept mA_kept mA_trace arA1 m_thrown m_status m_acts m_taped m_cursor m_start m_token m_value m_fault m_faultAt m_latest m_stands m_least m_ways m_nearFoot m_nearFeet m_nearCost m_traced ar1 p2 p3 r o_m_strengths o_m_sounds kr k13 hk13 (mX7_layLine_b42 ar1 p2 p3 k13 n) ih m_strengths m_sounds x4 x5 x6 x7 r_5 (((4 : Int32) * x6) + x7) hM _ _ _ hP hD hS (lv_sub hl [1, 2, 3, 4, 5, 6, 7, 8, 0] rfl)
        · rw [if_neg c_7] at hM
          refine lv_iload_n hx hb dX7_layLine_88 rfl (lv_at hl 4 rfl) ?_
          refine lv_iload hx hb dX7_layLine_89 (lv_at hl 5 rfl) ?_
          refine lv_ishr hx hb dX7_layLine_91 ?_
          refine lv_iconst (v := 1) hx hb dX7_layLine_92 (by decide) ?_
          refine lv_iand hx hb dX7_layLine_93 ?_
          refine lv_goto (tgt := 99) hx hb dX7_layLine_94 (by decide) ?_
          exact wX7_layLine_b99 C0 m_a mA_lane mA_many mA_item mA_poem mA_fresh mA_then mA_was mA_tape mA_strengths mA_sounds mA_stand mA_scheme mA_isKept mA_kept mA_trace arA1 m_thrown m_status m_acts m_taped m_cursor m_start m_token m_value m_fault m_faultAt m_latest m_stands m_least m_ways m_nearFoot m_nearFeet m_nearCost m_traced ar1 p2 p3 r o_m_strengths o_m_sounds kr k13 hk13 (mX7_layLine_b42 ar1 p2 p3 k13 n) ih m_strengths m_sounds x4 x5 x6 x7 r_5 (((4 : Int32) * x6) + x7) ((p3 >>> (x4 &&& 31)) &&& (1 : Int32)) hM _ _ _ hP hD hS (lv_sub hl [1, 2, 3, 4, 5, 6, 7, 8, 0] rfl)
set_option maxHeartbeats 4000000 in
set_option maxRecDepth 100000 in
theorem wX7_layLine_b13 {p : Program} {l : Launch} {e : Env} {s : State} {m : MethodId} {args : Array Value} {below : List Frame} {meth : Method} {c : Code} {Q : State → Prop} {G : va_G} {K : Nat → ClassId} {A : Nat → Prop} (C0 : CX p s m args c cX7_layLine 9 RX7 G K E0 A) (m_a mA_lane mA_many mA_item mA_poem mA_fresh mA_then mA_was mA_tape mA_strengths mA_sounds mA_stand mA_scheme mA_isKept mA_kept mA_trace arA1 : Nat) (m_thrown : Int32) (m_status : Int32) (m_acts : Int32) (m_taped : Int32) (m_cursor : Int32) (m_start : Int32) (m_token : Int32) (m_value : Int32) (m_fault : Int32) (m_faultAt : Int32) (m_latest : Int32) (m_stands : Int32) (m_least : Int32) (m_ways : Int32) (m_nearFoot : Int32) (m_nearFeet : Int32) (m_nearCost : Int32) (m_traced : Int32) (ar1 : Nat → Int32) (p2 : Int32) (p3 : Int32) (r : Int32) (o_m_strengths : Nat → Int32) (o_m_sounds : Nat → Int32) (kr : ∀ (H : Heap) (locs : List Loc) (ls : Array Slot) (pc : Nat), decode cX7_layLine pc = .ok (.ireturn, 1) → va_P G vwCl (WX7_layLine K m_a mA_lane mA_many mA_item mA_poem mA_fresh mA_then mA_was mA_tape mA_strengths mA_sounds mA_stand mA_scheme mA_isKept mA_kept mA_trace arA1 m_thrown m_status m_acts m_taped m_cursor m_start m_token m_value m_fault m_faultAt m_latest m_stands m_least m_ways m_nearFoot m_nearFeet m_nearCost m_traced o_m_strengths o_m_sounds ar1) H → va_D A (WX7_layLine K m_a mA_lane mA_many mA_item mA_poem mA_fresh mA_then mA_was mA_tape mA_strengths mA_sounds mA_stand mA_scheme mA_isKept mA_kept mA_trace arA1 m_thrown m_status m_acts m_taped m_cursor m_start m_token m_value m_fault m_faultAt m_latest m_stands m_least m_ways m_nearFoot m_nearFeet m_nearCost m_traced o_m_strengths o_m_sounds ar1) → va_S A s.heap H locs → W p l e rmX7_layLine s m args below meth c H locs 0 0 Q (F0 m pc ls [.int r])) (n : Nat) : ∀ (m_strengths : Nat → Int32) (m_sounds : Nat → Int32) (x4 : Int32) (x5 : Int32) (x6 : Int32), mX7_layLine_b13 ar1 p2 p3  n m_strengths m_sounds x4 x5 x6 = some (r, o_m_strengths, o_m_sounds) → ∀ (H : Heap) (locs : List Loc) (ls : Array Slot), va_P G vwCl (WX7_layLine K m_a mA_lane mA_many mA_item mA_poem mA_fresh mA_then mA_was mA_tape mA_strengths mA_sounds mA_stand mA_scheme mA_isKept mA_kept mA_trace arA1 m_thrown m_status m_acts m_taped m_cursor m_start m_token m_value m_fault m_faultAt m_latest m_stands m_least m_ways m_nearFoot m_nearFeet m_nearCost m_traced m_strengths m_sounds ar1) H → va_D A (WX7_layLine K m_a mA_lane mA_many mA_item mA_poem mA_fresh mA_then mA_was mA_tape mA_strengths mA_sounds mA_stand mA_scheme mA_isKept mA_kept mA_trace arA1 m_thrown m_status m_acts m_taped m_cursor m_start m_token m_value m_fault m_faultAt m_latest m_stands m_least m_ways m_nearFoot m_nearFeet m_nearCost m_traced m_strengths m_sounds ar1) → va_S A s.heap H locs → lv_has ls 9 [(0, .ref m_a), (1, .ref arA1), (2, .int p2), (3, .int p3), (4, .int x4), (5, .int x5), (6, .int x6)] → W p l e rmX7_layLine s m args below meth c H locs 0 0 Q (F0 m 13 ls []) := by
  obtain ⟨hx, hb, hml, hown, hts, hK, hA, hEo, hE⟩ := id C0
  induction n with
  | zero =>
    intro m_strengths m_sounds x4 x5 x6 hM
    cases hM
  | succ n ih =>
    intro m_strengths m_sounds x4 x5 x6 hM H locs ls hP hD hS hl
    rw [mX7_layLine_b13] at hM
    refine lv_iload hx hb dX7_layLine_13 (lv_at hl 6 rfl) ?_
    refine lv_aload_n hx hb dX7_layLine_15 rfl (lv_at hl 1 rfl) ?_
    refine lv_iconst (v := 3) hx hb dX7_layLine_16 (by decide) ?_
    refine lv_iload_n hx hb dX7_layLine_17 rfl (lv_at hl 2 rfl) ?_
    refine lv_iadd hx hb dX7_layLine_18 ?_
    obtain ⟨g_8, hM⟩ := ng hM
    refine va_iald hx hb hK hP 3 0 rfl rfl g_8 dX7_layLine_19 ?_
    refine lv_icmp_ge (tgt := 128) hx hb dX7_layLine_20 (by decide) (fun c_9 => ?_) (fun c_9 => ?_)
    · rw [if_pos c_9] at hM
      refine lv_iload hx hb dX7_layLine_128 (lv_at hl 4 rfl) ?_
      have t0 := Option.some.inj hM
      obtain ⟨q1, t1⟩ := Prod.mk.inj t0
      obtain ⟨q2, t2⟩ := Prod.mk.inj t1
      subst q1
      subst q2
      subst t2
      exact kr _ _ _ _ dX7_layLine_130 hP hD hS
    · rw [if_neg c_9] at hM
      refine lv_aload_n hx hb dX7_layLine_23 rfl (lv_at hl 0 rfl) ?_
      refine va_get (D := G) (ci := 7) (v := .ref mA_sounds) (C := RX7) (T := TX7) (N := 33) hx hb hts inX7 hown hK hP 0 rfl rfl 20 (by decide) (hts _ tb784) (fun _ h9 => h9) rfl dX7_layLine_24 ?_
      refine lv_iload hx hb dX7_layLine_27 (lv_at hl 6 rfl) ?_
      refine lv_aload_n hx hb dX7_layLine_29 rfl (lv_at hl 1 rfl) ?_
      refine lv_iload hx hb dX7_layLine_30 (lv_at hl 5 rfl) ?_
      refine lv_iload hx hb dX7_layLine_32 (lv_at hl 6 rfl) ?_
      refine lv_iadd hx hb dX7_layLine_34 ?_
      obtain ⟨r_10, hC, hM⟩ := oe1 hM
      refine cS_i (As := [.ref arA1, .int (x5 + x6)]) (rest := [.int x6, .ref mA_sounds]) C0 hP hD hS [3] (kX7_syllables l G K arA1 ar1 (x5 + x6) H.size r_10 hC) rfl rfl rfl tb1036 tb1037 tb9 tb1038 hdX7_syllables ⟨Nat.le_of_ble_eq_true rfl, Nat.le_of_ble_eq_true rfl⟩ rfl hl.1 (Nat.le_of_ble_eq_true rfl) rfl ⟨Nat.le_refl _, Nat.le_refl _⟩ dX7_layLine_35 (fun H locs hP hD hS => ?_)
      have hP : va_P G vwCl (WX7_layLine K m_a mA_lane mA_many mA_item mA_poem mA_fresh mA_then mA_was mA_tape mA_strengths mA_sounds mA_stand mA_scheme mA_isKept mA_kept mA_trace arA1 m_thrown m_status m_acts m_taped m_cursor m_start m_token m_value m_fault m_faultAt m_latest m_stands m_least m_ways m_nearFoot m_nearFeet m_nearCost m_traced m_strengths m_sounds ar1) H := hP
      have hD : va_D A (WX7_layLine K m_a mA_lane mA_many mA_item mA_poem mA_fresh mA_then mA_was mA_tape mA_strengths mA_sounds mA_stand mA_scheme mA_isKept mA_kept mA_trace arA1 m_thrown m_status m_acts m_taped m_cursor m_start m_token m_value m_fault m_faultAt m_latest m_stands m_least m_ways m_nearFoot m_nearFeet m_nearCost m_traced m_strengths m_sounds ar1) := hD
      obtain ⟨g_11, hM⟩ := ng hM
      refine va_iast hx hb hK hP hD hS 2 0 rfl rfl g_11 dX7_layLine_38 (fun H locs hP hD hS => ?_)
      have hP : va_P G vwCl (WX7_layLine K m_a mA_lane mA_many mA_item mA_poem mA_fresh mA_then mA_was mA_tape mA_strengths mA_sounds mA_stand mA_scheme mA_isKept mA_kept mA_trace arA1 m_thrown m_status m_acts m_taped m_cursor m_start m_token m_value m_fault m_faultAt m_latest m_stands m_least m_ways m_nearFoot m_nearFeet m_nearCost m_traced m_strengths (upd m_sounds x6.toNatClampNeg r_10) ar1) H := hP
      have hD : va_D A (WX7_layLine K m_a mA_lane mA_many mA_item mA_poem mA_fresh mA_then mA_was mA_tape mA_strengths mA_sounds mA_stand mA_scheme mA_isKept mA_kept mA_trace arA1 m_thrown m_status m_acts m_taped m_cursor m_start m_token m_value m_fault m_faultAt m_latest m_stands m_least m_ways m_nearFoot m_nearFeet m_nearCost m_traced m_strengths (upd m_sounds x6.toNatClampNeg r_10) ar1) := hD
      refine lv_iconst (v := 0) hx hb dX7_layLine_39 (by decide) ?_
      refine lv_istore (lv' := [(7, .int (0 : Int32)), (0, .ref m_a), (1, .ref arA1), (2, .int p2), (3, .int p3), (4, .int x4), (5, .int x5), (6, .int x6)]) hx hb dX7_layLine_40 hl (by decide) rfl (fun ls hl => ?_)
      exact wX7_layLine_b42 C0 m_a mA_lane mA_many mA_item mA_poem mA_fresh mA_then mA_was mA_tape mA_strengths mA_sounds mA_stand mA_scheme mA_isKept mA_kept mA_trace arA1 m_thrown m_status m_acts m_taped m_cursor m_start m_token m_value m_fault m_faultAt m_latest m_stands m_least m_ways m_nearFoot m_nearFeet m_nearCost m_traced ar1 p2 p3 r o_m_strengths o_m_sounds kr (mX7_layLine_b13 ar1 p2 p3  n) ih FU m_strengths (upd m_sounds x6.toNatClampNeg r_10) x4 x5 x6 (0 : Int32) hM _ _ _ hP hD hS (lv_sub hl [1, 2, 3, 4, 5, 6, 7, 0] rfl)
set_option maxHeartbeats 4000000 in
set_option maxRecDepth 100000 in
theorem wX7_layLine_b0 {p : Program} {l : Launch} {e : Env} {s : State} {m : MethodId} {args : Array Value} {below : List Frame} {meth : Method} {c : Code} {Q : State → Prop} {G : va_G} {K : Nat → ClassId} {A : Nat → Prop} (C0 : CX p s m args c cX7_layLine 9 RX7 G K E0 A) (m_a mA_lane mA_many mA_item mA_poem mA_fresh mA_then mA_was mA_tape mA_strengths mA_sounds mA_stand mA_scheme mA_isKept mA_kept mA_trace arA1 : Nat) (m_thrown : Int32) (m_status : Int32) (m_acts : Int32) (m_taped : Int32) (m_cursor : Int32) (m_start : Int32) (m_token : Int32) (m_value : Int32) (m_fault : Int32) (m_faultAt : Int32) (m_latest : Int32) (m_stands : Int32) (m_least : Int32) (m_ways : Int32) (m_nearFoot : Int32) (m_nearFeet : Int32) (m_nearCost : Int32) (m_traced : Int32) (ar1 : Nat → Int32) (p2 : Int32) (p3 : Int32) (r : Int32) (o_m_strengths : Nat → Int32) (o_m_sounds : Nat → Int32) (kr : ∀ (H : Heap) (locs : List Loc) (ls : Array Slot) (pc : Nat), decode cX7_layLine pc = .ok (.ireturn, 1) → va_P G vwCl (WX7_layLine K m_a mA_lane mA_many mA_item mA_poem mA_fresh mA_then mA_was mA_tape mA_strengths mA_sounds mA_stand mA_scheme mA_isKept mA_kept mA_trace arA1 m_thrown m_status m_acts m_taped m_cursor m_start m_token m_value m_fault m_faultAt m_latest m_stands m_least m_ways m_nearFoot m_nearFeet m_nearCost m_traced o_m_strengths o_m_sounds ar1) H → va_D A (WX7_layLine K m_a mA_lane mA_many mA_item mA_poem mA_fresh mA_then mA_was mA_tape mA_strengths mA_sounds mA_stand mA_scheme mA_isKept mA_kept mA_trace arA1 m_thrown m_status m_acts m_taped m_cursor m_start m_token m_value m_fault m_faultAt m_latest m_stands m_least m_ways m_nearFoot m_nearFeet m_nearCost m_traced o_m_strengths o_m_sounds ar1) → va_S A s.heap H locs → W p l e rmX7_layLine s m args below meth c H locs 0 0 Q (F0 m pc ls [.int r])) (m_strengths : Nat → Int32) (m_sounds : Nat → Int32) (hM : mX7_layLine_b0 ar1 p2 p3  m_strengths m_sounds = some (r, o_m_strengths, o_m_sounds)) : ∀ (H : Heap) (locs : List Loc) (ls : Array Slot), va_P G vwCl (WX7_layLine K m_a mA_lane mA_many mA_item mA_poem mA_fresh mA_then mA_was mA_tape mA_strengths mA_sounds mA_stand mA_scheme mA_isKept mA_kept mA_trace arA1 m_thrown m_status m_acts m_taped m_cursor m_start m_token m_value m_fault m_faultAt m_latest m_stands m_least m_ways m_nearFoot m_nearFeet m_nearCost m_traced m_strengths m_sounds ar1) H → va_D A (WX7_layLine K m_a mA_lane mA_many mA_item mA_poem mA_fresh mA_then mA_was mA_tape mA_strengths mA_sounds mA_stand mA_scheme mA_isKept mA_kept mA_trace arA1 m_thrown m_status m_acts m_taped m_cursor m_start m_token m_value m_fault m_faultAt m_latest m_stands m_least m_ways m_nearFoot m_nearFeet m_nearCost m_traced m_strengths m_sounds ar1) → va_S A s.heap H locs → lv_has ls 9 [(0, .ref m_a), (1, .ref arA1), (2, .int p2), (3, .int p3)] → W p l e rmX7_layLine s m args below meth c H locs 0 0 Q (F0 m 0 ls []) := by
  obtain ⟨hx, hb, hml, hown, hts, hK, hA, hEo, hE⟩ := id C0
  intro H locs ls hP hD hS hl
  unfold mX7_layLine_b0 at hM
  refine lv_iconst (v := 0) hx hb dX7_layLine_0 (by decide) ?_
  refine lv_istore (lv' := [(4, .int (0 : Int32)), (0, .ref m_a), (1, .ref arA1), (2, .int p2), (3, .int p3)]) hx hb dX7_layLine_1 hl (by decide) rfl (fun ls hl => ?_)
  refine lv_aload_n hx hb dX7_layLine_3 rfl (lv_at hl 2 rfl) ?_
  refine lv_iload_n hx hb dX7_layLine_4 rfl (lv_at hl 3 rfl) ?_
  obtain ⟨r_12, hC, hM⟩ := oe1 hM
  refine cS_i (As := [.ref arA1, .int p2]) (rest := []) C0 hP hD hS [3] (kX7_firstOf l G K arA1 ar1 p2 H.size r_12 hC) rfl rfl rfl tb996 tb997 tb9 tb998 hdX7_firstOf ⟨Nat.le_of_ble_eq_true rfl, Nat.le_of_ble_eq_true rfl⟩ rfl hl.1 (Nat.le_of_ble_eq_true rfl) rfl ⟨Nat.le_refl _, Nat.le_refl _⟩ dX7_layLine_5 (fun H locs hP hD hS => ?_)
  have hP : va_P G vwCl (WX7_layLine K m_a mA_lane mA_many mA_item mA_poem mA_fresh mA_then mA_was mA_tape mA_strengths mA_sounds mA_stand mA_scheme mA_isKept mA_kept mA_trace arA1 m_thrown m_status m_acts m_taped m_cursor m_start m_token m_value m_fault m_faultAt m_latest m_stands m_least m_ways m_nearFoot m_nearFeet m_nearCost m_traced m_strengths m_sounds ar1) H := hP
  have hD : va_D A (WX7_layLine K m_a mA_lane mA_many mA_item mA_poem mA_fresh mA_then mA_was mA_tape mA_strengths mA_sounds mA_stand mA_scheme mA_isKept mA_kept mA_trace arA1 m_thrown m_status m_acts m_taped m_cursor m_start m_token m_value m_fault m_faultAt m_latest m_stands m_least m_ways m_nearFoot m_nearFeet m_nearCost m_traced m_strengths m_sounds ar1) := hD
  refine lv_istore (lv' := [(5, .int r_12), (4, .int (0 : Int32)), (0, .ref m_a), (1, .ref arA1), (2, .int p2), (3, .int p3)]) hx hb dX7_layLine_8 hl (by decide) rfl (fun ls hl => ?_)
  refine lv_iconst (v := 0) hx hb dX7_layLine_10 (by decide) ?_
  refine lv_istore (lv' := [(6, .int (0 : Int32)), (5, .int r_12), (4, .int (0 : Int32)), (0, .ref m_a), (1, .ref arA1), (2, .int p2), (3, .int p3)]) hx hb dX7_layLine_11 hl (by decide) rfl (fun ls hl => ?_)
  exact wX7_layLine_b13 C0 m_a mA_lane mA_many mA_item mA_poem mA_fresh mA_then mA_was mA_tape mA_strengths mA_sounds mA_stand mA_scheme mA_isKept mA_kept mA_trace arA1 m_thrown m_status m_acts m_taped m_cursor m_start m_token m_value m_fault m_faultAt m_latest m_stands m_least m_ways m_nearFoot m_nearFeet m_nearCost m_traced ar1 p2 p3 r o_m_strengths o_m_sounds kr  FU m_strengths m_sounds (0 : Int32) r_12 (0 : Int32) hM _ _ _ hP hD hS (lv_sub hl [3, 4, 5, 6, 2, 1, 0] rfl)
set_option maxHeartbeats 4000000 in
set_option maxRecDepth 100000 in
theorem kX7_layLine (l : Launch) (G : va_G) (K : Nat → ClassId) (m_a mA_lane mA_many mA_item mA_poem mA_fresh mA_then mA_was mA_tape mA_strengths mA_sounds mA_stand mA_scheme mA_isKept mA_kept mA_trace arA1 : Nat) (m_thrown : Int32) (m_status : Int32) (m_acts : Int32) (m_taped : Int32) (m_cursor : Int32) (m_start : Int32) (m_token : Int32) (m_value : Int32) (m_fault : Int32) (m_faultAt : Int32) (m_latest : Int32) (m_stands : Int32) (m_least : Int32) (m_ways : Int32) (m_nearFoot : Int32) (m_nearFeet : Int32) (m_nearCost : Int32) (m_traced : Int32) (m_strengths : Nat → Int32) (m_sounds : Nat → Int32) (ar1 : Nat → Int32) (p2 : Int32) (p3 : Int32) (sz : Nat) (r : Int32) (o_m_strengths : Nat → Int32) (o_m_sounds : Nat → Int32) (hM : mX7_layLine ar1 m_strengths m_sounds p2 p3 = some (r, o_m_strengths, o_m_sounds)) : Met l yX7_layLine (mC yX7_layLine cX7_layLine 9 (some .int)) rmX7_layLine (va_Pc [.ref m_a, .ref arA1, .int p2, .int p3] (PCe G K E0 (WX7_layLine K m_a mA_lane mA_many mA_item mA_poem mA_fresh mA_then mA_was mA_tape mA_strengths mA_sounds mA_stand mA_scheme mA_isKept mA_kept mA_trace arA1 m_thrown m_status m_acts m_taped m_cursor m_start m_token m_value m_fault m_faultAt m_latest m_stands m_least m_ways m_nearFoot m_nearFeet m_nearCost m_traced m_strengths m_sounds ar1) sz)) (va_Qi (fun (x : Int32) (_ : Unit) => x = r) (fun _ t => va_P G vwCl (WX7_layLine K m_a mA_lane mA_many mA_item mA_poem mA_fresh mA_then mA_was mA_tape mA_strengths mA_sounds mA_stand mA_scheme mA_isKept mA_kept mA_trace arA1 m_thrown m_status m_acts m_taped m_cursor m_start m_token m_value m_fault m_faultAt m_latest m_stands m_least m_ways m_nearFoot m_nearFeet m_nearCost m_traced o_m_strengths o_m_sounds ar1) t.heap) (va_A (WX7_layLine K m_a mA_lane mA_many mA_item mA_poem mA_fresh mA_then mA_was mA_tape mA_strengths mA_sounds mA_stand mA_scheme mA_isKept mA_kept mA_trace arA1 m_thrown m_status m_acts m_taped m_cursor m_start m_token m_value m_fault m_faultAt m_latest m_stands m_least m_ways m_nearFoot m_nearFeet m_nearCost m_traced m_strengths m_sounds ar1) sz)) rmX7_layLine.cells rmX7_layLine.slots (va_A (WX7_layLine K m_a mA_lane mA_many mA_item mA_poem mA_fresh mA_then mA_was mA_tape mA_strengths mA_sounds mA_stand mA_scheme mA_isKept mA_kept mA_trace arA1 m_thrown m_status m_acts m_taped m_cursor m_start m_token m_value m_fault m_faultAt m_latest m_stands m_least m_ways m_nearFoot m_nearFeet m_nearCost m_traced m_strengths m_sounds ar1) sz) := by
  refine Met.ofW (cc := cX7_layLine) (maxL := 9) (ret := (some .int)) (by decide) rfl ?_
  intro p e s m args below meth c s₁ B hml hv
  obtain ⟨rfl, hsz, hP, hK, hD0, hE⟩ := hv
  have hx := B.exec
  have hb := B.bytes
  have hr := B.returns
  have hts0 := atoms_spec (ws := mC yX7_layLine cX7_layLine 9 (some .int)) B.pre
  have hts : ∀ w ∈ tbG, w.before _ s = true := fun w h => hts0 w (List.mem_cons_of_mem _ h)
  have hown : s.vm.findClass RX7 = some m.cls := findClass_of_methodNamed B.named
  subst hsz
  have hD := hD0.self (sz := s.heap.size)
  generalize hAe : va_A (WX7_layLine K m_a mA_lane mA_many mA_item mA_poem mA_fresh mA_then mA_was mA_tape mA_strengths mA_sounds mA_stand mA_scheme mA_isKept mA_kept mA_trace arA1 m_thrown m_status m_acts m_taped m_cursor m_start m_token m_value m_fault m_faultAt m_latest m_stands m_least m_ways m_nearFoot m_nearFeet m_nearCost m_traced m_strengths m_sounds ar1) s.heap.size = A at hD hE ⊢
  have hA : ∀ q : Nat, s.heap.size ≤ q → A q := fun q h => by rw [← hAe]; exact Or.inr h
  have hS : va_S A s.heap s.heap [] := va_S.rf
  have hl := lv_entry ([.ref m_a, .ref arA1, .int p2, .int p3]) (n := 9) (Nat.le_of_ble_eq_true rfl)
  rw [lg_entry_eq]
  generalize (lg_sl ([.ref m_a, .ref arA1, .int p2, .int p3]) ++ List.replicate (9 - (lg_sl ([.ref m_a, .ref arA1, .int p2, .int p3])).length) Slot.unset).toArray = ls at hl ⊢
  have hl : lv_has ls 9 [(0, .ref m_a), (1, .ref arA1), (2, .int p2), (3, .int p3)] := hl
  exact wX7_layLine_b0 ⟨hx, hb, hml, hown, hts, hK, hA, E0_ok, hE⟩ m_a mA_lane mA_many mA_item mA_poem mA_fresh mA_then mA_was mA_tape mA_strengths mA_sounds mA_stand mA_scheme mA_isKept mA_kept mA_trace arA1 m_thrown m_status m_acts m_taped m_cursor m_start m_token m_value m_fault m_faultAt m_latest m_stands m_least m_ways m_nearFoot m_nearFeet m_nearCost m_traced ar1 p2 p3 r o_m_strengths o_m_sounds (fun H locs ls pc hdg hP hD hS => W.iret (v := r) hx hb hr (fun t ht hW => ⟨⟨r, (), rfl, rfl, (show va_P G vwCl _ t.heap by rw [ht]; exact hP)⟩, hS.F ht⟩) hS.2.2 hdg) m_strengths m_sounds  hM _ _ _ hP hD hS hl
abbrev WX7_mayAll (K : Nat → ClassId) (m_a mA_lane mA_many mA_item mA_poem mA_fresh mA_then mA_was mA_tape mA_strengths mA_sounds mA_stand mA_scheme mA_isKept mA_kept mA_trace arA1 : Nat) (m_thrown : Int32) (m_status : Int32) (m_acts : Int32) (m_taped : Int32) (m_cursor : Int32) (m_start : Int32) (m_token : Int32) (m_value : Int32) (m_fault : Int32) (m_faultAt : Int32) (m_latest : Int32) (m_stands : Int32) (m_least : Int32) (m_ways : Int32) (m_nearFoot : Int32) (m_nearFeet : Int32) (m_nearCost : Int32) (m_traced : Int32) (m_sounds : Nat → Int32) (ar1 : Nat → Int32) : va_W := [(m_a, .inr (7, [.int m_thrown, .int m_status, .ref mA_lane, .ref mA_many, .ref mA_item, .ref mA_poem, .ref mA_fresh, .ref mA_then, .ref mA_was, .int m_acts, .ref mA_tape, .int m_taped, .int m_cursor, .int m_start, .int m_token, .int m_value, .int m_fault, .int m_faultAt, .int m_latest, .ref mA_strengths, .ref mA_sounds, .ref mA_stand, .int m_stands, .int m_least, .int m_ways, .ref mA_scheme, .int m_nearFoot, .int m_nearFeet, .int m_nearCost, .ref mA_isKept, .ref mA_kept, .ref mA_trace, .int m_traced])), aI K mA_sounds 5 m_sounds, aI K arA1 207 ar1]
def rmX7_mayAll : Room := { frames := 5, cells := 0, slots := 0, locals := 111 }
theorem hdX7_mayAll : yX7_mayAll.cls = RX7 ∧ yX7_mayAll.cls ≠ "java/lang/invoke/MethodHandle" ∧ yX7_mayAll.cls ≠ "java/lang/invoke/VarHandle" ∧ (parseMethodDescriptor yX7_mayAll.desc).map (fun d => d.parameters.length) = some 3 := by decide +kernel
set_option maxHeartbeats 4000000 in
set_option maxRecDepth 100000 in
theorem wX7_mayAll_b54 {p : Program} {l : Launch} {e : Env} {s : State} {m : MethodId} {args : Array Value} {below : List Frame} {meth : Method} {c : Code} {Q : State → Prop} {G : va_G} {K : Nat → ClassId} {A : Nat → Prop} (C0 : CX p s m args c cX7_mayAll 7 RX7 G K E0 A) (m_a mA_lane mA_many mA_item mA_poem mA_fresh mA_then mA_was mA_tape mA_strengths mA_sounds mA_stand mA_scheme mA_isKept mA_kept mA_trace arA1 : Nat) (m_thrown : Int32) (m_status : Int32) (m_acts : Int32) (m_taped : Int32) (m_cursor : Int32) (m_start : Int32) (m_token : Int32) (m_value : Int32) (m_fault : Int32) (m_faultAt : Int32) (m_latest : Int32) (m_stands : Int32) (m_least : Int32) (m_ways : Int32) (m_nearFoot : Int32) (m_nearFeet : Int32) (m_nearCost : Int32) (m_traced : Int32) (m_sounds : Nat → Int32) (ar1 : Nat → Int32) (p2 : Int32) (p3 : Int32) (r : Int32)  (kr : ∀ (H : Heap) (locs : List Loc) (ls : Array Slot) (pc : Nat), decode cX7_mayAll pc = .ok (.ireturn, 1) → (r = 0 ∨ r = 1) → va_P G vwCl (WX7_mayAll K m_a mA_lane mA_many mA_item mA_poem mA_fresh mA_then mA_was mA_tape mA_strengths mA_sounds mA_stand mA_scheme mA_isKept mA_kept mA_trace arA1 m_thrown m_status m_acts m_taped m_cursor m_start m_token m_value m_fault m_faultAt m_latest m_stands m_least m_ways m_nearFoot m_nearFeet m_nearCost m_traced m_sounds ar1) H → va_D A (WX7_mayAll K m_a mA_lane mA_many mA_item mA_poem mA_fresh mA_then mA_was mA_tape mA_strengths mA_sounds mA_stand mA_scheme mA_isKept mA_kept mA_trace arA1 m_thrown m_status m_acts m_taped m_cursor m_start m_token m_value m_fault m_faultAt m_latest m_stands m_least m_ways m_nearFoot m_nearFeet m_nearCost m_traced m_sounds ar1) → va_S A s.heap H locs → W p l e rmX7_mayAll s m args below meth c H locs 0 0 Q (F0 m pc ls [.int r])) (k13 : Int32 → Int32 → Int32 → Option (Int32)) (hk13 : ∀ (x4 : Int32) (x5 : Int32) (x6 : Int32), k13 x4 x5 x6 = some r → ∀ (H : Heap) (locs : List Loc) (ls : Array Slot), va_P G vwCl (WX7_mayAll K m_a mA_lane mA_many mA_item mA_poem mA_fresh mA_then mA_was mA_tape mA_strengths mA_sounds mA_stand mA_scheme mA_isKept mA_kept mA_trace arA1 m_thrown m_status m_acts m_taped m_cursor m_start m_token m_value m_fault m_faultAt m_latest m_stands m_least m_ways m_nearFoot m_nearFeet m_nearCost m_traced m_sounds ar1) H → va_D A (WX7_mayAll K m_a mA_lane mA_many mA_item mA_poem mA_fresh mA_then mA_was mA_tape mA_strengths mA_sounds mA_stand mA_scheme mA_isKept mA_kept mA_trace arA1 m_thrown m_status m_acts m_taped m_cursor m_start m_token m_value m_fault m_faultAt m_latest m_stands m_least m_ways m_nearFoot m_nearFeet m_nearCost m_traced m_sounds ar1) → va_S A s.heap H locs → lv_has ls 7 [(0, .ref m_a), (1, .ref arA1), (2, .int p2), (3, .int p3), (4, .int x4), (5, .int x5), (6, .int x6)] → W p l e rmX7_mayAll s m args below meth c H locs 0 0 Q (F0 m 13 ls [])) (x4 : Int32) (x6 : Int32) (s0 : Int32) (hM : mX7_mayAll_b54 m_sounds ar1 p2 p3 k13 x4 x6 s0 = some r) : ∀ (H : Heap) (locs : List Loc) (ls : Array Slot), va_P G vwCl (WX7_mayAll K m_a mA_lane mA_many mA_item mA_poem mA_fresh mA_then mA_was mA_tape mA_strengths mA_sounds mA_stand mA_scheme mA_isKept mA_kept mA_trace arA1 m_thrown m_status m_acts m_taped m_cursor m_start m_token m_value m_fault m_faultAt m_latest m_stands m_least m_ways m_nearFoot m_nearFeet m_nearCost m_traced m_sounds ar1) H → va_D A (WX7_mayAll K m_a mA_lane mA_many mA_item mA_poem mA_fresh mA_then mA_was mA_tape mA_strengths mA_sounds mA_stand mA_scheme mA_isKept mA_kept mA_trace arA1 m_thrown m_status m_acts m_taped m_cursor m_start m_token m_value m_fault m_faultAt m_latest m_stands m_least m_ways m_nearFoot m_nearFeet m_nearCost m_traced m_sounds ar1) → va_S A s.heap H locs → lv_has ls 7 [(0, .ref m_a), (1, .ref arA1), (2, .int p2), (3, .int p3), (4, .int x4), (6, .int x6)] → W p l e rmX7_mayAll s m args below meth c H locs 0 0 Q (F0 m 54 ls [.int s0]) := by
  obtain ⟨hx, hb, hml, hown, hts, hK, hA, hEo, hE⟩ := id C0
  intro H locs ls hP hD hS hl
  unfold mX7_mayAll_b54 at hM
  refine lv_istore (lv' := [(5, .int s0), (0, .ref m_a), (1, .ref arA1), (2, .int p2), (3, .int p3), (4, .int x4), (6, .int x6)]) hx hb dX7_mayAll_54 hl (by decide) rfl (fun ls hl => ?_)
  refine lv_iload hx hb dX7_mayAll_56 (lv_at hl 0 rfl) ?_
  refine lv_if_eq (tgt := 101) hx hb dX7_mayAll_58 (by decide) (fun c_1 => ?_) (fun c_1 => ?_)
  · rw [if_pos c_1] at hM
    refine lv_iconst (v := 0) hx hb dX7_mayAll_101 (by decide) ?_
    refine lv_istore (lv' := [(5, .int (0 : Int32)), (0, .ref m_a), (1, .ref arA1), (2, .int p2), (3, .int p3), (4, .int x4), (6, .int x6)]) hx hb dX7_mayAll_102 hl (by decide) rfl (fun ls hl => ?_)
    refine lv_iinc (v := (x6 + 1)) (lv' := [(6, .int (x6 + 1)), (5, .int (0 : Int32)), (0, .ref m_a), (1, .ref arA1), (2, .int p2), (3, .int p3), (4, .int x4)]) hx hb dX7_mayAll_104 hl (k := 6) rfl rfl (by decide) rfl (fun ls hl => ?_)
    refine lv_goto (tgt := 13) hx hb dX7_mayAll_107 (by decide) ?_
    exact hk13 x4 (0 : Int32) (x6 + 1) hM _ _ _ hP hD hS (lv_sub hl [2, 3, 4, 5, 6, 1, 0] rfl)
  · rw [if_neg c_1] at hM
    refine lv_iload hx hb dX7_mayAll_61 (lv_at hl 6 rfl) ?_
    refine lv_if_le (tgt := 97) hx hb dX7_mayAll_63 (by decide) (fun c_2 => ?_) (fun c_2 => ?_)
    · rw [if_pos c_2] at hM
      refine lv_iconst (v := 1) hx hb dX7_mayAll_97 (by decide) ?_
      refine lv_goto (tgt := 102) hx hb dX7_mayAll_98 (by decide) ?_
      refine lv_istore (lv' := [(5, .int (1 : Int32)), (0, .ref m_a), (1, .ref arA1), (2, .int p2), (3, .int p3), (4, .int x4), (6, .int x6)]) hx hb dX7_mayAll_102 hl (by decide) rfl (fun ls hl => ?_)
      refine lv_iinc (v := (x6 + 1)) (lv' := [(6, .int (x6 + 1)), (5, .int (1 : Int32)), (0, .ref m_a), (1, .ref arA1), (2, .int p2), (3, .int p3), (4, .int x4)]) hx hb dX7_mayAll_104 hl (k := 6) rfl rfl (by decide) rfl (fun ls hl => ?_)
      refine lv_goto (tgt := 13) hx hb dX7_mayAll_107 (by decide) ?_
      exact hk13 x4 (1 : Int32) (x6 + 1) hM _ _ _ hP hD hS (lv_sub hl [2, 3, 4, 5, 6, 1, 0] rfl)
    · rw [if_neg c_2] at hM
      refine lv_iload_n hx hb dX7_mayAll_66 rfl (lv_at hl 4 rfl) ?_
      refine lv_iload hx hb dX7_mayAll_67 (lv_at hl 6 rfl) ?_
      obtain ⟨r_3, hC, hM⟩ := oe1 hM
      refine cS_i (As := [.int p3, .int x6]) (rest := []) C0 hP hD hS [] (kX7_has l G K p3 x6 H.size r_3 hC) rfl rfl rfl tb1102 tb1103 tb9 tb1104 hdX7_has ⟨Nat.le_of_ble_eq_true rfl, Nat.le_of_ble_eq_true rfl⟩ rfl hl.1 (Nat.le_of_ble_eq_true rfl) rfl ⟨Nat.le_refl _, Nat.le_refl _⟩ dX7_mayAll_69 (fun H locs hP hD hS => ?_)
      have hP : va_P G vwCl (WX7_mayAll K m_a mA_lane mA_many mA_item mA_poem mA_fresh mA_then mA_was mA_tape mA_strengths mA_sounds mA_stand mA_scheme mA_isKept mA_kept mA_trace arA1 m_thrown m_status m_acts m_taped m_cursor m_start m_token m_value m_fault m_faultAt m_latest m_stands m_least m_ways m_nearFoot m_nearFeet m_nearCost m_traced m_sounds ar1) H := hP
      have hD : va_D A (WX7_mayAll K m_a mA_lane mA_many mA_item mA_poem mA_fresh mA_then mA_was mA_tape mA_strengths mA_sounds mA_stand mA_scheme mA_isKept mA_kept mA_trace arA1 m_thrown m_status m_acts m_taped m_cursor m_start m_token m_value m_fault m_faultAt m_latest m_stands m_least m_ways m_nearFoot m_nearFeet m_nearCost m_traced m_sounds ar1) := hD
      refine lv_if_eq (tgt := 97) hx hb dX7_mayAll_72 (by decide) (fun c_4 => ?_) (fun c_4 => ?_)
      · rw [if_pos c_4] at hM
        refine lv_iconst (v := 1) hx hb dX7_mayAll_97 (by decide) ?_
        refine lv_goto (tgt := 102) hx hb dX7_mayAll_98 (by decide) ?_
        refine lv_istore (lv' := [(5, .int (1 : Int32)), (0, .ref m_a), (1, .ref arA1), (2, .int p2), (3, .int p3), (4, .int x4), (6, .int x6)]) hx hb dX7_mayAll_102 hl (by decide) rfl (fun ls hl => ?_)
        refine lv_iinc (v := (x6 + 1)) (lv' := [(6, .int (x6 + 1)), (5, .int (1 : Int32)), (0, .ref m_a), (1, .ref arA1), (2, .int p2), (3, .int p3), (4, .int x4)]) hx hb dX7_mayAll_104 hl (k := 6) rfl rfl (by decide) rfl (fun ls hl => ?_)
        refine lv_goto (tgt := 13) hx hb dX7_mayAll_107 (by decide) ?_
        exact hk13 x4 (1 : Int32) (x6 + 1) hM _ _ _ hP hD hS (lv_sub hl [2, 3, 4, 5, 6, 1, 0] rfl)
      · rw [if_neg c_4] at hM
        refine lv_iload_n hx hb dX7_mayAll_75 rfl (lv_at hl 4 rfl) ?_
        refine lv_iload hx hb dX7_mayAll_76 (lv_at hl 6 rfl) ?_
        refine lv_iconst (v := 1) hx hb dX7_mayAll_78 (by decide) ?_
        refine lv_isub hx hb dX7_mayAll_79 ?_
        obtain ⟨r_5, hC, hM⟩ := oe1 hM
        refine cS_i (As := [.int p3, .int (x6 - (1 : Int32))]) (rest := []) C0 hP hD hS [] (kX7_has l G K p3 (x6 - (1 : Int32)) H.size r_5 hC) rfl rfl rfl tb1102 tb1103 tb9 tb1104 hdX7_has ⟨Nat.le_of_ble_eq_true rfl, Nat.le_of_ble_eq_true rfl⟩ rfl hl.1 (Nat.le_of_ble_eq_true rfl) rfl ⟨Nat.le_refl _, Nat.le_refl _⟩ dX7_mayAll_80 (fun H locs hP hD hS => ?_)
        have hP : va_P G vwCl (WX7_mayAll K m_a mA_lane mA_many mA_item mA_poem mA_fresh mA_then mA_was mA_tape mA_strengths mA_sounds mA_stand mA_scheme mA_isKept mA_kept mA_trace arA1 m_thrown m_status m_acts m_taped m_cursor m_start m_token m_value m_fault m_faultAt m_latest m_stands m_least m_ways m_nearFoot m_nearFeet m_nearCost m_traced m_sounds ar1) H := hP
        have hD : va_D A (WX7_mayAll K m_a mA_lane mA_many mA_item mA_poem mA_fresh mA_then mA_was mA_tape mA_strengths mA_sounds mA_stand mA_scheme mA_isKept mA_kept mA_trace arA1 m_thrown m_status m_acts m_taped m_cursor m_start m_token m_value m_fault m_faultAt m_latest m_stands m_least m_ways m_nearFoot m_nearFeet m_nearCost m_traced m_sounds ar1) := hD
        refine lv_if_eq (tgt := 97) hx hb dX7_mayAll_83 (by decide) (fun c_6 => ?_) (fun c_6 => ?_)
        · rw [if_pos c_6] at hM
          refine lv_iconst (v := 1) hx hb dX7_mayAll_97 (by decide) ?_
          refine lv_goto (tgt := 102) hx hb dX7_mayAll_98 (by decide) ?_
          refine lv_istore (lv' := [(5, .int (1 : Int32)), (0, .ref m_a), (1, .ref arA1), (2, .int p2), (3, .int p3), (4, .int x4), (6, .int x6)]) hx hb dX7_mayAll_102 hl (by decide) rfl (fun ls hl => ?_)
          refine lv_iinc (v := (x6 + 1)) (lv' := [(6, .int (x6 + 1)), (5, .int (1 : Int32)), (0, .ref m_a), (1, .ref arA1), (2, .int p2), (3, .int p3), (4, .int x4)]) hx hb dX7_mayAll_104 hl (k := 6) rfl rfl (by decide) rfl (fun ls hl => ?_)
          refine lv_goto (tgt := 13) hx hb dX7_mayAll_107 (by decide) ?_
          exact hk13 x4 (1 : Int32) (x6 + 1) hM _ _ _ hP hD hS (lv_sub hl [2, 3, 4, 5, 6, 1, 0] rfl)
        · rw [if_neg c_6] at hM
          refine lv_aload_n hx hb dX7_mayAll_86 rfl (lv_at hl 1 rfl) ?_
          refine va_get (D := G) (ci := 7) (v := .ref mA_sounds) (C := RX7) (T := TX7) (N := 33) hx hb hts inX7 hown hK hP 0 rfl rfl 20 (by decide) (hts _ tb784) (fun _ h9 => h9) rfl dX7_mayAll_87 ?_
          refine lv_iload hx hb dX7_mayAll_90 (lv_at hl 6 rfl) ?_
          obtain ⟨g_7, hM⟩ := ng hM
          refine va_iald hx hb hK hP 1 0 rfl rfl g_7 dX7_mayAll_92 ?_
          refine lv_iconst (v := 1) hx hb dX7_mayAll_93 (by decide) ?_
          refine lv_icmp_eq (tgt := 101) hx hb dX7_mayAll_94 (by decide) (fun c_8 => ?_) (fun c_8 => ?_)
          · rw [if_pos c_8] at hM
            refine lv_iconst (v := 0) hx hb dX7_mayAll_101 (by decide) ?_
            refine lv_istore (lv' := [(5, .int (0 : Int32)), (0, .ref m_a), (1, .ref arA1), (2, .int p2), (3, .int p3), (4, .int x4), (6, .int x6)]) hx hb dX7_mayAll_102 hl (by decide) rfl (fun ls hl => ?_)
            refine lv_iinc (v := (x6 + 1)) (lv' := [(6, .int (x6 + 1)), (5, .int (0 : Int32)), (0, .ref m_a), (1, .ref arA1), (2, .int p2), (3, .int p3), (4, .int x4)]) hx hb dX7_mayAll_104 hl (k := 6) rfl rfl (by decide) rfl (fun ls hl => ?_)
            refine lv_goto (tgt := 13) hx hb dX7_mayAll_107 (by decide) ?_
            exact hk13 x4 (0 : Int32) (x6 + 1) hM _ _ _ hP hD hS (lv_sub hl [2, 3, 4, 5, 6, 1, 0] rfl)
          · rw [if_neg c_8] at hM
            refine lv_iconst (v := 1) hx hb dX7_mayAll_97 (by decide) ?_
            refine lv_goto (tgt := 102) hx hb dX7_mayAll_98 (by decide) ?_
            refine lv_istore (lv' := [(5, .int (1 : Int32)), (0, .ref m_a), (1, .ref arA1), (2, .int p2), (3, .int p3), (4, .int x4), (6, .int x6)]) hx hb dX7_mayAll_102 hl (by decide) rfl (fun ls hl => ?_)
            refine lv_iinc (v := (x6 + 1)) (lv' := [(6, .int (x6 + 1)), (5, .int (1 : Int32)), (0, .ref m_a), (1, .ref arA1), (2, .int p2), (3, .int p3), (4, .int x4)]) hx hb dX7_mayAll_104 hl (k := 6) rfl rfl (by decide) rfl (fun ls hl => ?_)
            refine lv_goto (tgt := 13) hx hb dX7_mayAll_107 (by decide) ?_
            exact hk13 x4 (1 : Int32) (x6 + 1) hM _ _ _ hP hD hS (lv_sub hl [2, 3, 4, 5, 6, 1, 0] rfl)
set_option maxHeartbeats 4000000 in
set_option maxRecDepth 100000 in
theorem wX7_mayAll_b49 {p : Program} {l : Launch} {e : Env} {s : State} {m : MethodId} {args : Array Value} {below : List Frame} {meth : Method} {c : Code} {Q : State → Prop} {G : va_G} {K : Nat → ClassId} {A : Nat → Prop} (C0 : CX p s m args c cX7_mayAll 7 RX7 G K E0 A) (m_a mA_lane mA_many mA_item mA_poem mA_fresh mA_then mA_was mA_tape mA_strengths mA_sounds mA_stand mA_scheme mA_isKept mA_kept mA_trace arA1 : Nat) (m_thrown : Int32) (m_status : Int32) (m_acts : Int32) (m_taped : Int32) (m_cursor : Int32) (m_start : Int32) (m_token : Int32) (m_value : Int32) (m_fault : Int32) (m_faultAt : Int32) (m_latest : Int32) (m_stands : Int32) (m_least : Int32) (m_ways : Int32) (m_nearFoot : Int32) (m_nearFeet : Int32) (m_nearCost : Int32) (m_traced : Int32) (m_sounds : Nat → Int32) (ar1 : Nat → Int32) (p2 : Int32) (p3 : Int32) (r : Int32)  (kr : ∀ (H : Heap) (locs : List Loc) (ls : Array Slot) (pc : Nat), decode cX7_mayAll pc = .ok (.ireturn, 1) → (r = 0 ∨ r = 1) → va_P G vwCl (WX7_mayAll K m_a mA_lane mA_many mA_item mA_poem mA_fresh mA_then mA_was mA_tape mA_strengths mA_sounds mA_stand mA_scheme mA_isKept mA_kept mA_trace arA1 m_thrown m_status m_acts m_taped m_cursor m_start m_token m_value m_fault m_faultAt m_latest m_stands m_least m_ways m_nearFoot m_nearFeet m_nearCost m_traced m_sounds ar1) H → va_D A (WX7_mayAll K m_a mA_lane mA_many mA_item mA_poem mA_fresh mA_then mA_was mA_tape mA_strengths mA_sounds mA_stand mA_scheme mA_isKept mA_kept mA_trace arA1 m_thrown m_status m_acts m_taped m_cursor m_start m_token m_value m_fault m_faultAt m_latest m_stands m_least m_ways m_nearFoot m_nearFeet m_nearCost m_traced m_sounds ar1) → va_S A s.heap H locs → W p l e rmX7_mayAll s m args below meth c H locs 0 0 Q (F0 m pc ls [.int r])) (k13 : Int32 → Int32 → Int32 → Option (Int32)) (hk13 : ∀ (x4 : Int32) (x5 : Int32) (x6 : Int32), k13 x4 x5 x6 = some r → ∀ (H : Heap) (locs : List Loc) (ls : Array Slot), va_P G vwCl (WX7_mayAll K m_a mA_lane mA_many mA_item mA_poem mA_fresh mA_then mA_was mA_tape mA_strengths mA_sounds mA_stand mA_scheme mA_isKept mA_kept mA_trace arA1 m_thrown m_status m_acts m_taped m_cursor m_start m_token m_value m_fault m_faultAt m_latest m_stands m_least m_ways m_nearFoot m_nearFeet m_nearCost m_traced m_sounds ar1) H → va_D A (WX7_mayAll K m_a mA_lane mA_many mA_item mA_poem mA_fresh mA_then mA_was mA_tape mA_strengths mA_sounds mA_stand mA_scheme mA_isKept mA_kept mA_trace arA1 m_thrown m_status m_acts m_taped m_cursor m_start m_token m_value m_fault m_faultAt m_latest m_stands m_least m_ways m_nearFoot m_nearFeet m_nearCost m_traced m_sounds ar1) → va_S A s.heap H locs → lv_has ls 7 [(0, .ref m_a), (1, .ref arA1), (2, .int p2), (3, .int p3), (4, .int x4), (5, .int x5), (6, .int x6)] → W p l e rmX7_mayAll s m args below meth c H locs 0 0 Q (F0 m 13 ls [])) (x4 : Int32) (x6 : Int32) (hM : mX7_mayAll_b49 m_sounds ar1 p2 p3 k13 x4 x6 = some r) : ∀ (H : Heap) (locs : List Loc) (ls : Array Slot), va_P G vwCl (WX7_mayAll K m_a mA_lane mA_many mA_item mA_poem mA_fresh mA_then mA_was mA_tape mA_strengths mA_sounds mA_stand mA_scheme mA_isKept mA_kept mA_trace arA1 m_thrown m_status m_acts m_taped m_cursor m_start m_token m_value m_fault m_faultAt m_latest m_stands m_least m_ways m_nearFoot m_nearFeet m_nearCost m_traced m_sounds ar1) H → va_D A (WX7_mayAll K m_a mA_lane mA_many mA_item mA_poem mA_fresh mA_then mA_was mA_tape mA_strengths mA_sounds mA_stand mA_scheme mA_isKept mA_kept mA_trace arA1 m_thrown m_status m_acts m_taped m_cursor m_start m_token m_value m_fault m_faultAt m_latest m_stands m_least m_ways m_nearFoot m_nearFeet m_nearCost m_traced m_sounds ar1) → va_S A s.heap H locs → lv_has ls 7 [(0, .ref m_a), (1, .ref arA1), (2, .int p2), (3, .int p3), (4, .int x4), (6, .int x6)] → W p l e rmX7_mayAll s m args below meth c H locs 0 0 Q (F0 m 49 ls []) := by
  obtain ⟨hx, hb, hml, hown, hts, hK, hA, hEo, hE⟩ := id C0
  intro H locs ls hP hD hS hl
  unfold mX7_mayAll_b49 at hM
  refine lv_iconst (v := 1) hx hb dX7_mayAll_49 (by decide) ?_
  refine lv_goto (tgt := 54) hx hb dX7_mayAll_50 (by decide) ?_
  exact wX7_mayAll_b54 C0 m_a mA_lane mA_many mA_item mA_poem mA_fresh mA_then mA_was mA_tape mA_strengths mA_sounds mA_stand mA_scheme mA_isKept mA_kept mA_trace arA1 m_thrown m_status m_acts m_taped m_cursor m_start m_token m_value m_fault m_faultAt m_latest m_stands m_least m_ways m_nearFoot m_nearFeet m_nearCost m_traced m_sounds ar1 p2 p3 r kr k13 hk13 x4 x6 (1 : Int32) hM _ _ _ hP hD hS (lv_sub hl [0, 1, 2, 3, 4, 5] rfl)
set_option maxHeartbeats 4000000 in
set_option maxRecDepth 100000 in
theorem wX7_mayAll_b53 {p : Program} {l : Launch} {e : Env} {s : State} {m : MethodId} {args : Array Value} {below : List Frame} {meth : Method} {c : Code} {Q : State → Prop} {G : va_G} {K : Nat → ClassId} {A : Nat → Prop} (C0 : CX p s m args c cX7_mayAll 7 RX7 G K E0 A) (m_a mA_lane mA_many mA_item mA_poem mA_fresh mA_then mA_was mA_tape mA_strengths mA_sounds mA_stand mA_scheme mA_isKept mA_kept mA_trace arA1 : Nat) (m_thrown : Int32) (m_status : Int32) (m_acts : Int32) (m_taped : Int32) (m_cursor : Int32) (m_start : Int32) (m_token : Int32) (m_value : Int32) (m_fault : Int32) (m_faultAt : Int32) (m_latest : Int32) (m_stands : Int32) (m_least : Int32) (m_ways : Int32) (m_nearFoot : Int32) (m_nearFeet : Int32) (m_nearCost : Int32) (m_traced : Int32) (m_sounds : Nat → Int32) (ar1 : Nat → Int32) (p2 : Int32) (p3 : Int32) (r : Int32)  (kr : ∀ (H : Heap) (locs : List Loc) (ls : Array Slot) (pc : Nat), decode cX7_mayAll pc = .ok (.ireturn, 1) → (r = 0 ∨ r = 1) → va_P G vwCl (WX7_mayAll K m_a mA_lane mA_many mA_item mA_poem mA_fresh mA_then mA_was mA_tape mA_strengths mA_sounds mA_stand mA_scheme mA_isKept mA_kept mA_trace arA1 m_thrown m_status m_acts m_taped m_cursor m_start m_token m_value m_fault m_faultAt m_latest m_stands m_least m_ways m_nearFoot m_nearFeet m_nearCost m_traced m_sounds ar1) H → va_D A (WX7_mayAll K m_a mA_lane mA_many mA_item mA_poem mA_fresh mA_then mA_was mA_tape mA_strengths mA_sounds mA_stand mA_scheme mA_isKept mA_kept mA_trace arA1 m_thrown m_status m_acts m_taped m_cursor m_start m_token m_value m_fault m_faultAt m_latest m_stands m_least m_ways m_nearFoot m_nearFeet m_nearCost m_traced m_sounds ar1) → va_S A s.heap H locs → W p l e rmX7_mayAll s m args below meth c H locs 0 0 Q (F0 m pc ls [.int r])) (k13 : Int32 → Int32 → Int32 → Option (Int32)) (hk13 : ∀ (x4 : Int32) (x5 : Int32) (x6 : Int32), k13 x4 x5 x6 = some r → ∀ (H : Heap) (locs : List Loc) (ls : Array Slot), va_P G vwCl (WX7_mayAll K m_a mA_lane mA_many mA_item mA_poem mA_fresh mA_then mA_was mA_tape mA_strengths mA_sounds mA_stand mA_scheme mA_isKept mA_kept mA_trace arA1 m_thrown m_status m_acts m_taped m_cursor m_start m_token m_value m_fault m_faultAt m_latest m_stands m_least m_ways m_nearFoot m_nearFeet m_nearCost m_traced m_sounds ar1) H → va_D A (WX7_mayAll K m_a mA_lane mA_many mA_item mA_poem mA_fresh mA_then mA_was mA_tape mA_strengths mA_sounds mA_stand mA_scheme mA_isKept mA_kept mA_trace arA1 m_thrown m_status m_acts m_taped m_cursor m_start m_token m_value m_fault m_faultAt m_latest m_stands m_least m_ways m_nearFoot m_nearFeet m_nearCost m_traced m_sounds ar1) → va_S A s.heap H locs → lv_has ls 7 [(0, .ref m_a), (1, .ref arA1), (2, .int p2), (3, .int p3), (4, .int x4), (5, .int x5), (6, .int x6)] → W p l e rmX7_mayAll s m args below meth c H locs 0 0 Q (F0 m 13 ls [])) (x4 : Int32) (x6 : Int32) (hM : mX7_mayAll_b53 m_sounds ar1 p2 p3 k13 x4 x6 = some r) : ∀ (H : Heap) (locs : List Loc) (ls : Array Slot), va_P G vwCl (WX7_mayAll K m_a mA_lane mA_many mA_item mA_poem mA_fresh mA_then mA_was mA_tape mA_strengths mA_sounds mA_stand mA_scheme mA_isKept mA_kept mA_trace arA1 m_thrown m_status m_acts m_taped m_cursor m_start m_token m_value m_fault m_faultAt m_latest m_stands m_least m_ways m_nearFoot m_nearFeet m_nearCost m_traced m_sounds ar1) H → va_D A (WX7_mayAll K m_a mA_lane mA_many mA_item mA_poem mA_fresh mA_then mA_was mA_tape mA_strengths mA_sounds mA_stand mA_scheme mA_isKept mA_kept mA_trace arA1 m_thrown m_status m_acts m_taped m_cursor m_start m_token m_value m_fault m_faultAt m_latest m_stands m_least m_ways m_nearFoot m_nearFeet m_nearCost m_traced m_sounds ar1) → va_S A s.heap H locs → lv_has ls 7 [(0, .ref m_a), (1, .ref arA1), (2, .int p2), (3, .int p3), (4, .int x4), (6, .int x6)] → W p l e rmX7_mayAll s m args below meth c H locs 0 0 Q (F0 m 53 ls []) := by
  obtain ⟨hx, hb, hml, hown, hts, hK, hA, hEo, hE⟩ := id C0
  intro H locs ls hP hD hS hl
  unfold mX7_mayAll_b53 at hM
  refine lv_iconst (v := 0) hx hb dX7_mayAll_53 (by decide) ?_
  exact wX7_mayAll_b54 C0 m_a mA_lane mA_many mA_item mA_poem mA_fresh mA_then mA_was mA_tape mA_strengths mA_sounds mA_stand mA_scheme mA_isKept mA_kept mA_trace arA1 m_thrown m_status m_acts m_taped m_cursor m_start m_token m_value m_fault m_faultAt m_latest m_stands m_least m_ways m_nearFoot m_nearFeet m_nearCost m_traced m_sounds ar1 p2 p3 r kr k13 hk13 x4 x6 (0 : Int32) hM _ _ _ hP hD hS (lv_sub hl [0, 1, 2, 3, 4, 5] rfl)
set_option maxHeartbeats 4000000 in
set_option maxRecDepth 100000 in
theorem wX7_mayAll_b13 {p : Program} {l : Launch} {e : Env} {s : State} {m : MethodId} {args : Array Value} {below : List Frame} {meth : Method} {c : Code} {Q : State → Prop} {G : va_G} {K : Nat → ClassId} {A : Nat → Prop} (C0 : CX p s m args c cX7_mayAll 7 RX7 G K E0 A) (m_a mA_lane mA_many mA_item mA_poem mA_fresh mA_then mA_was mA_tape mA_strengths mA_sounds mA_stand mA_scheme mA_isKept mA_kept mA_trace arA1 : Nat) (m_thrown : Int32) (m_status : Int32) (m_acts : Int32) (m_taped : Int32) (m_cursor : Int32) (m_start : Int32) (m_token : Int32) (m_value : Int32) (m_fault : Int32) (m_faultAt : Int32) (m_latest : Int32) (m_stands : Int32) (m_least : Int32) (m_ways : Int32) (m_nearFoot : Int32) (m_nearFeet : Int32) (m_nearCost : Int32) (m_traced : Int32) (m_sounds : Nat → Int32) (ar1 : Nat → Int32) (p2 : Int32) (p3 : Int32) (r : Int32)  (kr : ∀ (H : Heap) (locs : List Loc) (ls : Array Slot) (pc : Nat), decode cX7_mayAll pc = .ok (.ireturn, 1) → (r = 0 ∨ r = 1) → va_P G vwCl (WX7_mayAll K m_a mA_lane mA_many mA_item mA_poem mA_fresh mA_then mA_was mA_tape mA_strengths mA_sounds mA_stand mA_scheme mA_isKept mA_kept mA_trace arA1 m_thrown m_status m_acts m_taped m_cursor m_start m_token m_value m_fault m_faultAt m_latest m_stands m_least m_ways m_nearFoot m_nearFeet m_nearCost m_traced m_sounds ar1) H → va_D A (WX7_mayAll K m_a mA_lane mA_many mA_item mA_poem mA_fresh mA_then mA_was mA_tape mA_strengths mA_sounds mA_stand mA_scheme mA_isKept mA_kept mA_trace arA1 m_thrown m_status m_acts m_taped m_cursor m_start m_token m_value m_fault m_faultAt m_latest m_stands m_least m_ways m_nearFoot m_nearFeet m_nearCost m_traced m_sounds ar1) → va_S A s.heap H locs → W p l e rmX7_mayAll s m args below meth c H locs 0 0 Q (F0 m pc ls [.int r])) (n : Nat) : ∀ (x4 : Int32) (x5 : Int32) (x6 : Int32), mX7_mayAll_b13 m_sounds ar1 p2 p3  n x4 x5 x6 = some r → ∀ (H : Heap) (locs : List Loc) (ls : Array Slot), va_P G vwCl (WX7_mayAll K m_a mA_lane mA_many mA_item mA_poem mA_fresh mA_then mA_was mA_tape mA_strengths mA_sounds mA_stand mA_scheme mA_isKept mA_kept mA_trace arA1 m_thrown m_status m_acts m_taped m_cursor m_start m_token m_value m_fault m_faultAt m_latest m_stands m_least m_ways m_nearFoot m_nearFeet m_nearCost m_traced m_sounds ar1) H → va_D A (WX7_mayAll K m_a mA_lane mA_many mA_item mA_poem mA_fresh mA_then mA_was mA_tape mA_strengths mA_sounds mA_stand mA_scheme mA_isKept mA_kept mA_trace arA1 m_thrown m_status m_acts m_taped m_cursor m_start m_token m_value m_fault m_faultAt m_latest m_stands m_least m_ways m_nearFoot m_nearFeet m_nearCost m_traced m_sounds ar1) → va_S A s.heap H locs → lv_has ls 7 [(0, .ref m_a), (1, .ref arA1), (2, .int p2), (3, .int p3), (4, .int x4), (5, .int x5), (6, .int x6)] → W p l e rmX7_mayAll s m args below meth c H locs 0 0 Q (F0 m 13 ls []) := by
  obtain ⟨hx, hb, hml, hown, hts, hK, hA, hEo, hE⟩ := id C0
  induction n with
  | zero =>
    intro x4 x5 x6 hM
    cases hM
  | succ n ih =>
    intro x4 x5 x6 hM H locs ls hP hD hS hl
    rw [mX7_mayAll_b13] at hM
    refine lv_iload hx hb dX7_mayAll_13 (lv_at hl 6 rfl) ?_
    refine lv_aload_n hx hb dX7_mayAll_15 rfl (lv_at hl 1 rfl) ?_
    refine lv_iconst (v := 3) hx hb dX7_mayAll_16 (by decide) ?_
    refine lv_iload_n hx hb dX7_mayAll_17 rfl (lv_at hl 2 rfl) ?_
    refine lv_iadd hx hb dX7_mayAll_18 ?_
    obtain ⟨g_9, hM⟩ := ng hM
    refine va_iald hx hb hK hP 2 0 rfl rfl g_9 dX7_mayAll_19 ?_
    refine lv_icmp_ge (tgt := 110) hx hb dX7_mayAll_20 (by decide) (fun c_10 => ?_) (fun c_10 => ?_)
    · rw [if_pos c_10] at hM
      refine lv_iload hx hb dX7_mayAll_110 (lv_at hl 5 rfl) ?_
      obtain ⟨g_11, hM⟩ := ng hM
      have q1 := Option.some.inj hM
      subst q1
      exact kr _ _ _ _ dX7_mayAll_112 (Decidable.not_not.mp g_11) hP hD hS
    · rw [if_neg c_10] at hM
      refine lv_iload hx hb dX7_mayAll_23 (lv_at hl 5 rfl) ?_
      refine lv_if_eq (tgt := 53) hx hb dX7_mayAll_25 (by decide) (fun c_12 => ?_) (fun c_12 => ?_)
      · rw [if_pos c_12] at hM
        exact wX7_mayAll_b53 C0 m_a mA_lane mA_many mA_item mA_poem mA_fresh mA_then mA_was mA_tape mA_strengths mA_sounds mA_stand mA_scheme mA_isKept mA_kept mA_trace arA1 m_thrown m_status m_acts m_taped m_cursor m_start m_token m_value m_fault m_faultAt m_latest m_stands m_least m_ways m_nearFoot m_nearFeet m_nearCost m_traced m_sounds ar1 p2 p3 r kr (mX7_mayAll_b13 m_sounds ar1 p2 p3  n) ih x4 x6 hM _ _ _ hP hD hS (lv_sub hl [0, 1, 2, 3, 4, 6] rfl)
      · rw [if_neg c_12] at hM
        refine lv_iload_n hx hb dX7_mayAll_28 rfl (lv_at hl 3 rfl) ?_
        refine lv_iload hx hb dX7_mayAll_29 (lv_at hl 6 rfl) ?_
        obtain ⟨r_13, hC, hM⟩ := oe1 hM
        refine cS_i (As := [.int p3, .int x6]) (rest := []) C0 hP hD hS [] (kX7_has l G K p3 x6 H.size r_13 hC) rfl rfl rfl tb1102 tb1103 tb9 tb1104 hdX7_has ⟨Nat.le_of_ble_eq_true rfl, Nat.le_of_ble_eq_true rfl⟩ rfl hl.1 (Nat.le_of_ble_eq_true rfl) rfl ⟨Nat.le_refl _, Nat.le_refl _⟩ dX7_mayAll_31 (fun H locs hP hD hS => ?_)
        have hP : va_P G vwCl (WX7_mayAll K m_a mA_lane mA_many mA_item mA_poem mA_fresh mA_then mA_was mA_tape mA_strengths mA_sounds mA_stand mA_scheme mA_isKept mA_kept mA_trace arA1 m_thrown m_status m_acts m_taped m_cursor m_start m_token m_value m_fault m_faultAt m_latest m_stands m_least m_ways m_nearFoot m_nearFeet m_nearCost m_traced m_sounds ar1) H := hP
        have hD : va_D A (WX7_mayAll K m_a mA_lane mA_many mA_item mA_poem mA_fresh mA_then mA_was mA_tape mA_strengths mA_sounds mA_stand mA_scheme mA_isKept mA_kept mA_trace arA1 m_thrown m_status m_acts m_taped m_cursor m_start m_token m_value m_fault m_faultAt m_latest m_stands m_least m_ways m_nearFoot m_nearFeet m_nearCost m_traced m_sounds ar1) := hD
        refine lv_if_eq (tgt := 49) hx hb dX7_mayAll_34 (by decide) (fun c_14 => ?_) (fun c_14 => ?_)
        · rw [if_pos c_14] at hM
          exact wX7_mayAll_b49 C0 m_a mA_lane mA_many mA_item mA_poem mA_fresh mA_then mA_was mA_tape mA_strengths mA_sounds mA_stand mA_scheme mA_isKept mA_kept mA_trace arA1 m_thrown m_status m_acts m_taped m_cursor m_start m_token m_value m_fault m_faultAt m_latest m_stands m_least m_ways m_nearFoot m_nearFeet m_nearCost m_traced m_sounds ar1 p2 p3 r kr (mX7_mayAll_b13 m_sounds ar1 p2 p3  n) ih x4 x6 hM _ _ _ hP hD hS (lv_sub hl [0, 1, 2, 3, 4, 6] rfl)
        · rw [if_neg c_14] at hM
          refine lv_aload_n hx hb dX7_mayAll_37 rfl (lv_at hl 1 rfl) ?_
          refine lv_iload hx hb dX7_mayAll_38 (lv_at hl 4 rfl) ?_
          refine lv_iload hx hb dX7_mayAll_40 (lv_at hl 6 rfl) ?_
          refine lv_iadd hx hb dX7_mayAll_42 ?_
          obtain ⟨r_15, hC, hM⟩ := oe1 hM
          refine cS_i (As := [.ref arA1, .int (x4 + x6)]) (rest := []) C0 hP hD hS [2] (kX7_mayRun l G K arA1 ar1 (x4 + x6) H.size r_15 hC) rfl rfl rfl tb1083 tb1084 tb9 tb1085 hdX7_mayRun ⟨Nat.le_of_ble_eq_true rfl, Nat.le_of_ble_eq_true rfl⟩ rfl hl.1 (Nat.le_of_ble_eq_true rfl) rfl ⟨Nat.le_refl _, Nat.le_refl _⟩ dX7_mayAll_43 (fun H locs hP hD hS => ?_)
          have hP : va_P G vwCl (WX7_mayAll K m_a mA_lane mA_many mA_item mA_poem mA_fresh mA_then mA_was mA_tape mA_strengths mA_sounds mA_stand mA_scheme mA_isKept mA_kept mA_trace arA1 m_thrown m_status m_acts m_taped m_cursor m_start m_token m_value m_fault m_faultAt m_latest m_stands m_least m_ways m_nearFoot m_nearFeet m_nearCost m_traced m_sounds ar1) H := hP
          have hD : va_D A (WX7_mayAll K m_a mA_lane mA_many mA_item mA_poem mA_fresh mA_then mA_was mA_tape mA_strengths mA_sounds mA_stand mA_scheme mA_isKept mA_kept mA_trace arA1 m_thrown m_status m_acts m_taped m_cursor m_start m_token m_value m_fault m_faultAt m_latest m_stands m_least m_ways m_nearFoot m_nearFeet m_nearCost m_traced m_sounds ar1) := hD
          refine lv_if_eq (tgt := 53) hx hb dX7_mayAll_46 (by decide) (fun c_16 => ?_) (fun c_16 => ?_)
          · rw [if_pos c_16] at hM
            exact wX7_mayAll_b53 C0 m_a mA_lane mA_many mA_item mA_poem mA_fresh mA_then mA_was mA_tape mA_strengths mA_sounds mA_stand mA_scheme mA_isKept mA_kept mA_trace arA1 m_thrown m_status m_acts m_taped m_cursor m_start m_token m_value m_fault m_faultAt m_latest m_stands m_least m_ways m_nearFoot m_nearFeet m_nearCost m_traced m_sounds ar1 p2 p3 r kr (mX7_mayAll_b13 m_sounds ar1 p2 p3  n) ih x4 x6 hM _ _ _ hP hD hS (lv_sub hl [0, 1, 2, 3, 4, 6] rfl)
          · rw [if_neg c_16] at hM
            exact wX7_mayAll_b49 C0 m_a mA_lane mA_many mA_item mA_poem mA_fresh mA_then mA_was mA_tape mA_strengths mA_sounds mA_stand mA_scheme mA_isKept mA_kept mA_trace arA1 m_thrown m_status m_acts m_taped m_cursor m_start m_token m_value m_fault m_faultAt m_latest m_stands m_least m_ways m_nearFoot m_nearFeet m_nearCost m_traced m_sounds ar1 p2 p3 r kr (mX7_mayAll_b13 m_sounds ar1 p2 p3  n) ih x4 x6 hM _ _ _ hP hD hS (lv_sub hl [0, 1, 2, 3, 4, 6] rfl)
set_option maxHeartbeats 4000000 in
set_option maxRecDepth 100000 in
theorem wX7_mayAll_b0 {p : Program} {l : Launch} {e : Env} {s : State} {m : MethodId} {args : Array Value} {below : List Frame} {meth : Method} {c : Code} {Q : State → Prop} {G : va_G} {K : Nat → ClassId} {A : Nat → Prop} (C0 : CX p s m args c cX7_mayAll 7 RX7 G K E0 A) (m_a mA_lane mA_many mA_item mA_poem mA_fresh mA_then mA_was mA_tape mA_strengths mA_sounds mA_stand mA_scheme mA_isKept mA_kept mA_trace arA1 : Nat) (m_thrown : Int32) (m_status : Int32) (m_acts : Int32) (m_taped : Int32) (m_cursor : Int32) (m_start : Int32) (m_token : Int32) (m_value : Int32) (m_fault : Int32) (m_faultAt : Int32) (m_latest : Int32) (m_stands : Int32) (m_least : Int32) (m_ways : Int32) (m_nearFoot : Int32) (m_nearFeet : Int32) (m_nearCost : Int32) (m_traced : Int32) (m_sounds : Nat → Int32) (ar1 : Nat → Int32) (p2 : Int32) (p3 : Int32) (r : Int32)  (kr : ∀ (H : Heap) (locs : List Loc) (ls : Array Slot) (pc : Nat), decode cX7_mayAll pc = .ok (.ireturn, 1) → (r = 0 ∨ r = 1) → va_P G vwCl (WX7_mayAll K m_a mA_lane mA_many mA_item mA_poem mA_fresh mA_then mA_was mA_tape mA_strengths mA_sounds mA_stand mA_scheme mA_isKept mA_kept mA_trace arA1 m_thrown m_status m_acts m_taped m_cursor m_start m_token m_value m_fault m_faultAt m_latest m_stands m_least m_ways m_nearFoot m_nearFeet m_nearCost m_traced m_sounds ar1) H → va_D A (WX7_mayAll K m_a mA_lane mA_many mA_item mA_poem mA_fresh mA_then mA_was mA_tape mA_strengths mA_sounds mA_stand mA_scheme mA_isKept mA_kept mA_trace arA1 m_thrown m_status m_acts m_taped m_cursor m_start m_token m_value m_fault m_faultAt m_latest m_stands m_least m_ways m_nearFoot m_nearFeet m_nearCost m_traced m_sounds ar1) → va_S A s.heap H locs → W p l e rmX7_mayAll s m args below meth c H locs 0 0 Q (F0 m pc ls [.int r]))  (hM : mX7_mayAll_b0 m_sounds ar1 p2 p3   = some r) : ∀ (H : Heap) (locs : List Loc) (ls : Array Slot), va_P G vwCl (WX7_mayAll K m_a mA_lane mA_many mA_item mA_poem mA_fresh mA_then mA_was mA_tape mA_strengths mA_sounds mA_stand mA_scheme mA_isKept mA_kept mA_trace arA1 m_thrown m_status m_acts m_taped m_cursor m_start m_token m_value m_fault m_faultAt m_latest m_stands m_least m_ways m_nearFoot m_nearFeet m_nearCost m_traced m_sounds ar1) H → va_D A (WX7_mayAll K m_a mA_lane mA_many mA_item mA_poem mA_fresh mA_then mA_was mA_tape mA_strengths mA_sounds mA_stand mA_scheme mA_isKept mA_kept mA_trace arA1 m_thrown m_status m_acts m_taped m_cursor m_start m_token m_value m_fault m_faultAt m_latest m_stands m_least m_ways m_nearFoot m_nearFeet m_nearCost m_traced m_sounds ar1) → va_S A s.heap H locs → lv_has ls 7 [(0, .ref m_a), (1, .ref arA1), (2, .int p2), (3, .int p3)] → W p l e rmX7_mayAll s m args below meth c H locs 0 0 Q (F0 m 0 ls []) := by
  obtain ⟨hx, hb, hml, hown, hts, hK, hA, hEo, hE⟩ := id C0
  intro H locs ls hP hD hS hl
  unfold mX7_mayAll_b0 at hM
  refine lv_aload_n hx hb dX7_mayAll_0 rfl (lv_at hl 1 rfl) ?_
  refine lv_iload_n hx hb dX7_mayAll_1 rfl (lv_at hl 2 rfl) ?_
  obtain ⟨r_17, hC, hM⟩ := oe1 hM
  refine cS_i (As := [.ref arA1, .int p2]) (rest := []) C0 hP hD hS [2] (kX7_firstOf l G K arA1 ar1 p2 H.size r_17 hC) rfl rfl rfl tb996 tb997 tb9 tb998 hdX7_firstOf ⟨Nat.le_of_ble_eq_true rfl, Nat.le_of_ble_eq_true rfl⟩ rfl hl.1 (Nat.le_of_ble_eq_true rfl) rfl ⟨Nat.le_refl _, Nat.le_refl _⟩ dX7_mayAll_2 (fun H locs hP hD hS => ?_)
  have hP : va_P G vwCl (WX7_mayAll K m_a mA_lane mA_many mA_item mA_poem mA_fresh mA_then mA_was mA_tape mA_strengths mA_sounds mA_stand mA_scheme mA_isKept mA_kept mA_trace arA1 m_thrown m_status m_acts m_taped m_cursor m_start m_token m_value m_fault m_faultAt m_latest m_stands m_least m_ways m_nearFoot m_nearFeet m_nearCost m_traced m_sounds ar1) H := hP
  have hD : va_D A (WX7_mayAll K m_a mA_lane mA_many mA_item mA_poem mA_fresh mA_then mA_was mA_tape mA_strengths mA_sounds mA_stand mA_scheme mA_isKept mA_kept mA_trace arA1 m_thrown m_status m_acts m_taped m_cursor m_start m_token m_value m_fault m_faultAt m_latest m_stands m_least m_ways m_nearFoot m_nearFeet m_nearCost m_traced m_sounds ar1) := hD
  refine lv_istore (lv' := [(4, .int r_17), (0, .ref m_a), (1, .ref arA1), (2, .int p2), (3, .int p3)]) hx hb dX7_mayAll_5 hl (by decide) rfl (fun ls hl => ?_)
  refine lv_iconst (v := 1) hx hb dX7_mayAll_7 (by decide) ?_
  refine lv_istore (lv' := [(5, .int (1 : Int32)), (4, .int r_17), (0, .ref m_a), (1, .ref arA1), (2, .int p2), (3, .int p3)]) hx hb dX7_mayAll_8 hl (by decide) rfl (fun ls hl => ?_)
  refine lv_iconst (v := 0) hx hb dX7_mayAll_10 (by decide) ?_
  refine lv_istore (lv' := [(6, .int (0 : Int32)), (5, .int (1 : Int32)), (4, .int r_17), (0, .ref m_a), (1, .ref arA1), (2, .int p2), (3, .int p3)]) hx hb dX7_mayAll_11 hl (by decide) rfl (fun ls hl => ?_)
  exact wX7_mayAll_b13 C0 m_a mA_lane mA_many mA_item mA_poem mA_fresh mA_then mA_was mA_tape mA_strengths mA_sounds mA_stand mA_scheme mA_isKept mA_kept mA_trace arA1 m_thrown m_status m_acts m_taped m_cursor m_start m_token m_value m_fault m_faultAt m_latest m_stands m_least m_ways m_nearFoot m_nearFeet m_nearCost m_traced m_sounds ar1 p2 p3 r kr  FU r_17 (1 : Int32) (0 : Int32) hM _ _ _ hP hD hS (lv_sub hl [3, 4, 5, 6, 2, 1, 0] rfl)
set_option maxHeartbeats 4000000 in
set_option maxRecDepth 100000 in
theorem kX7_mayAll (l : Launch) (G : va_G) (K : Nat → ClassId) (m_a mA_lane mA_many mA_item mA_poem mA_fresh mA_then mA_was mA_tape mA_strengths mA_sounds mA_stand mA_scheme mA_isKept mA_kept mA_trace arA1 : Nat) (m_thrown : Int32) (m_status : Int32) (m_acts : Int32) (m_taped : Int32) (m_cursor : Int32) (m_start : Int32) (m_token : Int32) (m_value : Int32) (m_fault : Int32) (m_faultAt : Int32) (m_latest : Int32) (m_stands : Int32) (m_least : Int32) (m_ways : Int32) (m_nearFoot : Int32) (m_nearFeet : Int32) (m_nearCost : Int32) (m_traced : Int32) (m_sounds : Nat → Int32) (ar1 : Nat → Int32) (p2 : Int32) (p3 : Int32) (sz : Nat) (r : Int32)  (hM : mX7_mayAll m_sounds ar1 p2 p3 = some r) : Met l yX7_mayAll (mC yX7_mayAll cX7_mayAll 7 (some .boolean)) rmX7_mayAll (va_Pc [.ref m_a, .ref arA1, .int p2, .int p3] (PCe G K E0 (WX7_mayAll K m_a mA_lane mA_many mA_item mA_poem mA_fresh mA_then mA_was mA_tape mA_strengths mA_sounds mA_stand mA_scheme mA_isKept mA_kept mA_trace arA1 m_thrown m_status m_acts m_taped m_cursor m_start m_token m_value m_fault m_faultAt m_latest m_stands m_least m_ways m_nearFoot m_nearFeet m_nearCost m_traced m_sounds ar1) sz)) (va_Qi (fun (x : Int32) (_ : Unit) => x = r) (fun _ t => va_P G vwCl (WX7_mayAll K m_a mA_lane mA_many mA_item mA_poem mA_fresh mA_then mA_was mA_tape mA_strengths mA_sounds mA_stand mA_scheme mA_isKept mA_kept mA_trace arA1 m_thrown m_status m_acts m_taped m_cursor m_start m_token m_value m_fault m_faultAt m_latest m_stands m_least m_ways m_nearFoot m_nearFeet m_nearCost m_traced m_sounds ar1) t.heap) (va_A (WX7_mayAll K m_a mA_lane mA_many mA_item mA_poem mA_fresh mA_then mA_was mA_tape mA_strengths mA_sounds mA_stand mA_scheme mA_isKept mA_kept mA_trace arA1 m_thrown m_status m_acts m_taped m_cursor m_start m_token m_value m_fault m_faultAt m_latest m_stands m_least m_ways m_nearFoot m_nearFeet m_nearCost m_traced m_sounds ar1) sz)) rmX7_mayAll.cells rmX7_mayAll.slots (va_A (WX7_mayAll K m_a mA_lane mA_many mA_item mA_poem mA_fresh mA_then mA_was mA_tape mA_strengths mA_sounds mA_stand mA_scheme mA_isKept mA_kept mA_trace arA1 m_thrown m_status m_acts m_taped m_cursor m_start m_token m_value m_fault m_faultAt m_latest m_stands m_least m_ways m_nearFoot m_nearFeet m_nearCost m_traced m_sounds ar1) sz) := by
  refine Met.ofW (cc := cX7_mayAll) (maxL := 7) (ret := (some .boolean)) (by decide) rfl ?_
  intro p e s m args below meth c s₁ B hml hv
  obtain ⟨rfl, hsz, hP, hK, hD0, hE⟩ := hv
  have hx := B.exec
  have hb := B.bytes
  have hr := B.returns
  have hts0 := atoms_spec (ws := mC yX7_mayAll cX7_mayAll 7 (some .boolean)) B.pre
  have hts : ∀ w ∈ tbG, w.before _ s = true := fun w h => hts0 w (List.mem_cons_of_mem _ h)
  have hown : s.vm.findClass RX7 = some m.cls := findClass_of_methodNamed B.named
  subst hsz
  have hD := hD0.self (sz := s.heap.size)
  generalize hAe : va_A (WX7_mayAll K m_a mA_lane mA_many mA_item mA_poem mA_fresh mA_then mA_was mA_tape mA_strengths mA_sounds mA_stand mA_scheme mA_isKept mA_kept mA_trace arA1 m_thrown m_status m_acts m_taped m_cursor m_start m_token m_value m_fault m_faultAt m_latest m_stands m_least m_ways m_nearFoot m_nearFeet m_nearCost m_traced m_sounds ar1) s.heap.size = A at hD hE ⊢
  have hA : ∀ q : Nat, s.heap.size ≤ q → A q := fun q h => by rw [← hAe]; exact Or.inr h
  have hS : va_S A s.heap s.heap [] := va_S.rf
  have hl := lv_entry ([.ref m_a, .ref arA1, .int p2, .int p3]) (n := 7) (Nat.le_of_ble_eq_true rfl)
  rw [lg_entry_eq]
  generalize (lg_sl ([.ref m_a, .ref arA1, .int p2, .int p3]) ++ List.replicate (7 - (lg_sl ([.ref m_a, .ref arA1, .int p2, .int p3])).length) Slot.unset).toArray = ls at hl ⊢
  have hl : lv_has ls 7 [(0, .ref m_a), (1, .ref arA1), (2, .int p2), (3, .int p3)] := hl
  exact wX7_mayAll_b0 ⟨hx, hb, hml, hown, hts, hK, hA, E0_ok, hE⟩ m_a mA_lane mA_many mA_item mA_poem mA_fresh mA_then mA_was mA_tape mA_strengths mA_sounds mA_stand mA_scheme mA_isKept mA_kept mA_trace arA1 m_thrown m_status m_acts m_taped m_cursor m_start m_token m_value m_fault m_faultAt m_latest m_stands m_least m_ways m_nearFoot m_nearFeet m_nearCost m_traced m_sounds ar1 p2 p3 r (fun H locs ls pc hdg hz hP hD hS => W.zret (v := r) (ty := .boolean) hx hb hr (nar_b hz) (fun t ht hW => ⟨⟨r, (), rfl, rfl, (show va_P G vwCl _ t.heap by rw [ht]; exact hP)⟩, hS.F ht⟩) hS.2.2 hdg)   hM _ _ _ hP hD hS hl
