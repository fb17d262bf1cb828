abbrev WX1_judge (K : Nat → ClassId) (er_a erA_lastAt erA_fees erA_heavy erA_light erA_over : Nat) (er_words : Int32) (er_syllables : Int32) (er_strong : Int32) (er_either : Int32) (er_joins : Int32) (er_singles : Int32) (er_options : Int32) (er_least : Int32) (er_ways : Int32) (er_lastAt : Nat → Int32) (er_fees : Nat → Int32) (er_heavy : Nat → Int32) (er_light : Nat → Int32) (er_over : Nat → Int32) : va_W := [(er_a, .inr (1, [.int er_words, .int er_syllables, .int er_strong, .int er_either, .int er_joins, .int er_singles, .ref erA_lastAt, .int er_options, .ref erA_fees, .ref erA_heavy, .ref erA_light, .ref erA_over, .int er_least, .int er_ways])), aI K erA_lastAt 5 er_lastAt, aI K erA_fees 32 er_fees, aI K erA_heavy 32 er_heavy, aI K erA_light 32 er_light, aI K erA_over 32 er_over]
def rmX1_judge : Room := { frames := 1, cells := 0, slots := 0, locals := 20 }
theorem hdX1_judge : yX1_judge.cls = RX1 ∧ yX1_judge.cls ≠ "java/lang/invoke/MethodHandle" ∧ yX1_judge.cls ≠ "java/lang/invoke/VarHandle" ∧ (parseMethodDescriptor yX1_judge.desc).map (fun d => d.parameters.length) = some 2 := by decide +kernel
set_option maxHeartbeats 4000000 in
set_option maxRecDepth 100000 in
theorem wX1_judge_b97 {p : Program} {l : Launch} {e : Env} {s : State} {m : MethodId} {args : Array Value} {below : List Frame} {meth : Method} {c : Code} {Q : State → Prop} {G : va_G} {K : Nat → ClassId} {A : Nat → Prop} {tt : Nat → Nat} {L : List Nat} {la : Nat → Nat} {sa : Nat → Nat} {ln : Nat → Int32} {sy : Nat → Int32} {sn : Nat → Int32} {lt : Nat → Nat → Int32} {st : Nat → Nat → Int32} (C0 : CX p s m args c cX1_judge 5 RX1 G K (EC G K tt L la sa ln sy sn lt st) A) (er_a erA_lastAt erA_fees erA_heavy erA_light erA_over : Nat) (er_words : Int32) (er_syllables : Int32) (er_strong : Int32) (er_either : Int32) (er_joins : Int32) (er_singles : Int32) (er_options : Int32) (er_lastAt : Nat → Int32) (er_fees : Nat → Int32) (er_heavy : Nat → Int32) (er_light : Nat → Int32) (er_over : Nat → Int32) (p1 : Int32) (p2 : Int32) (o_er_least : Int32) (o_er_ways : Int32) (kr : ∀ (H : Heap) (locs : List Loc) (ls : Array Slot) (pc : Nat), decode cX1_judge pc = .ok (.return_, 1) → va_P G vwCl (WX1_judge K er_a erA_lastAt erA_fees erA_heavy erA_light erA_over er_words er_syllables er_strong er_either er_joins er_singles er_options o_er_least o_er_ways er_lastAt er_fees er_heavy er_light er_over) H → va_D A (WX1_judge K er_a erA_lastAt erA_fees erA_heavy erA_light erA_over er_words er_syllables er_strong er_either er_joins er_singles er_options o_er_least o_er_ways er_lastAt er_fees er_heavy er_light er_over) → va_S A s.heap H locs → W p l e rmX1_judge s m args below meth c H locs 0 0 Q (F0 m pc ls [])) (k13 : Int32 → Int32 → Int32 → Option ((Int32) × (Int32))) (hk13 : ∀ (er_least : Int32) (er_ways : Int32) (x3 : Int32), k13 er_least er_ways x3 = some (o_er_least, o_er_ways) → ∀ (H : Heap) (locs : List Loc) (ls : Array Slot), va_P G vwCl (WX1_judge K er_a erA_lastAt erA_fees erA_heavy erA_light erA_over er_words er_syllables er_strong er_either er_joins er_singles er_options er_least er_ways er_lastAt er_fees er_heavy er_light er_over) H → va_D A (WX1_judge K er_a erA_lastAt erA_fees erA_heavy erA_light erA_over er_words er_syllables er_strong er_either er_joins er_singles er_options er_least er_ways er_lastAt er_fees er_heavy er_light er_over) → va_S A s.heap H locs → lv_has ls 5 [(0, .ref er_a), (1, .int p1), (2, .int p2), (3, .int x3)] → W p l e rmX1_judge s m args below meth c H locs 0 0 Q (F0 m 13 ls [])) (er_least : Int32) (er_ways : Int32) (x3 : Int32) (x4 : Int32) (hM : mX1_judge_b97 er_options er_fees er_heavy er_light er_over p1 p2 k13 er_least er_ways x3 x4 = some (o_er_least, o_er_ways)) : ∀ (H : Heap) (locs : List Loc) (ls : Array Slot), va_P G vwCl (WX1_judge K er_a erA_lastAt erA_fees erA_heavy erA_light erA_over er_words er_syllables er_strong er_either er_joins er_singles er_options er_least er_ways er_lastAt er_fees er_heavy er_light er_over) H → va_D A (WX1_judge K er_a erA_lastAt erA_fees erA_heavy erA_light erA_over er_words er_syllables er_strong er_either er_joins er_singles er_options er_least er_ways er_lastAt er_fees er_heavy er_light er_over) → va_S A s.heap H locs → lv_has ls 5 [(0, .ref er_a), (1, .int p1), (2, .int p2), (3, .int x3), (4, .int x4)] → W p l e rmX1_judge s m args below meth c H locs 0 0 Q (F0 m 97 ls []) := by
  obtain ⟨hx, hb, hml, hown, hts, hK, hA, hEo, hE⟩ := id C0
  intro H locs ls hP hD hS hl
  unfold mX1_judge_b97 at hM
  refine lv_iload hx hb dX1_judge_97 (lv_at hl 4 rfl) ?_
  refine lv_aload_n hx hb dX1_judge_99 rfl (lv_at hl 0 rfl) ?_
  refine va_get (D := G) (ci := 1) (v := .int er_least) (C := RX1) (T := TX1) (N := 14) hx hb hts inX1 hown hK hP 0 rfl rfl 12 (by decide) (hts _ tb74) (fun _ h9 => h9) rfl dX1_judge_100 ?_
  refine lv_icmp_ne (tgt := 116) hx hb dX1_judge_103 (by decide) (fun c_1 => ?_) (fun c_1 => ?_)
  · rw [if_neg c_1] at hM
    refine lv_iinc (v := (x3 + 1)) (lv' := [(3, .int (x3 + 1)), (0, .ref er_a), (1, .int p1), (2, .int p2), (4, .int x4)]) hx hb dX1_judge_116 hl (k := 3) rfl rfl (by decide) rfl (fun ls hl => ?_)
    refine lv_goto (tgt := 13) hx hb dX1_judge_119 (by decide) ?_
    exact hk13 er_least er_ways (x3 + 1) hM _ _ _ hP hD hS (lv_sub hl [1, 2, 3, 0] rfl)
  · rw [if_pos c_1] at hM
    refine lv_aload_n hx hb dX1_judge_106 rfl (lv_at hl 0 rfl) ?_
    refine lv_dup hx hb dX1_judge_107 rfl ?_
    refine va_get (D := G) (ci := 1) (v := .int er_ways) (C := RX1) (T := TX1) (N := 14) hx hb hts inX1 hown hK hP 0 rfl rfl 13 (by decide) (hts _ tb76) (fun _ h9 => h9) rfl dX1_judge_108 ?_
    refine lv_iconst (v := 1) hx hb dX1_judge_111 (by decide) ?_
    refine lv_iadd hx hb dX1_judge_112 ?_
    refine va_put (D := G) (ci := 1) (v := .int (er_ways + (1 : Int32))) (ty := .int) (C := RX1) (T := TX1) (N := 14) hx hb hts inX1 tyX1 tyX1_ok nmX1 hown hK hP hD hS 0 rfl rfl 13 (by decide) (hts _ tb76) (fun _ h9 => h9) rfl (tyX1_ok 13 (by decide)) rfl rfl (Nat.le_of_ble_eq_true rfl) dX1_judge_113 (fun H locs hP hD hS => ?_)
    have hP : va_P G vwCl (WX1_judge K er_a erA_lastAt erA_fees erA_heavy erA_light erA_over er_words er_syllables er_strong er_either er_joins er_singles er_options er_least (er_ways + (1 : Int32)) er_lastAt er_fees er_heavy er_light er_over) H := hP
    have hD : va_D A (WX1_judge K er_a erA_lastAt erA_fees erA_heavy erA_light erA_over er_words er_syllables er_strong er_either er_joins er_singles er_options er_least (er_ways + (1 : Int32)) er_lastAt er_fees er_heavy er_light er_over) := hD
    refine lv_iinc (v := (x3 + 1)) (lv' := [(3, .int (x3 + 1)), (0, .ref er_a), (1, .int p1), (2, .int p2), (4, .int x4)]) hx hb dX1_judge_116 hl (k := 3) rfl rfl (by decide) rfl (fun ls hl => ?_)
    refine lv_goto (tgt := 13) hx hb dX1_judge_119 (by decide) ?_
    exact hk13 er_least (er_ways + (1 : Int32)) (x3 + 1) hM _ _ _ hP hD hS (lv_sub hl [1, 2, 3, 0] rfl)
set_option maxHeartbeats 4000000 in
set_option maxRecDepth 100000 in
theorem wX1_judge_b86 {p : Program} {l : Launch} {e : Env} {s : State} {m : MethodId} {args : Array Value} {below : List Frame} {meth : Method} {c : Code} {Q : State → Prop} {G : va_G} {K : Nat → ClassId} {A : Nat → Prop} {tt : Nat → Nat} {L : List Nat} {la : Nat → Nat} {sa : Nat → Nat} {ln : Nat → Int32} {sy : Nat → Int32} {sn : Nat → Int32} {lt : Nat → Nat → Int32} {st : Nat → Nat → Int32} (C0 : CX p s m args c cX1_judge 5 RX1 G K (EC G K tt L la sa ln sy sn lt st) A) (er_a erA_lastAt erA_fees erA_heavy erA_light erA_over : Nat) (er_words : Int32) (er_syllables : Int32) (er_strong : Int32) (er_either : Int32) (er_joins : Int32) (er_singles : Int32) (er_options : Int32) (er_lastAt : Nat → Int32) (er_fees : Nat → Int32) (er_heavy : Nat → Int32) (er_light : Nat → Int32) (er_over : Nat → Int32) (p1 : Int32) (p2 : Int32) (o_er_least : Int32) (o_er_ways : Int32) (kr : ∀ (H : Heap) (locs : List Loc) (ls : Array Slot) (pc : Nat), decode cX1_judge pc = .ok (.return_, 1) → va_P G vwCl (WX1_judge K er_a erA_lastAt erA_fees erA_heavy erA_light erA_over er_words er_syllables er_strong er_either er_joins er_singles er_options o_er_least o_er_ways er_lastAt er_fees er_heavy er_light er_over) H → va_D A (WX1_judge K er_a erA_lastAt erA_fees erA_heavy erA_light erA_over er_words er_syllables er_strong er_either er_joins er_singles er_options o_er_least o_er_ways er_lastAt er_fees er_heavy er_light er_over) → va_S A s.heap H locs → W p l e rmX1_judge s m args below meth c H locs 0 0 Q (F0 m pc ls [])) (k13 : Int32 → Int32 → Int32 → Option ((Int32) × (Int32))) (hk13 : ∀ (er_least : Int32) (er_ways : Int32) (x3 : Int32), k13 er_least er_ways x3 = some (o_er_least, o_er_ways) → ∀ (H : Heap) (locs : List Loc) (ls : Array Slot), va_P G vwCl (WX1_judge K er_a erA_lastAt erA_fees erA_heavy erA_light erA_over er_words er_syllables er_strong er_either er_joins er_singles er_options er_least er_ways er_lastAt er_fees er_heavy er_light er_over) H → va_D A (WX1_judge K er_a erA_lastAt erA_fees erA_heavy erA_light erA_over er_words er_syllables er_strong er_either er_joins er_singles er_options er_least er_ways er_lastAt er_fees er_heavy er_light er_over) → va_S A s.heap H locs → lv_has ls 5 [(0, .ref er_a), (1, .int p1), (2, .int p2), (3, .int x3)] → W p l e rmX1_judge s m args below meth c H locs 0 0 Q (F0 m 13 ls [])) (er_least : Int32) (er_ways : Int32) (x3 : Int32) (x4 : Int32) (hM : mX1_judge_b86 er_options er_fees er_heavy er_light er_over p1 p2 k13 er_least er_ways x3 x4 = some (o_er_least, o_er_ways)) : ∀ (H : Heap) (locs : List Loc) (ls : Array Slot), va_P G vwCl (WX1_judge K er_a erA_lastAt erA_fees erA_heavy erA_light erA_over er_words er_syllables er_strong er_either er_joins er_singles er_options er_least er_ways er_lastAt er_fees er_heavy er_light er_over) H → va_D A (WX1_judge K er_a erA_lastAt erA_fees erA_heavy erA_light erA_over er_words er_syllables er_strong er_either er_joins er_singles er_options er_least er_ways er_lastAt er_fees er_heavy er_light er_over) → va_S A s.heap H locs → lv_has ls 5 [(0, .ref er_a), (1, .int p1), (2, .int p2), (3, .int x3), (4, .int x4)] → W p l e rmX1_judge s m args below meth c H locs 0 0 Q (F0 m 86 ls []) := by
  obtain ⟨hx, hb, hml, hown, hts, hK, hA, hEo, hE⟩ := id C0
  intro H locs ls hP hD hS hl
  unfold mX1_judge_b86 at hM
  refine lv_aload_n hx hb dX1_judge_86 rfl (lv_at hl 0 rfl) ?_
  refine lv_iload hx hb dX1_judge_87 (lv_at hl 4 rfl) ?_
  refine va_put (D := G) (ci := 1) (v := .int x4) (ty := .int) (C := RX1) (T := TX1) (N := 14) hx hb hts inX1 tyX1 tyX1_ok nmX1 hown hK hP hD hS 0 rfl rfl 12 (by decide) (hts _ tb74) (fun _ h9 => h9) rfl (tyX1_ok 12 (by decide)) rfl rfl (Nat.le_of_ble_eq_true rfl) dX1_judge_89 (fun H locs hP hD hS => ?_)
  have hP : va_P G vwCl (WX1_judge K er_a erA_lastAt erA_fees erA_heavy erA_light erA_over er_words er_syllables er_strong er_either er_joins er_singles er_options x4 er_ways er_lastAt er_fees er_heavy er_light er_over) H := hP
  have hD : va_D A (WX1_judge K er_a erA_lastAt erA_fees erA_heavy erA_light erA_over er_words er_syllables er_strong er_either er_joins er_singles er_options x4 er_ways er_lastAt er_fees er_heavy er_light er_over) := hD
  refine lv_aload_n hx hb dX1_judge_92 rfl (lv_at hl 0 rfl) ?_
  refine lv_iconst (v := 0) hx hb dX1_judge_93 (by decide) ?_
  refine va_put (D := G) (ci := 1) (v := .int (0 : Int32)) (ty := .int) (C := RX1) (T := TX1) (N := 14) hx hb hts inX1 tyX1 tyX1_ok nmX1 hown hK hP hD hS 0 rfl rfl 13 (by decide) (hts _ tb76) (fun _ h9 => h9) rfl (tyX1_ok 13 (by decide)) rfl rfl (Nat.le_of_ble_eq_true rfl) dX1_judge_94 (fun H locs hP hD hS => ?_)
  have hP : va_P G vwCl (WX1_judge K er_a erA_lastAt erA_fees erA_heavy erA_light erA_over er_words er_syllables er_strong er_either er_joins er_singles er_options x4 (0 : Int32) er_lastAt er_fees er_heavy er_light er_over) H := hP
  have hD : va_D A (WX1_judge K er_a erA_lastAt erA_fees erA_heavy erA_light erA_over er_words er_syllables er_strong er_either er_joins er_singles er_options x4 (0 : Int32) er_lastAt er_fees er_heavy er_light er_over) := hD
  exact wX1_judge_b97 C0 er_a erA_lastAt erA_fees erA_heavy erA_light erA_over er_words er_syllables er_strong er_either er_joins er_singles er_options er_lastAt er_fees er_heavy er_light er_over p1 p2 o_er_least o_er_ways kr k13 hk13 x4 (0 : Int32) x3 x4 hM _ _ _ hP hD hS (lv_sub hl [0, 1, 2, 3, 4] rfl)
set_option maxHeartbeats 4000000 in
set_option maxRecDepth 100000 in
theorem wX1_judge_b13 {p : Program} {l : Launch} {e : Env} {s : State} {m : MethodId} {args : Array Value} {below : List Frame} {meth : Method} {c : Code} {Q : State → Prop} {G : va_G} {K : Nat → ClassId} {A : Nat → Prop} {tt : Nat → Nat} {L : List Nat} {la : Nat → Nat} {sa : Nat → Nat} {ln : Nat → Int32} {sy : Nat → Int32} {sn : Nat → Int32} {lt : Nat → Nat → Int32} {st : Nat → Nat → Int32} (C0 : CX p s m args c cX1_judge 5 RX1 G K (EC G K tt L la sa ln sy sn lt st) A) (er_a erA_lastAt erA_fees erA_heavy erA_light erA_over : Nat) (er_words : Int32) (er_syllables : Int32) (er_strong : Int32) (er_either : Int32) (er_joins : Int32) (er_singles : Int32) (er_options : Int32) (er_lastAt : Nat → Int32) (er_fees : Nat → Int32) (er_heavy : Nat → Int32) (er_light : Nat → Int32) (er_over : Nat → Int32) (p1 : Int32) (p2 : Int32) (o_er_least : Int32) (o_er_ways : Int32) (kr : ∀ (H : Heap) (locs : List Loc) (ls : Array Slot) (pc : Nat), decode cX1_judge pc = .ok (.return_, 1) → va_P G vwCl (WX1_judge K er_a erA_lastAt erA_fees erA_heavy erA_light erA_over er_words er_syllables er_strong er_either er_joins er_singles er_options o_er_least o_er_ways er_lastAt er_fees er_heavy er_light er_over) H → va_D A (WX1_judge K er_a erA_lastAt erA_fees erA_heavy erA_light erA_over er_words er_syllables er_strong er_either er_joins er_singles er_options o_er_least o_er_ways er_lastAt er_fees er_heavy er_light er_over) → va_S A s.heap H locs → W p l e rmX1_judge s m args below meth c H locs 0 0 Q (F0 m pc ls [])) (n : Nat) : ∀ (er_least : Int32) (er_ways : Int32) (x3 : Int32), mX1_judge_b13 er_options er_fees er_heavy er_light er_over p1 p2  n er_least er_ways x3 = some (o_er_least, o_er_ways) → ∀ (H : Heap) (locs : List Loc) (ls : Array Slot), va_P G vwCl (WX1_judge K er_a erA_lastAt erA_fees erA_heavy erA_light erA_over er_words er_syllables er_strong er_either er_joins er_singles er_options er_least er_ways er_lastAt er_fees er_heavy er_light er_over) H → va_D A (WX1_judge K er_a erA_lastAt erA_fees erA_heavy erA_light erA_over er_words er_syllables er_strong er_either er_joins er_singles er_options er_least er_ways er_lastAt er_fees er_heavy er_light er_over) → va_S A s.heap H locs → lv_has ls 5 [(0, .ref er_a), (1, .int p1), (2, .int p2), (3, .int x3)] → W p l e rmX1_judge s m args below meth c H locs 0 0 Q (F0 m 13 ls []) := by
  obtain ⟨hx, hb, hml, hown, hts, hK, hA, hEo, hE⟩ := id C0
  induction n with
  | zero =>
    intro er_least er_ways x3 hM
    cases hM
  | succ n ih =>
    intro er_least er_ways x3 hM H locs ls hP hD hS hl
    rw [mX1_judge_b13] at hM
    refine lv_iload_n hx hb dX1_judge_13 rfl (lv_at hl 3 rfl) ?_
    refine lv_aload_n hx hb dX1_judge_14 rfl (lv_at hl 0 rfl) ?_
    refine va_get (D := G) (ci := 1) (v := .int er_options) (C := RX1) (T := TX1) (N := 14) hx hb hts inX1 hown hK hP 0 rfl rfl 7 (by decide) (hts _ tb69) (fun _ h9 => h9) rfl dX1_judge_15 ?_
    refine lv_icmp_ge (tgt := 122) hx hb dX1_judge_18 (by decide) (fun c_2 => ?_) (fun c_2 => ?_)
    · rw [if_pos c_2] at hM
      have t0 := Option.some.inj hM
      obtain ⟨q1, t1⟩ := Prod.mk.inj t0
      subst q1
      subst t1
      exact kr _ _ _ _ dX1_judge_122 hP hD hS
    · rw [if_neg c_2] at hM
      refine lv_iload_n hx hb dX1_judge_21 rfl (lv_at hl 1 rfl) ?_
      refine lv_aload_n hx hb dX1_judge_22 rfl (lv_at hl 0 rfl) ?_
      refine va_get (D := G) (ci := 1) (v := .ref erA_over) (C := RX1) (T := TX1) (N := 14) hx hb hts inX1 hown hK hP 0 rfl rfl 11 (by decide) (hts _ tb73) (fun _ h9 => h9) rfl dX1_judge_23 ?_
      refine lv_iload_n hx hb dX1_judge_26 rfl (lv_at hl 3 rfl) ?_
      obtain ⟨g_3, hM⟩ := ng hM
      refine va_iald hx hb hK hP 5 0 rfl rfl g_3 dX1_judge_27 ?_
      refine lv_iand hx hb dX1_judge_28 ?_
      refine lv_if_ne (tgt := 116) hx hb dX1_judge_29 (by decide) (fun c_4 => ?_) (fun c_4 => ?_)
      · rw [if_neg c_4] at hM
        refine lv_iinc (v := (x3 + 1)) (lv' := [(3, .int (x3 + 1)), (0, .ref er_a), (1, .int p1), (2, .int p2)]) hx hb dX1_judge_116 hl (k := 3) rfl rfl (by decide) rfl (fun ls hl => ?_)
        refine lv_goto (tgt := 13) hx hb dX1_judge_119 (by decide) ?_
        exact ih er_least er_ways (x3 + 1) hM _ _ _ hP hD hS (lv_sub hl [1, 2, 3, 0] rfl)
      · rw [if_pos c_4] at hM
        refine lv_aload_n hx hb dX1_judge_32 rfl (lv_at hl 0 rfl) ?_
        refine va_get (D := G) (ci := 1) (v := .ref erA_fees) (C := RX1) (T := TX1) (N := 14) hx hb hts inX1 hown hK hP 0 rfl rfl 8 (by decide) (hts _ tb70) (fun _ h9 => h9) rfl dX1_judge_33 ?_
        refine lv_iload_n hx hb dX1_judge_36 rfl (lv_at hl 3 rfl) ?_
        obtain ⟨g_5, hM⟩ := ng hM
        refine va_iald hx hb hK hP 2 0 rfl rfl g_5 dX1_judge_37 ?_
        refine lv_iconst (v := 2) hx hb dX1_judge_38 (by decide) ?_
        refine lv_iload_n hx hb dX1_judge_39 rfl (lv_at hl 1 rfl) ?_
        refine lv_aload_n hx hb dX1_judge_40 rfl (lv_at hl 0 rfl) ?_
        refine va_get (D := G) (ci := 1) (v := .ref erA_light) (C := RX1) (T := TX1) (N := 14) hx hb hts inX1 hown hK hP 0 rfl rfl 10 (by decide) (hts _ tb72) (fun _ h9 => h9) rfl dX1_judge_41 ?_
        refine lv_iload_n hx hb dX1_judge_44 rfl (lv_at hl 3 rfl) ?_
        obtain ⟨g_6, hM⟩ := ng hM
        refine va_iald hx hb hK hP 4 0 rfl rfl g_6 dX1_judge_45 ?_
        refine lv_iand hx hb dX1_judge_46 ?_
        obtain ⟨r_7, hC, hM⟩ := oe1 hM
        refine cS_i (As := [.int (p1 &&& (er_light x3.toNatClampNeg))]) (rest := [.int (2 : Int32), .int (er_fees x3.toNatClampNeg)]) C0 hP hD hS [] (kJ6_bitCount_0f7a4 l G K tt L la sa ln sy sn lt st (p1 &&& (er_light x3.toNatClampNeg)) H.size r_7 hC) rfl rfl rfl tb585 tb586 tb11 tb587 hdJ6_bitCount_0f7a4 ⟨Nat.le_of_ble_eq_true rfl, Nat.le_of_ble_eq_true rfl⟩ rfl hl.1 (Nat.le_of_ble_eq_true rfl) rfl ⟨Nat.le_refl _, Nat.le_refl _⟩ dX1_judge_47 (fun H locs hP hD hS => ?_)
        have hP : va_P G vwCl (WX1_judge K er_a erA_lastAt erA_fees erA_heavy erA_light erA_over er_words er_syllables er_strong er_either er_joins er_singles er_options er_least er_ways er_lastAt er_fees er_heavy er_light er_over) H := hP
        have hD : va_D A (WX1_judge K er_a erA_lastAt erA_fees erA_heavy erA_light erA_over er_words er_syllables er_strong er_either er_joins er_singles er_options er_least er_ways er_lastAt er_fees er_heavy er_light er_over) := hD
        refine lv_imul hx hb dX1_judge_50 ?_
        refine lv_iadd hx hb dX1_judge_51 ?_
        refine lv_iconst (v := 3) hx hb dX1_judge_52 (by decide) ?_
        refine lv_iload_n hx hb dX1_judge_53 rfl (lv_at hl 2 rfl) ?_
        refine lv_aload_n hx hb dX1_judge_54 rfl (lv_at hl 0 rfl) ?_
        refine va_get (D := G) (ci := 1) (v := .ref erA_heavy) (C := RX1) (T := TX1) (N := 14) hx hb hts inX1 hown hK hP 0 rfl rfl 9 (by decide) (hts _ tb71) (fun _ h9 => h9) rfl dX1_judge_55 ?_
        refine lv_iload_n hx hb dX1_judge_58 rfl (lv_at hl 3 rfl) ?_
        obtain ⟨g_8, hM⟩ := ng hM
        refine va_iald hx hb hK hP 3 0 rfl rfl g_8 dX1_judge_59 ?_
        refine lv_iand hx hb dX1_judge_60 ?_
        obtain ⟨r_9, hC, hM⟩ := oe1 hM
        refine cS_i (As := [.int (p2 &&& (er_heavy x3.toNatClampNeg))]) (rest := [.int (3 : Int32), .int ((er_fees x3.toNatClampNeg) + ((2 : Int32) * r_7))]) C0 hP hD hS [] (kJ6_bitCount_0f7a4 l G K tt L la sa ln sy sn lt st (p2 &&& (er_heavy x3.toNatClampNeg)) H.size r_9 hC) rfl rfl rfl tb585 tb586 tb11 tb587 hdJ6_bitCount_0f7a4 ⟨Nat.le_of_ble_eq_true rfl, Nat.le_of_ble_eq_true rfl⟩ rfl hl.1 (Nat.le_of_ble_eq_true rfl) rfl ⟨Nat.le_refl _, Nat.le_refl _⟩ dX1_judge_61 (fun H locs hP hD hS => ?_)
        have hP : va_P G vwCl (WX1_judge K er_a erA_lastAt erA_fees erA_heavy erA_light erA_over er_words er_syllables er_strong er_either er_joins er_singles er_options er_least er_ways er_lastAt er_fees er_heavy er_light er_over) H := hP
        have hD : va_D A (WX1_judge K er_a erA_lastAt erA_fees erA_heavy erA_light erA_over er_words er_syllables er_strong er_either er_joins er_singles er_options er_least er_ways er_lastAt er_fees er_heavy er_light er_over) := hD
        refine lv_imul hx hb dX1_judge_64 ?_
        refine lv_iadd hx hb dX1_judge_65 ?_
        refine lv_istore (lv' := [(4, .int (((er_fees x3.toNatClampNeg) + ((2 : Int32) * r_7)) + ((3 : Int32) * r_9))), (0, .ref er_a), (1, .int p1), (2, .int p2), (3, .int x3)]) hx hb dX1_judge_66 hl (by decide) rfl (fun ls hl => ?_)
        refine lv_aload_n hx hb dX1_judge_68 rfl (lv_at hl 1 rfl) ?_
        refine va_get (D := G) (ci := 1) (v := .int er_least) (C := RX1) (T := TX1) (N := 14) hx hb hts inX1 hown hK hP 0 rfl rfl 12 (by decide) (hts _ tb74) (fun _ h9 => h9) rfl dX1_judge_69 ?_
        refine lv_ldc (v := -1000000) hx hb hown (hts _ tb602) dX1_judge_72 ?_
        refine lv_icmp_eq (tgt := 86) hx hb dX1_judge_74 (by decide) (fun c_10 => ?_) (fun c_10 => ?_)
        · rw [if_pos c_10] at hM
          exact wX1_judge_b86 C0 er_a erA_lastAt erA_fees erA_heavy erA_light erA_over er_words er_syllables er_strong er_either er_joins er_singles er_options er_lastAt er_fees er_heavy er_light er_over p1 p2 o_er_least o_er_ways kr (mX1_judge_b13 er_options er_fees er_heavy er_light er_over p1 p2  n) ih er_least er_ways x3 (((er_fees x3.toNatClampNeg) + ((2 : Int32) * r_7)) + ((3 : Int32) * r_9)) hM _ _ _ hP hD hS (lv_sub hl [1, 2, 3, 4, 0] rfl)
        · rw [if_neg c_10] at hM
          refine lv_iload hx hb dX1_judge_77 (lv_at hl 0 rfl) ?_
          refine lv_aload_n hx hb dX1_judge_79 rfl (lv_at hl 1 rfl) ?_
          refine va_get (D := G) (ci := 1) (v := .int er_least) (C := RX1) (T := TX1) (N := 14) hx hb hts inX1 hown hK hP 0 rfl rfl 12 (by decide) (hts _ tb74) (fun _ h9 => h9) rfl dX1_judge_80 ?_
          refine lv_icmp_ge (tgt := 97) hx hb dX1_judge_83 (by decide) (fun c_11 => ?_) (fun c_11 => ?_)
          · rw [if_pos c_11] at hM
            exact wX1_judge_b97 C0 er_a erA_lastAt erA_fees erA_heavy erA_light erA_over er_words er_syllables er_strong er_either er_joins er_singles er_options er_lastAt er_fees er_heavy er_light er_over p1 p2 o_er_least o_er_ways kr (mX1_judge_b13 er_options er_fees er_heavy er_light er_over p1 p2  n) ih er_least er_ways x3 (((er_fees x3.toNatClampNeg) + ((2 : Int32) * r_7)) + ((3 : Int32) * r_9)) hM _ _ _ hP hD hS (lv_sub hl [1, 2, 3, 4, 0] rfl)
          · rw [if_neg c_11] at hM
            exact wX1_judge_b86 C0 er_a erA_lastAt erA_fees erA_heavy erA_light erA_over er_words er_syllables er_strong er_either er_joins er_singles er_options er_lastAt er_fees er_heavy er_light er_over p1 p2 o_er_least o_er_ways kr (mX1_judge_b13 er_options er_fees er_heavy er_light er_over p1 p2  n) ih er_least er_ways x3 (((er_fees x3.toNatClampNeg) + ((2 : Int32) * r_7)) + ((3 : Int32) * r_9)) hM _ _ _ hP hD hS (lv_sub hl [1, 2, 3, 4, 0] rfl)
set_option maxHeartbeats 4000000 in
set_option maxRecDepth 100000 in
theorem wX1_judge_b0 {p : Program} {l : Launch} {e : Env} {s : State} {m : MethodId} {args : Array Value} {below : List Frame} {meth : Method} {c : Code} {Q : State → Prop} {G : va_G} {K : Nat → ClassId} {A : Nat → Prop} {tt : Nat → Nat} {L : List Nat} {la : Nat → Nat} {sa : Nat → Nat} {ln : Nat → Int32} {sy : Nat → Int32} {sn : Nat → Int32} {lt : Nat → Nat → Int32} {st : Nat → Nat → Int32} (C0 : CX p s m args c cX1_judge 5 RX1 G K (EC G K tt L la sa ln sy sn lt st) A) (er_a erA_lastAt erA_fees erA_heavy erA_light erA_over : Nat) (er_words : Int32) (er_syllables : Int32) (er_strong : Int32) (er_either : Int32) (er_joins : Int32) (er_singles : Int32) (er_options : Int32) (er_lastAt : Nat → Int32) (er_fees : Nat → Int32) (er_heavy : Nat → Int32) (er_light : Nat → Int32) (er_over : Nat → Int32) (p1 : Int32) (p2 : Int32) (o_er_least : Int32) (o_er_ways : Int32) (kr : ∀ (H : Heap) (locs : List Loc) (ls : Array Slot) (pc : Nat), decode cX1_judge pc = .ok (.return_, 1) → va_P G vwCl (WX1_judge K er_a erA_lastAt erA_fees erA_heavy erA_light erA_over er_words er_syllables er_strong er_either er_joins er_singles er_options o_er_least o_er_ways er_lastAt er_fees er_heavy er_light er_over) H → va_D A (WX1_judge K er_a erA_lastAt erA_fees erA_heavy erA_light erA_over er_words er_syllables er_strong er_either er_joins er_singles er_options o_er_least o_er_ways er_lastAt er_fees er_heavy er_light er_over) → va_S A s.heap H locs → W p l e rmX1_judge s m args below meth c H locs 0 0 Q (F0 m pc ls [])) (er_least : Int32) (er_ways : Int32) (hM : mX1_judge_b0 er_options er_fees er_heavy er_light er_over p1 p2  er_least er_ways = some (o_er_least, o_er_ways)) : ∀ (H : Heap) (locs : List Loc) (ls : Array Slot), va_P G vwCl (WX1_judge K er_a erA_lastAt erA_fees erA_heavy erA_light erA_over er_words er_syllables er_strong er_either er_joins er_singles er_options er_least er_ways er_lastAt er_fees er_heavy er_light er_over) H → va_D A (WX1_judge K er_a erA_lastAt erA_fees erA_heavy erA_light erA_over er_words er_syllables er_strong er_either er_joins er_singles er_options er_least er_ways er_lastAt er_fees er_heavy er_light er_over) → va_S A s.heap H locs → lv_has ls 5 [(0, .ref er_a), (1, .int p1), (2, .int p2)] → W p l e rmX1_judge s m args below meth c H locs 0 0 Q (F0 m 0 ls []) := by
  obtain ⟨hx, hb, hml, hown, hts, hK, hA, hEo, hE⟩ := id C0
  intro H locs ls hP hD hS hl
  unfold mX1_judge_b0 at hM
  refine lv_aload_n hx hb dX1_judge_0 rfl (lv_at hl 0 rfl) ?_
  refine lv_ldc (v := -1000000) hx hb hown (hts _ tb602) dX1_judge_1 ?_
  refine va_put (D := G) (ci := 1) (v := .int (-1000000 : Int32)) (ty := .int) (C := RX1) (T := TX1) (N := 14) hx hb hts inX1 tyX1 tyX1_ok nmX1 hown hK hP hD hS 0 rfl rfl 12 (by decide) (hts _ tb74) (fun _ h9 => h9) rfl (tyX1_ok 12 (by decide)) rfl rfl (Nat.le_of_ble_eq_true rfl) dX1_judge_3 (fun H locs hP hD hS => ?_)
  have hP : va_P G vwCl (WX1_judge K er_a erA_lastAt erA_fees erA_heavy erA_light erA_over er_words er_syllables er_strong er_either er_joins er_singles er_options (-1000000 : Int32) er_ways er_lastAt er_fees er_heavy er_light er_over) H := hP
  have hD : va_D A (WX1_judge K er_a erA_lastAt erA_fees erA_heavy erA_light erA_over er_words er_syllables er_strong er_either er_joins er_singles er_options (-1000000 : Int32) er_ways er_lastAt er_fees er_heavy er_light er_over) := hD
  refine lv_aload_n hx hb dX1_judge_6 rfl (lv_at hl 0 rfl) ?_
  refine lv_iconst (v := 0) hx hb dX1_judge_7 (by decide) ?_
  refine va_put (D := G) (ci := 1) (v := .int (0 : Int32)) (ty := .int) (C := RX1) (T := TX1) (N := 14) hx hb hts inX1 tyX1 tyX1_ok nmX1 hown hK hP hD hS 0 rfl rfl 13 (by decide) (hts _ tb76) (fun _ h9 => h9) rfl (tyX1_ok 13 (by decide)) rfl rfl (Nat.le_of_ble_eq_true rfl) dX1_judge_8 (fun H locs hP hD hS => ?_)
  have hP : va_P G vwCl (WX1_judge K er_a erA_lastAt erA_fees erA_heavy erA_light erA_over er_words er_syllables er_strong er_either er_joins er_singles er_options (-1000000 : Int32) (0 : Int32) er_lastAt er_fees er_heavy er_light er_over) H := hP
  have hD : va_D A (WX1_judge K er_a erA_lastAt erA_fees erA_heavy erA_light erA_over er_words er_syllables er_strong er_either er_joins er_singles er_options (-1000000 : Int32) (0 : Int32) er_lastAt er_fees er_heavy er_light er_over) := hD
  refine lv_iconst (v := 0) hx hb dX1_judge_11 (by decide) ?_
  refine lv_istore_n (lv' := [(3, .int (0 : Int32)), (0, .ref er_a), (1, .int p1), (2, .int p2)]) hx hb dX1_judge_12 rfl hl (by decide) rfl (fun ls hl => ?_)
  exact wX1_judge_b13 C0 er_a erA_lastAt erA_fees erA_heavy erA_light erA_over er_words er_syllables er_strong er_either er_joins er_singles er_options er_lastAt er_fees er_heavy er_light er_over p1 p2 o_er_least o_er_ways kr  FU (-1000000 : Int32) (0 : Int32) (0 : Int32) hM _ _ _ hP hD hS (lv_sub hl [1, 2, 3, 0] rfl)
set_option maxHeartbeats 4000000 in
set_option maxRecDepth 100000 in
theorem kX1_judge (l : Launch) (G : va_G) (K : Nat → ClassId) (tt : Nat → Nat) (L : List Nat) (la : Nat → Nat) (sa : Nat → Nat) (ln : Nat → Int32) (sy : Nat → Int32) (sn : Nat → Int32) (lt : Nat → Nat → Int32) (st : Nat → Nat → Int32) (er_a erA_lastAt erA_fees erA_heavy erA_light erA_over : Nat) (er_words : Int32) (er_syllables : Int32) (er_strong : Int32) (er_either : Int32) (er_joins : Int32) (er_singles : Int32) (er_options : Int32) (er_least : Int32) (er_ways : Int32) (er_lastAt : Nat → Int32) (er_fees : Nat → Int32) (er_heavy : Nat → Int32) (er_light : Nat → Int32) (er_over : Nat → Int32) (p1 : Int32) (p2 : Int32) (sz : Nat) (o_er_least : Int32) (o_er_ways : Int32) (hM : mX1_judge er_options er_fees er_heavy er_light er_over er_least er_ways p1 p2 = some (o_er_least, o_er_ways)) : Met l yX1_judge (mC yX1_judge cX1_judge 5 none) rmX1_judge (va_Pc [.ref er_a, .int p1, .int p2] (PCe G K (EC G K tt L la sa ln sy sn lt st) (WX1_judge K er_a erA_lastAt erA_fees erA_heavy erA_light erA_over er_words er_syllables er_strong er_either er_joins er_singles er_options er_least er_ways er_lastAt er_fees er_heavy er_light er_over) sz)) (va_Qv (fun (_ : Unit) => True) (fun _ t => va_P G vwCl (WX1_judge K er_a erA_lastAt erA_fees erA_heavy erA_light erA_over er_words er_syllables er_strong er_either er_joins er_singles er_options o_er_least o_er_ways er_lastAt er_fees er_heavy er_light er_over) t.heap) (va_A (WX1_judge K er_a erA_lastAt erA_fees erA_heavy erA_light erA_over er_words er_syllables er_strong er_either er_joins er_singles er_options er_least er_ways er_lastAt er_fees er_heavy er_light er_over) sz)) rmX1_judge.cells rmX1_judge.slots (va_A (WX1_judge K er_a erA_lastAt erA_fees erA_heavy erA_light erA_over er_words er_syllables er_strong er_either er_joins er_singles er_options er_least er_ways er_lastAt er_fees er_heavy er_light er_over) sz) := by
  refine Met.ofW (cc := cX1_judge) (maxL := 5) (ret := none) (by decide) rfl ?_
  intro p e s m args below meth c s₁ B hml hv
  obtain ⟨rfl, hsz, hP, hK, hD0, hE⟩ := hv
  have hx := B.exec
  have hb := B.bytes
  have hr := B.returns
  have hts0 := atoms_spec (ws := mC yX1_judge cX1_judge 5 none) B.pre
  have hts : ∀ w ∈ tbG, w.before _ s = true := fun w h => hts0 w (List.mem_cons_of_mem _ h)
  have hown : s.vm.findClass RX1 = some m.cls := findClass_of_methodNamed B.named
  subst hsz
  have hD := hD0.self (sz := s.heap.size)
  generalize hAe : va_A (WX1_judge K er_a erA_lastAt erA_fees erA_heavy erA_light erA_over er_words er_syllables er_strong er_either er_joins er_singles er_options er_least er_ways er_lastAt er_fees er_heavy er_light er_over) s.heap.size = A at hD hE ⊢
  have hA : ∀ q : Nat, s.heap.size ≤ q → A q := fun q h => by rw [← hAe]; exact Or.inr h
  have hS : va_S A s.heap s.heap [] := va_S.rf
  have hl := lv_entry ([.ref er_a, .int p1, .int p2]) (n := 5) (Nat.le_of_ble_eq_true rfl)
  rw [lg_entry_eq]
  generalize (lg_sl ([.ref er_a, .int p1, .int p2]) ++ List.replicate (5 - (lg_sl ([.ref er_a, .int p1, .int p2])).length) Slot.unset).toArray = ls at hl ⊢
  have hl : lv_has ls 5 [(0, .ref er_a), (1, .int p1), (2, .int p2)] := hl
  exact wX1_judge_b0 ⟨hx, hb, hml, hown, hts, hK, hA, EC_ok _ _ _ _ _ _ _ _ _ _ _, hE⟩ er_a erA_lastAt erA_fees erA_heavy erA_light erA_over er_words er_syllables er_strong er_either er_joins er_singles er_options er_lastAt er_fees er_heavy er_light er_over p1 p2 o_er_least o_er_ways (fun H locs ls pc hdg hP hD hS => W.vret hx hb hr (fun t ht hW => ⟨⟨(), rfl, trivial, (show va_P G vwCl _ t.heap by rw [ht]; exact hP)⟩, hS.F ht⟩) hS.2.2 hdg) er_least er_ways  hM _ _ _ hP hD hS hl
abbrev WX1_leastBy (K : Nat → ClassId) (er_a erA_lastAt erA_fees erA_heavy erA_light erA_over : Nat) (er_words : Int32) (er_syllables : Int32) (er_strong : Int32) (er_either : Int32) (er_joins : Int32) (er_singles : Int32) (er_options : Int32) (er_least : Int32) (er_ways : Int32) (er_lastAt : Nat → Int32) (er_fees : Nat → Int32) (er_heavy : Nat → Int32) (er_light : Nat → Int32) (er_over : Nat → Int32) : va_W := [(er_a, .inr (1, [.int er_words, .int er_syllables, .int er_strong, .int er_either, .int er_joins, .int er_singles, .ref erA_lastAt, .int er_options, .ref erA_fees, .ref erA_heavy, .ref erA_light, .ref erA_over, .int er_least, .int er_ways])), aI K erA_lastAt 5 er_lastAt, aI K erA_fees 32 er_fees, aI K erA_heavy 32 er_heavy, aI K erA_light 32 er_light, aI K erA_over 32 er_over]
def rmX1_leastBy : Room := { frames := 3, cells := 0, slots := 0, locals := 81 }
theorem hdX1_leastBy : yX1_leastBy.cls = RX1 ∧ yX1_leastBy.cls ≠ "java/lang/invoke/MethodHandle" ∧ yX1_leastBy.cls ≠ "java/lang/invoke/VarHandle" ∧ (parseMethodDescriptor yX1_leastBy.desc).map (fun d => d.parameters.length) = some 2 := by decide +kernel
set_option maxHeartbeats 4000000 in
set_option maxRecDepth 100000 in
theorem wX1_leastBy_b0 {p : Program} {l : Launch} {e : Env} {s : State} {m : MethodId} {args : Array Value} {below : List Frame} {meth : Method} {c : Code} {Q : State → Prop} {G : va_G} {K : Nat → ClassId} {A : Nat → Prop} {tt : Nat → Nat} {L : List Nat} {la : Nat → Nat} {sa : Nat → Nat} {ln : Nat → Int32} {sy : Nat → Int32} {sn : Nat → Int32} {lt : Nat → Nat → Int32} {st : Nat → Nat → Int32} (C0 : CX p s m args c cX1_leastBy 3 RX1 G K (EC G K tt L la sa ln sy sn lt st) A) (er_a erA_lastAt erA_fees erA_heavy erA_light erA_over : Nat) (er_words : Int32) (er_syllables : Int32) (er_strong : Int32) (er_either : Int32) (er_joins : Int32) (er_singles : Int32) (er_lastAt : Nat → Int32) (p1 : Int32) (p2 : Int32) (r : Int32) (o_er_options : Int32) (o_er_least : Int32) (o_er_ways : Int32) (o_er_fees : Nat → Int32) (o_er_heavy : Nat → Int32) (o_er_light : Nat → Int32) (o_er_over : Nat → Int32) (kr : ∀ (H : Heap) (locs : List Loc) (ls : Array Slot) (pc : Nat), decode cX1_leastBy pc = .ok (.ireturn, 1) → va_P G vwCl (WX1_leastBy K er_a erA_lastAt erA_fees erA_heavy erA_light erA_over er_words er_syllables er_strong er_either er_joins er_singles o_er_options o_er_least o_er_ways er_lastAt o_er_fees o_er_heavy o_er_light o_er_over) H → va_D A (WX1_leastBy K er_a erA_lastAt erA_fees erA_heavy erA_light erA_over er_words er_syllables er_strong er_either er_joins er_singles o_er_options o_er_least o_er_ways er_lastAt o_er_fees o_er_heavy o_er_light o_er_over) → va_S A s.heap H locs → W p l e rmX1_leastBy s m args below meth c H locs 0 0 Q (F0 m pc ls [.int r])) (er_options : Int32) (er_least : Int32) (er_ways : Int32) (er_fees : Nat → Int32) (er_heavy : Nat → Int32) (er_light : Nat → Int32) (er_over : Nat → Int32) (hM : mX1_leastBy_b0 er_words er_syllables er_strong er_either er_joins er_singles er_lastAt p1 p2  er_options er_least er_ways er_fees er_heavy er_light er_over = some (r, o_er_options, o_er_least, o_er_ways, o_er_fees, o_er_heavy, o_er_light, o_er_over)) : ∀ (H : Heap) (locs : List Loc) (ls : Array Slot), va_P G vwCl (WX1_leastBy K er_a erA_lastAt erA_fees erA_heavy erA_light erA_over er_words er_syllables er_strong er_either er_joins er_singles er_options er_least er_ways er_lastAt er_fees er_heavy er_light er_over) H → va_D A (WX1_leastBy K er_a erA_lastAt erA_fees erA_heavy erA_light erA_over er_words er_syllables er_strong er_either er_joins er_singles er_options er_least er_ways er_lastAt er_fees er_heavy er_light er_over) → va_S A s.heap H locs → lv_has ls 3 [(0, .ref er_a), (1, .int p1), (2, .int p2)] → W p l e rmX1_leastBy s m args below meth c H locs 0 0 Q (F0 m 0 ls []) := by
  obtain ⟨hx, hb, hml, hown, hts, hK, hA, hEo, hE⟩ := id C0
  intro H locs ls hP hD hS hl
  unfold mX1_leastBy_b0 at hM
  refine lv_aload_n hx hb dX1_leastBy_0 rfl (lv_at hl 0 rfl) ?_
  refine lv_iload_n hx hb dX1_leastBy_1 rfl (lv_at hl 1 rfl) ?_
  refine lv_iload_n hx hb dX1_leastBy_2 rfl (lv_at hl 2 rfl) ?_
  obtain ⟨u0_1, u1_1, u2_1, u3_1, u4_1, hC, hM⟩ := oe5 hM
  refine cV_v (As := [.int p1, .int p2]) (rest := []) C0 hP hD hS [0, 1, 2, 3, 4, 5] (kX1_fit l G K tt L la sa ln sy sn lt st er_a erA_lastAt erA_fees erA_heavy erA_light erA_over er_words er_syllables er_strong er_either er_joins er_singles er_options er_least er_ways er_lastAt er_fees er_heavy er_light er_over p1 p2 H.size u0_1 u1_1 u2_1 u3_1 u4_1 hC) rfl rfl rfl tb568 tb569 tb570 tb3 tb571 hdX1_fit (va_recv hK hP (ci := 1) (q0 := 0) rfl rfl) ⟨Nat.le_of_ble_eq_true rfl, Nat.le_of_ble_eq_true rfl⟩ rfl hl.1 (Nat.le_of_ble_eq_true rfl) rfl ⟨Nat.le_refl _, Nat.le_refl _⟩ dX1_leastBy_3 (fun H locs hP hD hS => ?_)
  have hP : va_P G vwCl (WX1_leastBy K er_a erA_lastAt erA_fees erA_heavy erA_light erA_over er_words er_syllables er_strong er_either er_joins er_singles u0_1 er_least er_ways er_lastAt u1_1 u2_1 u3_1 u4_1) H := hP
  have hD : va_D A (WX1_leastBy K er_a erA_lastAt erA_fees erA_heavy erA_light erA_over er_words er_syllables er_strong er_either er_joins er_singles u0_1 er_least er_ways er_lastAt u1_1 u2_1 u3_1 u4_1) := hD
  refine lv_aload_n hx hb dX1_leastBy_6 rfl (lv_at hl 0 rfl) ?_
  refine lv_aload_n hx hb dX1_leastBy_7 rfl (lv_at hl 0 rfl) ?_
  refine va_get (D := G) (ci := 1) (v := .int er_strong) (C := RX1) (T := TX1) (N := 14) hx hb hts inX1 hown hK hP 0 rfl rfl 2 (by decide) (hts _ tb62) (fun _ h9 => h9) rfl dX1_leastBy_8 ?_
  refine lv_aload_n hx hb dX1_leastBy_11 rfl (lv_at hl 0 rfl) ?_
  refine va_get (D := G) (ci := 1) (v := .int er_strong) (C := RX1) (T := TX1) (N := 14) hx hb hts inX1 hown hK hP 0 rfl rfl 2 (by decide) (hts _ tb62) (fun _ h9 => h9) rfl dX1_leastBy_12 ?_
  refine lv_aload_n hx hb dX1_leastBy_15 rfl (lv_at hl 0 rfl) ?_
  refine va_get (D := G) (ci := 1) (v := .int er_either) (C := RX1) (T := TX1) (N := 14) hx hb hts inX1 hown hK hP 0 rfl rfl 3 (by decide) (hts _ tb64) (fun _ h9 => h9) rfl dX1_leastBy_16 ?_
  refine lv_ior hx hb dX1_leastBy_19 ?_
  refine lv_iconst (v := (-1)) hx hb dX1_leastBy_20 (by decide) ?_
  refine lv_ixor hx hb dX1_leastBy_21 ?_
  obtain ⟨u0_2, u1_2, hC, hM⟩ := oe2 hM
  refine cV_v (As := [.int er_strong, .int ((er_strong ||| er_either) ^^^ ((-1) : Int32))]) (rest := []) C0 hP hD hS [0, 1, 2, 3, 4, 5] (kX1_judge l G K tt L la sa ln sy sn lt st er_a erA_lastAt erA_fees erA_heavy erA_light erA_over er_words er_syllables er_strong er_either er_joins er_singles u0_1 er_least er_ways er_lastAt u1_1 u2_1 u3_1 u4_1 er_strong ((er_strong ||| er_either) ^^^ ((-1) : Int32)) H.size u0_2 u1_2 hC) rfl rfl rfl tb598 tb599 tb600 tb3 tb601 hdX1_judge (va_recv hK hP (ci := 1) (q0 := 0) rfl rfl) ⟨Nat.le_of_ble_eq_true rfl, Nat.le_of_ble_eq_true rfl⟩ rfl hl.1 (Nat.le_of_ble_eq_true rfl) rfl ⟨Nat.le_refl _, Nat.le_refl _⟩ dX1_leastBy_22 (fun H locs hP hD hS => ?_)
  have hP : va_P G vwCl (WX1_leastBy K er_a erA_lastAt erA_fees erA_heavy erA_light erA_over er_words er_syllables er_strong er_either er_joins er_singles u0_1 u0_2 u1_2 er_lastAt u1_1 u2_1 u3_1 u4_1) H := hP
  have hD : va_D A (WX1_leastBy K er_a erA_lastAt erA_fees erA_heavy erA_light erA_over er_words er_syllables er_strong er_either er_joins er_singles u0_1 u0_2 u1_2 er_lastAt u1_1 u2_1 u3_1 u4_1) := hD
  refine lv_aload_n hx hb dX1_leastBy_25 rfl (lv_at hl 0 rfl) ?_
  refine va_get (D := G) (ci := 1) (v := .int u0_2) (C := RX1) (T := TX1) (N := 14) hx hb hts inX1 hown hK hP 0 rfl rfl 12 (by decide) (hts _ tb74) (fun _ h9 => h9) rfl dX1_leastBy_26 ?_
  have t0 := Option.some.inj hM
  obtain ⟨q1, t1⟩ := Prod.mk.inj t0
  obtain ⟨q2, t2⟩ := Prod.mk.inj t1
  obtain ⟨q3, t3⟩ := Prod.mk.inj t2
  obtain ⟨q4, t4⟩ := Prod.mk.inj t3
  obtain ⟨q5, t5⟩ := Prod.mk.inj t4
  obtain ⟨q6, t6⟩ := Prod.mk.inj t5
  obtain ⟨q7, t7⟩ := Prod.mk.inj t6
  subst q1
  subst q2
  subst q3
  subst q4
  subst q5
  subst q6
  subst q7
  subst t7
  exact kr _ _ _ _ dX1_leastBy_29 hP hD hS
set_option maxHeartbeats 4000000 in
set_option maxRecDepth 100000 in
theorem kX1_leastBy (l : Launch) (G : va_G) (K : Nat → ClassId) (tt : Nat → Nat) (L : List Nat) (la : Nat → Nat) (sa : Nat → Nat) (ln : Nat → Int32) (sy : Nat → Int32) (sn : Nat → Int32) (lt : Nat → Nat → Int32) (st : Nat → Nat → Int32) (er_a erA_lastAt erA_fees erA_heavy erA_light erA_over : Nat) (er_words : Int32) (er_syllables : Int32) (er_strong : Int32) (er_either : Int32) (er_joins : Int32) (er_singles : Int32) (er_options : Int32) (er_least : Int32) (er_ways : Int32) (er_lastAt : Nat → Int32) (er_fees : Nat → Int32) (er_heavy : Nat → Int32) (er_light : Nat → Int32) (er_over : Nat → Int32) (p1 : Int32) (p2 : Int32) (sz : Nat) (r : Int32) (o_er_options : Int32) (o_er_least : Int32) (o_er_ways : Int32) (o_er_fees : Nat → Int32) (o_er_heavy : Nat → Int32) (o_er_light : Nat → Int32) (o_er_over : Nat → Int32) (hM : mX1_leastBy er_words er_syllables er_strong er_either er_joins er_singles er_lastAt er_options er_least er_ways er_fees er_heavy er_light er_over p1 p2 = some (r, o_er_options, o_er_least, o_er_ways, o_er_fees, o_er_heavy, o_er_light, o_er_over)) : Met l yX1_leastBy (mC yX1_leastBy cX1_leastBy 3 (some .int)) rmX1_leastBy (va_Pc [.ref er_a, .int p1, .int p2] (PCe G K (EC G K tt L la sa ln sy sn lt st) (WX1_leastBy K er_a erA_lastAt erA_fees erA_heavy erA_light erA_over er_words er_syllables er_strong er_either er_joins er_singles er_options er_least er_ways er_lastAt er_fees er_heavy er_light er_over) sz)) (va_Qi (fun (x : Int32) (_ : Unit) => x = r) (fun _ t => va_P G vwCl (WX1_leastBy K er_a erA_lastAt erA_fees erA_heavy erA_light erA_over er_words er_syllables er_strong er_either er_joins er_singles o_er_options o_er_least o_er_ways er_lastAt o_er_fees o_er_heavy o_er_light o_er_over) t.heap) (va_A (WX1_leastBy K er_a erA_lastAt erA_fees erA_heavy erA_light erA_over er_words er_syllables er_strong er_either er_joins er_singles er_options er_least er_ways er_lastAt er_fees er_heavy er_light er_over) sz)) rmX1_leastBy.cells rmX1_leastBy.slots (va_A (WX1_leastBy K er_a erA_lastAt erA_fees erA_heavy erA_light erA_over er_words er_syllables er_strong er_either er_joins er_singles er_options er_least er_ways er_lastAt er_fees er_heavy er_light er_over) sz) := by
  refine Met.ofW (cc := cX1_leastBy) (maxL := 3) (ret := (some .int)) (by decide) rfl ?_
  intro p e s m args below meth c s₁ B hml hv
  obtain ⟨rfl, hsz, hP, hK, hD0, hE⟩ := hv
  have hx := B.exec
  have hb := B.bytes
  have hr := B.returns
  have hts0 := atoms_spec (ws := mC yX1_leastBy cX1_leastBy 3 (some .int)) B.pre
  have hts : ∀ w ∈ tbG, w.before _ s = true := fun w h => hts0 w (List.mem_cons_of_mem _ h)
  have hown : s.vm.findClass RX1 = some m.cls := findClass_of_methodNamed B.named
  subst hsz
  have hD := hD0.self (sz := s.heap.size)
  generalize hAe : va_A (WX1_leastBy K er_a erA_lastAt erA_fees erA_heavy erA_light erA_over er_words er_syllables er_strong er_either er_joins er_singles er_options er_least er_ways er_lastAt er_fees er_heavy er_light er_over) s.heap.size = A at hD hE ⊢
  have hA : ∀ q : Nat, s.heap.size ≤ q → A q := fun q h => by rw [← hAe]; exact Or.inr h
  have hS : va_S A s.heap s.heap [] := va_S.rf
  have hl := lv_entry ([.ref er_a, .int p1, .int p2]) (n := 3) (Nat.le_of_ble_eq_true rfl)
  rw [lg_entry_eq]
  generalize (lg_sl ([.ref er_a, .int p1, .int p2]) ++ List.replicate (3 - (lg_sl ([.ref er_a, .int p1, .int p2])).length) Slot.unset).toArray = ls at hl ⊢
  have hl : lv_has ls 3 [(0, .ref er_a), (1, .int p1), (2, .int p2)] := hl
  exact wX1_leastBy_b0 ⟨hx, hb, hml, hown, hts, hK, hA, EC_ok _ _ _ _ _ _ _ _ _ _ _, hE⟩ er_a erA_lastAt erA_fees erA_heavy erA_light erA_over er_words er_syllables er_strong er_either er_joins er_singles er_lastAt p1 p2 r o_er_options o_er_least o_er_ways o_er_fees o_er_heavy o_er_light o_er_over (fun H locs ls pc hdg hP hD hS => W.iret (v := r) hx hb hr (fun t ht hW => ⟨⟨r, (), rfl, rfl, (show va_P G vwCl _ t.heap by rw [ht]; exact hP)⟩, hS.F ht⟩) hS.2.2 hdg) er_options er_least er_ways er_fees er_heavy er_light er_over  hM _ _ _ hP hD hS hl
abbrev WX6_scan (K : Nat → ClassId) (x_a xA_rows rd_a v_a d_a xA_images ac_a er_a xA_hits xA_bodies vA_sizes vA_kinds vA_spelled vA_scheme erA_lastAt erA_fees erA_heavy erA_light erA_over : Nat) (x_begun : Int32) (x_latestFault : Int32) (x_latestFinding : Int32) (v_foot : Int32) (v_feet : Int32) (v_lines : Int32) (v_words : Int32) (v_sizes : Nat → Int32) (v_kinds : Nat → Int32) (v_spelled : Nat → Nat) (v_scheme : Nat → Int32) (er_words : Int32) (er_syllables : Int32) (er_strong : Int32) (er_either : Int32) (er_joins : Int32) (er_singles : Int32) (er_options : Int32) (er_least : Int32) (er_ways : Int32) (er_lastAt : Nat → Int32) (er_fees : Nat → Int32) (er_heavy : Nat → Int32) (er_light : Nat → Int32) (er_over : Nat → Int32) : va_W := [(x_a, .inr (6, [.ref xA_rows, .ref rd_a, .ref v_a, .ref d_a, .ref xA_images, .ref ac_a, .ref er_a, .ref xA_hits, .ref xA_bodies, .int x_begun, .int x_latestFault, .int x_latestFinding])), (v_a, .inr (2, [.int v_foot, .int v_feet, .int v_lines, .int v_words, .ref vA_sizes, .ref vA_kinds, .ref vA_spelled, .ref vA_scheme])), aI K vA_sizes 4 v_sizes, aI K vA_kinds 20 v_kinds, aS K vA_spelled 20 v_spelled, aI K vA_scheme 4 v_scheme, (er_a, .inr (1, [.int er_words, .int er_syllables, .int er_strong, .int er_either, .int er_joins, .int er_singles, .ref erA_lastAt, .int er_options, .ref erA_fees, .ref erA_heavy, .ref erA_light, .ref erA_over, .int er_least, .int er_ways])), aI K erA_lastAt 5 er_lastAt, aI K erA_fees 32 er_fees, aI K erA_heavy 32 er_heavy, aI K erA_light 32 er_light, aI K erA_over 32 er_over]
def rmX6_scan : Room := { frames := 4, cells := 0, slots := 0, locals := 103 }
theorem hdX6_scan : yX6_scan.cls = RX6 ∧ yX6_scan.cls ≠ "java/lang/invoke/MethodHandle" ∧ yX6_scan.cls ≠ "java/lang/invoke/VarHandle" ∧ (parseMethodDescriptor yX6_scan.desc).map (fun d => d.parameters.length) = some 4 := by decide +kernel
set_option maxHeartbeats 4000000 in
set_option maxRecDepth 100000 in
theorem wX6_scan_b0 {p : Program} {l : Launch} {e : Env} {s : State} {m : MethodId} {args : Array Value} {below : List Frame} {meth : Method} {c : Code} {Q : State → Prop} {G : va_G} {K : Nat → ClassId} {A : Nat → Prop} {tt : Nat → Nat} {L : List Nat} {la : Nat → Nat} {sa : Nat → Nat} {ln : Nat → Int32} {sy : Nat → Int32} {sn : Nat → Int32} {lt : Nat → Nat → Int32} {st : Nat → Nat → Int32} (C0 : CX p s m args c cX6_scan 6 RX6 G K (EC G K tt L la sa ln sy sn lt st) A) (x_a xA_rows rd_a v_a d_a xA_images ac_a er_a xA_hits xA_bodies vA_sizes vA_kinds vA_spelled vA_scheme erA_lastAt erA_fees erA_heavy erA_light erA_over : Nat) (x_begun : Int32) (x_latestFault : Int32) (x_latestFinding : Int32) (v_foot : Int32) (v_feet : Int32) (v_lines : Int32) (v_words : Int32) (v_sizes : Nat → Int32) (v_kinds : Nat → Int32) (v_spelled : Nat → Nat) (v_scheme : Nat → Int32) (p1 : Int32) (p2 : Int32) (p3 : Int32) (p4 : Int32) (r : Int32) (o_er_words : Int32) (o_er_syllables : Int32) (o_er_strong : Int32) (o_er_either : Int32) (o_er_joins : Int32) (o_er_singles : Int32) (o_er_options : Int32) (o_er_least : Int32) (o_er_ways : Int32) (o_er_lastAt : Nat → Int32) (o_er_fees : Nat → Int32) (o_er_heavy : Nat → Int32) (o_er_light : Nat → Int32) (o_er_over : Nat → Int32) (kr : ∀ (H : Heap) (locs : List Loc) (ls : Array Slot) (pc : Nat), decode cX6_scan pc = .ok (.ireturn, 1) → va_P G vwCl (WX6_scan K x_a xA_rows rd_a v_a d_a xA_images ac_a er_a xA_hits xA_bodies vA_sizes vA_kinds vA_spelled vA_scheme erA_lastAt erA_fees erA_heavy erA_light erA_over x_begun x_latestFault x_latestFinding v_foot v_feet v_lines v_words v_sizes v_kinds v_spelled v_scheme o_er_words o_er_syllables o_er_strong o_er_either o_er_joins o_er_singles o_er_options o_er_least o_er_ways o_er_lastAt o_er_fees o_er_heavy o_er_light o_er_over) H → va_D A (WX6_scan K x_a xA_rows rd_a v_a d_a xA_images ac_a er_a xA_hits xA_bodies vA_sizes vA_kinds vA_spelled vA_scheme erA_lastAt erA_fees erA_heavy erA_light erA_over x_begun x_latestFault x_latestFinding v_foot v_feet v_lines v_words v_sizes v_kinds v_spelled v_scheme o_er_words o_er_syllables o_er_strong o_er_either o_er_joins o_er_singles o_er_options o_er_least o_er_ways o_er_lastAt o_er_fees o_er_heavy o_er_light o_er_over) → va_S A s.heap H locs → W p l e rmX6_scan s m args below meth c H locs 0 0 Q (F0 m pc ls [.int r])) (er_words : Int32) (er_syllables : Int32) (er_strong : Int32) (er_either : Int32) (er_joins : Int32) (er_singles : Int32) (er_options : Int32) (er_least : Int32) (er_ways : Int32) (er_lastAt : Nat → Int32) (er_fees : Nat → Int32) (er_heavy : Nat → Int32) (er_light : Nat → Int32) (er_over : Nat → Int32) (hM : mX6_scan_b0 L ln sy sn lt v_lines v_sizes v_kinds v_spelled p1 p2 p3 p4  er_words er_syllables er_strong er_either er_joins er_singles er_options er_least er_ways er_lastAt er_fees er_heavy er_light er_over = some (r, o_er_words, o_er_syllables, o_er_strong, o_er_either, o_er_joins, o_er_singles, o_er_options, o_er_least, o_er_ways, o_er_lastAt, o_er_fees, o_er_heavy, o_er_light, o_er_over)) : ∀ (H : Heap) (locs : List Loc) (ls : Array Slot), va_P G vwCl (WX6_scan K x_a xA_rows rd_a v_a d_a xA_images ac_a er_a xA_hits xA_bodies vA_sizes vA_kinds vA_spelled vA_scheme erA_lastAt erA_fees erA_heavy erA_light erA_over x_begun x_latestFault x_latestFinding v_foot v_feet v_lines v_words v_sizes v_kinds v_spelled v_scheme er_words er_syllables er_strong er_either er_joins er_singles er_options er_least er_ways er_lastAt er_fees er_heavy er_light er_over) H → va_D A (WX6_scan K x_a xA_rows rd_a v_a d_a xA_images ac_a er_a xA_hits xA_bodies vA_sizes vA_kinds vA_spelled vA_scheme erA_lastAt erA_fees erA_heavy erA_light erA_over x_begun x_latestFault x_latestFinding v_foot v_feet v_lines v_words v_sizes v_kinds v_spelled v_scheme er_words er_syllables er_strong er_either er_joins er_singles er_options er_least er_ways er_lastAt er_fees er_heavy er_light er_over) → va_S A s.heap H locs → lv_has ls 6 [(0, .ref x_a), (1, .int p1), (2, .int p2), (3, .int p3), (4, .int p4)] → W p l e rmX6_scan s m args below meth c H locs 0 0 Q (F0 m 0 ls []) := by
  obtain ⟨hx, hb, hml, hown, hts, hK, hA, hEo, hE⟩ := id C0
  intro H locs ls hP hD hS hl
  unfold mX6_scan_b0 at hM
  refine lv_aload_n hx hb dX6_scan_0 rfl (lv_at hl 0 rfl) ?_
  refine va_get (D := G) (ci := 6) (v := .ref v_a) (C := RX6) (T := TX6) (N := 12) hx hb hts inX6 hown hK hP 0 rfl rfl 2 (by decide) (hts _ tb247) (fun _ h9 => h9) rfl dX6_scan_1 ?_
  refine lv_iload_n hx hb dX6_scan_4 rfl (lv_at hl 1 rfl) ?_
  obtain ⟨r_1, hC, hM⟩ := oe1 hM
  refine cV_i (As := [.int p1]) (rest := []) C0 hP hD hS [1, 2, 3, 4, 5] (kX2_hasLine l G K tt L la sa ln sy sn lt st v_a vA_sizes vA_kinds vA_spelled vA_scheme v_foot v_feet v_lines v_words v_sizes v_kinds v_spelled v_scheme p1 H.size r_1 hC) rfl rfl rfl tb445 tb393 tb394 tb7 tb395 hdX2_hasLine (va_recv hK hP (ci := 2) (q0 := 1) rfl rfl) ⟨Nat.le_of_ble_eq_true rfl, Nat.le_of_ble_eq_true rfl⟩ rfl hl.1 (Nat.le_of_ble_eq_true rfl) rfl ⟨Nat.le_refl _, Nat.le_refl _⟩ dX6_scan_5 (fun H locs hP hD hS => ?_)
  have hP : va_P G vwCl (WX6_scan K x_a xA_rows rd_a v_a d_a xA_images ac_a er_a xA_hits xA_bodies vA_sizes vA_kinds vA_spelled vA_scheme erA_lastAt erA_fees erA_heavy erA_light erA_over x_begun x_latestFault x_latestFinding v_foot v_feet v_lines v_words v_sizes v_kinds v_spelled v_scheme er_words er_syllables er_strong er_either er_joins er_singles er_options er_least er_ways er_lastAt er_fees er_heavy er_light er_over) H := hP
  have hD : va_D A (WX6_scan K x_a xA_rows rd_a v_a d_a xA_images ac_a er_a xA_hits xA_bodies vA_sizes vA_kinds vA_spelled vA_scheme erA_lastAt erA_fees erA_heavy erA_light erA_over x_begun x_latestFault x_latestFinding v_foot v_feet v_lines v_words v_sizes v_kinds v_spelled v_scheme er_words er_syllables er_strong er_either er_joins er_singles er_options er_least er_ways er_lastAt er_fees er_heavy er_light er_over) := hD
  refine lv_if_eq (tgt := 30) hx hb dX6_scan_8 (by decide) (fun c_2 => ?_) (fun c_2 => ?_)
  · rw [if_pos c_2] at hM
    refine lv_ldc (v := -1000001) hx hb hown (hts _ tb289) dX6_scan_30 ?_
    have t0 := Option.some.inj hM
    obtain ⟨q1, t1⟩ := Prod.mk.inj t0
    obtain ⟨q2, t2⟩ := Prod.mk.inj t1
    obtain ⟨q3, t3⟩ := Prod.mk.inj t2
    obtain ⟨q4, t4⟩ := Prod.mk.inj t3
    obtain ⟨q5, t5⟩ := Prod.mk.inj t4
    obtain ⟨q6, t6⟩ := Prod.mk.inj t5
    obtain ⟨q7, t7⟩ := Prod.mk.inj t6
    obtain ⟨q8, t8⟩ := Prod.mk.inj t7
    obtain ⟨q9, t9⟩ := Prod.mk.inj t8
    obtain ⟨q10, t10⟩ := Prod.mk.inj t9
    obtain ⟨q11, t11⟩ := Prod.mk.inj t10
    obtain ⟨q12, t12⟩ := Prod.mk.inj t11
    obtain ⟨q13, t13⟩ := Prod.mk.inj t12
    obtain ⟨q14, t14⟩ := Prod.mk.inj t13
    subst q1
    subst q2
    subst q3
    subst q4
    subst q5
    subst q6
    subst q7
    subst q8
    subst q9
    subst q10
    subst q11
    subst q12
    subst q13
    subst q14
    subst t14
    exact kr _ _ _ _ dX6_scan_32 hP hD hS
  · rw [if_neg c_2] at hM
    refine lv_iload_n hx hb dX6_scan_11 rfl (lv_at hl 2 rfl) ?_
    refine lv_iload_n hx hb dX6_scan_12 rfl (lv_at hl 3 rfl) ?_
    obtain ⟨r_3, hC, hM⟩ := oe1 hM
    refine cS_i (As := [.int p2, .int p3]) (rest := []) C0 hP hD hS [] (kX6_isMetre l G K tt L la sa ln sy sn lt st p2 p3 H.size r_3 hC) rfl rfl rfl tb481 tb482 tb1 tb483 hdX6_isMetre ⟨Nat.le_of_ble_eq_true rfl, Nat.le_of_ble_eq_true rfl⟩ rfl hl.1 (Nat.le_of_ble_eq_true rfl) rfl ⟨Nat.le_refl _, Nat.le_refl _⟩ dX6_scan_13 (fun H locs hP hD hS => ?_)
    have hP : va_P G vwCl (WX6_scan K x_a xA_rows rd_a v_a d_a xA_images ac_a er_a xA_hits xA_bodies vA_sizes vA_kinds vA_spelled vA_scheme erA_lastAt erA_fees erA_heavy erA_light erA_over x_begun x_latestFault x_latestFinding v_foot v_feet v_lines v_words v_sizes v_kinds v_spelled v_scheme er_words er_syllables er_strong er_either er_joins er_singles er_options er_least er_ways er_lastAt er_fees er_heavy er_light er_over) H := hP
    have hD : va_D A (WX6_scan K x_a xA_rows rd_a v_a d_a xA_images ac_a er_a xA_hits xA_bodies vA_sizes vA_kinds vA_spelled vA_scheme erA_lastAt erA_fees erA_heavy erA_light erA_over x_begun x_latestFault x_latestFinding v_foot v_feet v_lines v_words v_sizes v_kinds v_spelled v_scheme er_words er_syllables er_strong er_either er_joins er_singles er_options er_least er_ways er_lastAt er_fees er_heavy er_light er_over) := hD
    refine lv_if_eq (tgt := 30) hx hb dX6_scan_16 (by decide) (fun c_4 => ?_) (fun c_4 => ?_)
    · rw [if_pos c_4] at hM
      refine lv_ldc (v := -1000001) hx hb hown (hts _ tb289) dX6_scan_30 ?_
      have t0 := Option.some.inj hM
      obtain ⟨q1, t1⟩ := Prod.mk.inj t0
      obtain ⟨q2, t2⟩ := Prod.mk.inj t1
      obtain ⟨q3, t3⟩ := Prod.mk.inj t2
      obtain ⟨q4, t4⟩ := Prod.mk.inj t3
      obtain ⟨q5, t5⟩ := Prod.mk.inj t4
      obtain ⟨q6, t6⟩ := Prod.mk.inj t5
      obtain ⟨q7, t7⟩ := Prod.mk.inj t6
      obtain ⟨q8, t8⟩ := Prod.mk.inj t7
      obtain ⟨q9, t9⟩ := Prod.mk.inj t8
      obtain ⟨q10, t10⟩ := Prod.mk.inj t9
      obtain ⟨q11, t11⟩ := Prod.mk.inj t10
      obtain ⟨q12, t12⟩ := Prod.mk.inj t11
      obtain ⟨q13, t13⟩ := Prod.mk.inj t12
      obtain ⟨q14, t14⟩ := Prod.mk.inj t13
      subst q1
      subst q2
      subst q3
      subst q4
      subst q5
      subst q6
      subst q7
      subst q8
      subst q9
      subst q10
      subst q11
      subst q12
      subst q13
      subst q14
      subst t14
      exact kr _ _ _ _ dX6_scan_32 hP hD hS
    · rw [if_neg c_4] at hM
      refine lv_iload hx hb dX6_scan_19 (lv_at hl 4 rfl) ?_
      refine lv_if_lt (tgt := 30) hx hb dX6_scan_21 (by decide) (fun c_5 => ?_) (fun c_5 => ?_)
      · rw [if_pos c_5] at hM
        refine lv_ldc (v := -1000001) hx hb hown (hts _ tb289) dX6_scan_30 ?_
        have t0 := Option.some.inj hM
        obtain ⟨q1, t1⟩ := Prod.mk.inj t0
        obtain ⟨q2, t2⟩ := Prod.mk.inj t1
        obtain ⟨q3, t3⟩ := Prod.mk.inj t2
        obtain ⟨q4, t4⟩ := Prod.mk.inj t3
        obtain ⟨q5, t5⟩ := Prod.mk.inj t4
        obtain ⟨q6, t6⟩ := Prod.mk.inj t5
        obtain ⟨q7, t7⟩ := Prod.mk.inj t6
        obtain ⟨q8, t8⟩ := Prod.mk.inj t7
        obtain ⟨q9, t9⟩ := Prod.mk.inj t8
        obtain ⟨q10, t10⟩ := Prod.mk.inj t9
        obtain ⟨q11, t11⟩ := Prod.mk.inj t10
        obtain ⟨q12, t12⟩ := Prod.mk.inj t11
        obtain ⟨q13, t13⟩ := Prod.mk.inj t12
        obtain ⟨q14, t14⟩ := Prod.mk.inj t13
        subst q1
        subst q2
        subst q3
        subst q4
        subst q5
        subst q6
        subst q7
        subst q8
        subst q9
        subst q10
        subst q11
        subst q12
        subst q13
        subst q14
        subst t14
        exact kr _ _ _ _ dX6_scan_32 hP hD hS
      · rw [if_neg c_5] at hM
        refine lv_iload hx hb dX6_scan_24 (lv_at hl 4 rfl) ?_
        refine lv_iconst (v := 1) hx hb dX6_scan_26 (by decide) ?_
        refine lv_icmp_le (tgt := 33) hx hb dX6_scan_27 (by decide) (fun c_6 => ?_) (fun c_6 => ?_)
        · rw [if_pos c_6] at hM
          refine lv_aload_n hx hb dX6_scan_33 rfl (lv_at hl 0 rfl) ?_
          refine va_get (D := G) (ci := 6) (v := .ref er_a) (C := RX6) (T := TX6) (N := 12) hx hb hts inX6 hown hK hP 0 rfl rfl 6 (by decide) (hts _ tb251) (fun _ h9 => h9) rfl dX6_scan_34 ?_
          refine lv_aload_n hx hb dX6_scan_37 rfl (lv_at hl 0 rfl) ?_
          refine va_get (D := G) (ci := 6) (v := .ref v_a) (C := RX6) (T := TX6) (N := 12) hx hb hts inX6 hown hK hP 0 rfl rfl 2 (by decide) (hts _ tb247) (fun _ h9 => h9) rfl dX6_scan_38 ?_
          refine lv_iload_n hx hb dX6_scan_41 rfl (lv_at hl 1 rfl) ?_
          obtain ⟨u0_7, u1_7, u2_7, u3_7, u4_7, u5_7, u6_7, hC, hM⟩ := oe7 hM
          refine cV_v (As := [.ref v_a, .int p1]) (rest := []) C0 hP hD hS [6, 7, 8, 9, 10, 11, 1, 2, 3, 4, 5] (kX1_hear l G K tt L la sa ln sy sn lt st er_a erA_lastAt erA_fees erA_heavy erA_light erA_over v_a vA_sizes vA_kinds vA_spelled vA_scheme er_words er_syllables er_strong er_either er_joins er_singles er_options er_least er_ways er_lastAt er_fees er_heavy er_light er_over v_foot v_feet v_lines v_words v_sizes v_kinds v_spelled v_scheme p1 H.size u0_7 u1_7 u2_7 u3_7 u4_7 u5_7 u6_7 hC) rfl rfl rfl tb555 tb556 tb557 tb3 tb558 hdX1_hear (va_recv hK hP (ci := 1) (q0 := 6) rfl rfl) ⟨Nat.le_of_ble_eq_true rfl, Nat.le_of_ble_eq_true rfl⟩ rfl hl.1 (Nat.le_of_ble_eq_true rfl) rfl ⟨Nat.le_refl _, Nat.le_refl _⟩ dX6_scan_42 (fun H locs hP hD hS => ?_)
          have hP : va_P G vwCl (WX6_scan K x_a xA_rows rd_a v_a d_a xA_images ac_a er_a xA_hits xA_bodies vA_sizes vA_kinds vA_spelled vA_scheme erA_lastAt erA_fees erA_heavy erA_light erA_over x_begun x_latestFault x_latestFinding v_foot v_feet v_lines v_words v_sizes v_kinds v_spelled v_scheme u0_7 u1_7 u2_7 u3_7 u4_7 u5_7 er_options er_least er_ways u6_7 er_fees er_heavy er_light er_over) H := hP
          have hD : va_D A (WX6_scan K x_a xA_rows rd_a v_a d_a xA_images ac_a er_a xA_hits xA_bodies vA_sizes vA_kinds vA_spelled vA_scheme erA_lastAt erA_fees erA_heavy erA_light erA_over x_begun x_latestFault x_latestFinding v_foot v_feet v_lines v_words v_sizes v_kinds v_spelled v_scheme u0_7 u1_7 u2_7 u3_7 u4_7 u5_7 er_options er_least er_ways u6_7 er_fees er_heavy er_light er_over) := hD
          refine lv_aload_n hx hb dX6_scan_45 rfl (lv_at hl 0 rfl) ?_
          refine va_get (D := G) (ci := 6) (v := .ref er_a) (C := RX6) (T := TX6) (N := 12) hx hb hts inX6 hown hK hP 0 rfl rfl 6 (by decide) (hts _ tb251) (fun _ h9 => h9) rfl dX6_scan_46 ?_
          refine lv_iload_n hx hb dX6_scan_49 rfl (lv_at hl 2 rfl) ?_
          refine lv_iload_n hx hb dX6_scan_50 rfl (lv_at hl 3 rfl) ?_
          obtain ⟨r_8, u0_8, u1_8, u2_8, u3_8, u4_8, u5_8, u6_8, hC, hM⟩ := oe8 hM
          refine cV_i (As := [.int p2, .int p3]) (rest := []) C0 hP hD hS [6, 7, 8, 9, 10, 11] (kX1_leastBy l G K tt L la sa ln sy sn lt st er_a erA_lastAt erA_fees erA_heavy erA_light erA_over u0_7 u1_7 u2_7 u3_7 u4_7 u5_7 er_options er_least er_ways u6_7 er_fees er_heavy er_light er_over p2 p3 H.size r_8 u0_8 u1_8 u2_8 u3_8 u4_8 u5_8 u6_8 hC) rfl rfl rfl tb564 tb565 tb566 tb3 tb567 hdX1_leastBy (va_recv hK hP (ci := 1) (q0 := 6) rfl rfl) ⟨Nat.le_of_ble_eq_true rfl, Nat.le_of_ble_eq_true rfl⟩ rfl hl.1 (Nat.le_of_ble_eq_true rfl) rfl ⟨Nat.le_refl _, Nat.le_refl _⟩ dX6_scan_51 (fun H locs hP hD hS => ?_)
          have hP : va_P G vwCl (WX6_scan K x_a xA_rows rd_a v_a d_a xA_images ac_a er_a xA_hits xA_bodies vA_sizes vA_kinds vA_spelled vA_scheme erA_lastAt erA_fees erA_heavy erA_light erA_over x_begun x_latestFault x_latestFinding v_foot v_feet v_lines v_words v_sizes v_kinds v_spelled v_scheme u0_7 u1_7 u2_7 u3_7 u4_7 u5_7 u0_8 u1_8 u2_8 u6_7 u3_8 u4_8 u5_8 u6_8) H := hP
          have hD : va_D A (WX6_scan K x_a xA_rows rd_a v_a d_a xA_images ac_a er_a xA_hits xA_bodies vA_sizes vA_kinds vA_spelled vA_scheme erA_lastAt erA_fees erA_heavy erA_light erA_over x_begun x_latestFault x_latestFinding v_foot v_feet v_lines v_words v_sizes v_kinds v_spelled v_scheme u0_7 u1_7 u2_7 u3_7 u4_7 u5_7 u0_8 u1_8 u2_8 u6_7 u3_8 u4_8 u5_8 u6_8) := hD
          refine lv_istore (lv' := [(5, .int r_8), (0, .ref x_a), (1, .int p1), (2, .int p2), (3, .int p3), (4, .int p4)]) hx hb dX6_scan_54 hl (by decide) rfl (fun ls hl => ?_)
          refine lv_iload hx hb dX6_scan_56 (lv_at hl 5 rfl) ?_
          refine lv_if_ne (tgt := 66) hx hb dX6_scan_58 (by decide) (fun c_9 => ?_) (fun c_9 => ?_)
          · rw [if_neg c_9] at hM
            refine lv_aload_n hx hb dX6_scan_66 rfl (lv_at hl 1 rfl) ?_
            refine va_get (D := G) (ci := 6) (v := .ref er_a) (C := RX6) (T := TX6) (N := 12) hx hb hts inX6 hown hK hP 0 rfl rfl 6 (by decide) (hts _ tb251) (fun _ h9 => h9) rfl dX6_scan_67 ?_
            refine va_get (D := G) (ci := 1) (v := .int u2_8) (C := RX1) (T := TX1) (N := 14) hx hb hts inX1 hown hK hP 6 rfl rfl 13 (by decide) (hts _ tb77) (fun _ h9 => h9) rfl dX6_scan_70 ?_
            have t0 := Option.some.inj hM
            obtain ⟨q1, t1⟩ := Prod.mk.inj t0
            obtain ⟨q2, t2⟩ := Prod.mk.inj t1
            obtain ⟨q3, t3⟩ := Prod.mk.inj t2
            obtain ⟨q4, t4⟩ := Prod.mk.inj t3
            obtain ⟨q5, t5⟩ := Prod.mk.inj t4
            obtain ⟨q6, t6⟩ := Prod.mk.inj t5
            obtain ⟨q7, t7⟩ := Prod.mk.inj t6
            obtain ⟨q8, t8⟩ := Prod.mk.inj t7
            obtain ⟨q9, t9⟩ := Prod.mk.inj t8
            obtain ⟨q10, t10⟩ := Prod.mk.inj t9
            obtain ⟨q11, t11⟩ := Prod.mk.inj t10
            obtain ⟨q12, t12⟩ := Prod.mk.inj t11
            obtain ⟨q13, t13⟩ := Prod.mk.inj t12
            obtain ⟨q14, t14⟩ := Prod.mk.inj t13
            subst q1
            subst q2
            subst q3
            subst q4
            subst q5
            subst q6
            subst q7
            subst q8
            subst q9
            subst q10
            subst q11
            subst q12
            subst q13
            subst q14
            subst t14
            exact kr _ _ _ _ dX6_scan_73 hP hD hS
          · rw [if_pos c_9] at hM
            refine lv_iload hx hb dX6_scan_61 (lv_at hl 0 rfl) ?_
            refine lv_goto (tgt := 73) hx hb dX6_scan_63 (by decide) ?_
            have t0 := Option.some.inj hM
            obtain ⟨q1, t1⟩ := Prod.mk.inj t0
            obtain ⟨q2, t2⟩ := Prod.mk.inj t1
            obtain ⟨q3, t3⟩ := Prod.mk.inj t2
            obtain ⟨q4, t4⟩ := Prod.mk.inj t3
            obtain ⟨q5, t5⟩ := Prod.mk.inj t4
            obtain ⟨q6, t6⟩ := Prod.mk.inj t5
            obtain ⟨q7, t7⟩ := Prod.mk.inj t6
            obtain ⟨q8, t8⟩ := Prod.mk.inj t7
            obtain ⟨q9, t9⟩ := Prod.mk.inj t8
            obtain ⟨q10, t10⟩ := Prod.mk.inj t9
            obtain ⟨q11, t11⟩ := Prod.mk.inj t10
            obtain ⟨q12, t12⟩ := Prod.mk.inj t11
            obtain ⟨q13, t13⟩ := Prod.mk.inj t12
            obtain ⟨q14, t14⟩ := Prod.mk.inj t13
            subst q1
            subst q2
            subst q3
            subst q4
            subst q5
            subst q6
            subst q7
            subst q8
            subst q9
            subst q10
            subst q11
            subst q12
            subst q13
            subst q14
            subst t14
            exact kr _ _ _ _ dX6_scan_73 hP hD hS
        · rw [if_neg c_6] at hM
          refine lv_ldc (v := -1000001) hx hb hown (hts _ tb289) dX6_scan_30 ?_
          have t0 := Option.some.inj hM
          obtain ⟨q1, t1⟩ := Prod.mk.inj t0
          obtain ⟨q2, t2⟩ := Prod.mk.inj t1
          obtain ⟨q3, t3⟩ := Prod.mk.inj t2
          obtain ⟨q4, t4⟩ := Prod.mk.inj t3
          obtain ⟨q5, t5⟩ := Prod.mk.inj t4
          obtain ⟨q6, t6⟩ := Prod.mk.inj t5
          obtain ⟨q7, t7⟩ := Prod.mk.inj t6
          obtain ⟨q8, t8⟩ := Prod.mk.inj t7
          obtain ⟨q9, t9⟩ := Prod.mk.inj t8
          obtain ⟨q10, t10⟩ := Prod.mk.inj t9
          obtain ⟨q11, t11⟩ := Prod.mk.inj t10
          obtain ⟨q12, t12⟩ := Prod.mk.inj t11
          obtain ⟨q13, t13⟩ := Prod.mk.inj t12
          obtain ⟨q14, t14⟩ := Prod.mk.inj t13
          subst q1
          subst q2
          subst q3
          subst q4
          subst q5
          subst q6
          subst q7
          subst q8
          subst q9
          subst q10
          subst q11
          subst q12
          subst q13
          subst q14
          subst t14
          exact kr _ _ _ _ dX6_scan_32 hP hD hS
set_option maxHeartbeats 4000000 in
set_option maxRecDepth 100000 in
theorem kX6_scan (l : Launch) (G : va_G) (K : Nat → ClassId) (tt : Nat → Nat) (L : List Nat) (la : Nat → Nat) (sa : Nat → Nat) (ln : Nat → Int32) (sy : Nat → Int32) (sn : Nat → Int32) (lt : Nat → Nat → Int32) (st : Nat → Nat → Int32) (x_a xA_rows rd_a v_a d_a xA_images ac_a er_a xA_hits xA_bodies vA_sizes vA_kinds vA_spelled vA_scheme erA_lastAt erA_fees erA_heavy erA_light erA_over : Nat) (x_begun : Int32) (x_latestFault : Int32) (x_latestFinding : Int32) (v_foot : Int32) (v_feet : Int32) (v_lines : Int32) (v_words : Int32) (v_sizes : Nat → Int32) (v_kinds : Nat → Int32) (v_spelled : Nat → Nat) (v_scheme : Nat → Int32) (er_words : Int32) (er_syllables : Int32) (er_strong : Int32) (er_either : Int32) (er_joins : Int32) (er_singles : Int32) (er_options : Int32) (er_least : Int32) (er_ways : Int32) (er_lastAt : Nat → Int32) (er_fees : Nat → Int32) (er_heavy : Nat → Int32) (er_light : Nat → Int32) (er_over : Nat → Int32) (p1 : Int32) (p2 : Int32) (p3 : Int32) (p4 : Int32) (sz : Nat) (r : Int32) (o_er_words : Int32) (o_er_syllables : Int32) (o_er_strong : Int32) (o_er_either : Int32) (o_er_joins : Int32) (o_er_singles : Int32) (o_er_options : Int32) (o_er_least : Int32) (o_er_ways : Int32) (o_er_lastAt : Nat → Int32) (o_er_fees : Nat → Int32) (o_er_heavy : Nat → Int32) (o_er_light : Nat → Int32) (o_er_over : Nat → Int32) (hM : mX6_scan L ln sy sn lt v_lines v_sizes v_kinds v_spelled er_words er_syllables er_strong er_either er_joins er_singles er_options er_least er_ways er_lastAt er_fees er_heavy er_light er_over p1 p2 p3 p4 = some (r, o_er_words, o_er_syllables, o_er_strong, o_er_either, o_er_joins, o_er_singles, o_er_options, o_er_least, o_er_ways, o_er_lastAt, o_er_fees, o_er_heavy, o_er_light, o_er_over)) : Met l yX6_scan (mC yX6_scan cX6_scan 6 (some .int)) rmX6_scan (va_Pc [.ref x_a, .int p1, .int p2, .int p3, .int p4] (PCe G K (EC G K tt L la sa ln sy sn lt st) (WX6_scan K x_a xA_rows rd_a v_a d_a xA_images ac_a er_a xA_hits xA_bodies vA_sizes vA_kinds vA_spelled vA_scheme erA_lastAt erA_fees erA_heavy erA_light erA_over x_begun x_latestFault x_latestFinding v_foot v_feet v_lines v_words v_sizes v_kinds v_spelled v_scheme er_words er_syllables er_strong er_either er_joins er_singles er_options er_least er_ways er_lastAt er_fees er_heavy er_light er_over) sz)) (va_Qi (fun (x : Int32) (_ : Unit) => x = r) (fun _ t => va_P G vwCl (WX6_scan K x_a xA_rows rd_a v_a d_a xA_images ac_a er_a xA_hits xA_bodies vA_sizes vA_kinds vA_spelled vA_scheme erA_lastAt erA_fees erA_heavy erA_light erA_over x_begun x_latestFault x_latestFinding v_foot v_feet v_lines v_words v_sizes v_kinds v_spelled v_scheme o_er_words o_er_syllables o_er_strong o_er_either o_er_joins o_er_singles o_er_options o_er_least o_er_ways o_er_lastAt o_er_fees o_er_heavy o_er_light o_er_over) t.heap) (va_A (WX6_scan K x_a xA_rows rd_a v_a d_a xA_images ac_a er_a xA_hits xA_bodies vA_sizes vA_kinds vA_spelled vA_scheme erA_lastAt erA_fees erA_heavy erA_light erA_over x_begun x_latestFault x_latestFinding v_foot v_feet v_lines v_words v_sizes v_kinds v_spelled v_scheme er_words er_syllables er_strong er_either er_joins er_singles er_options er_least er_ways er_lastAt er_fees er_heavy er_light er_over) sz)) rmX6_scan.cells rmX6_scan.slots (va_A (WX6_scan K x_a xA_rows rd_a v_a d_a xA_images ac_a er_a xA_hits xA_bodies vA_sizes vA_kinds vA_spelled vA_scheme erA_lastAt erA_fees erA_heavy erA_light erA_over x_begun x_latestFault x_latestFinding v_foot v_feet v_lines v_words v_sizes v_kinds v_spelled v_scheme er_words er_syllables er_strong er_either er_joins er_singles er_options er_least er_ways er_lastAt er_fees er_heavy er_light er_over) sz) := by
  refine Met.ofW (cc := cX6_scan) (maxL := 6) (ret := (some .int)) (by decide) rfl ?_
  intro p e s m args below meth c s₁ B hml hv
  obtain ⟨rfl, hsz, hP, hK, hD0, hE⟩ := hv
  have hx := B.exec
  have hb := B.bytes
  have hr := B.returns
  have hts0 := atoms_spec (ws := mC yX6_scan cX6_scan 6 (some .int)) B.pre
  have hts : ∀ w ∈ tbG, w.before _ s = true := fun w h => hts0 w (List.mem_cons_of_mem _ h)
  have hown : s.vm.findClass RX6 = some m.cls := findClass_of_methodNamed B.named
  subst hsz
  have hD := hD0.self (sz := s.heap.size)
  generalize hAe : va_A (WX6_scan K x_a xA_rows rd_a v_a d_a xA_images ac_a er_a xA_hits xA_bodies vA_sizes vA_kinds vA_spelled vA_scheme erA_lastAt erA_fees erA_heavy erA_light erA_over x_begun x_latestFault x_latestFinding v_foot v_feet v_lines v_words v_sizes v_kinds v_spelled v_scheme er_words er_syllables er_strong er_either er_joins er_singles er_options er_least er_ways er_lastAt er_fees er_heavy er_light er_over) s.heap.size = A at hD hE ⊢
  have hA : ∀ q : Nat, s.heap.size ≤ q → A q := fun q h => by rw [← hAe]; exact Or.inr h
  have hS : va_S A s.heap s.heap [] := va_S.rf
  have hl := lv_entry ([.ref x_a, .int p1, .int p2, .int p3, .int p4]) (n := 6) (Nat.le_of_ble_eq_true rfl)
  rw [lg_entry_eq]
  generalize (lg_sl ([.ref x_a, .int p1, .int p2, .int p3, .int p4]) ++ List.replicate (6 - (lg_sl ([.ref x_a, .int p1, .int p2, .int p3, .int p4])).length) Slot.unset).toArray = ls at hl ⊢
  have hl : lv_has ls 6 [(0, .ref x_a), (1, .int p1), (2, .int p2), (3, .int p3), (4, .int p4)] := hl
  exact wX6_scan_b0 ⟨hx, hb, hml, hown, hts, hK, hA, EC_ok _ _ _ _ _ _ _ _ _ _ _, hE⟩ x_a xA_rows rd_a v_a d_a xA_images ac_a er_a xA_hits xA_bodies vA_sizes vA_kinds vA_spelled vA_scheme erA_lastAt erA_fees erA_heavy erA_light erA_over x_begun x_latestFault x_latestFinding v_foot v_feet v_lines v_words v_sizes v_kinds v_spelled v_scheme p1 p2 p3 p4 r o_er_words o_er_syllables o_er_strong o_er_either o_er_joins o_er_singles o_er_options o_er_least o_er_ways o_er_lastAt o_er_fees o_er_heavy o_er_light o_er_over (fun H locs ls pc hdg hP hD hS => W.iret (v := r) hx hb hr (fun t ht hW => ⟨⟨r, (), rfl, rfl, (show va_P G vwCl _ t.heap by rw [ht]; exact hP)⟩, hS.F ht⟩) hS.2.2 hdg) er_words er_syllables er_strong er_either er_joins er_singles er_options er_least er_ways er_lastAt er_fees er_heavy er_light er_over  hM _ _ _ hP hD hS hl
abbrev WX6_together (K : Nat → ClassId) (x_a xA_rows rd_a v_a d_a xA_images ac_a er_a xA_hits xA_bodies vA_sizes vA_kinds vA_spelled vA_scheme erA_lastAt erA_fees erA_heavy erA_light erA_over : Nat) (x_begun : Int32) (x_latestFault : Int32) (x_latestFinding : Int32) (v_foot : Int32) (v_feet : Int32) (v_lines : Int32) (v_words : Int32) (v_sizes : Nat → Int32) (v_kinds : Nat → Int32) (v_spelled : Nat → Nat) (v_scheme : Nat → Int32) (er_words : Int32) (er_syllables : Int32) (er_strong : Int32) (er_either : Int32) (er_joins : Int32) (er_singles : Int32) (er_options : Int32) (er_least : Int32) (er_ways : Int32) (er_lastAt : Nat → Int32) (er_fees : Nat → Int32) (er_heavy : Nat → Int32) (er_light : Nat → Int32) (er_over : Nat → Int32) : va_W := [(x_a, .inr (6, [.ref xA_rows, .ref rd_a, .ref v_a, .ref d_a, .ref xA_images, .ref ac_a, .ref er_a, .ref xA_hits, .ref xA_bodies, .int x_begun, .int x_latestFault, .int x_latestFinding])), (v_a, .inr (2, [.int v_foot, .int v_feet, .int v_lines, .int v_words, .ref vA_sizes, .ref vA_kinds, .ref vA_spelled, .ref vA_scheme])), aI K vA_sizes 4 v_sizes, aI K vA_kinds 20 v_kinds, aS K vA_spelled 20 v_spelled, aI K vA_scheme 4 v_scheme, (er_a, .inr (1, [.int er_words, .int er_syllables, .int er_strong, .int er_either, .int er_joins, .int er_singles, .ref erA_lastAt, .int er_options, .ref erA_fees, .ref erA_heavy, .ref erA_light, .ref erA_over, .int er_least, .int er_ways])), aI K erA_lastAt 5 er_lastAt, aI K erA_fees 32 er_fees, aI K erA_heavy 32 er_heavy, aI K erA_light 32 er_light, aI K erA_over 32 er_over]
def rmX6_together : Room := { frames := 4, cells := 0, slots := 0, locals := 103 }
theorem hdX6_together : yX6_together.cls = RX6 ∧ yX6_together.cls ≠ "java/lang/invoke/MethodHandle" ∧ yX6_together.cls ≠ "java/lang/invoke/VarHandle" ∧ (parseMethodDescriptor yX6_together.desc).map (fun d => d.parameters.length) = some 4 := by decide +kernel
set_option maxHeartbeats 4000000 in
set_option maxRecDepth 100000 in
theorem wX6_together_b6 {p : Program} {l : Launch} {e : Env} {s : State} {m : MethodId} {args : Array Value} {below : List Frame} {meth : Method} {c : Code} {Q : State → Prop} {G : va_G} {K : Nat → ClassId} {A : Nat → Prop} {tt : Nat → Nat} {L : List Nat} {la : Nat → Nat} {sa : Nat → Nat} {ln : Nat → Int32} {sy : Nat → Int32} {sn : Nat → Int32} {lt : Nat → Nat → Int32} {st : Nat → Nat → Int32} (C0 : CX p s m args c cX6_together 8 RX6 G K (EC G K tt L la sa ln sy sn lt st) A) (x_a xA_rows rd_a v_a d_a xA_images ac_a er_a xA_hits xA_bodies vA_sizes vA_kinds vA_spelled vA_scheme erA_lastAt erA_fees erA_heavy erA_light erA_over : Nat) (x_begun : Int32) (x_latestFault : Int32) (x_latestFinding : Int32) (v_foot : Int32) (v_feet : Int32) (v_lines : Int32) (v_words : Int32) (v_sizes : Nat → Int32) (v_kinds : Nat → Int32) (v_spelled : Nat → Nat) (v_scheme : Nat → Int32) (p1 : Int32) (p2 : Int32) (p3 : Int32) (p4 : Int32) (r : Int32) (o_er_words : Int32) (o_er_syllables : Int32) (o_er_strong : Int32) (o_er_either : Int32) (o_er_joins : Int32) (o_er_singles : Int32) (o_er_options : Int32) (o_er_least : Int32) (o_er_ways : Int32) (o_er_lastAt : Nat → Int32) (o_er_fees : Nat → Int32) (o_er_heavy : Nat → Int32) (o_er_light : Nat → Int32) (o_er_over : Nat → Int32) (kr : ∀ (H : Heap) (locs : List Loc) (ls : Array Slot) (pc : Nat), decode cX6_together pc = .ok (.ireturn, 1) → va_P G vwCl (WX6_together K x_a xA_rows rd_a v_a d_a xA_images ac_a er_a xA_hits xA_bodies vA_sizes vA_kinds vA_spelled vA_scheme erA_lastAt erA_fees erA_heavy erA_light erA_over x_begun x_latestFault x_latestFinding v_foot v_feet v_lines v_words v_sizes v_kinds v_spelled v_scheme o_er_words o_er_syllables o_er_strong o_er_either o_er_joins o_er_singles o_er_options o_er_least o_er_ways o_er_lastAt o_er_fees o_er_heavy o_er_light o_er_over) H → va_D A (WX6_together K x_a xA_rows rd_a v_a d_a xA_images ac_a er_a xA_hits xA_bodies vA_sizes vA_kinds vA_spelled vA_scheme erA_lastAt erA_fees erA_heavy erA_light erA_over x_begun x_latestFault x_latestFinding v_foot v_feet v_lines v_words v_sizes v_kinds v_spelled v_scheme o_er_words o_er_syllables o_er_strong o_er_either o_er_joins o_er_singles o_er_options o_er_least o_er_ways o_er_lastAt o_er_fees o_er_heavy o_er_light o_er_over) → va_S A s.heap H locs → W p l e rmX6_together s m args below meth c H locs 0 0 Q (F0 m pc ls [.int r])) (n : Nat) : ∀ (er_words : Int32) (er_syllables : Int32) (er_strong : Int32) (er_either : Int32) (er_joins : Int32) (er_singles : Int32) (er_options : Int32) (er_least : Int32) (er_ways : Int32) (er_lastAt : Nat → Int32) (er_fees : Nat → Int32) (er_heavy : Nat → Int32) (er_light : Nat → Int32) (er_over : Nat → Int32) (x5 : Int32) (x6 : Int32), mX6_together_b6 L ln sy sn lt v_sizes v_kinds v_spelled p1 p2 p3 p4  n er_words er_syllables er_strong er_either er_joins er_singles er_options er_least er_ways er_lastAt er_fees er_heavy er_light er_over x5 x6 = some (r, o_er_words, o_er_syllables, o_er_strong, o_er_either, o_er_joins, o_er_singles, o_er_options, o_er_least, o_er_ways, o_er_lastAt, o_er_fees, o_er_heavy, o_er_light, o_er_over) → ∀ (H : Heap) (locs : List Loc) (ls : Array Slot), va_P G vwCl (WX6_together K x_a xA_rows rd_a v_a d_a xA_images ac_a er_a xA_hits xA_bodies vA_sizes vA_kinds vA_spelled vA_scheme erA_lastAt erA_fees erA_heavy erA_light erA_over x_begun x_latestFault x_latestFinding v_foot v_feet v_lines v_words v_sizes v_kinds v_spelled v_scheme er_words er_syllables er_strong er_either er_joins er_singles er_options er_least er_ways er_lastAt er_fees er_heavy er_light er_over) H → va_D A (WX6_together K x_a xA_rows rd_a v_a d_a xA_images ac_a er_a xA_hits xA_bodies vA_sizes vA_kinds vA_spelled vA_scheme erA_lastAt erA_fees erA_heavy erA_light erA_over x_begun x_latestFault x_latestFinding v_foot v_feet v_lines v_words v_sizes v_kinds v_spelled v_scheme er_words er_syllables er_strong er_either er_joins er_singles er_options er_least er_ways er_lastAt er_fees er_heavy er_light er_over) → va_S A s.heap H locs → lv_has ls 8 [(0, .ref x_a), (2, .int p2), (3, .int p3), (4, .int p4), (5, .int x5), (6, .int x6)] → W p l e rmX6_together s m args below meth c H locs 0 0 Q (F0 m 6 ls []) := by
  obtain ⟨hx, hb, hml, hown, hts, hK, hA, hEo, hE⟩ := id C0
  induction n with
  | zero =>
    intro er_words er_syllables er_strong er_either er_joins er_singles er_options er_least er_ways er_lastAt er_fees er_heavy er_light er_over x5 x6 hM
    cases hM
  | succ n ih =>
    intro er_words er_syllables er_strong er_either er_joins er_singles er_options er_least er_ways er_lastAt er_fees er_heavy er_light er_over x5 x6 hM H locs ls hP hD hS hl
    rw [mX6_together_b6] at hM
    refine lv_iload hx hb dX6_together_6 (lv_at hl 5 rfl) ?_
    refine lv_iload_n hx hb dX6_together_8 rfl (lv_at hl 1 rfl) ?_
    refine lv_icmp_ge (tgt := 66) hx hb dX6_together_9 (by decide) (fun c_1 => ?_) (fun c_1 => ?_)
    · rw [if_pos c_1] at hM
      refine lv_iload hx hb dX6_together_66 (lv_at hl 4 rfl) ?_
      have t0 := Option.some.inj hM
      obtain ⟨q1, t1⟩ := Prod.mk.inj t0
      obtain ⟨q2, t2⟩ := Prod.mk.inj t1
      obtain ⟨q3, t3⟩ := Prod.mk.inj t2
      obtain ⟨q4, t4⟩ := Prod.mk.inj t3
      obtain ⟨q5, t5⟩ := Prod.mk.inj t4
      obtain ⟨q6, t6⟩ := Prod.mk.inj t5
      obtain ⟨q7, t7⟩ := Prod.mk.inj t6
      obtain ⟨q8, t8⟩ := Prod.mk.inj t7
      obtain ⟨q9, t9⟩ := Prod.mk.inj t8
      obtain ⟨q10, t10⟩ := Prod.mk.inj t9
      obtain ⟨q11, t11⟩ := Prod.mk.inj t10
      obtain ⟨q12, t12⟩ := Prod.mk.inj t11
      obtain ⟨q13, t13⟩ := Prod.mk.inj t12
      obtain ⟨q14, t14⟩ := Prod.mk.inj t13
      subst q1
      subst q2
      subst q3
      subst q4
      subst q5
      subst q6
      subst q7
      subst q8
      subst q9
      subst q10
      subst q11
      subst q12
      subst q13
      subst q14
      subst t14
      exact kr _ _ _ _ dX6_together_68 hP hD hS
    · rw [if_neg c_1] at hM
      refine lv_iload hx hb dX6_together_12 (lv_at hl 5 rfl) ?_
      refine lv_iconst (v := 4) hx hb dX6_together_14 (by decide) ?_
      refine lv_icmp_ge (tgt := 66) hx hb dX6_together_15 (by decide) (fun c_2 => ?_) (fun c_2 => ?_)
      · rw [if_pos c_2] at hM
        refine lv_iload hx hb dX6_together_66 (lv_at hl 4 rfl) ?_
        have t0 := Option.some.inj hM
        obtain ⟨q1, t1⟩ := Prod.mk.inj t0
        obtain ⟨q2, t2⟩ := Prod.mk.inj t1
        obtain ⟨q3, t3⟩ := Prod.mk.inj t2
        obtain ⟨q4, t4⟩ := Prod.mk.inj t3
        obtain ⟨q5, t5⟩ := Prod.mk.inj t4
        obtain ⟨q6, t6⟩ := Prod.mk.inj t5
        obtain ⟨q7, t7⟩ := Prod.mk.inj t6
        obtain ⟨q8, t8⟩ := Prod.mk.inj t7
        obtain ⟨q9, t9⟩ := Prod.mk.inj t8
        obtain ⟨q10, t10⟩ := Prod.mk.inj t9
        obtain ⟨q11, t11⟩ := Prod.mk.inj t10
        obtain ⟨q12, t12⟩ := Prod.mk.inj t11
        obtain ⟨q13, t13⟩ := Prod.mk.inj t12
        obtain ⟨q14, t14⟩ := Prod.mk.inj t13
        subst q1
        subst q2
        subst q3
        subst q4
        subst q5
        subst q6
        subst q7
        subst q8
        subst q9
        subst q10
        subst q11
        subst q12
        subst q13
        subst q14
        subst t14
        exact kr _ _ _ _ dX6_together_68 hP hD hS
      · rw [if_neg c_2] at hM
        refine lv_aload_n hx hb dX6_together_18 rfl (lv_at hl 0 rfl) ?_
        refine va_get (D := G) (ci := 6) (v := .ref er_a) (C := RX6) (T := TX6) (N := 12) hx hb hts inX6 hown hK hP 0 rfl rfl 6 (by decide) (hts _ tb251) (fun _ h9 => h9) rfl dX6_together_19 ?_
        refine lv_aload_n hx hb dX6_together_22 rfl (lv_at hl 0 rfl) ?_
        refine va_get (D := G) (ci := 6) (v := .ref v_a) (C := RX6) (T := TX6) (N := 12) hx hb hts inX6 hown hK hP 0 rfl rfl 2 (by decide) (hts _ tb247) (fun _ h9 => h9) rfl dX6_together_23 ?_
        refine lv_iload hx hb dX6_together_26 (lv_at hl 5 rfl) ?_
        obtain ⟨u0_3, u1_3, u2_3, u3_3, u4_3, u5_3, u6_3, hC, hM⟩ := oe7 hM
        refine cV_v (As := [.ref v_a, .int x6]) (rest := []) C0 hP hD hS [6, 7, 8, 9, 10, 11, 1, 2, 3, 4, 5] (kX1_hear l G K tt L la sa ln sy sn lt st er_a erA_lastAt erA_fees erA_heavy erA_light erA_over v_a vA_sizes vA_kinds vA_spelled vA_scheme er_words er_syllables er_strong er_either er_joins er_singles er_options er_least er_ways er_lastAt er_fees er_heavy er_light er_over v_foot v_feet v_lines v_words v_sizes v_kinds v_spelled v_scheme x6 H.size u0_3 u1_3 u2_3 u3_3 u4_3 u5_3 u6_3 hC) rfl rfl rfl tb555 tb556 tb557 tb3 tb558 hdX1_hear (va_recv hK hP (ci := 1) (q0 := 6) rfl rfl) ⟨Nat.le_of_ble_eq_true rfl, Nat.le_of_ble_eq_true rfl⟩ rfl hl.1 (Nat.le_of_ble_eq_true rfl) rfl ⟨Nat.le_refl _, Nat.le_refl _⟩ dX6_together_28 (fun H locs hP hD hS => ?_)
        have hP : va_P G vwCl (WX6_together K x_a xA_rows rd_a v_a d_a xA_images ac_a er_a xA_hits xA_bodies vA_sizes vA_kinds vA_spelled vA_scheme erA_lastAt erA_fees erA_heavy erA_light erA_over x_begun x_latestFault x_latestFinding v_foot v_feet v_lines v_words v_sizes v_kinds v_spelled v_scheme u0_3 u1_3 u2_3 u3_3 u4_3 u5_3 er_options er_least er_ways u6_3 er_fees er_heavy er_light er_over) H := hP
        have hD : va_D A (WX6_together K x_a xA_rows rd_a v_a d_a xA_images ac_a er_a xA_hits xA_bodies vA_sizes vA_kinds vA_spelled vA_scheme erA_lastAt erA_fees erA_heavy erA_light erA_over x_begun x_latestFault x_latestFinding v_foot v_feet v_lines v_words v_sizes v_kinds v_spelled v_scheme u0_3 u1_3 u2_3 u3_3 u4_3 u5_3 er_options er_least er_ways u6_3 er_fees er_heavy er_light er_over) := hD
        refine lv_aload_n hx hb dX6_together_31 rfl (lv_at hl 0 rfl) ?_
        refine va_get (D := G) (ci := 6) (v := .ref er_a) (C := RX6) (T := TX6) (N := 12) hx hb hts inX6 hown hK hP 0 rfl rfl 6 (by decide) (hts _ tb251) (fun _ h9 => h9) rfl dX6_together_32 ?_
        refine lv_iload_n hx hb dX6_together_35 rfl (lv_at hl 2 rfl) ?_
        refine lv_iload hx hb dX6_together_36 (lv_at hl 3 rfl) ?_
        obtain ⟨r_4, u0_4, u1_4, u2_4, u3_4, u4_4, u5_4, u6_4, hC, hM⟩ := oe8 hM
        refine cV_i (As := [.int p3, .int p4]) (rest := []) C0 hP hD hS [6, 7, 8, 9, 10, 11] (kX1_leastBy l G K tt L la sa ln sy sn lt st er_a erA_lastAt erA_fees erA_heavy erA_light erA_over u0_3 u1_3 u2_3 u3_3 u4_3 u5_3 er_options er_least er_ways u6_3 er_fees er_heavy er_light er_over p3 p4 H.size r_4 u0_4 u1_4 u2_4 u3_4 u4_4 u5_4 u6_4 hC) rfl rfl rfl tb564 tb565 tb566 tb3 tb567 hdX1_leastBy (va_recv hK hP (ci := 1) (q0 := 6) rfl rfl) ⟨Nat.le_of_ble_eq_true rfl, Nat.le_of_ble_eq_true rfl⟩ rfl hl.1 (Nat.le_of_ble_eq_true rfl) rfl ⟨Nat.le_refl _, Nat.le_refl _⟩ dX6_together_38 (fun H locs hP hD hS => ?_)
        have hP : va_P G vwCl (WX6_together K x_a xA_rows rd_a v_a d_a xA_images ac_a er_a xA_hits xA_bodies vA_sizes vA_kinds vA_spelled vA_scheme erA_lastAt erA_fees erA_heavy erA_light erA_over x_begun x_latestFault x_latestFinding v_foot v_feet v_lines v_words v_sizes v_kinds v_spelled v_scheme u0_3 u1_3 u2_3 u3_3 u4_3 u5_3 u0_4 u1_4 u2_4 u6_3 u3_4 u4_4 u5_4 u6_4) H := hP
        have hD : va_D A (WX6_together K x_a xA_rows rd_a v_a d_a xA_images ac_a er_a xA_hits xA_bodies vA_sizes vA_kinds vA_spelled vA_scheme erA_lastAt erA_fees erA_heavy erA_light erA_over x_begun x_latestFault x_latestFinding v_foot v_feet v_lines v_words v_sizes v_kinds v_spelled v_scheme u0_3 u1_3 u2_3 u3_3 u4_3 u5_3 u0_4 u1_4 u2_4 u6_3 u3_4 u4_4 u5_4 u6_4) := hD
        refine lv_istore (lv' := [(7, .int r_4), (0, .ref x_a), (2, .int p2), (3, .int p3), (4, .int p4), (5, .int x5), (6, .int x6)]) hx hb dX6_together_41 hl (by decide) rfl (fun ls hl => ?_)
        refine lv_iload hx hb dX6_together_43 (lv_at hl 0 rfl) ?_
        refine lv_ldc (v := -1000000) hx hb hown (hts _ tb489) dX6_together_45 ?_
        refine lv_icmp_ne (tgt := 53) hx hb dX6_together_47 (by decide) (fun c_5 => ?_) (fun c_5 => ?_)
        · rw [if_neg c_5] at hM
          refine lv_iload hx hb dX6_together_53 (lv_at hl 5 rfl) ?_
          refine lv_iload hx hb dX6_together_55 (lv_at hl 0 rfl) ?_
          refine lv_iadd hx hb dX6_together_57 ?_
          refine lv_istore (lv' := [(5, .int (x5 + r_4)), (7, .int r_4), (0, .ref x_a), (2, .int p2), (3, .int p3), (4, .int p4), (6, .int x6)]) hx hb dX6_together_58 hl (by decide) rfl (fun ls hl => ?_)
          refine lv_iinc (v := (x6 + 1)) (lv' := [(6, .int (x6 + 1)), (5, .int (x5 + r_4)), (7, .int r_4), (0, .ref x_a), (2, .int p2), (3, .int p3), (4, .int p4)]) hx hb dX6_together_60 hl (k := 6) rfl rfl (by decide) rfl (fun ls hl => ?_)
          refine lv_goto (tgt := 6) hx hb dX6_together_63 (by decide) ?_
          exact ih u0_3 u1_3 u2_3 u3_3 u4_3 u5_3 u0_4 u1_4 u2_4 u6_3 u3_4 u4_4 u5_4 u6_4 (x5 + r_4) (x6 + 1) hM _ _ _ hP hD hS (lv_sub hl [3, 4, 5, 6, 1, 0] rfl)
        · rw [if_pos c_5] at hM
          refine lv_ldc (v := -1000000) hx hb hown (hts _ tb489) dX6_together_50 ?_
          have t0 := Option.some.inj hM
          obtain ⟨q1, t1⟩ := Prod.mk.inj t0
          obtain ⟨q2, t2⟩ := Prod.mk.inj t1
          obtain ⟨q3, t3⟩ := Prod.mk.inj t2
          obtain ⟨q4, t4⟩ := Prod.mk.inj t3
          obtain ⟨q5, t5⟩ := Prod.mk.inj t4
          obtain ⟨q6, t6⟩ := Prod.mk.inj t5
          obtain ⟨q7, t7⟩ := Prod.mk.inj t6
          obtain ⟨q8, t8⟩ := Prod.mk.inj t7
          obtain ⟨q9, t9⟩ := Prod.mk.inj t8
          obtain ⟨q10, t10⟩ := Prod.mk.inj t9
          obtain ⟨q11, t11⟩ := Prod.mk.inj t10
          obtain ⟨q12, t12⟩ := Prod.mk.inj t11
          obtain ⟨q13, t13⟩ := Prod.mk.inj t12
          obtain ⟨q14, t14⟩ := Prod.mk.inj t13
          subst q1
          subst q2
          subst q3
          subst q4
          subst q5
          subst q6
          subst q7
          subst q8
          subst q9
          subst q10
          subst q11
          subst q12
          subst q13
          subst q14
          subst t14
          exact kr _ _ _ _ dX6_together_52 hP hD hS
set_option maxHeartbeats 4000000 in
set_option maxRecDepth 100000 in
theorem wX6_together_b0 {p : Program} {l : Launch} {e : Env} {s : State} {m : MethodId} {args : Array Value} {below : List Frame} {meth : Method} {c : Code} {Q : State → Prop} {G : va_G} {K : Nat → ClassId} {A : Nat → Prop} {tt : Nat → Nat} {L : List Nat} {la : Nat → Nat} {sa : Nat → Nat} {ln : Nat → Int32} {sy : Nat → Int32} {sn : Nat → Int32} {lt : Nat → Nat → Int32} {st : Nat → Nat → Int32} (C0 : CX p s m args c cX6_together 8 RX6 G K (EC G K tt L la sa ln sy sn lt st) A) (x_a xA_rows rd_a v_a d_a xA_images ac_a er_a xA_hits xA_bodies vA_sizes vA_kinds vA_spelled vA_scheme erA_lastAt erA_fees erA_heavy erA_light erA_over : Nat) (x_begun : Int32) (x_latestFault : Int32) (x_latestFinding : Int32) (v_foot : Int32) (v_feet : Int32) (v_lines : Int32) (v_words : Int32) (v_sizes : Nat → Int32) (v_kinds : Nat → Int32) (v_spelled : Nat → Nat) (v_scheme : Nat → Int32) (p1 : Int32) (p2 : Int32) (p3 : Int32) (p4 : Int32) (r : Int32) (o_er_words : Int32) (o_er_syllables : Int32) (o_er_strong : Int32) (o_er_either : Int32) (o_er_joins : Int32) (o_er_singles : Int32) (o_er_options : Int32) (o_er_least : Int32) (o_er_ways : Int32) (o_er_lastAt : Nat → Int32) (o_er_fees : Nat → Int32) (o_er_heavy : Nat → Int32) (o_er_light : Nat → Int32) (o_er_over : Nat → Int32) (kr : ∀ (H : Heap) (locs : List Loc) (ls : Array Slot) (pc : Nat), decode cX6_together pc = .ok (.ireturn, 1) → va_P G vwCl (WX6_together K x_a xA_rows rd_a v_a d_a xA_images ac_a er_a xA_hits xA_bodies vA_sizes vA_kinds vA_spelled vA_scheme erA_lastAt erA_fees erA_heavy erA_light erA_over x_begun x_latestFault x_latestFinding v_foot v_feet v_lines v_words v_sizes v_kinds v_spelled v_scheme o_er_words o_er_syllables o_er_strong o_er_either o_er_joins o_er_singles o_er_options o_er_least o_er_ways o_er_lastAt o_er_fees o_er_heavy o_er_light o_er_over) H → va_D A (WX6_together K x_a xA_rows rd_a v_a d_a xA_images ac_a er_a xA_hits xA_bodies vA_sizes vA_kinds vA_spelled vA_scheme erA_lastAt erA_fees erA_heavy erA_light erA_over x_begun x_latestFault x_latestFinding v_foot v_feet v_lines v_words v_sizes v_kinds v_spelled v_scheme o_er_words o_er_syllables o_er_strong o_er_either o_er_joins o_er_singles o_er_options o_er_least o_er_ways o_er_lastAt o_er_fees o_er_heavy o_er_light o_er_over) → va_S A s.heap H locs → W p l e rmX6_together s m args below meth c H locs 0 0 Q (F0 m pc ls [.int r])) (er_words : Int32) (er_syllables : Int32) (er_strong : Int32) (er_either : Int32) (er_joins : Int32) (er_singles : Int32) (er_options : Int32) (er_least : Int32) (er_ways : Int32) (er_lastAt : Nat → Int32) (er_fees : Nat → Int32) (er_heavy : Nat → Int32) (er_light : Nat → Int32) (er_over : Nat → Int32) (hM : mX6_together_b0 L ln sy sn lt v_sizes v_kinds v_spelled p1 p2 p3 p4  er_words er_syllables er_strong er_either er_joins er_singles er_options er_least er_ways er_lastAt er_fees er_heavy er_light er_over = some (r, o_er_words, o_er_syllables, o_er_strong, o_er_either, o_er_joins, o_er_singles, o_er_options, o_er_least, o_er_ways, o_er_lastAt, o_er_fees, o_er_heavy, o_er_light, o_er_over)) : ∀ (H : Heap) (locs : List Loc) (ls : Array Slot), va_P G vwCl (WX6_together K x_a xA_rows rd_a v_a d_a xA_images ac_a er_a xA_hits xA_bodies vA_sizes vA_kinds vA_spelled vA_scheme erA_lastAt erA_fees erA_heavy erA_light erA_over x_begun x_latestFault x_latestFinding v_foot v_feet v_lines v_words v_sizes v_kinds v_spelled v_scheme er_words er_syllables er_strong er_either er_joins er_singles er_options er_least er_ways er_lastAt er_fees er_heavy er_light er_over) H → va_D A (WX6_together K x_a xA_rows rd_a v_a d_a xA_images ac_a er_a xA_hits xA_bodies vA_sizes vA_kinds vA_spelled vA_scheme erA_lastAt erA_fees erA_heavy erA_light erA_over x_begun x_latestFault x_latestFinding v_foot v_feet v_lines v_words v_sizes v_kinds v_spelled v_scheme er_words er_syllables er_strong er_either er_joins er_singles er_options er_least er_ways er_lastAt er_fees er_heavy er_light er_over) → va_S A s.heap H locs → lv_has ls 8 [(0, .ref x_a), (1, .int p1), (2, .int p2), (3, .int p3), (4, .int p4)] → W p l e rmX6_together s m args below meth c H locs 0 0 Q (F0 m 0 ls []) := by
  obtain ⟨hx, hb, hml, hown, hts, hK, hA, hEo, hE⟩ := id C0
  intro H locs ls hP hD hS hl
  unfold mX6_together_b0 at hM
  refine lv_iconst (v := 0) hx hb dX6_together_0 (by decide) ?_
  refine lv_istore (lv' := [(5, .int (0 : Int32)), (0, .ref x_a), (1, .int p1), (2, .int p2), (3, .int p3), (4, .int p4)]) hx hb dX6_together_1 hl (by decide) rfl (fun ls hl => ?_)
  refine lv_iload_n hx hb dX6_together_3 rfl (lv_at hl 2 rfl) ?_
  refine lv_istore (lv' := [(6, .int p1), (5, .int (0 : Int32)), (0, .ref x_a), (1, .int p1), (2, .int p2), (3, .int p3), (4, .int p4)]) hx hb dX6_together_4 hl (by decide) rfl (fun ls hl => ?_)
  exact wX6_together_b6 C0 x_a xA_rows rd_a v_a d_a xA_images ac_a er_a xA_hits xA_bodies vA_sizes vA_kinds vA_spelled vA_scheme erA_lastAt erA_fees erA_heavy erA_light erA_over x_begun x_latestFault x_latestFinding v_foot v_feet v_lines v_words v_sizes v_kinds v_spelled v_scheme p1 p2 p3 p4 r o_er_words o_er_syllables o_er_strong o_er_either o_er_joins o_er_singles o_er_options o_er_least o_er_ways o_er_lastAt o_er_fees o_er_heavy o_er_light o_er_over kr  FU er_words er_syllables er_strong er_either er_joins er_singles er_options er_least er_ways er_lastAt er_fees er_heavy er_light er_over (0 : Int32) p1 hM _ _ _ hP hD hS (lv_sub hl [2, 4, 5, 6, 1, 0] rfl)
set_option maxHeartbeats 4000000 in
set_option maxRecDepth 100000 in
theorem kX6_together (l : Launch) (G : va_G) (K : Nat → ClassId) (tt : Nat → Nat) (L : List Nat) (la : Nat → Nat) (sa : Nat → Nat) (ln : Nat → Int32) (sy : Nat → Int32) (sn : Nat → Int32) (lt : Nat → Nat → Int32) (st : Nat → Nat → Int32) (x_a xA_rows rd_a v_a d_a xA_images ac_a er_a xA_hits xA_bodies vA_sizes vA_kinds vA_spelled vA_scheme erA_lastAt erA_fees erA_heavy erA_light erA_over : Nat) (x_begun : Int32) (x_latestFault : Int32) (x_latestFinding : Int32) (v_foot : Int32) (v_feet : Int32) (v_lines : Int32) (v_words : Int32) (v_sizes : Nat → Int32) (v_kinds : Nat → Int32) (v_spelled : Nat → Nat) (v_scheme : Nat → Int32) (er_words : Int32) (er_syllables : Int32) (er_strong : Int32) (er_either : Int32) (er_joins : Int32) (er_singles : Int32) (er_options : Int32) (er_least : Int32) (er_ways : Int32) (er_lastAt : Nat → Int32) (er_fees : Nat → Int32) (er_heavy : Nat → Int32) (er_light : Nat → Int32) (er_over : Nat → Int32) (p1 : Int32) (p2 : Int32) (p3 : Int32) (p4 : Int32) (sz : Nat) (r : Int32) (o_er_words : Int32) (o_er_syllables : Int32) (o_er_strong : Int32) (o_er_either : Int32) (o_er_joins : Int32) (o_er_singles : Int32) (o_er_options : Int32) (o_er_least : Int32) (o_er_ways : Int32) (o_er_lastAt : Nat → Int32) (o_er_fees : Nat → Int32) (o_er_heavy : Nat → Int32) (o_er_light : Nat → Int32) (o_er_over : Nat → Int32) (hM : mX6_together L ln sy sn lt v_sizes v_kinds v_spelled er_words er_syllables er_strong er_either er_joins er_singles er_options er_least er_ways er_lastAt er_fees er_heavy er_light er_over p1 p2 p3 p4 = some (r, o_er_words, o_er_syllables, o_er_strong, o_er_either, o_er_joins, o_er_singles, o_er_options, o_er_least, o_er_ways, o_er_lastAt, o_er_fees, o_er_heavy, o_er_light, o_er_over)) : Met l yX6_together (mC yX6_together cX6_together 8 (some .int)) rmX6_together (va_Pc [.ref x_a, .int p1, .int p2, .int p3, .int p4] (PCe G K (EC G K tt L la sa ln sy sn lt st) (WX6_together K x_a xA_rows rd_a v_a d_a xA_images ac_a er_a xA_hits xA_bodies vA_sizes vA_kinds vA_spelled vA_scheme erA_lastAt erA_fees erA_heavy erA_light erA_over x_begun x_latestFault x_latestFinding v_foot v_feet v_lines v_words v_sizes v_kinds v_spelled v_scheme er_words er_syllables er_strong er_either er_joins er_singles er_options er_least er_ways er_lastAt er_fees er_heavy er_light er_over) sz)) (va_Qi (fun (x : Int32) (_ : Unit) => x = r) (fun _ t => va_P G vwCl (WX6_together K x_a xA_rows rd_a v_a d_a xA_images ac_a er_a xA_hits xA_bodies vA_sizes vA_kinds vA_spelled vA_scheme erA_lastAt erA_fees erA_heavy erA_light erA_over x_begun x_latestFault x_latestFinding v_foot v_feet v_lines v_words v_sizes v_kinds v_spelled v_scheme o_er_words o_er_syllables o_er_strong o_er_either o_er_joins o_er_singles o_er_options o_er_least o_er_ways o_er_lastAt o_er_fees o_er_heavy o_er_light o_er_over) t.heap) (va_A (WX6_together K x_a xA_rows rd_a v_a d_a xA_images ac_a er_a xA_hits xA_bodies vA_sizes vA_kinds vA_spelled vA_scheme erA_lastAt erA_fees erA_heavy erA_light erA_over x_begun x_latestFault x_latestFinding v_foot v_feet v_lines v_words v_sizes v_kinds v_spelled v_scheme er_words er_syllables er_strong er_either er_joins er_singles er_options er_least er_ways er_lastAt er_fees er_heavy er_light er_over) sz)) rmX6_together.cells rmX6_together.slots (va_A (WX6_together K x_a xA_rows rd_a v_a d_a xA_images ac_a er_a xA_hits xA_bodies vA_sizes vA_kinds vA_spelled vA_scheme erA_lastAt erA_fees erA_heavy erA_light erA_over x_begun x_latestFault x_latestFinding v_foot v_feet v_lines v_words v_sizes v_kinds v_spelled v_scheme er_words er_syllables er_strong er_either er_joins er_singles er_options er_least er_ways er_lastAt er_fees er_heavy er_light er_over) sz) := by
  refine Met.ofW (cc := cX6_together) (maxL := 8) (ret := (some .int)) (by decide) rfl ?_
  intro p e s m args below meth c s₁ B hml hv
  obtain ⟨rfl, hsz, hP, hK, hD0, hE⟩ := hv
  have hx := B.exec
  have hb := B.bytes
  have hr := B.returns
  have hts0 := atoms_spec (ws := mC yX6_together cX6_together 8 (some .int)) B.pre
  have hts : ∀ w ∈ tbG, w.before _ s = true := fun w h => hts0 w (List.mem_cons_of_mem _ h)
  have hown : s.vm.findClass RX6 = some m.cls := findClass_of_methodNamed B.named
  subst hsz
  have hD := hD0.self (sz := s.heap.size)
  generalize hAe : va_A (WX6_together K x_a xA_rows rd_a v_a d_a xA_images ac_a er_a xA_hits xA_bodies vA_sizes vA_kinds vA_spelled vA_scheme erA_lastAt erA_fees erA_heavy erA_light erA_over x_begun x_latestFault x_latestFinding v_foot v_feet v_lines v_words v_sizes v_kinds v_spelled v_scheme er_words er_syllables er_strong er_either er_joins er_singles er_options er_least er_ways er_lastAt er_fees er_heavy er_light er_over) s.heap.size = A at hD hE ⊢
  have hA : ∀ q : Nat, s.heap.size ≤ q → A q := fun q h => by rw [← hAe]; exact Or.inr h
  have hS : va_S A s.heap s.heap [] := va_S.rf
  have hl := lv_entry ([.ref x_a, .int p1, .int p2, .int p3, .int p4]) (n := 8) (Nat.le_of_ble_eq_true rfl)
  rw [lg_entry_eq]
  generalize (lg_sl ([.ref x_a, .int p1, .int p2, .int p3, .int p4]) ++ List.replicate (8 - (lg_sl ([.ref x_a, .int p1, .int p2, .int p3, .int p4])).length) Slot.unset).toArray = ls at hl ⊢
  have hl : lv_has ls 8 [(0, .ref x_a), (1, .int p1), (2, .int p2), (3, .int p3), (4, .int p4)] := hl
  exact wX6_together_b0 ⟨hx, hb, hml, hown, hts, hK, hA, EC_ok _ _ _ _ _ _ _ _ _ _ _, hE⟩ x_a xA_rows rd_a v_a d_a xA_images ac_a er_a xA_hits xA_bodies vA_sizes vA_kinds vA_spelled vA_scheme erA_lastAt erA_fees erA_heavy erA_light erA_over x_begun x_latestFault x_latestFinding v_foot v_feet v_lines v_words v_sizes v_kinds v_spelled v_scheme p1 p2 p3 p4 r o_er_words o_er_syllables o_er_strong o_er_either o_er_joins o_er_singles o_er_options o_er_least o_er_ways o_er_lastAt o_er_fees o_er_heavy o_er_light o_er_over (fun H locs ls pc hdg hP hD hS => W.iret (v := r) hx hb hr (fun t ht hW => ⟨⟨r, (), rfl, rfl, (show va_P G vwCl _ t.heap by rw [ht]; exact hP)⟩, hS.F ht⟩) hS.2.2 hdg) er_words er_syllables er_strong er_either er_joins er_singles er_options er_least er_ways er_lastAt er_fees er_heavy er_light er_over  hM _ _ _ hP hD hS hl
abbrev WX6_nearestOf (K : Nat → ClassId) (x_a xA_rows rd_a v_a d_a xA_images ac_a er_a xA_hits xA_bodies vA_sizes vA_kinds vA_spelled vA_scheme erA_lastAt erA_fees erA_heavy erA_light erA_over : Nat) (x_begun : Int32) (x_latestFault : Int32) (x_latestFinding : Int32) (v_foot : Int32) (v_feet : Int32) (v_lines : Int32) (v_words : Int32) (v_sizes : Nat → Int32) (v_kinds : Nat → Int32) (v_spelled : Nat → Nat) (v_scheme : Nat → Int32) (er_words : Int32) (er_syllables : Int32) (er_strong : Int32) (er_either : Int32) (er_joins : Int32) (er_singles : Int32) (er_options : Int32) (er_least : Int32) (er_ways : Int32) (er_lastAt : Nat → Int32) (er_fees : Nat → Int32) (er_heavy : Nat → Int32) (er_light : Nat → Int32) (er_over : Nat → Int32) : va_W := [(x_a, .inr (6, [.ref xA_rows, .ref rd_a, .ref v_a, .ref d_a, .ref xA_images, .ref ac_a, .ref er_a, .ref xA_hits, .ref xA_bodies, .int x_begun, .int x_latestFault, .int x_latestFinding])), (v_a, .inr (2, [.int v_foot, .int v_feet, .int v_lines, .int v_words, .ref vA_sizes, .ref vA_kinds, .ref vA_spelled, .ref vA_scheme])), aI K vA_sizes 4 v_sizes, aI K vA_kinds 20 v_kinds, aS K vA_spelled 20 v_spelled, aI K vA_scheme 4 v_scheme, (er_a, .inr (1, [.int er_words, .int er_syllables, .int er_strong, .int er_either, .int er_joins, .int er_singles, .ref erA_lastAt, .int er_options, .ref erA_fees, .ref erA_heavy, .ref erA_light, .ref erA_over, .int er_least, .int er_ways])), aI K erA_lastAt 5 er_lastAt, aI K erA_fees 32 er_fees, aI K erA_heavy 32 er_heavy, aI K erA_light 32 er_light, aI K erA_over 32 er_over]
def rmX6_nearestOf : Room := { frames := 5, cells := 0, slots := 0, locals := 130 }
theorem hdX6_nearestOf : yX6_nearestOf.cls = RX6 ∧ yX6_nearestOf.cls ≠ "java/lang/invoke/MethodHandle" ∧ yX6_nearestOf.cls ≠ "java/lang/invoke/VarHandle" ∧ (parseMethodDescriptor yX6_nearestOf.desc).map (fun d => d.parameters.length) = some 3 := by decide +kernel
set_option maxHeartbeats 4000000 in
set_option maxRecDepth 100000 in
theorem wX6_nearestOf_b66 {p : Program} {l : Launch} {e : Env} {s : State} {m : MethodId} {args : Array Value} {below : List Frame} {meth : Method} {c : Code} {Q : State → Prop} {G : va_G} {K : Nat → ClassId} {A : Nat → Prop} {tt : Nat → Nat} {L : List Nat} {la : Nat → Nat} {sa : Nat → Nat} {ln : Nat → Int32} {sy : Nat → Int32} {sn : Nat → Int32} {lt : Nat → Nat → Int32} {st : Nat → Nat → Int32} (C0 : CX p s m args c cX6_nearestOf 10 RX6 G K (EC G K tt L la sa ln sy sn lt st) A) (x_a xA_rows rd_a v_a d_a xA_images ac_a er_a xA_hits xA_bodies vA_sizes vA_kinds vA_spelled vA_scheme erA_lastAt erA_fees erA_heavy erA_light erA_over : Nat) (x_begun : Int32) (x_latestFault : Int32) (x_latestFinding : Int32) (v_foot : Int32) (v_feet : Int32) (v_lines : Int32) (v_words : Int32) (v_sizes : Nat → Int32) (v_kinds : Nat → Int32) (v_spelled : Nat → Nat) (v_scheme : Nat → Int32) (p1 : Int32) (p2 : Int32) (p3 : Int32) (r : Int32) (o_er_words : Int32) (o_er_syllables : Int32) (o_er_strong : Int32) (o_er_either : Int32) (o_er_joins : Int32) (o_er_singles : Int32) (o_er_options : Int32) (o_er_least : Int32) (o_er_ways : Int32) (o_er_lastAt : Nat → Int32) (o_er_fees : Nat → Int32) (o_er_heavy : Nat → Int32) (o_er_light : Nat → Int32) (o_er_over : Nat → Int32) (kr : ∀ (H : Heap) (locs : List Loc) (ls : Array Slot) (pc : Nat), decode cX6_nearestOf pc = .ok (.ireturn, 1) → va_P G vwCl (WX6_nearestOf K x_a xA_rows rd_a v_a d_a xA_images ac_a er_a xA_hits xA_bodies vA_sizes vA_kinds vA_spelled vA_scheme erA_lastAt erA_fees erA_heavy erA_light erA_over x_begun x_latestFault x_latestFinding v_foot v_feet v_lines v_words v_sizes v_kinds v_spelled v_scheme o_er_words o_er_syllables o_er_strong o_er_either o_er_joins o_er_singles o_er_options o_er_least o_er_ways o_er_lastAt o_er_fees o_er_heavy o_er_light o_er_over) H → va_D A (WX6_nearestOf K x_a xA_rows rd_a v_a d_a xA_images ac_a er_a xA_hits xA_bodies vA_sizes vA_kinds vA_spelled vA_scheme erA_lastAt erA_fees erA_heavy erA_light erA_over x_begun x_latestFault x_latestFinding v_foot v_feet v_lines v_words v_sizes v_kinds v_spelled v_scheme o_er_words o_er_syllables o_er_strong o_er_either o_er_joins o_er_singles o_er_options o_er_least o_er_ways o_er_lastAt o_er_fees o_er_heavy o_er_light o_er_over) → va_S A s.heap H locs → W p l e rmX6_nearestOf s m args below meth c H locs 0 0 Q (F0 m pc ls [.int r])) (k15 : Int32 → Int32 → Int32 → Int32 → Int32 → Int32 → Int32 → Int32 → Int32 → (Nat → Int32) → (Nat → Int32) → (Nat → Int32) → (Nat → Int32) → (Nat → Int32) → Int32 → Int32 → Int32 → Int32 → Option (Int32 × (Int32) × (Int32) × (Int32) × (Int32) × (Int32) × (Int32) × (Int32) × (Int32) × (Int32) × (Nat → Int32) × (Nat → Int32) × (Nat → Int32) × (Nat → Int32) × (Nat → Int32))) (hk15 : ∀ (er_words : Int32) (er_syllables : Int32) (er_strong : Int32) (er_either : Int32) (er_joins : Int32) (er_singles : Int32) (er_options : Int32) (er_least : Int32) (er_ways : Int32) (er_lastAt : Nat → Int32) (er_fees : Nat → Int32) (er_heavy : Nat → Int32) (er_light : Nat → Int32) (er_over : Nat → Int32) (x4 : Int32) (x5 : Int32) (x6 : Int32) (x7 : Int32), k15 er_words er_syllables er_strong er_either er_joins er_singles er_options er_least er_ways er_lastAt er_fees er_heavy er_light er_over x4 x5 x6 x7 = some (r, o_er_words, o_er_syllables, o_er_strong, o_er_either, o_er_joins, o_er_singles, o_er_options, o_er_least, o_er_ways, o_er_lastAt, o_er_fees, o_er_heavy, o_er_light, o_er_over) → ∀ (H : Heap) (locs : List Loc) (ls : Array Slot), va_P G vwCl (WX6_nearestOf K x_a xA_rows rd_a v_a d_a xA_images ac_a er_a xA_hits xA_bodies vA_sizes vA_kinds vA_spelled vA_scheme erA_lastAt erA_fees erA_heavy erA_light erA_over x_begun x_latestFault x_latestFinding v_foot v_feet v_lines v_words v_sizes v_kinds v_spelled v_scheme er_words er_syllables er_strong er_either er_joins er_singles er_options er_least er_ways er_lastAt er_fees er_heavy er_light er_over) H → va_D A (WX6_nearestOf K x_a xA_rows rd_a v_a d_a xA_images ac_a er_a xA_hits xA_bodies vA_sizes vA_kinds vA_spelled vA_scheme erA_lastAt erA_fees erA_heavy erA_light erA_over x_begun x_latestFault x_latestFinding v_foot v_feet v_lines v_words v_sizes v_kinds v_spelled v_scheme er_words er_syllables er_strong er_either er_joins er_singles er_options er_least er_ways er_lastAt er_fees er_heavy er_light er_over) → va_S A s.heap H locs → lv_has ls 10 [(0, .ref x_a), (1, .int p1), (2, .int p2), (3, .int p3), (4, .int x4), (5, .int x5), (6, .int x6), (7, .int x7)] → W p l e rmX6_nearestOf s m args below meth c H locs 0 0 Q (F0 m 15 ls [])) (k27 : Int32 → Int32 → Int32 → Int32 → Int32 → Int32 → Int32 → Int32 → Int32 → (Nat → Int32) → (Nat → Int32) → (Nat → Int32) → (Nat → Int32) → (Nat → Int32) → Int32 → Int32 → Int32 → Int32 → Int32 → Option (Int32 × (Int32) × (Int32) × (Int32) × (Int32) × (Int32) × (Int32) × (Int32) × (Int32) × (Int32) × (Nat → Int32) × (Nat → Int32) × (Nat → Int32) × (Nat → Int32) × (Nat → Int32))) (hk27 : ∀ (er_words : Int32) (er_syllables : Int32) (er_strong : Int32) (er_either : Int32) (er_joins : Int32) (er_singles : Int32) (er_options : Int32) (er_least : Int32) (er_ways : Int32) (er_lastAt : Nat → Int32) (er_fees : Nat → Int32) (er_heavy : Nat → Int32) (er_light : Nat → Int32) (er_over : Nat → Int32) (x4 : Int32) (x5 : Int32) (x6 : Int32) (x7 : Int32) (x8 : Int32), k27 er_words er_syllables er_strong er_either er_joins er_singles er_options er_least er_ways er_lastAt er_fees er_heavy er_light er_over x4 x5 x6 x7 x8 = some (r, o_er_words, o_er_syllables, o_er_strong, o_er_either, o_er_joins, o_er_singles, o_er_options, o_er_least, o_er_ways, o_er_lastAt, o_er_fees, o_er_heavy, o_er_light, o_er_over) → ∀ (H : Heap) (locs : List Loc) (ls : Array Slot), va_P G vwCl (WX6_nearestOf K x_a xA_rows rd_a v_a d_a xA_images ac_a er_a xA_hits xA_bodies vA_sizes vA_kinds vA_spelled vA_scheme erA_lastAt erA_fees erA_heavy erA_light erA_over x_begun x_latestFault x_latestFinding v_foot v_feet v_lines v_words v_sizes v_kinds v_spelled v_scheme er_words er_syllables er_strong er_either er_joins er_singles er_options er_least er_ways er_lastAt er_fees er_heavy er_light er_over) H → va_D A (WX6_nearestOf K x_a xA_rows rd_a v_a d_a xA_images ac_a er_a xA_hits xA_bodies vA_sizes vA_kinds vA_spelled vA_scheme erA_lastAt erA_fees erA_heavy erA_light erA_over x_begun x_latestFault x_latestFinding v_foot v_feet v_lines v_words v_sizes v_kinds v_spelled v_scheme er_words er_syllables er_strong er_either er_joins er_singles er_options er_least er_ways er_lastAt er_fees er_heavy er_light er_over) → va_S A s.heap H locs → lv_has ls 10 [(0, .ref x_a), (1, .int p1), (2, .int p2), (3, .int p3), (4, .int x4), (5, .int x5), (6, .int x6), (7, .int x7), (8, .int x8)] → W p l e rmX6_nearestOf s m args below meth c H locs 0 0 Q (F0 m 27 ls [])) (er_words : Int32) (er_syllables : Int32) (er_strong : Int32) (er_either : Int32) (er_joins : Int32) (er_singles : Int32) (er_options : Int32) (er_least : Int32) (er_ways : Int32) (er_lastAt : Nat → Int32) (er_fees : Nat → Int32) (er_heavy : Nat → Int32) (er_light : Nat → Int32) (er_over : Nat → Int32) (x7 : Int32) (x8 : Int32) (x9 : Int32) (hM : mX6_nearestOf_b66 L ln sy sn lt v_sizes v_kinds v_spelled p1 p2 p3 k15 k27 er_words er_syllables er_strong er_either er_joins er_singles er_options er_least er_ways er_lastAt er_fees er_heavy er_light er_over x7 x8 x9 = some (r, o_er_words, o_er_syllables, o_er_strong, o_er_either, o_er_joins, o_er_singles, o_er_options, o_er_least, o_er_ways, o_er_lastAt, o_er_fees, o_er_heavy, o_er_light, o_er_over)) : ∀ (H : Heap) (locs : List Loc) (ls : Array Slot), va_P G vwCl (WX6_nearestOf K x_a xA_rows rd_a v_a d_a xA_images ac_a er_a xA_hits xA_bodies vA_sizes vA_kinds vA_spelled vA_scheme erA_lastAt erA_fees erA_heavy erA_light erA_over x_begun x_latestFault x_latestFinding v_foot v_feet v_lines v_words v_sizes v_kinds v_spelled v_scheme er_words er_syllables er_strong er_either er_joins er_singles er_options er_least er_ways er_lastAt er_fees er_heavy er_light er_over) H → va_D A (WX6_nearestOf K x_a xA_rows rd_a v_a d_a xA_images ac_a er_a xA_hits xA_bodies vA_sizes vA_kinds vA_spelled vA_scheme erA_lastAt erA_fees erA_heavy erA_light erA_over x_begun x_latestFault x_latestFinding v_foot v_feet v_lines v_words v_sizes v_kinds v_spelled v_scheme er_words er_syllables er_strong er_either er_joins er_singles er_options er_least er_ways er_lastAt er_fees er_heavy er_light er_over) → va_S A s.heap H locs → lv_has ls 10 [(0, .ref x_a), (1, .int p1), (2, .int p2), (3, .int p3), (7, .int x7), (8, .int x8), (9, .int x9)] → W p l e rmX6_nearestOf s m args below meth c H locs 0 0 Q (F0 m 66 ls []) := by
  obtain ⟨hx, hb, hml, hown, hts, hK, hA, hEo, hE⟩ := id C0
  intro H locs ls hP hD hS hl
  unfold mX6_nearestOf_b66 at hM
  refine lv_iload hx hb dX6_nearestOf_66 (lv_at hl 6 rfl) ?_
  refine lv_istore (lv' := [(4, .int x9), (0, .ref x_a), (1, .int p1), (2, .int p2), (3, .int p3), (7, .int x7), (8, .int x8), (9, .int x9)]) hx hb dX6_nearestOf_68 hl (by decide) rfl (fun ls hl => ?_)
  refine lv_iload hx hb dX6_nearestOf_70 (lv_at hl 5 rfl) ?_
  refine lv_istore (lv' := [(5, .int x7), (4, .int x9), (0, .ref x_a), (1, .int p1), (2, .int p2), (3, .int p3), (7, .int x7), (8, .int x8), (9, .int x9)]) hx hb dX6_nearestOf_72 hl (by decide) rfl (fun ls hl => ?_)
  refine lv_iload hx hb dX6_nearestOf_74 (lv_at hl 7 rfl) ?_
  refine lv_istore (lv' := [(6, .int x8), (5, .int x7), (4, .int x9), (0, .ref x_a), (1, .int p1), (2, .int p2), (3, .int p3), (7, .int x7), (8, .int x8), (9, .int x9)]) hx hb dX6_nearestOf_76 hl (by decide) rfl (fun ls hl => ?_)
  refine lv_iinc (v := (x8 + 1)) (lv' := [(8, .int (x8 + 1)), (6, .int x8), (5, .int x7), (4, .int x9), (0, .ref x_a), (1, .int p1), (2, .int p2), (3, .int p3), (7, .int x7), (9, .int x9)]) hx hb dX6_nearestOf_78 hl (k := 8) rfl rfl (by decide) rfl (fun ls hl => ?_)
  refine lv_goto (tgt := 27) hx hb dX6_nearestOf_81 (by decide) ?_
  exact hk27 er_words er_syllables er_strong er_either er_joins er_singles er_options er_least er_ways er_lastAt er_fees er_heavy er_light er_over x9 x7 x8 x7 (x8 + 1) hM _ _ _ hP hD hS (lv_sub hl [4, 5, 6, 7, 3, 2, 1, 8, 0] rfl)
set_option maxHeartbeats 4000000 in
set_option maxRecDepth 100000 in
theorem wX6_nearestOf_b27 {p : Program} {l : Launch} {e : Env} {s : State} {m : MethodId} {args : Array Value} {below : List Frame} {meth : Method} {c : Code} {Q : State → Prop} {G : va_G} {K : Nat → ClassId} {A : Nat → Prop} {tt : Nat → Nat} {L : List Nat} {la : Nat → Nat} {sa : Nat → Nat} {ln : Nat → Int32} {sy : Nat → Int32} {sn : Nat → Int32} {lt : Nat → Nat → Int32} {st : Nat → Nat → Int32} (C0 : CX p s m args c cX6_nearestOf 10 RX6 G K (EC G K tt L la sa ln sy sn lt st) A) (x_a xA_rows rd_a v_a d_a xA_images ac_a er_a xA_hits xA_bodies vA_sizes vA_kinds vA_spelled vA_scheme erA_lastAt erA_fees erA_heavy erA_light erA_over : Nat) (x_begun : Int32) (x_latestFault : Int32) (x_latestFinding : Int32) (v_foot : Int32) (v_feet : Int32) (v_lines : Int32) (v_words : Int32) (v_sizes : Nat → Int32) (v_kinds : Nat → Int32) (v_spelled : Nat → Nat) (v_scheme : Nat → Int32) (p1 : Int32) (p2 : Int32) (p3 : Int32) (r : Int32) (o_er_words : Int32) (o_er_syllables : Int32) (o_er_strong : Int32) (o_er_either : Int32) (o_er_joins : Int32) (o_er_singles : Int32) (o_er_options : Int32) (o_er_least : Int32) (o_er_ways : Int32) (o_er_lastAt : Nat → Int32) (o_er_fees : Nat → Int32) (o_er_heavy : Nat → Int32) (o_er_light : Nat → Int32) (o_er_over : Nat → Int32) (kr : ∀ (H : Heap) (locs : List Loc) (ls : Array Slot) (pc : Nat), decode cX6_nearestOf pc = .ok (.ireturn, 1) → va_P G vwCl (WX6_nearestOf K x_a xA_rows rd_a v_a d_a xA_images ac_a er_a xA_hits xA_bodies vA_sizes vA_kinds vA_spelled vA_scheme erA_lastAt erA_fees erA_heavy erA_light erA_over x_begun x_latestFault x_latestFinding v_foot v_feet v_lines v_words v_sizes v_kinds v_spelled v_scheme o_er_words o_er_syllables o_er_strong o_er_either o_er_joins o_er_singles o_er_options o_er_least o_er_ways o_er_lastAt o_er_fees o_er_heavy o_er_light o_er_over) H → va_D A (WX6_nearestOf K x_a xA_rows rd_a v_a d_a xA_images ac_a er_a xA_hits xA_bodies vA_sizes vA_kinds vA_spelled vA_scheme erA_lastAt erA_fees erA_heavy erA_light erA_over x_begun x_latestFault x_latestFinding v_foot v_feet v_lines v_words v_sizes v_kinds v_spelled v_scheme o_er_words o_er_syllables o_er_strong o_er_either o_er_joins o_er_singles o_er_options o_er_least o_er_ways o_er_lastAt o_er_fees o_er_heavy o_er_light o_er_over) → va_S A s.heap H locs → W p l e rmX6_nearestOf s m args below meth c H locs 0 0 Q (F0 m pc ls [.int r])) (k15 : Int32 → Int32 → Int32 → Int32 → Int32 → Int32 → Int32 → Int32 → Int32 → (Nat → Int32) → (Nat → Int32) → (Nat → Int32) → (Nat → Int32) → (Nat → Int32) → Int32 → Int32 → Int32 → Int32 → Option (Int32 × (Int32) × (Int32) × (Int32) × (Int32) × (Int32) × (Int32) × (Int32) × (Int32) × (Int32) × (Nat → Int32) × (Nat → Int32) × (Nat → Int32) × (Nat → Int32) × (Nat → Int32))) (hk15 : ∀ (er_words : Int32) (er_syllables : Int32) (er_strong : Int32) (er_either : Int32) (er_joins : Int32) (er_singles : Int32) (er_options : Int32) (er_least : Int32) (er_ways : Int32) (er_lastAt : Nat → Int32) (er_fees : Nat → Int32) (er_heavy : Nat → Int32) (er_light : Nat → Int32) (er_over : Nat → Int32) (x4 : Int32) (x5 : Int32) (x6 : Int32) (x7 : Int32), k15 er_words er_syllables er_strong er_either er_joins er_singles er_options er_least er_ways er_lastAt er_fees er_heavy er_light er_over x4 x5 x6 x7 = some (r, o_er_words, o_er_syllables, o_er_strong, o_er_either, o_er_joins, o_er_singles, o_er_options, o_er_least, o_er_ways, o_er_lastAt, o_er_fees, o_er_heavy, o_er_light, o_er_over) → ∀ (H : Heap) (locs : List Loc) (ls : Array Slot), va_P G vwCl (WX6_nearestOf K x_a xA_rows rd_a v_a d_a xA_images ac_a er_a xA_hits xA_bodies vA_sizes vA_kinds vA_spelled vA_scheme erA_lastAt erA_fees erA_heavy erA_light erA_over x_begun x_latestFault x_latestFinding v_foot v_feet v_lines v_words v_sizes v_kinds v_spelled v_scheme er_words er_syllables er_strong er_either er_joins er_singles er_options er_least er_ways er_lastAt er_fees er_heavy er_light er_over) H → va_D A (WX6_nearestOf K x_a xA_rows rd_a v_a d_a xA_images ac_a er_a xA_hits xA_bodies vA_sizes vA_kinds vA_spelled vA_scheme erA_lastAt erA_fees erA_heavy erA_light erA_over x_begun x_latestFault x_latestFinding v_foot v_feet v_lines v_words v_sizes v_kinds v_spelled v_scheme er_words er_syllables er_strong er_either er_joins er_singles er_options er_least er_ways er_lastAt er_fees er_heavy er_light er_over) → va_S A s.heap H locs → lv_has ls 10 [(0, .ref x_a), (1, .int p1), (2, .int p2), (3, .int p3), (4, .int x4), (5, .int x5), (6, .int x6), (7, .int x7)] → W p l e rmX6_nearestOf s m args below meth c H locs 0 0 Q (F0 m 15 ls [])) (n : Nat) : ∀ (er_words : Int32) (er_syllables : Int32) (er_strong : Int32) (er_either : Int32) (er_joins : Int32) (er_singles : Int32) (er_options : Int32) (er_least : Int32) (er_ways : Int32) (er_lastAt : Nat → Int32) (er_fees : Nat → Int32) (er_heavy : Nat → Int32) (er_light : Nat → Int32) (er_over : Nat → Int32) (x4 : Int32) (x5 : Int32) (x6 : Int32) (x7 : Int32) (x8 : Int32), mX6_nearestOf_b27 L ln sy sn lt v_sizes v_kinds v_spelled p1 p2 p3 k15 n er_words er_syllables er_strong er_either er_joins er_singles er_options er_least er_ways er_lastAt er_fees er_heavy er_light er_over x4 x5 x6 x7 x8 = some (r, o_er_words, o_er_syllables, o_er_strong, o_er_either, o_er_joins, o_er_singles, o_er_options, o_er_least, o_er_ways, o_er_lastAt, o_er_fees, o_er_heavy, o_er_light, o_er_over) → ∀ (H : Heap) (locs : List Loc) (ls : Array Slot), va_P G vwCl (WX6_nearestOf K x_a xA_rows rd_a v_a d_a xA_images ac_a er_a xA_hits xA_bodies vA_sizes vA_kinds vA_spelled vA_scheme erA_lastAt erA_fees erA_heavy erA_light erA_over x_begun x_latestFault x_latestFinding v_foot v_feet v_lines v_words v_sizes v_kinds v_spelled v_scheme er_words er_syllables er_strong er_either er_joins er_singles er_options er_least er_ways er_lastAt er_fees er_heavy er_light er_over) H → va_D A (WX6_nearestOf K x_a xA_rows rd_a v_a d_a xA_images ac_a er_a xA_hits xA_bodies vA_sizes vA_kinds vA_spelled vA_scheme erA_lastAt erA_fees erA_heavy erA_light erA_over x_begun x_latestFault x_latestFinding v_foot v_feet v_lines v_words v_sizes v_kinds v_spelled v_scheme er_words er_syllables er_strong er_either er_joins er_singles er_options er_least er_ways er_lastAt er_fees er_heavy er_light er_over) → va_S A s.heap H locs → lv_has ls 10 [(0, .ref x_a), (1, .int p1), (2, .int p2), (3, .int p3), (4, .int x4), (5, .int x5), (6, .int x6), (7, .int x7), (8, .int x8)] → W p l e rmX6_nearestOf s m args below meth c H locs 0 0 Q (F0 m 27 ls []) := by
  obtain ⟨hx, hb, hml, hown, hts, hK, hA, hEo, hE⟩ := id C0
  induction n with
  | zero =>
    intro er_words er_syllables er_strong er_either er_joins er_singles er_options er_least er_ways er_lastAt er_fees er_heavy er_light er_over x4 x5 x6 x7 x8 hM
    cases hM
  | succ n ih =>
    intro er_words er_syllables er_strong er_either er_joins er_singles er_options er_least er_ways er_lastAt er_fees er_heavy er_light er_over x4 x5 x6 x7 x8 hM H locs ls hP hD hS hl
    rw [mX6_nearestOf_b27] at hM
    refine lv_iload hx hb dX6_nearestOf_27 (lv_at hl 8 rfl) ?_
    refine lv_iconst (v := 5) hx hb dX6_nearestOf_29 (by decide) ?_
    refine lv_icmp_gt (tgt := 84) hx hb dX6_nearestOf_30 (by decide) (fun c_1 => ?_) (fun c_1 => ?_)
    · rw [if_pos c_1] at hM
      refine lv_iinc (v := (x7 + 1)) (lv' := [(7, .int (x7 + 1)), (0, .ref x_a), (1, .int p1), (2, .int p2), (3, .int p3), (4, .int x4), (5, .int x5), (6, .int x6), (8, .int x8)]) hx hb dX6_nearestOf_84 hl (k := 7) rfl rfl (by decide) rfl (fun ls hl => ?_)
      refine lv_goto (tgt := 15) hx hb dX6_nearestOf_87 (by decide) ?_
      exact hk15 er_words er_syllables er_strong er_either er_joins er_singles er_options er_least er_ways er_lastAt er_fees er_heavy er_light er_over x4 x5 x6 (x7 + 1) hM _ _ _ hP hD hS (lv_sub hl [1, 2, 3, 4, 5, 6, 7, 0] rfl)
    · rw [if_neg c_1] at hM
      refine lv_aload_n hx hb dX6_nearestOf_33 rfl (lv_at hl 0 rfl) ?_
      refine lv_iload_n hx hb dX6_nearestOf_34 rfl (lv_at hl 1 rfl) ?_
      refine lv_iload_n hx hb dX6_nearestOf_35 rfl (lv_at hl 2 rfl) ?_
      refine lv_iload hx hb dX6_nearestOf_36 (lv_at hl 7 rfl) ?_
      refine lv_iload hx hb dX6_nearestOf_38 (lv_at hl 8 rfl) ?_
      obtain ⟨r_2, u0_2, u1_2, u2_2, u3_2, u4_2, u5_2, u6_2, u7_2, u8_2, u9_2, u10_2, u11_2, u12_2, u13_2, hC, hM⟩ := oe15 hM
      refine cV_i (As := [.int p1, .int p2, .int x7, .int x8]) (rest := []) C0 hP hD hS [0, 1, 2, 3, 4, 5, 6, 7, 8, 9, 10, 11] (kX6_together l G K tt L la sa ln sy sn lt st x_a xA_rows rd_a v_a d_a xA_images ac_a er_a xA_hits xA_bodies vA_sizes vA_kinds vA_spelled vA_scheme erA_lastAt erA_fees erA_heavy erA_light erA_over x_begun x_latestFault x_latestFinding v_foot v_feet v_lines v_words v_sizes v_kinds v_spelled v_scheme er_words er_syllables er_strong er_either er_joins er_singles er_options er_least er_ways er_lastAt er_fees er_heavy er_light er_over p1 p2 x7 x8 H.size r_2 u0_2 u1_2 u2_2 u3_2 u4_2 u5_2 u6_2 u7_2 u8_2 u9_2 u10_2 u11_2 u12_2 u13_2 hC) rfl rfl rfl tb611 tb613 tp2 tb1 tb614 hdX6_together (va_recv hK hP (ci := 6) (q0 := 0) rfl rfl) ⟨Nat.le_of_ble_eq_true rfl, Nat.le_of_ble_eq_true rfl⟩ rfl hl.1 (Nat.le_of_ble_eq_true rfl) rfl ⟨Nat.le_refl _, Nat.le_refl _⟩ dX6_nearestOf_40 (fun H locs hP hD hS => ?_)
      have hP : va_P G vwCl (WX6_nearestOf K x_a xA_rows rd_a v_a d_a xA_images ac_a er_a xA_hits xA_bodies vA_sizes vA_kinds vA_spelled vA_scheme erA_lastAt erA_fees erA_heavy erA_light erA_over x_begun x_latestFault x_latestFinding v_foot v_feet v_lines v_words v_sizes v_kinds v_spelled v_scheme u0_2 u1_2 u2_2 u3_2 u4_2 u5_2 u6_2 u7_2 u8_2 u9_2 u10_2 u11_2 u12_2 u13_2) H := hP
      have hD : va_D A (WX6_nearestOf K x_a xA_rows rd_a v_a d_a xA_images ac_a er_a xA_hits xA_bodies vA_sizes vA_kinds vA_spelled vA_scheme erA_lastAt erA_fees erA_heavy erA_light erA_over x_begun x_latestFault x_latestFinding v_foot v_feet v_lines v_words v_sizes v_kinds v_spelled v_scheme u0_2 u1_2 u2_2 u3_2 u4_2 u5_2 u6_2 u7_2 u8_2 u9_2 u10_2 u11_2 u12_2 u13_2) := hD
      refine lv_istore (lv' := [(9, .int r_2), (0, .ref x_a), (1, .int p1), (2, .int p2), (3, .int p3), (4, .int x4), (5, .int x5), (6, .int x6), (7, .int x7), (8, .int x8)]) hx hb dX6_nearestOf_43 hl (by decide) rfl (fun ls hl => ?_)
      refine lv_iload hx hb dX6_nearestOf_45 (lv_at hl 0 rfl) ?_
      refine lv_ldc (v := -1000000) hx hb hown (hts _ tb489) dX6_nearestOf_47 ?_
      refine lv_icmp_eq (tgt := 78) hx hb dX6_nearestOf_49 (by decide) (fun c_3 => ?_) (fun c_3 => ?_)
      · rw [if_pos c_3] at hM
        refine lv_iinc (v := (x8 + 1)) (lv' := [(8, .int (x8 + 1)), (9, .int r_2), (0, .ref x_a), (1, .int p1), (2, .int p2), (3, .int p3), (4, .int x4), (5, .int x5), (6, .int x6), (7, .int x7)]) hx hb dX6_nearestOf_78 hl (k := 9) rfl rfl (by decide) rfl (fun ls hl => ?_)
        refine lv_goto (tgt := 27) hx hb dX6_nearestOf_81 (by decide) ?_
        exact ih u0_2 u1_2 u2_2 u3_2 u4_2 u5_2 u6_2 u7_2 u8_2 u9_2 u10_2 u11_2 u12_2 u13_2 x4 x5 x6 x7 (x8 + 1) hM _ _ _ hP hD hS (lv_sub hl [2, 3, 4, 5, 6, 7, 8, 9, 0] rfl)
      · rw [if_neg c_3] at hM
        refine lv_iload hx hb dX6_nearestOf_52 (lv_at hl 5 rfl) ?_
        refine lv_ldc (v := -1000000) hx hb hown (hts _ tb489) dX6_nearestOf_54 ?_
        refine lv_icmp_eq (tgt := 66) hx hb dX6_nearestOf_56 (by decide) (fun c_4 => ?_) (fun c_4 => ?_)
        · rw [if_pos c_4] at hM
          exact wX6_nearestOf_b66 C0 x_a xA_rows rd_a v_a d_a xA_images ac_a er_a xA_hits xA_bodies vA_sizes vA_kinds vA_spelled vA_scheme erA_lastAt erA_fees erA_heavy erA_light erA_over x_begun x_latestFault x_latestFinding v_foot v_feet v_lines v_words v_sizes v_kinds v_spelled v_scheme p1 p2 p3 r o_er_words o_er_syllables o_er_strong o_er_either o_er_joins o_er_singles o_er_options o_er_least o_er_ways o_er_lastAt o_er_fees o_er_heavy o_er_light o_er_over kr k15 hk15 (mX6_nearestOf_b27 L ln sy sn lt v_sizes v_kinds v_spelled p1 p2 p3 k15 n) ih u0_2 u1_2 u2_2 u3_2 u4_2 u5_2 u6_2 u7_2 u8_2 u9_2 u10_2 u11_2 u12_2 u13_2 x7 x8 r_2 hM _ _ _ hP hD hS (lv_sub hl [1, 2, 3, 4, 8, 9, 0] rfl)
        · rw [if_neg c_4] at hM
          refine lv_iload hx hb dX6_nearestOf_59 (lv_at hl 0 rfl) ?_
          refine lv_iload hx hb dX6_nearestOf_61 (lv_at hl 5 rfl) ?_
          refine lv_icmp_ge (tgt := 78) hx hb dX6_nearestOf_63 (by decide) (fun c_5 => ?_) (fun c_5 => ?_)
          · rw [if_pos c_5] at hM
            refine lv_iinc (v := (x8 + 1)) (lv' := [(8, .int (x8 + 1)), (9, .int r_2), (0, .ref x_a), (1, .int p1), (2, .int p2), (3, .int p3), (4, .int x4), (5, .int x5), (6, .int x6), (7, .int x7)]) hx hb dX6_nearestOf_78 hl (k := 9) rfl rfl (by decide) rfl (fun ls hl => ?_)
            refine lv_goto (tgt := 27) hx hb dX6_nearestOf_81 (by decide) ?_
            exact ih u0_2 u1_2 u2_2 u3_2 u4_2 u5_2 u6_2 u7_2 u8_2 u9_2 u10_2 u11_2 u12_2 u13_2 x4 x5 x6 x7 (x8 + 1) hM _ _ _ hP hD hS (lv_sub hl [2, 3, 4, 5, 6, 7, 8, 9, 0] rfl)
          · rw [if_neg c_5] at hM
            exact wX6_nearestOf_b66 C0 x_a xA_rows rd_a v_a d_a xA_images ac_a er_a xA_hits xA_bodies vA_sizes vA_kinds vA_spelled vA_scheme erA_lastAt erA_fees erA_heavy erA_light erA_over x_begun x_latestFault x_latestFinding v_foot v_feet v_lines v_words v_sizes v_kinds v_spelled v_scheme p1 p2 p3 r o_er_words o_er_syllables o_er_strong o_er_either o_er_joins o_er_singles o_er_options o_er_least o_er_ways o_er_lastAt o_er_fees o_er_heavy o_er_light o_er_over kr k15 hk15 (mX6_nearestOf_b27 L ln sy sn lt v_sizes v_kinds v_spelled p1 p2 p3 k15 n) ih u0_2 u1_2 u2_2 u3_2 u4_2 u5_2 u6_2 u7_2 u8_2 u9_2 u10_2 u11_2 u12_2 u13_2 x7 x8 r_2 hM _ _ _ hP hD hS (lv_sub hl [1, 2, 3, 4, 8, 9, 0] rfl)
set_option maxHeartbeats 4000000 in
set_option maxRecDepth 100000 in
theorem wX6_nearestOf_b15 {p : Program} {l : Launch} {e : Env} {s : State} {m : MethodId} {args : Array Value} {below : List Frame} {meth : Method} {c : Code} {Q : State → Prop} {G : va_G} {K : Nat → ClassId} {A : Nat → Prop} {tt : Nat → Nat} {L : List Nat} {la : Nat → Nat} {sa : Nat → Nat} {ln : Nat → Int32} {sy : Nat → Int32} {sn : Nat → Int32} {lt : Nat → Nat → Int32} {st : Nat → Nat → Int32} (C0 : CX p s m args c cX6_nearestOf 10 RX6 G K (EC G K tt L la sa ln sy sn lt st) A) (x_a xA_rows rd_a v_a d_a xA_images ac_a er_a xA_hits xA_bodies vA_sizes vA_kinds vA_spelled vA_scheme erA_lastAt erA_fees erA_heavy erA_light erA_over : Nat) (x_begun : Int32) (x_latestFault : Int32) (x_latestFinding : Int32) (v_foot : Int32) (v_feet : Int32) (v_lines : Int32) (v_words : Int32) (v_sizes : Nat → Int32) (v_kinds : Nat → Int32) (v_spelled : Nat → Nat) (v_scheme : Nat → Int32) (p1 : Int32) (p2 : Int32) (p3 : Int32) (r : Int32) (o_er_words : Int32) (o_er_syllables : Int32) (o_er_strong : Int32) (o_er_either : Int32) (o_er_joins : Int32) (o_er_singles : Int32) (o_er_options : Int32) (o_er_least : Int32) (o_er_ways : Int32) (o_er_lastAt : Nat → Int32) (o_er_fees : Nat → Int32) (o_er_heavy : Nat → Int32) (o_er_light : Nat → Int32) (o_er_over : Nat → Int32) (kr : ∀ (H : Heap) (locs : List Loc) (ls : Array Slot) (pc : Nat), decode cX6_nearestOf pc = .ok (.ireturn, 1) → va_P G vwCl (WX6_nearestOf K x_a xA_rows rd_a v_a d_a xA_images ac_a er_a xA_hits xA_bodies vA_sizes vA_kinds vA_spelled vA_scheme erA_lastAt erA_fees erA_heavy erA_light erA_over x_begun x_latestFault x_latestFinding v_foot v_feet v_lines v_words v_sizes v_kinds v_spelled v_scheme o_er_words o_er_syllables o_er_strong o_er_either o_er_joins o_er_singles o_er_options o_er_least o_er_ways o_er_lastAt o_er_fees o_er_heavy o_er_light o_er_over) H → va_D A (WX6_nearestOf K x_a xA_rows rd_a v_a d_a xA_images ac_a er_a xA_hits xA_bodies vA_sizes vA_kinds vA_spelled vA_scheme erA_lastAt erA_fees erA_heavy erA_light erA_over x_begun x_latestFault x_latestFinding v_foot v_feet v_lines v_words v_sizes v_kinds v_spelled v_scheme o_er_words o_er_syllables o_er_strong o_er_either o_er_joins o_er_singles o_er_options o_er_least o_er_ways o_er_lastAt o_er_fees o_er_heavy o_er_light o_er_over) → va_S A s.heap H locs → W p l e rmX6_nearestOf s m args below meth c H locs 0 0 Q (F0 m pc ls [.int r])) (n : Nat) : ∀ (er_words : Int32) (er_syllables : Int32) (er_strong : Int32) (er_either : Int32) (er_joins : Int32) (er_singles : Int32) (er_options : Int32) (er_least : Int32) (er_ways : Int32) (er_lastAt : Nat → Int32) (er_fees : Nat → Int32) (er_heavy : Nat → Int32) (er_light : Nat → Int32) (er_over : Nat → Int32) (x4 : Int32) (x5 : Int32) (x6 : Int32) (x7 : Int32), mX6_nearestOf_b15 L ln sy sn lt v_sizes v_kinds v_spelled p1 p2 p3  n er_words er_syllables er_strong er_either er_joins er_singles er_options er_least er_ways er_lastAt er_fees er_heavy er_light er_over x4 x5 x6 x7 = some (r, o_er_words, o_er_syllables, o_er_strong, o_er_either, o_er_joins, o_er_singles, o_er_options, o_er_least, o_er_ways, o_er_lastAt, o_er_fees, o_er_heavy, o_er_light, o_er_over) → ∀ (H : Heap) (locs : List Loc) (ls : Array Slot), va_P G vwCl (WX6_nearestOf K x_a xA_rows rd_a v_a d_a xA_images ac_a er_a xA_hits xA_bodies vA_sizes vA_kinds vA_spelled vA_scheme erA_lastAt erA_fees erA_heavy erA_light erA_over x_begun x_latestFault x_latestFinding v_foot v_feet v_lines v_words v_sizes v_kinds v_spelled v_scheme er_words er_syllables er_strong er_either er_joins er_singles er_options er_least er_ways er_lastAt er_fees er_heavy er_light er_over) H → va_D A (WX6_nearestOf K x_a xA_rows rd_a v_a d_a xA_images ac_a er_a xA_hits xA_bodies vA_sizes vA_kinds vA_spelled vA_scheme erA_lastAt erA_fees erA_heavy erA_light erA_over x_begun x_latestFault x_latestFinding v_foot v_feet v_lines v_words v_sizes v_kinds v_spelled v_scheme er_words er_syllables er_strong er_either er_joins er_singles er_options er_least er_ways er_lastAt er_fees er_heavy er_light er_over) → va_S A s.heap H locs → lv_has ls 10 [(0, .ref x_a), (1, .int p1), (2, .int p2), (3, .int p3), (4, .int x4), (5, .int x5), (6, .int x6), (7, .int x7)] → W p l e rmX6_nearestOf s m args below meth c H locs 0 0 Q (F0 m 15 ls []) := by
  obtain ⟨hx, hb, hml, hown, hts, hK, hA, hEo, hE⟩ := id C0
  induction n with
  | zero =>
    intro er_words er_syllables er_strong er_either er_joins er_singles er_options er_least er_ways er_lastAt er_fees er_heavy er_light er_over x4 x5 x6 x7 hM
    cases hM
  | succ n ih =>
    intro er_words er_syllables er_strong er_either er_joins er_singles er_options er_least er_ways er_lastAt er_fees er_heavy er_light er_over x4 x5 x6 x7 hM H locs ls hP hD hS hl
    rw [mX6_nearestOf_b15] at hM
    refine lv_iload hx hb dX6_nearestOf_15 (lv_at hl 7 rfl) ?_
    refine va_gets hx hb (sZ0 hE.2.2.1) hS hown (hts _ tb484) (fun _ h9 => h9) dX6_nearestOf_17 ?_
    refine va_tlen hx hb (sV0 hE.2.2.1) hS (v := 4) rfl dX6_nearestOf_20 ?_
    refine lv_icmp_ge (tgt := 90) hx hb dX6_nearestOf_21 (by decide) (fun c_6 => ?_) (fun c_6 => ?_)
    · rw [if_pos c_6] at hM
      refine lv_iload_n hx hb dX6_nearestOf_90 rfl (lv_at hl 3 rfl) ?_
      refine lv_if_ne (tgt := 97) hx hb dX6_nearestOf_91 (by decide) (fun c_7 => ?_) (fun c_7 => ?_)
      · rw [if_neg c_7] at hM
        refine lv_iload_n hx hb dX6_nearestOf_97 rfl (lv_at hl 3 rfl) ?_
        refine lv_iconst (v := 1) hx hb dX6_nearestOf_98 (by decide) ?_
        refine lv_icmp_ne (tgt := 107) hx hb dX6_nearestOf_99 (by decide) (fun c_8 => ?_) (fun c_8 => ?_)
        · rw [if_neg c_8] at hM
          refine lv_iload hx hb dX6_nearestOf_107 (lv_at hl 4 rfl) ?_
          have t0 := Option.some.inj hM
          obtain ⟨q1, t1⟩ := Prod.mk.inj t0
          obtain ⟨q2, t2⟩ := Prod.mk.inj t1
          obtain ⟨q3, t3⟩ := Prod.mk.inj t2
          obtain ⟨q4, t4⟩ := Prod.mk.inj t3
          obtain ⟨q5, t5⟩ := Prod.mk.inj t4
          obtain ⟨q6, t6⟩ := Prod.mk.inj t5
          obtain ⟨q7, t7⟩ := Prod.mk.inj t6
          obtain ⟨q8, t8⟩ := Prod.mk.inj t7
          obtain ⟨q9, t9⟩ := Prod.mk.inj t8
          obtain ⟨q10, t10⟩ := Prod.mk.inj t9
          obtain ⟨q11, t11⟩ := Prod.mk.inj t10
          obtain ⟨q12, t12⟩ := Prod.mk.inj t11
          obtain ⟨q13, t13⟩ := Prod.mk.inj t12
          obtain ⟨q14, t14⟩ := Prod.mk.inj t13
          subst q1
          subst q2
          subst q3
          subst q4
          subst q5
          subst q6
          subst q7
          subst q8
          subst q9
          subst q10
          subst q11
          subst q12
          subst q13
          subst q14
          subst t14
          exact kr _ _ _ _ dX6_nearestOf_109 hP hD hS
        · rw [if_pos c_8] at hM
          refine lv_iload hx hb dX6_nearestOf_102 (lv_at hl 6 rfl) ?_
          refine lv_goto (tgt := 109) hx hb dX6_nearestOf_104 (by decide) ?_
          have t0 := Option.some.inj hM
          obtain ⟨q1, t1⟩ := Prod.mk.inj t0
          obtain ⟨q2, t2⟩ := Prod.mk.inj t1
          obtain ⟨q3, t3⟩ := Prod.mk.inj t2
          obtain ⟨q4, t4⟩ := Prod.mk.inj t3
          obtain ⟨q5, t5⟩ := Prod.mk.inj t4
          obtain ⟨q6, t6⟩ := Prod.mk.inj t5
          obtain ⟨q7, t7⟩ := Prod.mk.inj t6
          obtain ⟨q8, t8⟩ := Prod.mk.inj t7
          obtain ⟨q9, t9⟩ := Prod.mk.inj t8
          obtain ⟨q10, t10⟩ := Prod.mk.inj t9
          obtain ⟨q11, t11⟩ := Prod.mk.inj t10
          obtain ⟨q12, t12⟩ := Prod.mk.inj t11
          obtain ⟨q13, t13⟩ := Prod.mk.inj t12
          obtain ⟨q14, t14⟩ := Prod.mk.inj t13
          subst q1
          subst q2
          subst q3
          subst q4
          subst q5
          subst q6
          subst q7
          subst q8
          subst q9
          subst q10
          subst q11
          subst q12
          subst q13
          subst q14
          subst t14
          exact kr _ _ _ _ dX6_nearestOf_109 hP hD hS
      · rw [if_pos c_7] at hM
        refine lv_iload hx hb dX6_nearestOf_94 (lv_at hl 5 rfl) ?_
        have t0 := Option.some.inj hM
        obtain ⟨q1, t1⟩ := Prod.mk.inj t0
        obtain ⟨q2, t2⟩ := Prod.mk.inj t1
        obtain ⟨q3, t3⟩ := Prod.mk.inj t2
        obtain ⟨q4, t4⟩ := Prod.mk.inj t3
        obtain ⟨q5, t5⟩ := Prod.mk.inj t4
        obtain ⟨q6, t6⟩ := Prod.mk.inj t5
        obtain ⟨q7, t7⟩ := Prod.mk.inj t6
        obtain ⟨q8, t8⟩ := Prod.mk.inj t7
        obtain ⟨q9, t9⟩ := Prod.mk.inj t8
        obtain ⟨q10, t10⟩ := Prod.mk.inj t9
        obtain ⟨q11, t11⟩ := Prod.mk.inj t10
        obtain ⟨q12, t12⟩ := Prod.mk.inj t11
        obtain ⟨q13, t13⟩ := Prod.mk.inj t12
        obtain ⟨q14, t14⟩ := Prod.mk.inj t13
        subst q1
        subst q2
        subst q3
        subst q4
        subst q5
        subst q6
        subst q7
        subst q8
        subst q9
        subst q10
        subst q11
        subst q12
        subst q13
        subst q14
        subst t14
        exact kr _ _ _ _ dX6_nearestOf_96 hP hD hS
    · rw [if_neg c_6] at hM
      refine lv_iconst (v := 1) hx hb dX6_nearestOf_24 (by decide) ?_
      refine lv_istore (lv' := [(8, .int (1 : Int32)), (0, .ref x_a), (1, .int p1), (2, .int p2), (3, .int p3), (4, .int x4), (5, .int x5), (6, .int x6), (7, .int x7)]) hx hb dX6_nearestOf_25 hl (by decide) rfl (fun ls hl => ?_)
      exact wX6_nearestOf_b27 C0 x_a xA_rows rd_a v_a d_a xA_images ac_a er_a xA_hits xA_bodies vA_sizes vA_kinds vA_spelled vA_scheme erA_lastAt erA_fees erA_heavy erA_light erA_over x_begun x_latestFault x_latestFinding v_foot v_feet v_lines v_words v_sizes v_kinds v_spelled v_scheme p1 p2 p3 r o_er_words o_er_syllables o_er_strong o_er_either o_er_joins o_er_singles o_er_options o_er_least o_er_ways o_er_lastAt o_er_fees o_er_heavy o_er_light o_er_over kr (mX6_nearestOf_b15 L ln sy sn lt v_sizes v_kinds v_spelled p1 p2 p3  n) ih FU er_words er_syllables er_strong er_either er_joins er_singles er_options er_least er_ways er_lastAt er_fees er_heavy er_light er_over x4 x5 x6 x7 (1 : Int32) hM _ _ _ hP hD hS (lv_sub hl [1, 2, 3, 4, 5, 6, 7, 8, 0] rfl)
set_option maxHeartbeats 4000000 in
set_option maxRecDepth 100000 in
theorem wX6_nearestOf_b0 {p : Program} {l : Launch} {e : Env} {s : State} {m : MethodId} {args : Array Value} {below : List Frame} {meth : Method} {c : Code} {Q : State → Prop} {G : va_G} {K : Nat → ClassId} {A : Nat → Prop} {tt : Nat → Nat} {L : List Nat} {la : Nat → Nat} {sa : Nat → Nat} {ln : Nat → Int32} {sy : Nat → Int32} {sn : Nat → Int32} {lt : Nat → Nat → Int32} {st : Nat → Nat → Int32} (C0 : CX p s m args c cX6_nearestOf 10 RX6 G K (EC G K tt L la sa ln sy sn lt st) A) (x_a xA_rows rd_a v_a d_a xA_images ac_a er_a xA_hits xA_bodies vA_sizes vA_kinds vA_spelled vA_scheme erA_lastAt erA_fees erA_heavy erA_light erA_over : Nat) (x_begun : Int32) (x_latestFault : Int32) (x_latestFinding : Int32) (v_foot : Int32) (v_feet : Int32) (v_lines : Int32) (v_words : Int32) (v_sizes : Nat → Int32) (v_kinds : Nat → Int32) (v_spelled : Nat → Nat) (v_scheme : Nat → Int32) (p1 : Int32) (p2 : Int32) (p3 : Int32) (r : Int32) (o_er_words : Int32) (o_er_syllables : Int32) (o_er_strong : Int32) (o_er_either : Int32) (o_er_joins : Int32) (o_er_singles : Int32) (o_er_options : Int32) (o_er_least : Int32) (o_er_ways : Int32) (o_er_lastAt : Nat → Int32) (o_er_fees : Nat → Int32) (o_er_heavy : Nat → Int32) (o_er_light : Nat → Int32) (o_er_over : Nat → Int32) (kr : ∀ (H : Heap) (locs : List Loc) (ls : Array Slot) (pc : Nat), decode cX6_nearestOf pc = .ok (.ireturn, 1) → va_P G vwCl (WX6_nearestOf K x_a xA_rows rd_a v_a d_a xA_images ac_a er_a xA_hits xA_bodies vA_sizes vA_kinds vA_spelled vA_scheme erA_lastAt erA_fees erA_heavy erA_light erA_over x_begun x_latestFault x_latestFinding v_foot v_feet v_lines v_words v_sizes v_kinds v_spelled v_scheme o_er_words o_er_syllables o_er_strong o_er_either o_er_joins o_er_singles o_er_options o_er_least o_er_ways o_er_lastAt o_er_fees o_er_heavy o_er_light o_er_over) H → va_D A (WX6_nearestOf K x_a xA_rows rd_a v_a d_a xA_images ac_a er_a xA_hits xA_bodies vA_sizes vA_kinds vA_spelled vA_scheme erA_lastAt erA_fees erA_heavy erA_light erA_over x_begun x_latestFault x_latestFinding v_foot v_feet v_lines v_words v_sizes v_kinds v_spelled v_scheme o_er_words o_er_syllables o_er_strong o_er_either o_er_joins o_er_singles o_er_options o_er_least o_er_ways o_er_lastAt o_er_fees o_er_heavy o_er_light o_er_over) → va_S A s.heap H locs → W p l e rmX6_nearestOf s m args below meth c H locs 0 0 Q (F0 m pc ls [.int r])) (er_words : Int32) (er_syllables : Int32) (er_strong : Int32) (er_either : Int32) (er_joins : Int32) (er_singles : Int32) (er_options : Int32) (er_least : Int32) (er_ways : Int32) (er_lastAt : Nat → Int32) (er_fees : Nat → Int32) (er_heavy : Nat → Int32) (er_light : Nat → Int32) (er_over : Nat → Int32) (hM : mX6_nearestOf_b0 L ln sy sn lt v_sizes v_kinds v_spelled p1 p2 p3  er_words er_syllables er_strong er_either er_joins er_singles er_options er_least er_ways er_lastAt er_fees er_heavy er_light er_over = some (r, o_er_words, o_er_syllables, o_er_strong, o_er_either, o_er_joins, o_er_singles, o_er_options, o_er_least, o_er_ways, o_er_lastAt, o_er_fees, o_er_heavy, o_er_light, o_er_over)) : ∀ (H : Heap) (locs : List Loc) (ls : Array Slot), va_P G vwCl (WX6_nearestOf K x_a xA_rows rd_a v_a d_a xA_images ac_a er_a xA_hits xA_bodies vA_sizes vA_kinds vA_spelled vA_scheme erA_lastAt erA_fees erA_heavy erA_light erA_over x_begun x_latestFault x_latestFinding v_foot v_feet v_lines v_words v_sizes v_kinds v_spelled v_scheme er_words er_syllables er_strong er_either er_joins er_singles er_options er_least er_ways er_lastAt er_fees er_heavy er_light er_over) H → va_D A (WX6_nearestOf K x_a xA_rows rd_a v_a d_a xA_images ac_a er_a xA_hits xA_bodies vA_sizes vA_kinds vA_spelled vA_scheme erA_lastAt erA_fees erA_heavy erA_light erA_over x_begun x_latestFault x_latestFinding v_foot v_feet v_lines v_words v_sizes v_kinds v_spelled v_scheme er_words er_syllables er_strong er_either er_joins er_singles er_options er_least er_ways er_lastAt er_fees er_heavy er_light er_over) → va_S A s.heap H locs → lv_has ls 10 [(0, .ref x_a), (1, .int p1), (2, .int p2), (3, .int p3)] → W p l e rmX6_nearestOf s m args below meth c H locs 0 0 Q (F0 m 0 ls []) := by
  obtain ⟨hx, hb, hml, hown, hts, hK, hA, hEo, hE⟩ := id C0
  intro H locs ls hP hD hS hl
  unfold mX6_nearestOf_b0 at hM
  refine lv_ldc (v := -1000000) hx hb hown (hts _ tb489) dX6_nearestOf_0 ?_
  refine lv_istore (lv' := [(4, .int (-1000000 : Int32)), (0, .ref x_a), (1, .int p1), (2, .int p2), (3, .int p3)]) hx hb dX6_nearestOf_2 hl (by decide) rfl (fun ls hl => ?_)
  refine lv_ldc (v := -1000000) hx hb hown (hts _ tb489) dX6_nearestOf_4 ?_
  refine lv_istore (lv' := [(5, .int (-1000000 : Int32)), (4, .int (-1000000 : Int32)), (0, .ref x_a), (1, .int p1), (2, .int p2), (3, .int p3)]) hx hb dX6_nearestOf_6 hl (by decide) rfl (fun ls hl => ?_)
  refine lv_ldc (v := -1000000) hx hb hown (hts _ tb489) dX6_nearestOf_8 ?_
  refine lv_istore (lv' := [(6, .int (-1000000 : Int32)), (5, .int (-1000000 : Int32)), (4, .int (-1000000 : Int32)), (0, .ref x_a), (1, .int p1), (2, .int p2), (3, .int p3)]) hx hb dX6_nearestOf_10 hl (by decide) rfl (fun ls hl => ?_)
  refine lv_iconst (v := 0) hx hb dX6_nearestOf_12 (by decide) ?_
  refine lv_istore (lv' := [(7, .int (0 : Int32)), (6, .int (-1000000 : Int32)), (5, .int (-1000000 : Int32)), (4, .int (-1000000 : Int32)), (0, .ref x_a), (1, .int p1), (2, .int p2), (3, .int p3)]) hx hb dX6_nearestOf_13 hl (by decide) rfl (fun ls hl => ?_)
  exact wX6_nearestOf_b15 C0 x_a xA_rows rd_a v_a d_a xA_images ac_a er_a xA_hits xA_bodies vA_sizes vA_kinds vA_spelled vA_scheme erA_lastAt erA_fees erA_heavy erA_light erA_over x_begun x_latestFault x_latestFinding v_foot v_feet v_lines v_words v_sizes v_kinds v_spelled v_scheme p1 p2 p3 r o_er_words o_er_syllables o_er_strong o_er_either o_er_joins o_er_singles o_er_options o_er_least o_er_ways o_er_lastAt o_er_fees o_er_heavy o_er_light o_er_over kr  FU er_words er_syllables er_strong er_either er_joins er_singles er_options er_least er_ways er_lastAt er_fees er_heavy er_light er_over (-1000000 : Int32) (-1000000 : Int32) (-1000000 : Int32) (0 : Int32) hM _ _ _ hP hD hS (lv_sub hl [4, 5, 6, 7, 3, 2, 1, 0] rfl)
set_option maxHeartbeats 4000000 in
set_option maxRecDepth 100000 in
theorem kX6_nearestOf (l : Launch) (G : va_G) (K : Nat → ClassId) (tt : Nat → Nat) (L : List Nat) (la : Nat → Nat) (sa : Nat → Nat) (ln : Nat → Int32) (sy : Nat → Int32) (sn : Nat → Int32) (lt : Nat → Nat → Int32) (st : Nat → Nat → Int32) (x_a xA_rows rd_a v_a d_a xA_images ac_a er_a xA_hits xA_bodies vA_sizes vA_kinds vA_spelled vA_scheme erA_lastAt erA_fees erA_heavy erA_light erA_over : Nat) (x_begun : Int32) (x_latestFault : Int32) (x_latestFinding : Int32) (v_foot : Int32) (v_feet : Int32) (v_lines : Int32) (v_words : Int32) (v_sizes : Nat → Int32) (v_kinds : Nat → Int32) (v_spelled : Nat → Nat) (v_scheme : Nat → Int32) (er_words : Int32) (er_syllables : Int32) (er_strong : Int32) (er_either : Int32) (er_joins : Int32) (er_singles : Int32) (er_options : Int32) (er_least : Int32) (er_ways : Int32) (er_lastAt : Nat → Int32) (er_fees : Nat → Int32) (er_heavy : Nat → Int32) (er_light : Nat → Int32) (er_over : Nat → Int32) (p1 : Int32) (p2 : Int32) (p3 : Int32) (sz : Nat) (r : Int32) (o_er_words : Int32) (o_er_syllables : Int32) (o_er_strong : Int32) (o_er_either : Int32) (o_er_joins : Int32) (o_er_singles : Int32) (o_er_options : Int32) (o_er_least : Int32) (o_er_ways : Int32) (o_er_lastAt : Nat → Int32) (o_er_fees : Nat → Int32) (o_er_heavy : Nat → Int32) (o_er_light : Nat → Int32) (o_er_over : Nat → Int32) (hM : mX6_nearestOf L ln sy sn lt v_sizes v_kinds v_spelled er_words er_syllables er_strong er_either er_joins er_singles er_options er_least er_ways er_lastAt er_fees er_heavy er_light er_over p1 p2 p3 = some (r, o_er_words, o_er_syllables, o_er_strong, o_er_either, o_er_joins, o_er_singles, o_er_options, o_er_least, o_er_ways, o_er_lastAt, o_er_fees, o_er_heavy, o_er_light, o_er_over)) : Met l yX6_nearestOf (mC yX6_nearestOf cX6_nearestOf 10 (some .int)) rmX6_nearestOf (va_Pc [.ref x_a, .int p1, .int p2, .int p3] (PCe G K (EC G K tt L la sa ln sy sn lt st) (WX6_nearestOf K x_a xA_rows rd_a v_a d_a xA_images ac_a er_a xA_hits xA_bodies vA_sizes vA_kinds vA_spelled vA_scheme erA_lastAt erA_fees erA_heavy erA_light erA_over x_begun x_latestFault x_latestFinding v_foot v_feet v_lines v_words v_sizes v_kinds v_spelled v_scheme er_words er_syllables er_strong er_either er_joins er_singles er_options er_least er_ways er_lastAt er_fees er_heavy er_light er_over) sz)) (va_Qi (fun (x : Int32) (_ : Unit) => x = r) (fun _ t => va_P G vwCl (WX6_nearestOf K x_a xA_rows rd_a v_a d_a xA_images ac_a er_a xA_hits xA_bodies vA_sizes vA_kinds vA_spelled vA_scheme erA_lastAt erA_fees erA_heavy erA_light erA_over x_begun x_latestFault x_latestFinding v_foot v_feet v_lines v_words v_sizes v_kinds v_spelled v_scheme o_er_words o_er_syllables o_er_strong o_er_either o_er_joins o_er_singles o_er_options o_er_least o_er_ways o_er_lastAt o_er_fees o_er_heavy o_er_light o_er_over) t.heap) (va_A (WX6_nearestOf K x_a xA_rows rd_a v_a d_a xA_images ac_a er_a xA_hits xA_bodies vA_sizes vA_kinds vA_spelled vA_scheme erA_lastAt erA_fees erA_heavy erA_light erA_over x_begun x_latestFault x_latestFinding v_foot v_feet v_lines v_words v_sizes v_kinds v_spelled v_scheme er_words er_syllables er_strong er_either er_joins er_singles er_options er_least er_ways er_lastAt er_fees er_heavy er_light er_over) sz)) rmX6_nearestOf.cells rmX6_nearestOf.slots (va_A (WX6_nearestOf K x_a xA_rows rd_a v_a d_a xA_images ac_a er_a xA_hits xA_bodies vA_sizes vA_kinds vA_spelled vA_scheme erA_lastAt erA_fees erA_heavy erA_light erA_over x_begun x_latestFault x_latestFinding v_foot v_feet v_lines v_words v_sizes v_kinds v_spelled v_scheme er_words er_syllables er_strong er_either er_joins er_singles er_options er_least er_ways er_lastAt er_fees er_heavy er_light er_over) sz) := by
  refine Met.ofW (cc := cX6_nearestOf) (maxL := 10) (ret := (some .int)) (by decide) rfl ?_
  intro p e s m args below meth c s₁ B hml hv
  obtain ⟨rfl, hsz, hP, hK, hD0, hE⟩ := hv
  have hx := B.exec
  have hb := B.bytes
  have hr := B.returns
  have hts0 := atoms_spec (ws := mC yX6_nearestOf cX6_nearestOf 10 (some .int)) B.pre
  have hts : ∀ w ∈ tbG, w.before _ s = true := fun w h => hts0 w (List.mem_cons_of_mem _ h)
  have hown : s.vm.findClass RX6 = some m.cls := findClass_of_methodNamed B.named
  subst hsz
  have hD := hD0.self (sz := s.heap.size)
  generalize hAe : va_A (WX6_nearestOf K x_a xA_rows rd_a v_a d_a xA_images ac_a er_a xA_hits xA_bodies vA_sizes vA_kinds vA_spelled vA_scheme erA_lastAt erA_fees erA_heavy erA_light erA_over x_begun x_latestFault x_latestFinding v_foot v_feet v_lines v_words v_sizes v_kinds v_spelled v_scheme er_words er_syllables er_strong er_either er_joins er_singles er_options er_least er_ways er_lastAt er_fees er_heavy er_light er_over) s.heap.size = A at hD hE ⊢
  have hA : ∀ q : Nat, s.heap.size ≤ q → A q := fun q h => by rw [← hAe]; exact Or.inr h
  have hS : va_S A s.heap s.heap [] := va_S.rf
  have hl := lv_entry ([.ref x_a, .int p1, .int p2, .int p3]) (n := 10) (Nat.le_of_ble_eq_true rfl)
  rw [lg_entry_eq]
  generalize (lg_sl ([.ref x_a, .int p1, .int p2, .int p3]) ++ List.replicate (10 - (lg_sl ([.ref x_a, .int p1, .int p2, .int p3])).length) Slot.unset).toArray = ls at hl ⊢
  have hl : lv_has ls 10 [(0, .ref x_a), (1, .int p1), (2, .int p2), (3, .int p3)] := hl
  exact wX6_nearestOf_b0 ⟨hx, hb, hml, hown, hts, hK, hA, EC_ok _ _ _ _ _ _ _ _ _ _ _, hE⟩ x_a xA_rows rd_a v_a d_a xA_images ac_a er_a xA_hits xA_bodies vA_sizes vA_kinds vA_spelled vA_scheme erA_lastAt erA_fees erA_heavy erA_light erA_over x_begun x_latestFault x_latestFinding v_foot v_feet v_lines v_words v_sizes v_kinds v_spelled v_scheme p1 p2 p3 r o_er_words o_er_syllables o_er_strong o_er_either o_er_joins o_er_singles o_er_options o_er_least o_er_ways o_er_lastAt o_er_fees o_er_heavy o_er_light o_er_over (fun H locs ls pc hdg hP hD hS => W.iret (v := r) hx hb hr (fun t ht hW => ⟨⟨r, (), rfl, rfl, (show va_P G vwCl _ t.heap by rw [ht]; exact hP)⟩, hS.F ht⟩) hS.2.2 hdg) er_words er_syllables er_strong er_either er_joins er_singles er_options er_least er_ways er_lastAt er_fees er_heavy er_light er_over  hM _ _ _ hP hD hS hl
abbrev WX6_nearest (K : Nat → ClassId) (x_a xA_rows rd_a v_a d_a xA_images ac_a er_a xA_hits xA_bodies vA_sizes vA_kinds vA_spelled vA_scheme erA_lastAt erA_fees erA_heavy erA_light erA_over : Nat) (x_begun : Int32) (x_latestFault : Int32) (x_latestFinding : Int32) (v_foot : Int32) (v_feet : Int32) (v_lines : Int32) (v_words : Int32) (v_sizes : Nat → Int32) (v_kinds : Nat → Int32) (v_spelled : Nat → Nat) (v_scheme : Nat → Int32) (er_words : Int32) (er_syllables : Int32) (er_strong : Int32) (er_either : Int32) (er_joins : Int32) (er_singles : Int32) (er_options : Int32) (er_least : Int32) (er_ways : Int32) (er_lastAt : Nat → Int32) (er_fees : Nat → Int32) (er_heavy : Nat → Int32) (er_light : Nat → Int32) (er_over : Nat → Int32) : va_W := [(x_a, .inr (6, [.ref xA_rows, .ref rd_a, .ref v_a, .ref d_a, .ref xA_images, .ref ac_a, .ref er_a, .ref xA_hits, .ref xA_bodies, .int x_begun, .int x_latestFault, .int x_latestFinding])), (v_a, .inr (2, [.int v_foot, .int v_feet, .int v_lines, .int v_words, .ref vA_sizes, .ref vA_kinds, .ref vA_spelled, .ref vA_scheme])), aI K vA_sizes 4 v_sizes, aI K vA_kinds 20 v_kinds, aS K vA_spelled 20 v_spelled, aI K vA_scheme 4 v_scheme, (er_a, .inr (1, [.int er_words, .int er_syllables, .int er_strong, .int er_either, .int er_joins, .int er_singles, .ref erA_lastAt, .int er_options, .ref erA_fees, .ref erA_heavy, .ref erA_light, .ref erA_over, .int er_least, .int er_ways])), aI K erA_lastAt 5 er_lastAt, aI K erA_fees 32 er_fees, aI K erA_heavy 32 er_heavy, aI K erA_light 32 er_light, aI K erA_over 32 er_over]
def rmX6_nearest : Room := { frames := 6, cells := 0, slots := 0, locals := 159 }
theorem hdX6_nearest : yX6_nearest.cls = RX6 ∧ yX6_nearest.cls ≠ "java/lang/invoke/MethodHandle" ∧ yX6_nearest.cls ≠ "java/lang/invoke/VarHandle" ∧ (parseMethodDescriptor yX6_nearest.desc).map (fun d => d.parameters.length) = some 2 := by decide +kernel
set_option maxHeartbeats 4000000 in
set_option maxRecDepth 100000 in
theorem wX6_nearest_b0 {p : Program} {l : Launch} {e : Env} {s : State} {m : MethodId} {args : Array Value} {below : List Frame} {meth : Method} {c : Code} {Q : State → Prop} {G : va_G} {K : Nat → ClassId} {A : Nat → Prop} {tt : Nat → Nat} {L : List Nat} {la : Nat → Nat} {sa : Nat → Nat} {ln : Nat → Int32} {sy : Nat → Int32} {sn : Nat → Int32} {lt : Nat → Nat → Int32} {st : Nat → Nat → Int32} (C0 : CX p s m args c cX6_nearest 3 RX6 G K (EC G K tt L la sa ln sy sn lt st) A) (x_a xA_rows rd_a v_a d_a xA_images ac_a er_a xA_hits xA_bodies vA_sizes vA_kinds vA_spelled vA_scheme erA_lastAt erA_fees erA_heavy erA_light erA_over : Nat) (x_begun : Int32) (x_latestFault : Int32) (x_latestFinding : Int32) (v_foot : Int32) (v_feet : Int32) (v_lines : Int32) (v_words : Int32) (v_sizes : Nat → Int32) (v_kinds : Nat → Int32) (v_spelled : Nat → Nat) (v_scheme : Nat → Int32) (p1 : Int32) (p2 : Int32) (r : Int32) (o_er_words : Int32) (o_er_syllables : Int32) (o_er_strong : Int32) (o_er_either : Int32) (o_er_joins : Int32) (o_er_singles : Int32) (o_er_options : Int32) (o_er_least : Int32) (o_er_ways : Int32) (o_er_lastAt : Nat → Int32) (o_er_fees : Nat → Int32) (o_er_heavy : Nat → Int32) (o_er_light : Nat → Int32) (o_er_over : Nat → Int32) (kr : ∀ (H : Heap) (locs : List Loc) (ls : Array Slot) (pc : Nat), decode cX6_nearest pc = .ok (.ireturn, 1) → va_P G vwCl (WX6_nearest K x_a xA_rows rd_a v_a d_a xA_images ac_a er_a xA_hits xA_bodies vA_sizes vA_kinds vA_spelled vA_scheme erA_lastAt erA_fees erA_heavy erA_light erA_over x_begun x_latestFault x_latestFinding v_foot v_feet v_lines v_words v_sizes v_kinds v_spelled v_scheme o_er_words o_er_syllables o_er_strong o_er_either o_er_joins o_er_singles o_er_options o_er_least o_er_ways o_er_lastAt o_er_fees o_er_heavy o_er_light o_er_over) H → va_D A (WX6_nearest K x_a xA_rows rd_a v_a d_a xA_images ac_a er_a xA_hits xA_bodies vA_sizes vA_kinds vA_spelled vA_scheme erA_lastAt erA_fees erA_heavy erA_light erA_over x_begun x_latestFault x_latestFinding v_foot v_feet v_lines v_words v_sizes v_kinds v_spelled v_scheme o_er_words o_er_syllables o_er_strong o_er_either o_er_joins o_er_singles o_er_options o_er_least o_er_ways o_er_lastAt o_er_fees o_er_heavy o_er_light o_er_over) → va_S A s.heap H locs → W p l e rmX6_nearest s m args below meth c H locs 0 0 Q (F0 m pc ls [.int r])) (er_words : Int32) (er_syllables : Int32) (er_strong : Int32) (er_either : Int32) (er_joins : Int32) (er_singles : Int32) (er_options : Int32) (er_least : Int32) (er_ways : Int32) (er_lastAt : Nat → Int32) (er_fees : Nat → Int32) (er_heavy : Nat → Int32) (er_light : Nat → Int32) (er_over : Nat → Int32) (hM : mX6_nearest_b0 L ln sy sn lt v_lines v_sizes v_kinds v_spelled p1 p2  er_words er_syllables er_strong er_either er_joins er_singles er_options er_least er_ways er_lastAt er_fees er_heavy er_light er_over = some (r, o_er_words, o_er_syllables, o_er_strong, o_er_either, o_er_joins, o_er_singles, o_er_options, o_er_least, o_er_ways, o_er_lastAt, o_er_fees, o_er_heavy, o_er_light, o_er_over)) : ∀ (H : Heap) (locs : List Loc) (ls : Array Slot), va_P G vwCl (WX6_nearest K x_a xA_rows rd_a v_a d_a xA_images ac_a er_a xA_hits xA_bodies vA_sizes vA_kinds vA_spelled vA_scheme erA_lastAt erA_fees erA_heavy erA_light erA_over x_begun x_latestFault x_latestFinding v_foot v_feet v_lines v_words v_sizes v_kinds v_spelled v_scheme er_words er_syllables er_strong er_either er_joins er_singles er_options er_least er_ways er_lastAt er_fees er_heavy er_light er_over) H → va_D A (WX6_nearest K x_a xA_rows rd_a v_a d_a xA_images ac_a er_a xA_hits xA_bodies vA_sizes vA_kinds vA_spelled vA_scheme erA_lastAt erA_fees erA_heavy erA_light erA_over x_begun x_latestFault x_latestFinding v_foot v_feet v_lines v_words v_sizes v_kinds v_spelled v_scheme er_words er_syllables er_strong er_either er_joins er_singles er_options er_least er_ways er_lastAt er_fees er_heavy er_light er_over) → va_S A s.heap H locs → lv_has ls 3 [(0, .ref x_a), (1, .int p1), (2, .int p2)] → W p l e rmX6_nearest s m args below meth c H locs 0 0 Q (F0 m 0 ls []) := by
  obtain ⟨hx, hb, hml, hown, hts, hK, hA, hEo, hE⟩ := id C0
  intro H locs ls hP hD hS hl
  unfold mX6_nearest_b0 at hM
  refine lv_aload_n hx hb dX6_nearest_0 rfl (lv_at hl 0 rfl) ?_
  refine va_get (D := G) (ci := 6) (v := .ref v_a) (C := RX6) (T := TX6) (N := 12) hx hb hts inX6 hown hK hP 0 rfl rfl 2 (by decide) (hts _ tb247) (fun _ h9 => h9) rfl dX6_nearest_1 ?_
  refine lv_iload_n hx hb dX6_nearest_4 rfl (lv_at hl 1 rfl) ?_
  obtain ⟨r_1, hC, hM⟩ := oe1 hM
  refine cV_i (As := [.int p1]) (rest := []) C0 hP hD hS [1, 2, 3, 4, 5] (kX2_hasLine l G K tt L la sa ln sy sn lt st v_a vA_sizes vA_kinds vA_spelled vA_scheme v_foot v_feet v_lines v_words v_sizes v_kinds v_spelled v_scheme p1 H.size r_1 hC) rfl rfl rfl tb445 tb393 tb394 tb7 tb395 hdX2_hasLine (va_recv hK hP (ci := 2) (q0 := 1) rfl rfl) ⟨Nat.le_of_ble_eq_true rfl, Nat.le_of_ble_eq_true rfl⟩ rfl hl.1 (Nat.le_of_ble_eq_true rfl) rfl ⟨Nat.le_refl _, Nat.le_refl _⟩ dX6_nearest_5 (fun H locs hP hD hS => ?_)
  have hP : va_P G vwCl (WX6_nearest K x_a xA_rows rd_a v_a d_a xA_images ac_a er_a xA_hits xA_bodies vA_sizes vA_kinds vA_spelled vA_scheme erA_lastAt erA_fees erA_heavy erA_light erA_over x_begun x_latestFault x_latestFinding v_foot v_feet v_lines v_words v_sizes v_kinds v_spelled v_scheme er_words er_syllables er_strong er_either er_joins er_singles er_options er_least er_ways er_lastAt er_fees er_heavy er_light er_over) H := hP
  have hD : va_D A (WX6_nearest K x_a xA_rows rd_a v_a d_a xA_images ac_a er_a xA_hits xA_bodies vA_sizes vA_kinds vA_spelled vA_scheme erA_lastAt erA_fees erA_heavy erA_light erA_over x_begun x_latestFault x_latestFinding v_foot v_feet v_lines v_words v_sizes v_kinds v_spelled v_scheme er_words er_syllables er_strong er_either er_joins er_singles er_options er_least er_ways er_lastAt er_fees er_heavy er_light er_over) := hD
  refine lv_if_eq (tgt := 20) hx hb dX6_nearest_8 (by decide) (fun c_2 => ?_) (fun c_2 => ?_)
  · rw [if_pos c_2] at hM
    refine lv_ldc (v := -1000001) hx hb hown (hts _ tb289) dX6_nearest_20 ?_
    have t0 := Option.some.inj hM
    obtain ⟨q1, t1⟩ := Prod.mk.inj t0
    obtain ⟨q2, t2⟩ := Prod.mk.inj t1
    obtain ⟨q3, t3⟩ := Prod.mk.inj t2
    obtain ⟨q4, t4⟩ := Prod.mk.inj t3
    obtain ⟨q5, t5⟩ := Prod.mk.inj t4
    obtain ⟨q6, t6⟩ := Prod.mk.inj t5
    obtain ⟨q7, t7⟩ := Prod.mk.inj t6
    obtain ⟨q8, t8⟩ := Prod.mk.inj t7
    obtain ⟨q9, t9⟩ := Prod.mk.inj t8
    obtain ⟨q10, t10⟩ := Prod.mk.inj t9
    obtain ⟨q11, t11⟩ := Prod.mk.inj t10
    obtain ⟨q12, t12⟩ := Prod.mk.inj t11
    obtain ⟨q13, t13⟩ := Prod.mk.inj t12
    obtain ⟨q14, t14⟩ := Prod.mk.inj t13
    subst q1
    subst q2
    subst q3
    subst q4
    subst q5
    subst q6
    subst q7
    subst q8
    subst q9
    subst q10
    subst q11
    subst q12
    subst q13
    subst q14
    subst t14
    exact kr _ _ _ _ dX6_nearest_22 hP hD hS
  · rw [if_neg c_2] at hM
    refine lv_iload_n hx hb dX6_nearest_11 rfl (lv_at hl 2 rfl) ?_
    refine lv_if_lt (tgt := 20) hx hb dX6_nearest_12 (by decide) (fun c_3 => ?_) (fun c_3 => ?_)
    · rw [if_pos c_3] at hM
      refine lv_ldc (v := -1000001) hx hb hown (hts _ tb289) dX6_nearest_20 ?_
      have t0 := Option.some.inj hM
      obtain ⟨q1, t1⟩ := Prod.mk.inj t0
      obtain ⟨q2, t2⟩ := Prod.mk.inj t1
      obtain ⟨q3, t3⟩ := Prod.mk.inj t2
      obtain ⟨q4, t4⟩ := Prod.mk.inj t3
      obtain ⟨q5, t5⟩ := Prod.mk.inj t4
      obtain ⟨q6, t6⟩ := Prod.mk.inj t5
      obtain ⟨q7, t7⟩ := Prod.mk.inj t6
      obtain ⟨q8, t8⟩ := Prod.mk.inj t7
      obtain ⟨q9, t9⟩ := Prod.mk.inj t8
      obtain ⟨q10, t10⟩ := Prod.mk.inj t9
      obtain ⟨q11, t11⟩ := Prod.mk.inj t10
      obtain ⟨q12, t12⟩ := Prod.mk.inj t11
      obtain ⟨q13, t13⟩ := Prod.mk.inj t12
      obtain ⟨q14, t14⟩ := Prod.mk.inj t13
      subst q1
      subst q2
      subst q3
      subst q4
      subst q5
      subst q6
      subst q7
      subst q8
      subst q9
      subst q10
      subst q11
      subst q12
      subst q13
      subst q14
      subst t14
      exact kr _ _ _ _ dX6_nearest_22 hP hD hS
    · rw [if_neg c_3] at hM
      refine lv_iload_n hx hb dX6_nearest_15 rfl (lv_at hl 2 rfl) ?_
      refine lv_iconst (v := 2) hx hb dX6_nearest_16 (by decide) ?_
      refine lv_icmp_le (tgt := 23) hx hb dX6_nearest_17 (by decide) (fun c_4 => ?_) (fun c_4 => ?_)
      · rw [if_pos c_4] at hM
        refine lv_aload_n hx hb dX6_nearest_23 rfl (lv_at hl 0 rfl) ?_
        refine lv_iload_n hx hb dX6_nearest_24 rfl (lv_at hl 1 rfl) ?_
        refine lv_iload_n hx hb dX6_nearest_25 rfl (lv_at hl 1 rfl) ?_
        refine lv_iconst (v := 1) hx hb dX6_nearest_26 (by decide) ?_
        refine lv_iadd hx hb dX6_nearest_27 ?_
        refine lv_iload_n hx hb dX6_nearest_28 rfl (lv_at hl 2 rfl) ?_
        obtain ⟨r_5, u0_5, u1_5, u2_5, u3_5, u4_5, u5_5, u6_5, u7_5, u8_5, u9_5, u10_5, u11_5, u12_5, u13_5, hC, hM⟩ := oe15 hM
        refine cV_i (As := [.int p1, .int (p1 + (1 : Int32)), .int p2]) (rest := []) C0 hP hD hS [0, 1, 2, 3, 4, 5, 6, 7, 8, 9, 10, 11] (kX6_nearestOf l G K tt L la sa ln sy sn lt st x_a xA_rows rd_a v_a d_a xA_images ac_a er_a xA_hits xA_bodies vA_sizes vA_kinds vA_spelled vA_scheme erA_lastAt erA_fees erA_heavy erA_light erA_over x_begun x_latestFault x_latestFinding v_foot v_feet v_lines v_words v_sizes v_kinds v_spelled v_scheme er_words er_syllables er_strong er_either er_joins er_singles er_options er_least er_ways er_lastAt er_fees er_heavy er_light er_over p1 (p1 + (1 : Int32)) p2 H.size r_5 u0_5 u1_5 u2_5 u3_5 u4_5 u5_5 u6_5 u7_5 u8_5 u9_5 u10_5 u11_5 u12_5 u13_5 hC) rfl rfl rfl tb607 tb609 tp1 tb1 tb610 hdX6_nearestOf (va_recv hK hP (ci := 6) (q0 := 0) rfl rfl) ⟨Nat.le_of_ble_eq_true rfl, Nat.le_of_ble_eq_true rfl⟩ rfl hl.1 (Nat.le_of_ble_eq_true rfl) rfl ⟨Nat.le_refl _, Nat.le_refl _⟩ dX6_nearest_29 (fun H locs hP hD hS => ?_)
        have hP : va_P G vwCl (WX6_nearest K x_a xA_rows rd_a v_a d_a xA_images ac_a er_a xA_hits xA_bodies vA_sizes vA_kinds vA_spelled vA_scheme erA_lastAt erA_fees erA_heavy erA_light erA_over x_begun x_latestFault x_latestFinding v_foot v_feet v_lines v_words v_sizes v_kinds v_spelled v_scheme u0_5 u1_5 u2_5 u3_5 u4_5 u5_5 u6_5 u7_5 u8_5 u9_5 u10_5 u11_5 u12_5 u13_5) H := hP
        have hD : va_D A (WX6_nearest K x_a xA_rows rd_a v_a d_a xA_images ac_a er_a xA_hits xA_bodies vA_sizes vA_kinds vA_spelled vA_scheme erA_lastAt erA_fees erA_heavy erA_light erA_over x_begun x_latestFault x_latestFinding v_foot v_feet v_lines v_words v_sizes v_kinds v_spelled v_scheme u0_5 u1_5 u2_5 u3_5 u4_5 u5_5 u6_5 u7_5 u8_5 u9_5 u10_5 u11_5 u12_5 u13_5) := hD
        have t0 := Option.some.inj hM
        obtain ⟨q1, t1⟩ := Prod.mk.inj t0
        obtain ⟨q2, t2⟩ := Prod.mk.inj t1
        obtain ⟨q3, t3⟩ := Prod.mk.inj t2
        obtain ⟨q4, t4⟩ := Prod.mk.inj t3
        obtain ⟨q5, t5⟩ := Prod.mk.inj t4
        obtain ⟨q6, t6⟩ := Prod.mk.inj t5
        obtain ⟨q7, t7⟩ := Prod.mk.inj t6
        obtain ⟨q8, t8⟩ := Prod.mk.inj t7
        obtain ⟨q9, t9⟩ := Prod.mk.inj t8
        obtain ⟨q10, t10⟩ := Prod.mk.inj t9
        obtain ⟨q11, t11⟩ := Prod.mk.inj t10
        obtain ⟨q12, t12⟩ := Prod.mk.inj t11
        obtain ⟨q13, t13⟩ := Prod.mk.inj t12
        obtain ⟨q14, t14⟩ := Prod.mk.inj t13
        subst q1
        subst q2
        subst q3
        subst q4
        subst q5
        subst q6
        subst q7
        subst q8
        subst q9
        subst q10
        subst q11
        subst q12
        subst q13
        subst q14
        subst t14
        exact kr _ _ _ _ dX6_nearest_32 hP hD hS
      · rw [if_neg c_4] at hM
        refine lv_ldc (v := -1000001) hx hb hown (hts _ tb289) dX6_nearest_20 ?_
        have t0 := Option.some.inj hM
        obtain ⟨q1, t1⟩ := Prod.mk.inj t0
        obtain ⟨q2, t2⟩ := Prod.mk.inj t1
        obtain ⟨q3, t3⟩ := Prod.mk.inj t2
        obtain ⟨q4, t4⟩ := Prod.mk.inj t3
        obtain ⟨q5, t5⟩ := Prod.mk.inj t4
        obtain ⟨q6, t6⟩ := Prod.mk.inj t5
        obtain ⟨q7, t7⟩ := Prod.mk.inj t6
        obtain ⟨q8, t8⟩ := Prod.mk.inj t7
        obtain ⟨q9, t9⟩ := Prod.mk.inj t8
        obtain ⟨q10, t10⟩ := Prod.mk.inj t9
        obtain ⟨q11, t11⟩ := Prod.mk.inj t10
        obtain ⟨q12, t12⟩ := Prod.mk.inj t11
        obtain ⟨q13, t13⟩ := Prod.mk.inj t12
        obtain ⟨q14, t14⟩ := Prod.mk.inj t13
        subst q1
        subst q2
        subst q3
        subst q4
        subst q5
        subst q6
        subst q7
        subst q8
        subst q9
        subst q10
        subst q11
        subst q12
        subst q13
        subst q14
        subst t14
        exact kr _ _ _ _ dX6_nearest_22 hP hD hS
set_option maxHeartbeats 4000000 in
set_option maxRecDepth 100000 in
theorem kX6_nearest (l : Launch) (G : va_G) (K : Nat → ClassId) (tt : Nat → Nat) (L : List Nat) (la : Nat → Nat) (sa : Nat → Nat) (ln : Nat → Int32) (sy : Nat → Int32) (sn : Nat → Int32) (lt : Nat → Nat → Int32) (st : Nat → Nat → Int32) (x_a xA_rows rd_a v_a d_a xA_images ac_a er_a xA_hits xA_bodies vA_sizes vA_kinds vA_spelled vA_scheme erA_lastAt erA_fees erA_heavy erA_light erA_over : Nat) (x_begun : Int32) (x_latestFault : Int32) (x_latestFinding : Int32) (v_foot : Int32) (v_feet : Int32) (v_lines : Int32) (v_words : Int32) (v_sizes : Nat → Int32) (v_kinds : Nat → Int32) (v_spelled : Nat → Nat) (v_scheme : Nat → Int32) (er_words : Int32) (er_syllables : Int32) (er_strong : Int32) (er_either : Int32) (er_joins : Int32) (er_singles : Int32) (er_options : Int32) (er_least : Int32) (er_ways : Int32) (er_lastAt : Nat → Int32) (er_fees : Nat → Int32) (er_heavy : Nat → Int32) (er_light : Nat → Int32) (er_over : Nat → Int32) (p1 : Int32) (p2 : Int32) (sz : Nat) (r : Int32) (o_er_words : Int32) (o_er_syllables : Int32) (o_er_strong : Int32) (o_er_either : Int32) (o_er_joins : Int32) (o_er_singles : Int32) (o_er_options : Int32) (o_er_least : Int32) (o_er_ways : Int32) (o_er_lastAt : Nat → Int32) (o_er_fees : Nat → Int32) (o_er_heavy : Nat → Int32) (o_er_light : Nat → Int32) (o_er_over : Nat → Int32) (hM : mX6_nearest L ln sy sn lt v_lines v_sizes v_kinds v_spelled er_words er_syllables er_strong er_either er_joins er_singles er_options er_least er_ways er_lastAt er_fees er_heavy er_light er_over p1 p2 = some (r, o_er_words, o_er_syllables, o_er_strong, o_er_either, o_er_joins, o_er_singles, o_er_options, o_er_least, o_er_ways, o_er_lastAt, o_er_fees, o_er_heavy, o_er_light, o_er_over)) : Met l yX6_nearest (mC yX6_nearest cX6_nearest 3 (some .int)) rmX6_nearest (va_Pc [.ref x_a, .int p1, .int p2] (PCe G K (EC G K tt L la sa ln sy sn lt st) (WX6_nearest K x_a xA_rows rd_a v_a d_a xA_images ac_a er_a xA_hits xA_bodies vA_sizes vA_kinds vA_spelled vA_scheme erA_lastAt erA_fees erA_heavy erA_light erA_over x_begun x_latestFault x_latestFinding v_foot v_feet v_lines v_words v_sizes v_kinds v_spelled v_scheme er_words er_syllables er_strong er_either er_joins er_singles er_options er_least er_ways er_lastAt er_fees er_heavy er_light er_over) sz)) (va_Qi (fun (x : Int32) (_ : Unit) => x = r) (fun _ t => va_P G vwCl (WX6_nearest K x_a xA_rows rd_a v_a d_a xA_images ac_a er_a xA_hits xA_bodies vA_sizes vA_kinds vA_spelled vA_scheme erA_lastAt erA_fees erA_heavy erA_light erA_over x_begun x_latestFault x_latestFinding v_foot v_feet v_lines v_words v_sizes v_kinds v_spelled v_scheme o_er_words o_er_syllables o_er_strong o_er_either o_er_joins o_er_singles o_er_options o_er_least o_er_ways o_er_lastAt o_er_fees o_er_heavy o_er_light o_er_over) t.heap) (va_A (WX6_nearest K x_a xA_rows rd_a v_a d_a xA_images ac_a er_a xA_hits xA_bodies vA_sizes vA_kinds vA_spelled vA_scheme erA_lastAt erA_fees erA_heavy erA_light erA_over x_begun x_latestFault x_latestFinding v_foot v_feet v_lines v_words v_sizes v_kinds v_spelled v_scheme er_words er_syllables er_strong er_either er_joins er_singles er_options er_least er_ways er_lastAt er_fees er_heavy er_light er_over) sz)) rmX6_nearest.cells rmX6_nearest.slots (va_A (WX6_nearest K x_a xA_rows rd_a v_a d_a xA_images ac_a er_a xA_hits xA_bodies vA_sizes vA_kinds vA_spelled vA_scheme erA_lastAt erA_fees erA_heavy erA_light erA_over x_begun x_latestFault x_latestFinding v_foot v_feet v_lines v_words v_sizes v_kinds v_spelled v_scheme er_words er_syllables er_strong er_either er_joins er_singles er_options er_least er_ways er_lastAt er_fees er_heavy er_light er_over) sz) := by
  refine Met.ofW (cc := cX6_nearest) (maxL := 3) (ret := (some .int)) (by decide) rfl ?_
  intro p e s m args below meth c s₁ B hml hv
  obtain ⟨rfl, hsz, hP, hK, hD0, hE⟩ := hv
  have hx := B.exec
  have hb := B.bytes
  have hr := B.returns
  have hts0 := atoms_spec (ws := mC yX6_nearest cX6_nearest 3 (some .int)) B.pre
  have hts : ∀ w ∈ tbG, w.before _ s = true := fun w h => hts0 w (List.mem_cons_of_mem _ h)
  have hown : s.vm.findClass RX6 = some m.cls := findClass_of_methodNamed B.named
  subst hsz
  have hD := hD0.self (sz := s.heap.size)
  generalize hAe : va_A (WX6_nearest K x_a xA_rows rd_a v_a d_a xA_images ac_a er_a xA_hits xA_bodies vA_sizes vA_kinds vA_spelled vA_scheme erA_lastAt erA_fees erA_heavy erA_light erA_over x_begun x_latestFault x_latestFinding v_foot v_feet v_lines v_words v_sizes v_kinds v_spelled v_scheme er_words er_syllables er_strong er_either er_joins er_singles er_options er_least er_ways er_lastAt er_fees er_heavy er_light er_over) s.heap.size = A at hD hE ⊢
  have hA : ∀ q : Nat, s.heap.size ≤ q → A q := fun q h => by rw [← hAe]; exact Or.inr h
  have hS : va_S A s.heap s.heap [] := va_S.rf
  have hl := lv_entry ([.ref x_a, .int p1, .int p2]) (n := 3) (Nat.le_of_ble_eq_true rfl)
  rw [lg_entry_eq]
  generalize (lg_sl ([.ref x_a, .int p1, .int p2]) ++ List.replicate (3 - (lg_sl ([.ref x_a, .int p1, .int p2])).length) Slot.unset).toArray = ls at hl ⊢
  have hl : lv_has ls 3 [(0, .ref x_a), (1, .int p1), (2, .int p2)] := hl
  exact wX6_nearest_b0 ⟨hx, hb, hml, hown, hts, hK, hA, EC_ok _ _ _ _ _ _ _ _ _ _ _, hE⟩ x_a xA_rows rd_a v_a d_a xA_images ac_a er_a xA_hits xA_bodies vA_sizes vA_kinds vA_spelled vA_scheme erA_lastAt erA_fees erA_heavy erA_light erA_over x_begun x_latestFault x_latestFinding v_foot v_feet v_lines v_words v_sizes v_kinds v_spelled v_scheme p1 p2 r o_er_words o_er_syllables o_er_strong o_er_either o_er_joins o_er_singles o_er_options o_er_least o_er_ways o_er_lastAt o_er_fees o_er_heavy o_er_light o_er_over (fun H locs ls pc hdg hP hD hS => W.iret (v := r) hx hb hr (fun t ht hW => ⟨⟨r, (), rfl, rfl, (show va_P G vwCl _ t.heap by rw [ht]; exact hP)⟩, hS.F ht⟩) hS.2.2 hdg) er_words er_syllables er_strong er_either er_joins er_singles er_options er_least er_ways er_lastAt er_fees er_heavy er_light er_over  hM _ _ _ hP hD hS hl
abbrev WX6_schemeName (K : Nat → ClassId) (x_a xA_rows rd_a v_a d_a xA_images ac_a er_a xA_hits xA_bodies vA_sizes vA_kinds vA_spelled vA_scheme : Nat) (x_begun : Int32) (x_latestFault : Int32) (x_latestFinding : Int32) (v_foot : Int32) (v_feet : Int32) (v_lines : Int32) (v_words : Int32) (v_sizes : Nat → Int32) (v_kinds : Nat → Int32) (v_spelled : Nat → Nat) (v_scheme : Nat → Int32) : va_W := [(x_a, .inr (6, [.ref xA_rows, .ref rd_a, .ref v_a, .ref d_a, .ref xA_images, .ref ac_a, .ref er_a, .ref xA_hits, .ref xA_bodies, .int x_begun, .int x_latestFault, .int x_latestFinding])), (v_a, .inr (2, [.int v_foot, .int v_feet, .int v_lines, .int v_words, .ref vA_sizes, .ref vA_kinds, .ref vA_spelled, .ref vA_scheme])), aI K vA_sizes 4 v_sizes, aI K vA_kinds 20 v_kinds, aS K vA_spelled 20 v_spelled, aI K vA_scheme 4 v_scheme]
def rmX6_schemeName : Room := { frames := 4, cells := 0, slots := 0, locals := 97 }
theorem hdX6_schemeName : yX6_schemeName.cls = RX6 ∧ yX6_schemeName.cls ≠ "java/lang/invoke/MethodHandle" ∧ yX6_schemeName.cls ≠ "java/lang/invoke/VarHandle" ∧ (parseMethodDescriptor yX6_schemeName.desc).map (fun d => d.parameters.length) = some 0 := by decide +kernel
set_option maxHeartbeats 4000000 in
set_option maxRecDepth 100000 in
theorem wX6_schemeName_b52 {p : Program} {l : Launch} {e : Env} {s : State} {m : MethodId} {args : Array Value} {below : List Frame} {meth : Method} {c : Code} {Q : State → Prop} {G : va_G} {K : Nat → ClassId} {A : Nat → Prop} {tt : Nat → Nat} {L : List Nat} {la : Nat → Nat} {sa : Nat → Nat} {ln : Nat → Int32} {sy : Nat → Int32} {sn : Nat → Int32} {lt : Nat → Nat → Int32} {st : Nat → Nat → Int32} (C0 : CX p s m args c cX6_schemeName 3 RX6 G K (EC G K tt L la sa ln sy sn lt st) A) (x_a xA_rows rd_a v_a d_a xA_images ac_a er_a xA_hits xA_bodies vA_sizes vA_kinds vA_spelled vA_scheme : Nat) (x_begun : Int32) (x_latestFault : Int32) (x_latestFinding : Int32) (v_foot : Int32) (v_feet : Int32) (v_lines : Int32) (v_words : Int32) (v_sizes : Nat → Int32) (v_kinds : Nat → Int32) (v_spelled : Nat → Nat)  (r : Int32) (o_v_scheme : Nat → Int32) (kr : ∀ (H : Heap) (locs : List Loc) (ls : Array Slot) (pc : Nat), decode cX6_schemeName pc = .ok (.ireturn, 1) → va_P G vwCl (WX6_schemeName K x_a xA_rows rd_a v_a d_a xA_images ac_a er_a xA_hits xA_bodies vA_sizes vA_kinds vA_spelled vA_scheme x_begun x_latestFault x_latestFinding v_foot v_feet v_lines v_words v_sizes v_kinds v_spelled o_v_scheme) H → va_D A (WX6_schemeName K x_a xA_rows rd_a v_a d_a xA_images ac_a er_a xA_hits xA_bodies vA_sizes vA_kinds vA_spelled vA_scheme x_begun x_latestFault x_latestFinding v_foot v_feet v_lines v_words v_sizes v_kinds v_spelled o_v_scheme) → va_S A s.heap H locs → W p l e rmX6_schemeName s m args below meth c H locs 0 0 Q (F0 m pc ls [.int r])) (n : Nat) : ∀ (v_scheme : Nat → Int32) (x1 : Int32) (x2 : Int32), mX6_schemeName_b52 L ln sy sn lt st v_lines v_sizes v_kinds v_spelled  n v_scheme x1 x2 = some (r, o_v_scheme) → ∀ (H : Heap) (locs : List Loc) (ls : Array Slot), va_P G vwCl (WX6_schemeName K x_a xA_rows rd_a v_a d_a xA_images ac_a er_a xA_hits xA_bodies vA_sizes vA_kinds vA_spelled vA_scheme x_begun x_latestFault x_latestFinding v_foot v_feet v_lines v_words v_sizes v_kinds v_spelled v_scheme) H → va_D A (WX6_schemeName K x_a xA_rows rd_a v_a d_a xA_images ac_a er_a xA_hits xA_bodies vA_sizes vA_kinds vA_spelled vA_scheme x_begun x_latestFault x_latestFinding v_foot v_feet v_lines v_words v_sizes v_kinds v_spelled v_scheme) → va_S A s.heap H locs → lv_has ls 3 [(1, .int x1), (2, .int x2)] → W p l e rmX6_schemeName s m args below meth c H locs 0 0 Q (F0 m 52 ls []) := by
  obtain ⟨hx, hb, hml, hown, hts, hK, hA, hEo, hE⟩ := id C0
  induction n with
  | zero =>
    intro v_scheme x1 x2 hM
    cases hM
  | succ n ih =>
    intro v_scheme x1 x2 hM H locs ls hP hD hS hl
    rw [mX6_schemeName_b52] at hM
    refine lv_iload_n hx hb dX6_schemeName_52 rfl (lv_at hl 1 rfl) ?_
    refine va_gets hx hb (sZ7 hE.2.2.1) hS hown (hts _ tb624) (fun _ h9 => h9) dX6_schemeName_53 ?_
    refine va_tlen hx hb (sV7 hE.2.2.1) hS (v := 5) rfl dX6_schemeName_56 ?_
    refine lv_icmp_ge (tgt := 79) hx hb dX6_schemeName_57 (by decide) (fun c_1 => ?_) (fun c_1 => ?_)
    · rw [if_pos c_1] at hM
      refine lv_iconst (v := 0) hx hb dX6_schemeName_79 (by decide) ?_
      have t0 := Option.some.inj hM
      obtain ⟨q1, t1⟩ := Prod.mk.inj t0
      subst q1
      subst t1
      exact kr _ _ _ _ dX6_schemeName_80 hP hD hS
    · rw [if_neg c_1] at hM
      refine va_gets hx hb (sZ7 hE.2.2.1) hS hown (hts _ tb624) (fun _ h9 => h9) dX6_schemeName_60 ?_
      refine lv_iload_n hx hb dX6_schemeName_63 rfl (lv_at hl 1 rfl) ?_
      obtain ⟨g_2, hM⟩ := ng hM
      refine va_ti hx hb (sV7 hE.2.2.1) hS g_2 rfl dX6_schemeName_64 ?_
      refine lv_iload_n hx hb dX6_schemeName_65 rfl (lv_at hl 0 rfl) ?_
      refine lv_icmp_ne (tgt := 73) hx hb dX6_schemeName_66 (by decide) (fun c_3 => ?_) (fun c_3 => ?_)
      · rw [if_neg c_3] at hM
        refine lv_iinc (v := (x2 + 1)) (lv' := [(2, .int (x2 + 1)), (1, .int x1)]) hx hb dX6_schemeName_73 hl (k := 1) rfl rfl (by decide) rfl (fun ls hl => ?_)
        refine lv_goto (tgt := 52) hx hb dX6_schemeName_76 (by decide) ?_
        exact ih v_scheme x1 (x2 + 1) hM _ _ _ hP hD hS (lv_sub hl [1, 0] rfl)
      · rw [if_pos c_3] at hM
        refine lv_iload_n hx hb dX6_schemeName_69 rfl (lv_at hl 1 rfl) ?_
        refine lv_iconst (v := 1) hx hb dX6_schemeName_70 (by decide) ?_
        refine lv_iadd hx hb dX6_schemeName_71 ?_
        have t0 := Option.some.inj hM
        obtain ⟨q1, t1⟩ := Prod.mk.inj t0
        subst q1
        subst t1
        exact kr _ _ _ _ dX6_schemeName_72 hP hD hS
set_option maxHeartbeats 4000000 in
set_option maxRecDepth 100000 in
theorem wX6_schemeName_b25 {p : Program} {l : Launch} {e : Env} {s : State} {m : MethodId} {args : Array Value} {below : List Frame} {meth : Method} {c : Code} {Q : State → Prop} {G : va_G} {K : Nat → ClassId} {A : Nat → Prop} {tt : Nat → Nat} {L : List Nat} {la : Nat → Nat} {sa : Nat → Nat} {ln : Nat → Int32} {sy : Nat → Int32} {sn : Nat → Int32} {lt : Nat → Nat → Int32} {st : Nat → Nat → Int32} (C0 : CX p s m args c cX6_schemeName 3 RX6 G K (EC G K tt L la sa ln sy sn lt st) A) (x_a xA_rows rd_a v_a d_a xA_images ac_a er_a xA_hits xA_bodies vA_sizes vA_kinds vA_spelled vA_scheme : Nat) (x_begun : Int32) (x_latestFault : Int32) (x_latestFinding : Int32) (v_foot : Int32) (v_feet : Int32) (v_lines : Int32) (v_words : Int32) (v_sizes : Nat → Int32) (v_kinds : Nat → Int32) (v_spelled : Nat → Nat)  (r : Int32) (o_v_scheme : Nat → Int32) (kr : ∀ (H : Heap) (locs : List Loc) (ls : Array Slot) (pc : Nat), decode cX6_schemeName pc = .ok (.ireturn, 1) → va_P G vwCl (WX6_schemeName K x_a xA_rows rd_a v_a d_a xA_images ac_a er_a xA_hits xA_bodies vA_sizes vA_kinds vA_spelled vA_scheme x_begun x_latestFault x_latestFinding v_foot v_feet v_lines v_words v_sizes v_kinds v_spelled o_v_scheme) H → va_D A (WX6_schemeName K x_a xA_rows rd_a v_a d_a xA_images ac_a er_a xA_hits xA_bodies vA_sizes vA_kinds vA_spelled vA_scheme x_begun x_latestFault x_latestFinding v_foot v_feet v_lines v_words v_sizes v_kinds v_spelled o_v_scheme) → va_S A s.heap H locs → W p l e rmX6_schemeName s m args below meth c H locs 0 0 Q (F0 m pc ls [.int r])) (n : Nat) : ∀ (v_scheme : Nat → Int32) (x1 : Int32) (x2 : Int32), mX6_schemeName_b25 L ln sy sn lt st v_lines v_sizes v_kinds v_spelled  n v_scheme x1 x2 = some (r, o_v_scheme) → ∀ (H : Heap) (locs : List Loc) (ls : Array Slot), va_P G vwCl (WX6_schemeName K x_a xA_rows rd_a v_a d_a xA_images ac_a er_a xA_hits xA_bodies vA_sizes vA_kinds vA_spelled vA_scheme x_begun x_latestFault x_latestFinding v_foot v_feet v_lines v_words v_sizes v_kinds v_spelled v_scheme) H → va_D A (WX6_schemeName K x_a xA_rows rd_a v_a d_a xA_images ac_a er_a xA_hits xA_bodies vA_sizes vA_kinds vA_spelled vA_scheme x_begun x_latestFault x_latestFinding v_foot v_feet v_lines v_words v_sizes v_kinds v_spelled v_scheme) → va_S A s.heap H locs → lv_has ls 3 [(0, .ref x_a), (1, .int x1), (2, .int x2)] → W p l e rmX6_schemeName s m args below meth c H locs 0 0 Q (F0 m 25 ls []) := by
  obtain ⟨hx, hb, hml, hown, hts, hK, hA, hEo, hE⟩ := id C0
  induction n with
  | zero =>
    intro v_scheme x1 x2 hM
    cases hM
  | succ n ih =>
    intro v_scheme x1 x2 hM H locs ls hP hD hS hl
    rw [mX6_schemeName_b25] at hM
    refine lv_iload_n hx hb dX6_schemeName_25 rfl (lv_at hl 2 rfl) ?_
    refine lv_iconst (v := 4) hx hb dX6_schemeName_26 (by decide) ?_
    refine lv_icmp_ge (tgt := 50) hx hb dX6_schemeName_27 (by decide) (fun c_4 => ?_) (fun c_4 => ?_)
    · rw [if_pos c_4] at hM
      refine lv_iconst (v := 0) hx hb dX6_schemeName_50 (by decide) ?_
      refine lv_istore_n (lv' := [(2, .int (0 : Int32)), (0, .ref x_a), (1, .int x1)]) hx hb dX6_schemeName_51 rfl hl (by decide) rfl (fun ls hl => ?_)
      exact wX6_schemeName_b52 C0 x_a xA_rows rd_a v_a d_a xA_images ac_a er_a xA_hits xA_bodies vA_sizes vA_kinds vA_spelled vA_scheme x_begun x_latestFault x_latestFinding v_foot v_feet v_lines v_words v_sizes v_kinds v_spelled r o_v_scheme kr  FU v_scheme x1 (0 : Int32) hM _ _ _ hP hD hS (lv_sub hl [2, 0] rfl)
    · rw [if_neg c_4] at hM
      refine lv_iload_n hx hb dX6_schemeName_30 rfl (lv_at hl 1 rfl) ?_
      refine lv_iconst (v := 4) hx hb dX6_schemeName_31 (by decide) ?_
      refine lv_ishl hx hb dX6_schemeName_32 ?_
      refine lv_aload_n hx hb dX6_schemeName_33 rfl (lv_at hl 0 rfl) ?_
      refine va_get (D := G) (ci := 6) (v := .ref v_a) (C := RX6) (T := TX6) (N := 12) hx hb hts inX6 hown hK hP 0 rfl rfl 2 (by decide) (hts _ tb247) (fun _ h9 => h9) rfl dX6_schemeName_34 ?_
      refine va_get (D := G) (ci := 2) (v := .ref vA_scheme) (C := RX2) (T := TX2) (N := 8) hx hb hts inX2 hown hK hP 1 rfl rfl 7 (by decide) (hts _ tb197) (fun _ h9 => h9) rfl dX6_schemeName_37 ?_
      refine lv_iload_n hx hb dX6_schemeName_40 rfl (lv_at hl 2 rfl) ?_
      obtain ⟨g_5, hM⟩ := ng hM
      refine va_iald hx hb hK hP 5 0 rfl rfl g_5 dX6_schemeName_41 ?_
      refine lv_ior hx hb dX6_schemeName_42 ?_
      refine lv_istore_n (lv' := [(1, .int ((x1 <<< ((4 : Int32) &&& 31)) ||| (v_scheme x2.toNatClampNeg))), (0, .ref x_a), (2, .int x2)]) hx hb dX6_schemeName_43 rfl hl (by decide) rfl (fun ls hl => ?_)
      refine lv_iinc (v := (x2 + 1)) (lv' := [(2, .int (x2 + 1)), (1, .int ((x1 <<< ((4 : Int32) &&& 31)) ||| (v_scheme x2.toNatClampNeg))), (0, .ref x_a)]) hx hb dX6_schemeName_44 hl (k := 2) rfl rfl (by decide) rfl (fun ls hl => ?_)
      refine lv_goto (tgt := 25) hx hb dX6_schemeName_47 (by decide) ?_
      exact ih v_scheme ((x1 <<< ((4 : Int32) &&& 31)) ||| (v_scheme x2.toNatClampNeg)) (x2 + 1) hM _ _ _ hP hD hS (lv_sub hl [2, 1, 0] rfl)
set_option maxHeartbeats 4000000 in
set_option maxRecDepth 100000 in
theorem wX6_schemeName_b0 {p : Program} {l : Launch} {e : Env} {s : State} {m : MethodId} {args : Array Value} {below : List Frame} {meth : Method} {c : Code} {Q : State → Prop} {G : va_G} {K : Nat → ClassId} {A : Nat → Prop} {tt : Nat → Nat} {L : List Nat} {la : Nat → Nat} {sa : Nat → Nat} {ln : Nat → Int32} {sy : Nat → Int32} {sn : Nat → Int32} {lt : Nat → Nat → Int32} {st : Nat → Nat → Int32} (C0 : CX p s m args c cX6_schemeName 3 RX6 G K (EC G K tt L la sa ln sy sn lt st) A) (x_a xA_rows rd_a v_a d_a xA_images ac_a er_a xA_hits xA_bodies vA_sizes vA_kinds vA_spelled vA_scheme : Nat) (x_begun : Int32) (x_latestFault : Int32) (x_latestFinding : Int32) (v_foot : Int32) (v_feet : Int32) (v_lines : Int32) (v_words : Int32) (v_sizes : Nat → Int32) (v_kinds : Nat → Int32) (v_spelled : Nat → Nat)  (r : Int32) (o_v_scheme : Nat → Int32) (kr : ∀ (H : Heap) (locs : List Loc) (ls : Array Slot) (pc : Nat), decode cX6_schemeName pc = .ok (.ireturn, 1) → va_P G vwCl (WX6_schemeName K x_a xA_rows rd_a v_a d_a xA_images ac_a er_a xA_hits xA_bodies vA_sizes vA_kinds vA_spelled vA_scheme x_begun x_latestFault x_latestFinding v_foot v_feet v_lines v_words v_sizes v_kinds v_spelled o_v_scheme) H → va_D A (WX6_schemeName K x_a xA_rows rd_a v_a d_a xA_images ac_a er_a xA_hits xA_bodies vA_sizes vA_kinds vA_spelled vA_scheme x_begun x_latestFault x_latestFinding v_foot v_feet v_lines v_words v_sizes v_kinds v_spelled o_v_scheme) → va_S A s.heap H locs → W p l e rmX6_schemeName s m args below meth c H locs 0 0 Q (F0 m pc ls [.int r])) (v_scheme : Nat → Int32) (hM : mX6_schemeName_b0 L ln sy sn lt st v_lines v_sizes v_kinds v_spelled  v_scheme = some (r, o_v_scheme)) : ∀ (H : Heap) (locs : List Loc) (ls : Array Slot), va_P G vwCl (WX6_schemeName K x_a xA_rows rd_a v_a d_a xA_images ac_a er_a xA_hits xA_bodies vA_sizes vA_kinds vA_spelled vA_scheme x_begun x_latestFault x_latestFinding v_foot v_feet v_lines v_words v_sizes v_kinds v_spelled v_scheme) H → va_D A (WX6_schemeName K x_a xA_rows rd_a v_a d_a xA_images ac_a er_a xA_hits xA_bodies vA_sizes vA_kinds vA_spelled vA_scheme x_begun x_latestFault x_latestFinding v_foot v_feet v_lines v_words v_sizes v_kinds v_spelled v_scheme) → va_S A s.heap H locs → lv_has ls 3 [(0, .ref x_a)] → W p l e rmX6_schemeName s m args below meth c H locs 0 0 Q (F0 m 0 ls []) := by
  obtain ⟨hx, hb, hml, hown, hts, hK, hA, hEo, hE⟩ := id C0
  intro H locs ls hP hD hS hl
  unfold mX6_schemeName_b0 at hM
  refine lv_aload_n hx hb dX6_schemeName_0 rfl (lv_at hl 0 rfl) ?_
  refine va_get (D := G) (ci := 6) (v := .ref v_a) (C := RX6) (T := TX6) (N := 12) hx hb hts inX6 hown hK hP 0 rfl rfl 2 (by decide) (hts _ tb247) (fun _ h9 => h9) rfl dX6_schemeName_1 ?_
  refine va_get (D := G) (ci := 2) (v := .int v_lines) (C := RX2) (T := TX2) (N := 8) hx hb hts inX2 hown hK hP 1 rfl rfl 2 (by decide) (hts _ tb183) (fun _ h9 => h9) rfl dX6_schemeName_4 ?_
  refine lv_iconst (v := 4) hx hb dX6_schemeName_7 (by decide) ?_
  refine lv_icmp_eq (tgt := 13) hx hb dX6_schemeName_8 (by decide) (fun c_6 => ?_) (fun c_6 => ?_)
  · rw [if_pos c_6] at hM
    refine lv_aload_n hx hb dX6_schemeName_13 rfl (lv_at hl 0 rfl) ?_
    refine va_get (D := G) (ci := 6) (v := .ref v_a) (C := RX6) (T := TX6) (N := 12) hx hb hts inX6 hown hK hP 0 rfl rfl 2 (by decide) (hts _ tb247) (fun _ h9 => h9) rfl dX6_schemeName_14 ?_
    obtain ⟨r_7, u0_7, hC, hM⟩ := oe2 hM
    refine cV_i (As := []) (rest := []) C0 hP hD hS [1, 2, 3, 4, 5] (kX2_tellScheme l G K tt L la sa ln sy sn lt st v_a vA_sizes vA_kinds vA_spelled vA_scheme v_foot v_feet v_lines v_words v_sizes v_kinds v_spelled v_scheme H.size r_7 u0_7 hC) rfl rfl rfl tb623 tb527 tb528 tb7 tb529 hdX2_tellScheme (va_recv hK hP (ci := 2) (q0 := 1) rfl rfl) ⟨Nat.le_of_ble_eq_true rfl, Nat.le_of_ble_eq_true rfl⟩ rfl hl.1 (Nat.le_of_ble_eq_true rfl) rfl ⟨Nat.le_refl _, Nat.le_refl _⟩ dX6_schemeName_17 (fun H locs hP hD hS => ?_)
    have hP : va_P G vwCl (WX6_schemeName K x_a xA_rows rd_a v_a d_a xA_images ac_a er_a xA_hits xA_bodies vA_sizes vA_kinds vA_spelled vA_scheme x_begun x_latestFault x_latestFinding v_foot v_feet v_lines v_words v_sizes v_kinds v_spelled u0_7) H := hP
    have hD : va_D A (WX6_schemeName K x_a xA_rows rd_a v_a d_a xA_images ac_a er_a xA_hits xA_bodies vA_sizes vA_kinds vA_spelled vA_scheme x_begun x_latestFault x_latestFinding v_foot v_feet v_lines v_words v_sizes v_kinds v_spelled u0_7) := hD
    refine lv_pop hx hb dX6_schemeName_20 rfl ?_
    refine lv_iconst (v := 0) hx hb dX6_schemeName_21 (by decide) ?_
    refine lv_istore_n (lv' := [(1, .int (0 : Int32)), (0, .ref x_a)]) hx hb dX6_schemeName_22 rfl hl (by decide) rfl (fun ls hl => ?_)
    refine lv_iconst (v := 0) hx hb dX6_schemeName_23 (by decide) ?_
    refine lv_istore_n (lv' := [(2, .int (0 : Int32)), (1, .int (0 : Int32)), (0, .ref x_a)]) hx hb dX6_schemeName_24 rfl hl (by decide) rfl (fun ls hl => ?_)
    exact wX6_schemeName_b25 C0 x_a xA_rows rd_a v_a d_a xA_images ac_a er_a xA_hits xA_bodies vA_sizes vA_kinds vA_spelled vA_scheme x_begun x_latestFault x_latestFinding v_foot v_feet v_lines v_words v_sizes v_kinds v_spelled r o_v_scheme kr  FU u0_7 (0 : Int32) (0 : Int32) hM _ _ _ hP hD hS (lv_sub hl [2, 1, 0] rfl)
  · rw [if_neg c_6] at hM
    refine lv_iconst (v := 0) hx hb dX6_schemeName_11 (by decide) ?_
    have t0 := Option.some.inj hM
    obtain ⟨q1, t1⟩ := Prod.mk.inj t0
    subst q1
    subst t1
    exact kr _ _ _ _ dX6_schemeName_12 hP hD hS
set_option maxHeartbeats 4000000 in
set_option maxRecDepth 100000 in
theorem kX6_schemeName (l : Launch) (G : va_G) (K : Nat → ClassId) (tt : Nat → Nat) (L : List Nat) (la : Nat → Nat) (sa : Nat → Nat) (ln : Nat → Int32) (sy : Nat → Int32) (sn : Nat → Int32) (lt : Nat → Nat → Int32) (st : Nat → Nat → Int32) (x_a xA_rows rd_a v_a d_a xA_images ac_a er_a xA_hits xA_bodies vA_sizes vA_kinds vA_spelled vA_scheme : Nat) (x_begun : Int32) (x_latestFault : Int32) (x_latestFinding : Int32) (v_foot : Int32) (v_feet : Int32) (v_lines : Int32) (v_words : Int32) (v_sizes : Nat → Int32) (v_kinds : Nat → Int32) (v_spelled : Nat → Nat) (v_scheme : Nat → Int32)  (sz : Nat) (r : Int32) (o_v_scheme : Nat → Int32) (hM : mX6_schemeName L ln sy sn lt st v_lines v_sizes v_kinds v_spelled v_scheme = some (r, o_v_scheme)) : Met l yX6_schemeName (mC yX6_schemeName cX6_schemeName 3 (some .int)) rmX6_schemeName (va_Pc [.ref x_a] (PCe G K (EC G K tt L la sa ln sy sn lt st) (WX6_schemeName K x_a xA_rows rd_a v_a d_a xA_images ac_a er_a xA_hits xA_bodies vA_sizes vA_kinds vA_spelled vA_scheme x_begun x_latestFault x_latestFinding v_foot v_feet v_lines v_words v_sizes v_kinds v_spelled v_scheme) sz)) (va_Qi (fun (x : Int32) (_ : Unit) => x = r) (fun _ t => va_P G vwCl (WX6_schemeName K x_a xA_rows rd_a v_a d_a xA_images ac_a er_a xA_hits xA_bodies vA_sizes vA_kinds vA_spelled vA_scheme x_begun x_latestFault x_latestFinding v_foot v_feet v_lines v_words v_sizes v_kinds v_spelled o_v_scheme) t.heap) (va_A (WX6_schemeName K x_a xA_rows rd_a v_a d_a xA_images ac_a er_a xA_hits xA_bodies vA_sizes vA_kinds vA_spelled vA_scheme x_begun x_latestFault x_latestFinding v_foot v_feet v_lines v_words v_sizes v_kinds v_spelled v_scheme) sz)) rmX6_schemeName.cells rmX6_schemeName.slots (va_A (WX6_schemeName K x_a xA_rows rd_a v_a d_a xA_images ac_a er_a xA_hits xA_bodies vA_sizes vA_kinds vA_spelled vA_scheme x_begun x_latestFault x_latestFinding v_foot v_feet v_lines v_words v_sizes v_kinds v_spelled v_scheme) sz) := by
  refine Met.ofW (cc := cX6_schemeName) (maxL := 3) (ret := (some .int)) (by decide) rfl ?_
  intro p e s m args below meth c s₁ B hml hv
  obtain ⟨rfl, hsz, hP, hK, hD0, hE⟩ := hv
  have hx := B.exec
  have hb := B.bytes
  have hr := B.returns
  have hts0 := atoms_spec (ws := mC yX6_schemeName cX6_schemeName 3 (some .int)) B.pre
  have hts : ∀ w ∈ tbG, w.before _ s = true := fun w h => hts0 w (List.mem_cons_of_mem _ h)
  have hown : s.vm.findClass RX6 = some m.cls := findClass_of_methodNamed B.named
  subst hsz
  have hD := hD0.self (sz := s.heap.size)
  generalize hAe : va_A (WX6_schemeName K x_a xA_rows rd_a v_a d_a xA_images ac_a er_a xA_hits xA_bodies vA_sizes vA_kinds vA_spelled vA_scheme x_begun x_latestFault x_latestFinding v_foot v_feet v_lines v_words v_sizes v_kinds v_spelled v_scheme) s.heap.size = A at hD hE ⊢
  have hA : ∀ q : Nat, s.heap.size ≤ q → A q := fun q h => by rw [← hAe]; exact Or.inr h
  have hS : va_S A s.heap s.heap [] := va_S.rf
  have hl := lv_entry ([.ref x_a]) (n := 3) (Nat.le_of_ble_eq_true rfl)
  rw [lg_entry_eq]
  generalize (lg_sl ([.ref x_a]) ++ List.replicate (3 - (lg_sl ([.ref x_a])).length) Slot.unset).toArray = ls at hl ⊢
  have hl : lv_has ls 3 [(0, .ref x_a)] := hl
  exact wX6_schemeName_b0 ⟨hx, hb, hml, hown, hts, hK, hA, EC_ok _ _ _ _ _ _ _ _ _ _ _, hE⟩ x_a xA_rows rd_a v_a d_a xA_images ac_a er_a xA_hits xA_bodies vA_sizes vA_kinds vA_spelled vA_scheme x_begun x_latestFault x_latestFinding v_foot v_feet v_lines v_words v_sizes v_kinds v_spelled r o_v_scheme (fun H locs ls pc hdg hP hD hS => W.iret (v := r) hx hb hr (fun t ht hW => ⟨⟨r, (), rfl, rfl, (show va_P G vwCl _ t.heap by rw [ht]; exact hP)⟩, hS.F ht⟩) hS.2.2 hdg) v_scheme  hM _ _ _ hP hD hS hl
