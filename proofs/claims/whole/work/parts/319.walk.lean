abbrev WX7_drawn (K : Nat → ClassId) (m_a mA_lane mA_many mA_item mA_poem mA_fresh mA_then mA_was mA_tape mA_strengths mA_sounds mA_stand mA_scheme mA_isKept mA_kept mA_trace : Nat) (m_thrown : Int32) (m_status : Int32) (m_acts : Int32) (m_taped : Int32) (m_cursor : Int32) (m_start : Int32) (m_token : Int32) (m_value : Int32) (m_fault : Int32) (m_faultAt : Int32) (m_latest : Int32) (m_stands : Int32) (m_least : Int32) (m_ways : Int32) (m_nearFoot : Int32) (m_nearFeet : Int32) (m_nearCost : Int32) (m_traced : Int32) (m_poem : Nat → Int32) (m_then : Nat → Int32) (m_strengths : Nat → Int32) (m_sounds : Nat → Int32) (m_stand : Nat → Int32) : va_W := [(m_a, .inr (7, [.int m_thrown, .int m_status, .ref mA_lane, .ref mA_many, .ref mA_item, .ref mA_poem, .ref mA_fresh, .ref mA_then, .ref mA_was, .int m_acts, .ref mA_tape, .int m_taped, .int m_cursor, .int m_start, .int m_token, .int m_value, .int m_fault, .int m_faultAt, .int m_latest, .ref mA_strengths, .ref mA_sounds, .ref mA_stand, .int m_stands, .int m_least, .int m_ways, .ref mA_scheme, .int m_nearFoot, .int m_nearFeet, .int m_nearCost, .ref mA_isKept, .ref mA_kept, .ref mA_trace, .int m_traced])), aI K mA_poem 207 m_poem, aI K mA_then 207 m_then, aI K mA_strengths 20 m_strengths, aI K mA_sounds 5 m_sounds, aI K mA_stand 20 m_stand]
def rmX7_drawn : Room := { frames := 9, cells := 0, slots := 0, locals := 212 }
theorem hdX7_drawn : yX7_drawn.cls = RX7 ∧ yX7_drawn.cls ≠ "java/lang/invoke/MethodHandle" ∧ yX7_drawn.cls ≠ "java/lang/invoke/VarHandle" ∧ (parseMethodDescriptor yX7_drawn.desc).map (fun d => d.parameters.length) = some 3 := by decide +kernel
set_option maxHeartbeats 4000000 in
set_option maxRecDepth 100000 in
theorem wX7_drawn_b162 {p : Program} {l : Launch} {e : Env} {s : State} {m : MethodId} {args : Array Value} {below : List Frame} {meth : Method} {c : Code} {Q : State → Prop} {G : va_G} {K : Nat → ClassId} {A : Nat → Prop} (C0 : CX p s m args c cX7_drawn 11 RX7 G K E0 A) (m_a mA_lane mA_many mA_item mA_poem mA_fresh mA_then mA_was mA_tape mA_strengths mA_sounds mA_stand mA_scheme mA_isKept mA_kept mA_trace : Nat) (m_status : Int32) (m_acts : Int32) (m_taped : Int32) (m_cursor : Int32) (m_start : Int32) (m_token : Int32) (m_value : Int32) (m_fault : Int32) (m_faultAt : Int32) (m_latest : Int32) (m_nearFoot : Int32) (m_nearFeet : Int32) (m_nearCost : Int32) (m_traced : Int32) (m_poem : Nat → Int32) (p1 : Int32) (p2 : Int32) (p3 : Int32) (r : Int32) (o_m_thrown : Int32) (o_m_stands : Int32) (o_m_least : Int32) (o_m_ways : Int32) (o_m_then : Nat → Int32) (o_m_strengths : Nat → Int32) (o_m_sounds : Nat → Int32) (o_m_stand : Nat → Int32) (kr : ∀ (H : Heap) (locs : List Loc) (ls : Array Slot) (pc : Nat), decode cX7_drawn pc = .ok (.ireturn, 1) → va_P G vwCl (WX7_drawn K m_a mA_lane mA_many mA_item mA_poem mA_fresh mA_then mA_was mA_tape mA_strengths mA_sounds mA_stand mA_scheme mA_isKept mA_kept mA_trace o_m_thrown m_status m_acts m_taped m_cursor m_start m_token m_value m_fault m_faultAt m_latest o_m_stands o_m_least o_m_ways m_nearFoot m_nearFeet m_nearCost m_traced m_poem o_m_then o_m_strengths o_m_sounds o_m_stand) H → va_D A (WX7_drawn K m_a mA_lane mA_many mA_item mA_poem mA_fresh mA_then mA_was mA_tape mA_strengths mA_sounds mA_stand mA_scheme mA_isKept mA_kept mA_trace o_m_thrown m_status m_acts m_taped m_cursor m_start m_token m_value m_fault m_faultAt m_latest o_m_stands o_m_least o_m_ways m_nearFoot m_nearFeet m_nearCost m_traced m_poem o_m_then o_m_strengths o_m_sounds o_m_stand) → va_S A s.heap H locs → W p l e rmX7_drawn s m args below meth c H locs 0 0 Q (F0 m pc ls [.int r])) (k70 : Int32 → Int32 → Int32 → Int32 → (Nat → Int32) → (Nat → Int32) → (Nat → Int32) → (Nat → Int32) → Int64 → Int32 → Int32 → Int32 → Option (Int32 × (Int32) × (Int32) × (Int32) × (Int32) × (Nat → Int32) × (Nat → Int32) × (Nat → Int32) × (Nat → Int32))) (hk70 : ∀ (m_thrown : Int32) (m_stands : Int32) (m_least : Int32) (m_ways : Int32) (m_then : Nat → Int32) (m_strengths : Nat → Int32) (m_sounds : Nat → Int32) (m_stand : Nat → Int32) (x4 : Int64) (x6 : Int32) (x7 : Int32) (x8 : Int32), k70 m_thrown m_stands m_least m_ways m_then m_strengths m_sounds m_stand x4 x6 x7 x8 = some (r, o_m_thrown, o_m_stands, o_m_least, o_m_ways, o_m_then, o_m_strengths, o_m_sounds, o_m_stand) → ∀ (H : Heap) (locs : List Loc) (ls : Array Slot), va_P G vwCl (WX7_drawn K m_a mA_lane mA_many mA_item mA_poem mA_fresh mA_then mA_was mA_tape mA_strengths mA_sounds mA_stand mA_scheme mA_isKept mA_kept mA_trace m_thrown m_status m_acts m_taped m_cursor m_start m_token m_value m_fault m_faultAt m_latest m_stands m_least m_ways m_nearFoot m_nearFeet m_nearCost m_traced m_poem m_then m_strengths m_sounds m_stand) H → va_D A (WX7_drawn K m_a mA_lane mA_many mA_item mA_poem mA_fresh mA_then mA_was mA_tape mA_strengths mA_sounds mA_stand mA_scheme mA_isKept mA_kept mA_trace m_thrown m_status m_acts m_taped m_cursor m_start m_token m_value m_fault m_faultAt m_latest m_stands m_least m_ways m_nearFoot m_nearFeet m_nearCost m_traced m_poem m_then m_strengths m_sounds m_stand) → va_S A s.heap H locs → lv_has ls 11 [(0, .ref m_a), (1, .int p1), (3, .int p3), (4, .long x4), (6, .int x6), (7, .int x7), (8, .int x8)] → W p l e rmX7_drawn s m args below meth c H locs 0 0 Q (F0 m 70 ls [])) (m_thrown : Int32) (m_stands : Int32) (m_least : Int32) (m_ways : Int32) (m_then : Nat → Int32) (m_strengths : Nat → Int32) (m_sounds : Nat → Int32) (m_stand : Nat → Int32) (x4 : Int64) (x7 : Int32) (x8 : Int32) (x10 : Int32) (s0 : Int32) (s1 : Int32) (hM : mX7_drawn_b162 m_poem p1 p2 p3 k70 m_thrown m_stands m_least m_ways m_then m_strengths m_sounds m_stand x4 x7 x8 x10 s0 s1 = some (r, o_m_thrown, o_m_stands, o_m_least, o_m_ways, o_m_then, o_m_strengths, o_m_sounds, o_m_stand)) : ∀ (H : Heap) (locs : List Loc) (ls : Array Slot), va_P G vwCl (WX7_drawn K m_a mA_lane mA_many mA_item mA_poem mA_fresh mA_then mA_was mA_tape mA_strengths mA_sounds mA_stand mA_scheme mA_isKept mA_kept mA_trace m_thrown m_status m_acts m_taped m_cursor m_start m_token m_value m_fault m_faultAt m_latest m_stands m_least m_ways m_nearFoot m_nearFeet m_nearCost m_traced m_poem m_then m_strengths m_sounds m_stand) H → va_D A (WX7_drawn K m_a mA_lane mA_many mA_item mA_poem mA_fresh mA_then mA_was mA_tape mA_strengths mA_sounds mA_stand mA_scheme mA_isKept mA_kept mA_trace m_thrown m_status m_acts m_taped m_cursor m_start m_token m_value m_fault m_faultAt m_latest m_stands m_least m_ways m_nearFoot m_nearFeet m_nearCost m_traced m_poem m_then m_strengths m_sounds m_stand) → va_S A s.heap H locs → lv_has ls 11 [(0, .ref m_a), (1, .int p1), (3, .int p3), (4, .long x4), (7, .int x7), (8, .int x8), (10, .int x10)] → W p l e rmX7_drawn s m args below meth c H locs 0 0 Q (F0 m 162 ls [.int s1, .int s0]) := by
  obtain ⟨hx, hb, hml, hown, hts, hK, hA, hEo, hE⟩ := id C0
  intro H locs ls hP hD hS hl
  unfold mX7_drawn_b162 at hM
  refine lv_iadd hx hb dX7_drawn_162 ?_
  refine lv_istore (lv' := [(6, .int (s0 + s1)), (0, .ref m_a), (1, .int p1), (3, .int p3), (4, .long x4), (7, .int x7), (8, .int x8), (10, .int x10)]) hx hb dX7_drawn_163 hl (by decide) rfl (fun ls hl => ?_)
  refine lv_iload hx hb dX7_drawn_165 (lv_at hl 5 rfl) ?_
  refine lv_iload hx hb dX7_drawn_167 (lv_at hl 7 rfl) ?_
  refine lv_ldc (v := -1000000) hx hb hown (hts _ tb917) dX7_drawn_169 ?_
  refine lv_icmp_ne (tgt := 178) hx hb dX7_drawn_171 (by decide) (fun c_1 => ?_) (fun c_1 => ?_)
  · rw [if_neg c_1] at hM
    refine lv_iconst (v := 0) hx hb dX7_drawn_178 (by decide) ?_
    refine lv_iadd hx hb dX7_drawn_179 ?_
    refine lv_istore (lv' := [(7, .int (x7 + (0 : Int32))), (6, .int (s0 + s1)), (0, .ref m_a), (1, .int p1), (3, .int p3), (4, .long x4), (8, .int x8), (10, .int x10)]) hx hb dX7_drawn_180 hl (by decide) rfl (fun ls hl => ?_)
    refine lv_iinc (v := (x8 + 1)) (lv' := [(8, .int (x8 + 1)), (7, .int (x7 + (0 : Int32))), (6, .int (s0 + s1)), (0, .ref m_a), (1, .int p1), (3, .int p3), (4, .long x4), (10, .int x10)]) hx hb dX7_drawn_182 hl (k := 6) rfl rfl (by decide) rfl (fun ls hl => ?_)
    refine lv_goto (tgt := 70) hx hb dX7_drawn_185 (by decide) ?_
    exact hk70 m_thrown m_stands m_least m_ways m_then m_strengths m_sounds m_stand x4 (s0 + s1) (x7 + (0 : Int32)) (x8 + 1) hM _ _ _ hP hD hS (lv_sub hl [3, 4, 5, 6, 2, 1, 0] rfl)
  · rw [if_pos c_1] at hM
    refine lv_iconst (v := 1) hx hb dX7_drawn_174 (by decide) ?_
    refine lv_goto (tgt := 179) hx hb dX7_drawn_175 (by decide) ?_
    refine lv_iadd hx hb dX7_drawn_179 ?_
    refine lv_istore (lv' := [(7, .int (x7 + (1 : Int32))), (6, .int (s0 + s1)), (0, .ref m_a), (1, .int p1), (3, .int p3), (4, .long x4), (8, .int x8), (10, .int x10)]) hx hb dX7_drawn_180 hl (by decide) rfl (fun ls hl => ?_)
    refine lv_iinc (v := (x8 + 1)) (lv' := [(8, .int (x8 + 1)), (7, .int (x7 + (1 : Int32))), (6, .int (s0 + s1)), (0, .ref m_a), (1, .int p1), (3, .int p3), (4, .long x4), (10, .int x10)]) hx hb dX7_drawn_182 hl (k := 6) rfl rfl (by decide) rfl (fun ls hl => ?_)
    refine lv_goto (tgt := 70) hx hb dX7_drawn_185 (by decide) ?_
    exact hk70 m_thrown m_stands m_least m_ways m_then m_strengths m_sounds m_stand x4 (s0 + s1) (x7 + (1 : Int32)) (x8 + 1) hM _ _ _ hP hD hS (lv_sub hl [3, 4, 5, 6, 2, 1, 0] rfl)
set_option maxHeartbeats 4000000 in
set_option maxRecDepth 100000 in
theorem wX7_drawn_b70 {p : Program} {l : Launch} {e : Env} {s : State} {m : MethodId} {args : Array Value} {below : List Frame} {meth : Method} {c : Code} {Q : State → Prop} {G : va_G} {K : Nat → ClassId} {A : Nat → Prop} (C0 : CX p s m args c cX7_drawn 11 RX7 G K E0 A) (m_a mA_lane mA_many mA_item mA_poem mA_fresh mA_then mA_was mA_tape mA_strengths mA_sounds mA_stand mA_scheme mA_isKept mA_kept mA_trace : Nat) (m_status : Int32) (m_acts : Int32) (m_taped : Int32) (m_cursor : Int32) (m_start : Int32) (m_token : Int32) (m_value : Int32) (m_fault : Int32) (m_faultAt : Int32) (m_latest : Int32) (m_nearFoot : Int32) (m_nearFeet : Int32) (m_nearCost : Int32) (m_traced : Int32) (m_poem : Nat → Int32) (p1 : Int32) (p2 : Int32) (p3 : Int32) (r : Int32) (o_m_thrown : Int32) (o_m_stands : Int32) (o_m_least : Int32) (o_m_ways : Int32) (o_m_then : Nat → Int32) (o_m_strengths : Nat → Int32) (o_m_sounds : Nat → Int32) (o_m_stand : Nat → Int32) (kr : ∀ (H : Heap) (locs : List Loc) (ls : Array Slot) (pc : Nat), decode cX7_drawn pc = .ok (.ireturn, 1) → va_P G vwCl (WX7_drawn K m_a mA_lane mA_many mA_item mA_poem mA_fresh mA_then mA_was mA_tape mA_strengths mA_sounds mA_stand mA_scheme mA_isKept mA_kept mA_trace o_m_thrown m_status m_acts m_taped m_cursor m_start m_token m_value m_fault m_faultAt m_latest o_m_stands o_m_least o_m_ways m_nearFoot m_nearFeet m_nearCost m_traced m_poem o_m_then o_m_strengths o_m_sounds o_m_stand) H → va_D A (WX7_drawn K m_a mA_lane mA_many mA_item mA_poem mA_fresh mA_then mA_was mA_tape mA_strengths mA_sounds mA_stand mA_scheme mA_isKept mA_kept mA_trace o_m_thrown m_status m_acts m_taped m_cursor m_start m_token m_value m_fault m_faultAt m_latest o_m_stands o_m_least o_m_ways m_nearFoot m_nearFeet m_nearCost m_traced m_poem o_m_then o_m_strengths o_m_sounds o_m_stand) → va_S A s.heap H locs → W p l e rmX7_drawn s m args below meth c H locs 0 0 Q (F0 m pc ls [.int r])) (n : Nat) : ∀ (m_thrown : Int32) (m_stands : Int32) (m_least : Int32) (m_ways : Int32) (m_then : Nat → Int32) (m_strengths : Nat → Int32) (m_sounds : Nat → Int32) (m_stand : Nat → Int32) (x4 : Int64) (x6 : Int32) (x7 : Int32) (x8 : Int32), mX7_drawn_b70 m_poem p1 p2 p3  n m_thrown m_stands m_least m_ways m_then m_strengths m_sounds m_stand x4 x6 x7 x8 = some (r, o_m_thrown, o_m_stands, o_m_least, o_m_ways, o_m_then, o_m_strengths, o_m_sounds, o_m_stand) → ∀ (H : Heap) (locs : List Loc) (ls : Array Slot), va_P G vwCl (WX7_drawn K m_a mA_lane mA_many mA_item mA_poem mA_fresh mA_then mA_was mA_tape mA_strengths mA_sounds mA_stand mA_scheme mA_isKept mA_kept mA_trace m_thrown m_status m_acts m_taped m_cursor m_start m_token m_value m_fault m_faultAt m_latest m_stands m_least m_ways m_nearFoot m_nearFeet m_nearCost m_traced m_poem m_then m_strengths m_sounds m_stand) H → va_D A (WX7_drawn K m_a mA_lane mA_many mA_item mA_poem mA_fresh mA_then mA_was mA_tape mA_strengths mA_sounds mA_stand mA_scheme mA_isKept mA_kept mA_trace m_thrown m_status m_acts m_taped m_cursor m_start m_token m_value m_fault m_faultAt m_latest m_stands m_least m_ways m_nearFoot m_nearFeet m_nearCost m_traced m_poem m_then m_strengths m_sounds m_stand) → va_S A s.heap H locs → lv_has ls 11 [(0, .ref m_a), (1, .int p1), (3, .int p3), (4, .long x4), (6, .int x6), (7, .int x7), (8, .int x8)] → W p l e rmX7_drawn s m args below meth c H locs 0 0 Q (F0 m 70 ls []) := by
  obtain ⟨hx, hb, hml, hown, hts, hK, hA, hEo, hE⟩ := id C0
  induction n with
  | zero =>
    intro m_thrown m_stands m_least m_ways m_then m_strengths m_sounds m_stand x4 x6 x7 x8 hM
    cases hM
  | succ n ih =>
    intro m_thrown m_stands m_least m_ways m_then m_strengths m_sounds m_stand x4 x6 x7 x8 hM H locs ls hP hD hS hl
    rw [mX7_drawn_b70] at hM
    refine lv_iload hx hb dX7_drawn_70 (lv_at hl 6 rfl) ?_
    refine lv_iload_n hx hb dX7_drawn_72 rfl (lv_at hl 1 rfl) ?_
    refine lv_icmp_ge (tgt := 188) hx hb dX7_drawn_73 (by decide) (fun c_2 => ?_) (fun c_2 => ?_)
    · rw [if_pos c_2] at hM
      refine lv_iload_n hx hb dX7_drawn_188 rfl (lv_at hl 2 rfl) ?_
      refine lv_if_ne (tgt := 197) hx hb dX7_drawn_189 (by decide) (fun c_3 => ?_) (fun c_3 => ?_)
      · rw [if_neg c_3] at hM
        refine lv_iload hx hb dX7_drawn_197 (lv_at hl 5 rfl) ?_
        have t0 := Option.some.inj hM
        obtain ⟨q1, t1⟩ := Prod.mk.inj t0
        obtain ⟨q2, t2⟩ := Prod.mk.inj t1
        obtain ⟨q3, t3⟩ := Prod.mk.inj t2
        obtain ⟨q4, t4⟩ := Prod.mk.inj t3
        obtain ⟨q5, t5⟩ := Prod.mk.inj t4
        obtain ⟨q6, t6⟩ := Prod.mk.inj t5
        obtain ⟨q7, t7⟩ := Prod.mk.inj t6
        obtain ⟨q8, t8⟩ := Prod.mk.inj t7
        subst q1
        subst q2
        subst q3
        subst q4
        subst q5
        subst q6
        subst q7
        subst q8
        subst t8
        exact kr _ _ _ _ dX7_drawn_199 hP hD hS
      · rw [if_pos c_3] at hM
        refine lv_iload hx hb dX7_drawn_192 (lv_at hl 4 rfl) ?_
        refine lv_goto (tgt := 199) hx hb dX7_drawn_194 (by decide) ?_
        have t0 := Option.some.inj hM
        obtain ⟨q1, t1⟩ := Prod.mk.inj t0
        obtain ⟨q2, t2⟩ := Prod.mk.inj t1
        obtain ⟨q3, t3⟩ := Prod.mk.inj t2
        obtain ⟨q4, t4⟩ := Prod.mk.inj t3
        obtain ⟨q5, t5⟩ := Prod.mk.inj t4
        obtain ⟨q6, t6⟩ := Prod.mk.inj t5
        obtain ⟨q7, t7⟩ := Prod.mk.inj t6
        obtain ⟨q8, t8⟩ := Prod.mk.inj t7
        subst q1
        subst q2
        subst q3
        subst q4
        subst q5
        subst q6
        subst q7
        subst q8
        subst t8
        exact kr _ _ _ _ dX7_drawn_199 hP hD hS
    · rw [if_neg c_2] at hM
      refine lv_lload hx hb dX7_drawn_76 (lv_at hl 3 rfl) ?_
      refine lv_ldc2 (v := 16807) hx hb hown (hts _ tb1193) dX7_drawn_78 ?_
      refine lv_lmul hx hb dX7_drawn_81 ?_
      refine lv_ldc2 (v := 2147483647) hx hb hown (hts _ tb1194) dX7_drawn_82 ?_
      refine lv_lrem hx hb dX7_drawn_85 (by decide) ?_
      refine lv_lstore (lv' := [(4, .long ((x4 * (16807 : Int64)) - (x4 * (16807 : Int64)) / (2147483647 : Int64) * (2147483647 : Int64))), (0, .ref m_a), (1, .int p1), (3, .int p3), (6, .int x6), (7, .int x7), (8, .int x8)]) hx hb dX7_drawn_86 hl (by decide) rfl (fun ls hl => ?_)
      refine lv_lload hx hb dX7_drawn_88 (lv_at hl 0 rfl) ?_
      refine lv_aload_n hx hb dX7_drawn_90 rfl (lv_at hl 1 rfl) ?_
      refine va_get (D := G) (ci := 7) (v := .ref mA_then) (C := RX7) (T := TX7) (N := 33) hx hb hts inX7 hown hK hP 0 rfl rfl 7 (by decide) (hts _ tb771) (fun _ h9 => h9) rfl dX7_drawn_91 ?_
      obtain ⟨r_4, hC, hM⟩ := oe1 hM
      refine cS_i (As := [.ref mA_then]) (rest := [.long ((x4 * (16807 : Int64)) - (x4 * (16807 : Int64)) / (2147483647 : Int64) * (2147483647 : Int64))]) C0 hP hD hS [2] (kX7_wordsOf l G K mA_then m_then H.size r_4 hC) rfl rfl rfl tb951 tb952 tb9 tb953 hdX7_wordsOf ⟨Nat.le_of_ble_eq_true rfl, Nat.le_of_ble_eq_true rfl⟩ rfl hl.1 (Nat.le_of_ble_eq_true rfl) rfl ⟨Nat.le_refl _, Nat.le_refl _⟩ dX7_drawn_94 (fun H locs hP hD hS => ?_)
      have hP : va_P G vwCl (WX7_drawn K m_a mA_lane mA_many mA_item mA_poem mA_fresh mA_then mA_was mA_tape mA_strengths mA_sounds mA_stand mA_scheme mA_isKept mA_kept mA_trace m_thrown m_status m_acts m_taped m_cursor m_start m_token m_value m_fault m_faultAt m_latest m_stands m_least m_ways m_nearFoot m_nearFeet m_nearCost m_traced m_poem m_then m_strengths m_sounds m_stand) H := hP
      have hD : va_D A (WX7_drawn K m_a mA_lane mA_many mA_item mA_poem mA_fresh mA_then mA_was mA_tape mA_strengths mA_sounds mA_stand mA_scheme mA_isKept mA_kept mA_trace m_thrown m_status m_acts m_taped m_cursor m_start m_token m_value m_fault m_faultAt m_latest m_stands m_least m_ways m_nearFoot m_nearFeet m_nearCost m_traced m_poem m_then m_strengths m_sounds m_stand) := hD
      refine lv_i2l hx hb dX7_drawn_97 rfl ?_
      obtain ⟨g_5, hM⟩ := ng hM
      refine lv_lrem hx hb dX7_drawn_98 g_5 ?_
      refine lv_l2i hx hb dX7_drawn_99 rfl ?_
      refine lv_istore (lv' := [(9, .int ((((x4 * (16807 : Int64)) - (x4 * (16807 : Int64)) / (2147483647 : Int64) * (2147483647 : Int64)) - ((x4 * (16807 : Int64)) - (x4 * (16807 : Int64)) / (2147483647 : Int64) * (2147483647 : Int64)) / r_4.toInt64 * r_4.toInt64).toInt32)), (4, .long ((x4 * (16807 : Int64)) - (x4 * (16807 : Int64)) / (2147483647 : Int64) * (2147483647 : Int64))), (0, .ref m_a), (1, .int p1), (3, .int p3), (6, .int x6), (7, .int x7), (8, .int x8)]) hx hb dX7_drawn_100 hl (by decide) rfl (fun ls hl => ?_)
      refine lv_aload_n hx hb dX7_drawn_102 rfl (lv_at hl 2 rfl) ?_
      refine va_get (D := G) (ci := 7) (v := .ref mA_then) (C := RX7) (T := TX7) (N := 33) hx hb hts inX7 hown hK hP 0 rfl rfl 7 (by decide) (hts _ tb771) (fun _ h9 => h9) rfl dX7_drawn_103 ?_
      refine lv_bipush (v := 7) hx hb dX7_drawn_106 (by decide) ?_
      refine lv_bipush (v := 10) hx hb dX7_drawn_108 (by decide) ?_
      refine lv_iload hx hb dX7_drawn_110 (lv_at hl 0 rfl) ?_
      refine lv_imul hx hb dX7_drawn_112 ?_
      refine lv_iadd hx hb dX7_drawn_113 ?_
      refine lv_iconst (v := 1) hx hb dX7_drawn_114 (by decide) ?_
      refine lv_lload hx hb dX7_drawn_115 (lv_at hl 1 rfl) ?_
      refine lv_ldc2 (v := 16) hx hb hown (hts _ tb1195) dX7_drawn_117 ?_
      refine lv_ldiv hx hb dX7_drawn_120 (by decide) ?_
      refine lv_ldc2 (v := 5) hx hb hown (hts _ tb946) dX7_drawn_121 ?_
      refine lv_lrem hx hb dX7_drawn_124 (by decide) ?_
      refine lv_l2i hx hb dX7_drawn_125 rfl ?_
      refine lv_iadd hx hb dX7_drawn_126 ?_
      obtain ⟨g_6, hM⟩ := ng hM
      refine va_iast hx hb hK hP hD hS 2 0 rfl rfl g_6 dX7_drawn_127 (fun H locs hP hD hS => ?_)
      have hP : va_P G vwCl (WX7_drawn K m_a mA_lane mA_many mA_item mA_poem mA_fresh mA_then mA_was mA_tape mA_strengths mA_sounds mA_stand mA_scheme mA_isKept mA_kept mA_trace m_thrown m_status m_acts m_taped m_cursor m_start m_token m_value m_fault m_faultAt m_latest m_stands m_least m_ways m_nearFoot m_nearFeet m_nearCost m_traced m_poem (upd m_then ((7 : Int32) + ((10 : Int32) * ((((x4 * (16807 : Int64)) - (x4 * (16807 : Int64)) / (2147483647 : Int64) * (2147483647 : Int64)) - ((x4 * (16807 : Int64)) - (x4 * (16807 : Int64)) / (2147483647 : Int64) * (2147483647 : Int64)) / r_4.toInt64 * r_4.toInt64).toInt32))).toNatClampNeg ((1 : Int32) + (((((x4 * (16807 : Int64)) - (x4 * (16807 : Int64)) / (2147483647 : Int64) * (2147483647 : Int64)) / (16 : Int64)) - (((x4 * (16807 : Int64)) - (x4 * (16807 : Int64)) / (2147483647 : Int64) * (2147483647 : Int64)) / (16 : Int64)) / (5 : Int64) * (5 : Int64)).toInt32))) m_strengths m_sounds m_stand) H := hP
      have hD : va_D A (WX7_drawn K m_a mA_lane mA_many mA_item mA_poem mA_fresh mA_then mA_was mA_tape mA_strengths mA_sounds mA_stand mA_scheme mA_isKept mA_kept mA_trace m_thrown m_status m_acts m_taped m_cursor m_start m_token m_value m_fault m_faultAt m_latest m_stands m_least m_ways m_nearFoot m_nearFeet m_nearCost m_traced m_poem (upd m_then ((7 : Int32) + ((10 : Int32) * ((((x4 * (16807 : Int64)) - (x4 * (16807 : Int64)) / (2147483647 : Int64) * (2147483647 : Int64)) - ((x4 * (16807 : Int64)) - (x4 * (16807 : Int64)) / (2147483647 : Int64) * (2147483647 : Int64)) / r_4.toInt64 * r_4.toInt64).toInt32))).toNatClampNeg ((1 : Int32) + (((((x4 * (16807 : Int64)) - (x4 * (16807 : Int64)) / (2147483647 : Int64) * (2147483647 : Int64)) / (16 : Int64)) - (((x4 * (16807 : Int64)) - (x4 * (16807 : Int64)) / (2147483647 : Int64) * (2147483647 : Int64)) / (16 : Int64)) / (5 : Int64) * (5 : Int64)).toInt32))) m_strengths m_sounds m_stand) := hD
      refine lv_aload_n hx hb dX7_drawn_128 rfl (lv_at hl 2 rfl) ?_
      refine lv_aload_n hx hb dX7_drawn_129 rfl (lv_at hl 2 rfl) ?_
      refine va_get (D := G) (ci := 7) (v := .ref mA_then) (C := RX7) (T := TX7) (N := 33) hx hb hts inX7 hown hK hP 0 rfl rfl 7 (by decide) (hts _ tb771) (fun _ h9 => h9) rfl dX7_drawn_130 ?_
      refine lv_aload_n hx hb dX7_drawn_133 rfl (lv_at hl 2 rfl) ?_
      refine va_get (D := G) (ci := 7) (v := .ref mA_then) (C := RX7) (T := TX7) (N := 33) hx hb hts inX7 hown hK hP 0 rfl rfl 7 (by decide) (hts _ tb771) (fun _ h9 => h9) rfl dX7_drawn_134 ?_
      refine lv_iload hx hb dX7_drawn_137 (lv_at hl 0 rfl) ?_
      obtain ⟨r_7, hC, hM⟩ := oe1 hM
      refine cS_i (As := [.ref mA_then, .int ((((x4 * (16807 : Int64)) - (x4 * (16807 : Int64)) / (2147483647 : Int64) * (2147483647 : Int64)) - ((x4 * (16807 : Int64)) - (x4 * (16807 : Int64)) / (2147483647 : Int64) * (2147483647 : Int64)) / r_4.toInt64 * r_4.toInt64).toInt32)]) (rest := [.ref mA_then, .ref m_a]) C0 hP hD hS [2] (kX7_lineOf l G K mA_then (upd m_then ((7 : Int32) + ((10 : Int32) * ((((x4 * (16807 : Int64)) - (x4 * (16807 : Int64)) / (2147483647 : Int64) * (2147483647 : Int64)) - ((x4 * (16807 : Int64)) - (x4 * (16807 : Int64)) / (2147483647 : Int64) * (2147483647 : Int64)) / r_4.toInt64 * r_4.toInt64).toInt32))).toNatClampNeg ((1 : Int32) + (((((x4 * (16807 : Int64)) - (x4 * (16807 : Int64)) / (2147483647 : Int64) * (2147483647 : Int64)) / (16 : Int64)) - (((x4 * (16807 : Int64)) - (x4 * (16807 : Int64)) / (2147483647 : Int64) * (2147483647 : Int64)) / (16 : Int64)) / (5 : Int64) * (5 : Int64)).toInt32))) ((((x4 * (16807 : Int64)) - (x4 * (16807 : Int64)) / (2147483647 : Int64) * (2147483647 : Int64)) - ((x4 * (16807 : Int64)) - (x4 * (16807 : Int64)) / (2147483647 : Int64) * (2147483647 : Int64)) / r_4.toInt64 * r_4.toInt64).toInt32) H.size r_7 hC) rfl rfl rfl tb1003 tb1004 tb9 tb1005 hdX7_lineOf ⟨Nat.le_of_ble_eq_true rfl, Nat.le_of_ble_eq_true rfl⟩ rfl hl.1 (Nat.le_of_ble_eq_true rfl) rfl ⟨Nat.le_refl _, Nat.le_refl _⟩ dX7_drawn_139 (fun H locs hP hD hS => ?_)
      have hP : va_P G vwCl (WX7_drawn K m_a mA_lane mA_many mA_item mA_poem mA_fresh mA_then mA_was mA_tape mA_strengths mA_sounds mA_stand mA_scheme mA_isKept mA_kept mA_trace m_thrown m_status m_acts m_taped m_cursor m_start m_token m_value m_fault m_faultAt m_latest m_stands m_least m_ways m_nearFoot m_nearFeet m_nearCost m_traced m_poem (upd m_then ((7 : Int32) + ((10 : Int32) * ((((x4 * (16807 : Int64)) - (x4 * (16807 : Int64)) / (2147483647 : Int64) * (2147483647 : Int64)) - ((x4 * (16807 : Int64)) - (x4 * (16807 : Int64)) / (2147483647 : Int64) * (2147483647 : Int64)) / r_4.toInt64 * r_4.toInt64).toInt32))).toNatClampNeg ((1 : Int32) + (((((x4 * (16807 : Int64)) - (x4 * (16807 : Int64)) / (2147483647 : Int64) * (2147483647 : Int64)) / (16 : Int64)) - (((x4 * (16807 : Int64)) - (x4 * (16807 : Int64)) / (2147483647 : Int64) * (2147483647 : Int64)) / (16 : Int64)) / (5 : Int64) * (5 : Int64)).toInt32))) m_strengths m_sounds m_stand) H := hP
      have hD : va_D A (WX7_drawn K m_a mA_lane mA_many mA_item mA_poem mA_fresh mA_then mA_was mA_tape mA_strengths mA_sounds mA_stand mA_scheme mA_isKept mA_kept mA_trace m_thrown m_status m_acts m_taped m_cursor m_start m_token m_value m_fault m_faultAt m_latest m_stands m_least m_ways m_nearFoot m_nearFeet m_nearCost m_traced m_poem (upd m_then ((7 : Int32) + ((10 : Int32) * ((((x4 * (16807 : Int64)) - (x4 * (16807 : Int64)) / (2147483647 : Int64) * (2147483647 : Int64)) - ((x4 * (16807 : Int64)) - (x4 * (16807 : Int64)) / (2147483647 : Int64) * (2147483647 : Int64)) / r_4.toInt64 * r_4.toInt64).toInt32))).toNatClampNeg ((1 : Int32) + (((((x4 * (16807 : Int64)) - (x4 * (16807 : Int64)) / (2147483647 : Int64) * (2147483647 : Int64)) / (16 : Int64)) - (((x4 * (16807 : Int64)) - (x4 * (16807 : Int64)) / (2147483647 : Int64) * (2147483647 : Int64)) / (16 : Int64)) / (5 : Int64) * (5 : Int64)).toInt32))) m_strengths m_sounds m_stand) := hD
      obtain ⟨r_8, u0_8, u1_8, u2_8, u3_8, u4_8, u5_8, hC, hM⟩ := oe7 hM
      refine cV_i (As := [.ref mA_then, .int r_7]) (rest := []) C0 hP hD hS [0, 3, 4, 5, 2] (kX7_byMetre l G K m_a mA_lane mA_many mA_item mA_poem mA_fresh mA_then mA_was mA_tape mA_strengths mA_sounds mA_stand mA_scheme mA_isKept mA_kept mA_trace mA_then m_thrown m_status m_acts m_taped m_cursor m_start m_token m_value m_fault m_faultAt m_latest m_stands m_least m_ways m_nearFoot m_nearFeet m_nearCost m_traced m_strengths m_sounds m_stand (upd m_then ((7 : Int32) + ((10 : Int32) * ((((x4 * (16807 : Int64)) - (x4 * (16807 : Int64)) / (2147483647 : Int64) * (2147483647 : Int64)) - ((x4 * (16807 : Int64)) - (x4 * (16807 : Int64)) / (2147483647 : Int64) * (2147483647 : Int64)) / r_4.toInt64 * r_4.toInt64).toInt32))).toNatClampNeg ((1 : Int32) + (((((x4 * (16807 : Int64)) - (x4 * (16807 : Int64)) / (2147483647 : Int64) * (2147483647 : Int64)) / (16 : Int64)) - (((x4 * (16807 : Int64)) - (x4 * (16807 : Int64)) / (2147483647 : Int64) * (2147483647 : Int64)) / (16 : Int64)) / (5 : Int64) * (5 : Int64)).toInt32))) r_7 H.size r_8 u0_8 u1_8 u2_8 u3_8 u4_8 u5_8 hC) rfl rfl rfl tb1168 tb1170 tp46 tb9 tb1171 hdX7_byMetre (va_recv hK hP (ci := 7) (q0 := 0) rfl rfl) ⟨Nat.le_of_ble_eq_true rfl, Nat.le_of_ble_eq_true rfl⟩ rfl hl.1 (Nat.le_of_ble_eq_true rfl) rfl ⟨Nat.le_refl _, Nat.le_refl _⟩ dX7_drawn_142 (fun H locs hP hD hS => ?_)
      have hP : va_P G vwCl (WX7_drawn K m_a mA_lane mA_many mA_item mA_poem mA_fresh mA_then mA_was mA_tape mA_strengths mA_sounds mA_stand mA_scheme mA_isKept mA_kept mA_trace m_thrown m_status m_acts m_taped m_cursor m_start m_token m_value m_fault m_faultAt m_latest u0_8 u1_8 u2_8 m_nearFoot m_nearFeet m_nearCost m_traced m_poem (upd m_then ((7 : Int32) + ((10 : Int32) * ((((x4 * (16807 : Int64)) - (x4 * (16807 : Int64)) / (2147483647 : Int64) * (2147483647 : Int64)) - ((x4 * (16807 : Int64)) - (x4 * (16807 : Int64)) / (2147483647 : Int64) * (2147483647 : Int64)) / r_4.toInt64 * r_4.toInt64).toInt32))).toNatClampNeg ((1 : Int32) + (((((x4 * (16807 : Int64)) - (x4 * (16807 : Int64)) / (2147483647 : Int64) * (2147483647 : Int64)) / (16 : Int64)) - (((x4 * (16807 : Int64)) - (x4 * (16807 : Int64)) / (2147483647 : Int64) * (2147483647 : Int64)) / (16 : Int64)) / (5 : Int64) * (5 : Int64)).toInt32))) u3_8 u4_8 u5_8) H := hP
      have hD : va_D A (WX7_drawn K m_a mA_lane mA_many mA_item mA_poem mA_fresh mA_then mA_was mA_tape mA_strengths mA_sounds mA_stand mA_scheme mA_isKept mA_kept mA_trace m_thrown m_status m_acts m_taped m_cursor m_start m_token m_value m_fault m_faultAt m_latest u0_8 u1_8 u2_8 m_nearFoot m_nearFeet m_nearCost m_traced m_poem (upd m_then ((7 : Int32) + ((10 : Int32) * ((((x4 * (16807 : Int64)) - (x4 * (16807 : Int64)) / (2147483647 : Int64) * (2147483647 : Int64)) - ((x4 * (16807 : Int64)) - (x4 * (16807 : Int64)) / (2147483647 : Int64) * (2147483647 : Int64)) / r_4.toInt64 * r_4.toInt64).toInt32))).toNatClampNeg ((1 : Int32) + (((((x4 * (16807 : Int64)) - (x4 * (16807 : Int64)) / (2147483647 : Int64) * (2147483647 : Int64)) / (16 : Int64)) - (((x4 * (16807 : Int64)) - (x4 * (16807 : Int64)) / (2147483647 : Int64) * (2147483647 : Int64)) / (16 : Int64)) / (5 : Int64) * (5 : Int64)).toInt32))) u3_8 u4_8 u5_8) := hD
      refine lv_istore (lv' := [(10, .int r_8), (9, .int ((((x4 * (16807 : Int64)) - (x4 * (16807 : Int64)) / (2147483647 : Int64) * (2147483647 : Int64)) - ((x4 * (16807 : Int64)) - (x4 * (16807 : Int64)) / (2147483647 : Int64) * (2147483647 : Int64)) / r_4.toInt64 * r_4.toInt64).toInt32)), (4, .long ((x4 * (16807 : Int64)) - (x4 * (16807 : Int64)) / (2147483647 : Int64) * (2147483647 : Int64))), (0, .ref m_a), (1, .int p1), (3, .int p3), (6, .int x6), (7, .int x7), (8, .int x8)]) hx hb dX7_drawn_145 hl (by decide) rfl (fun ls hl => ?_)
      refine lv_iload hx hb dX7_drawn_147 (lv_at hl 6 rfl) ?_
      refine lv_iload hx hb dX7_drawn_149 (lv_at hl 0 rfl) ?_
      refine lv_ldc (v := -1000000) hx hb hown (hts _ tb917) dX7_drawn_151 ?_
      refine lv_icmp_ne (tgt := 160) hx hb dX7_drawn_153 (by decide) (fun c_9 => ?_) (fun c_9 => ?_)
      · rw [if_neg c_9] at hM
        refine lv_iload hx hb dX7_drawn_160 (lv_at hl 0 rfl) ?_
        exact wX7_drawn_b162 C0 m_a mA_lane mA_many mA_item mA_poem mA_fresh mA_then mA_was mA_tape mA_strengths mA_sounds mA_stand mA_scheme mA_isKept mA_kept mA_trace m_status m_acts m_taped m_cursor m_start m_token m_value m_fault m_faultAt m_latest m_nearFoot m_nearFeet m_nearCost m_traced m_poem p1 p2 p3 r o_m_thrown o_m_stands o_m_least o_m_ways o_m_then o_m_strengths o_m_sounds o_m_stand kr (mX7_drawn_b70 m_poem p1 p2 p3  n) ih m_thrown u0_8 u1_8 u2_8 (upd m_then ((7 : Int32) + ((10 : Int32) * ((((x4 * (16807 : Int64)) - (x4 * (16807 : Int64)) / (2147483647 : Int64) * (2147483647 : Int64)) - ((x4 * (16807 : Int64)) - (x4 * (16807 : Int64)) / (2147483647 : Int64) * (2147483647 : Int64)) / r_4.toInt64 * r_4.toInt64).toInt32))).toNatClampNeg ((1 : Int32) + (((((x4 * (16807 : Int64)) - (x4 * (16807 : Int64)) / (2147483647 : Int64) * (2147483647 : Int64)) / (16 : Int64)) - (((x4 * (16807 : Int64)) - (x4 * (16807 : Int64)) / (2147483647 : Int64) * (2147483647 : Int64)) / (16 : Int64)) / (5 : Int64) * (5 : Int64)).toInt32))) u3_8 u4_8 u5_8 ((x4 * (16807 : Int64)) - (x4 * (16807 : Int64)) / (2147483647 : Int64) * (2147483647 : Int64)) x7 x8 r_8 x6 r_8 hM _ _ _ hP hD hS (lv_sub hl [3, 4, 5, 2, 7, 8, 0] rfl)
      · rw [if_pos c_9] at hM
        refine lv_iconst (v := 0) hx hb dX7_drawn_156 (by decide) ?_
        refine lv_goto (tgt := 162) hx hb dX7_drawn_157 (by decide) ?_
        exact wX7_drawn_b162 C0 m_a mA_lane mA_many mA_item mA_poem mA_fresh mA_then mA_was mA_tape mA_strengths mA_sounds mA_stand mA_scheme mA_isKept mA_kept mA_trace m_status m_acts m_taped m_cursor m_start m_token m_value m_fault m_faultAt m_latest m_nearFoot m_nearFeet m_nearCost m_traced m_poem p1 p2 p3 r o_m_thrown o_m_stands o_m_least o_m_ways o_m_then o_m_strengths o_m_sounds o_m_stand kr (mX7_drawn_b70 m_poem p1 p2 p3  n) ih m_thrown u0_8 u1_8 u2_8 (upd m_then ((7 : Int32) + ((10 : Int32) * ((((x4 * (16807 : Int64)) - (x4 * (16807 : Int64)) / (2147483647 : Int64) * (2147483647 : Int64)) - ((x4 * (16807 : Int64)) - (x4 * (16807 : Int64)) / (2147483647 : Int64) * (2147483647 : Int64)) / r_4.toInt64 * r_4.toInt64).toInt32))).toNatClampNeg ((1 : Int32) + (((((x4 * (16807 : Int64)) - (x4 * (16807 : Int64)) / (2147483647 : Int64) * (2147483647 : Int64)) / (16 : Int64)) - (((x4 * (16807 : Int64)) - (x4 * (16807 : Int64)) / (2147483647 : Int64) * (2147483647 : Int64)) / (16 : Int64)) / (5 : Int64) * (5 : Int64)).toInt32))) u3_8 u4_8 u5_8 ((x4 * (16807 : Int64)) - (x4 * (16807 : Int64)) / (2147483647 : Int64) * (2147483647 : Int64)) x7 x8 r_8 x6 (0 : Int32) hM _ _ _ hP hD hS (lv_sub hl [3, 4, 5, 2, 7, 8, 0] rfl)
set_option maxHeartbeats 4000000 in
set_option maxRecDepth 100000 in
theorem wX7_drawn_b0 {p : Program} {l : Launch} {e : Env} {s : State} {m : MethodId} {args : Array Value} {below : List Frame} {meth : Method} {c : Code} {Q : State → Prop} {G : va_G} {K : Nat → ClassId} {A : Nat → Prop} (C0 : CX p s m args c cX7_drawn 11 RX7 G K E0 A) (m_a mA_lane mA_many mA_item mA_poem mA_fresh mA_then mA_was mA_tape mA_strengths mA_sounds mA_stand mA_scheme mA_isKept mA_kept mA_trace : Nat) (m_status : Int32) (m_acts : Int32) (m_taped : Int32) (m_cursor : Int32) (m_start : Int32) (m_token : Int32) (m_value : Int32) (m_fault : Int32) (m_faultAt : Int32) (m_latest : Int32) (m_nearFoot : Int32) (m_nearFeet : Int32) (m_nearCost : Int32) (m_traced : Int32) (m_poem : Nat → Int32) (p1 : Int32) (p2 : Int32) (p3 : Int32) (r : Int32) (o_m_thrown : Int32) (o_m_stands : Int32) (o_m_least : Int32) (o_m_ways : Int32) (o_m_then : Nat → Int32) (o_m_strengths : Nat → Int32) (o_m_sounds : Nat → Int32) (o_m_stand : Nat → Int32) (kr : ∀ (H : Heap) (locs : List Loc) (ls : Array Slot) (pc : Nat), decode cX7_drawn pc = .ok (.ireturn, 1) → va_P G vwCl (WX7_drawn K m_a mA_lane mA_many mA_item mA_poem mA_fresh mA_then mA_was mA_tape mA_strengths mA_sounds mA_stand mA_scheme mA_isKept mA_kept mA_trace o_m_thrown m_status m_acts m_taped m_cursor m_start m_token m_value m_fault m_faultAt m_latest o_m_stands o_m_least o_m_ways m_nearFoot m_nearFeet m_nearCost m_traced m_poem o_m_then o_m_strengths o_m_sounds o_m_stand) H → va_D A (WX7_drawn K m_a mA_lane mA_many mA_item mA_poem mA_fresh mA_then mA_was mA_tape mA_strengths mA_sounds mA_stand mA_scheme mA_isKept mA_kept mA_trace o_m_thrown m_status m_acts m_taped m_cursor m_start m_token m_value m_fault m_faultAt m_latest o_m_stands o_m_least o_m_ways m_nearFoot m_nearFeet m_nearCost m_traced m_poem o_m_then o_m_strengths o_m_sounds o_m_stand) → va_S A s.heap H locs → W p l e rmX7_drawn s m args below meth c H locs 0 0 Q (F0 m pc ls [.int r])) (m_thrown : Int32) (m_stands : Int32) (m_least : Int32) (m_ways : Int32) (m_then : Nat → Int32) (m_strengths : Nat → Int32) (m_sounds : Nat → Int32) (m_stand : Nat → Int32) (hM : mX7_drawn_b0 m_poem p1 p2 p3  m_thrown m_stands m_least m_ways m_then m_strengths m_sounds m_stand = some (r, o_m_thrown, o_m_stands, o_m_least, o_m_ways, o_m_then, o_m_strengths, o_m_sounds, o_m_stand)) : ∀ (H : Heap) (locs : List Loc) (ls : Array Slot), va_P G vwCl (WX7_drawn K m_a mA_lane mA_many mA_item mA_poem mA_fresh mA_then mA_was mA_tape mA_strengths mA_sounds mA_stand mA_scheme mA_isKept mA_kept mA_trace m_thrown m_status m_acts m_taped m_cursor m_start m_token m_value m_fault m_faultAt m_latest m_stands m_least m_ways m_nearFoot m_nearFeet m_nearCost m_traced m_poem m_then m_strengths m_sounds m_stand) H → va_D A (WX7_drawn K m_a mA_lane mA_many mA_item mA_poem mA_fresh mA_then mA_was mA_tape mA_strengths mA_sounds mA_stand mA_scheme mA_isKept mA_kept mA_trace m_thrown m_status m_acts m_taped m_cursor m_start m_token m_value m_fault m_faultAt m_latest m_stands m_least m_ways m_nearFoot m_nearFeet m_nearCost m_traced m_poem m_then m_strengths m_sounds m_stand) → va_S A s.heap H locs → lv_has ls 11 [(0, .ref m_a), (1, .int p1), (2, .int p2), (3, .int p3)] → W p l e rmX7_drawn s m args below meth c H locs 0 0 Q (F0 m 0 ls []) := by
  obtain ⟨hx, hb, hml, hown, hts, hK, hA, hEo, hE⟩ := id C0
  intro H locs ls hP hD hS hl
  unfold mX7_drawn_b0 at hM
  refine lv_aload_n hx hb dX7_drawn_0 rfl (lv_at hl 0 rfl) ?_
  refine lv_iconst (v := 0) hx hb dX7_drawn_1 (by decide) ?_
  refine va_put (D := G) (ci := 7) (v := .int (0 : Int32)) (ty := .int) (C := RX7) (T := TX7) (N := 33) hx hb hts inX7 tyX7 tyX7_ok nmX7 hown hK hP hD hS 0 rfl rfl 0 (by decide) (hts _ tb764) (fun _ h9 => h9) rfl (tyX7_ok 0 (by decide)) rfl rfl (Nat.le_of_ble_eq_true rfl) dX7_drawn_2 (fun H locs hP hD hS => ?_)
  have hP : va_P G vwCl (WX7_drawn K m_a mA_lane mA_many mA_item mA_poem mA_fresh mA_then mA_was mA_tape mA_strengths mA_sounds mA_stand mA_scheme mA_isKept mA_kept mA_trace (0 : Int32) m_status m_acts m_taped m_cursor m_start m_token m_value m_fault m_faultAt m_latest m_stands m_least m_ways m_nearFoot m_nearFeet m_nearCost m_traced m_poem m_then m_strengths m_sounds m_stand) H := hP
  have hD : va_D A (WX7_drawn K m_a mA_lane mA_many mA_item mA_poem mA_fresh mA_then mA_was mA_tape mA_strengths mA_sounds mA_stand mA_scheme mA_isKept mA_kept mA_trace (0 : Int32) m_status m_acts m_taped m_cursor m_start m_token m_value m_fault m_faultAt m_latest m_stands m_least m_ways m_nearFoot m_nearFeet m_nearCost m_traced m_poem m_then m_strengths m_sounds m_stand) := hD
  refine lv_aload_n hx hb dX7_drawn_5 rfl (lv_at hl 0 rfl) ?_
  obtain ⟨r_10, hC, hM⟩ := oe1 hM
  refine cV_i (As := []) (rest := []) C0 hP hD hS [0, 1] (kX7_isThere l G K m_a mA_lane mA_many mA_item mA_poem mA_fresh mA_then mA_was mA_tape mA_strengths mA_sounds mA_stand mA_scheme mA_isKept mA_kept mA_trace (0 : Int32) m_status m_acts m_taped m_cursor m_start m_token m_value m_fault m_faultAt m_latest m_stands m_least m_ways m_nearFoot m_nearFeet m_nearCost m_traced m_poem H.size r_10 hC) rfl rfl rfl tb1014 tb1016 tp29 tb9 tb1017 hdX7_isThere (va_recv hK hP (ci := 7) (q0 := 0) rfl rfl) ⟨Nat.le_of_ble_eq_true rfl, Nat.le_of_ble_eq_true rfl⟩ rfl hl.1 (Nat.le_of_ble_eq_true rfl) rfl ⟨Nat.le_refl _, Nat.le_refl _⟩ dX7_drawn_6 (fun H locs hP hD hS => ?_)
  have hP : va_P G vwCl (WX7_drawn K m_a mA_lane mA_many mA_item mA_poem mA_fresh mA_then mA_was mA_tape mA_strengths mA_sounds mA_stand mA_scheme mA_isKept mA_kept mA_trace (0 : Int32) m_status m_acts m_taped m_cursor m_start m_token m_value m_fault m_faultAt m_latest m_stands m_least m_ways m_nearFoot m_nearFeet m_nearCost m_traced m_poem m_then m_strengths m_sounds m_stand) H := hP
  have hD : va_D A (WX7_drawn K m_a mA_lane mA_many mA_item mA_poem mA_fresh mA_then mA_was mA_tape mA_strengths mA_sounds mA_stand mA_scheme mA_isKept mA_kept mA_trace (0 : Int32) m_status m_acts m_taped m_cursor m_start m_token m_value m_fault m_faultAt m_latest m_stands m_least m_ways m_nearFoot m_nearFeet m_nearCost m_traced m_poem m_then m_strengths m_sounds m_stand) := hD
  refine lv_if_ne (tgt := 16) hx hb dX7_drawn_9 (by decide) (fun c_11 => ?_) (fun c_11 => ?_)
  · rw [if_neg c_11] at hM
    refine lv_iload_n hx hb dX7_drawn_16 rfl (lv_at hl 1 rfl) ?_
    refine lv_i2l hx hb dX7_drawn_17 rfl ?_
    refine lv_lconst (v := 0) hx hb dX7_drawn_18 (by decide) ?_
    refine lv_ldc2 (v := 20) hx hb hown (hts _ tb1191) dX7_drawn_19 ?_
    obtain ⟨r_12, hC, hM⟩ := oe1 hM
    refine cS_i (As := [.long p1.toInt64, .long (0 : Int64), .long (20 : Int64)]) (rest := []) C0 hP hD hS [] (kX7_in l G K p1.toInt64 (0 : Int64) (20 : Int64) H.size r_12 hC) rfl rfl rfl tb873 tb874 tb9 tb875 hdX7_in ⟨Nat.le_of_ble_eq_true rfl, Nat.le_of_ble_eq_true rfl⟩ rfl hl.1 (Nat.le_of_ble_eq_true rfl) rfl ⟨Nat.le_refl _, Nat.le_refl _⟩ dX7_drawn_22 (fun H locs hP hD hS => ?_)
    have hP : va_P G vwCl (WX7_drawn K m_a mA_lane mA_many mA_item mA_poem mA_fresh mA_then mA_was mA_tape mA_strengths mA_sounds mA_stand mA_scheme mA_isKept mA_kept mA_trace (0 : Int32) m_status m_acts m_taped m_cursor m_start m_token m_value m_fault m_faultAt m_latest m_stands m_least m_ways m_nearFoot m_nearFeet m_nearCost m_traced m_poem m_then m_strengths m_sounds m_stand) H := hP
    have hD : va_D A (WX7_drawn K m_a mA_lane mA_many mA_item mA_poem mA_fresh mA_then mA_was mA_tape mA_strengths mA_sounds mA_stand mA_scheme mA_isKept mA_kept mA_trace (0 : Int32) m_status m_acts m_taped m_cursor m_start m_token m_value m_fault m_faultAt m_latest m_stands m_least m_ways m_nearFoot m_nearFeet m_nearCost m_traced m_poem m_then m_strengths m_sounds m_stand) := hD
    refine lv_if_eq (tgt := 50) hx hb dX7_drawn_25 (by decide) (fun c_13 => ?_) (fun c_13 => ?_)
    · rw [if_pos c_13] at hM
      refine lv_ldc (v := -1000001) hx hb hown (hts _ tb877) dX7_drawn_50 ?_
      have t0 := Option.some.inj hM
      obtain ⟨q1, t1⟩ := Prod.mk.inj t0
      obtain ⟨q2, t2⟩ := Prod.mk.inj t1
      obtain ⟨q3, t3⟩ := Prod.mk.inj t2
      obtain ⟨q4, t4⟩ := Prod.mk.inj t3
      obtain ⟨q5, t5⟩ := Prod.mk.inj t4
      obtain ⟨q6, t6⟩ := Prod.mk.inj t5
      obtain ⟨q7, t7⟩ := Prod.mk.inj t6
      obtain ⟨q8, t8⟩ := Prod.mk.inj t7
      subst q1
      subst q2
      subst q3
      subst q4
      subst q5
      subst q6
      subst q7
      subst q8
      subst t8
      exact kr _ _ _ _ dX7_drawn_52 hP hD hS
    · rw [if_neg c_13] at hM
      refine lv_iload_n hx hb dX7_drawn_28 rfl (lv_at hl 2 rfl) ?_
      refine lv_i2l hx hb dX7_drawn_29 rfl ?_
      refine lv_lconst (v := 1) hx hb dX7_drawn_30 (by decide) ?_
      refine lv_ldc2 (v := 999999) hx hb hown (hts _ tb1192) dX7_drawn_31 ?_
      obtain ⟨r_14, hC, hM⟩ := oe1 hM
      refine cS_i (As := [.long p2.toInt64, .long (1 : Int64), .long (999999 : Int64)]) (rest := []) C0 hP hD hS [] (kX7_in l G K p2.toInt64 (1 : Int64) (999999 : Int64) H.size r_14 hC) rfl rfl rfl tb873 tb874 tb9 tb875 hdX7_in ⟨Nat.le_of_ble_eq_true rfl, Nat.le_of_ble_eq_true rfl⟩ rfl hl.1 (Nat.le_of_ble_eq_true rfl) rfl ⟨Nat.le_refl _, Nat.le_refl _⟩ dX7_drawn_34 (fun H locs hP hD hS => ?_)
      have hP : va_P G vwCl (WX7_drawn K m_a mA_lane mA_many mA_item mA_poem mA_fresh mA_then mA_was mA_tape mA_strengths mA_sounds mA_stand mA_scheme mA_isKept mA_kept mA_trace (0 : Int32) m_status m_acts m_taped m_cursor m_start m_token m_value m_fault m_faultAt m_latest m_stands m_least m_ways m_nearFoot m_nearFeet m_nearCost m_traced m_poem m_then m_strengths m_sounds m_stand) H := hP
      have hD : va_D A (WX7_drawn K m_a mA_lane mA_many mA_item mA_poem mA_fresh mA_then mA_was mA_tape mA_strengths mA_sounds mA_stand mA_scheme mA_isKept mA_kept mA_trace (0 : Int32) m_status m_acts m_taped m_cursor m_start m_token m_value m_fault m_faultAt m_latest m_stands m_least m_ways m_nearFoot m_nearFeet m_nearCost m_traced m_poem m_then m_strengths m_sounds m_stand) := hD
      refine lv_if_eq (tgt := 50) hx hb dX7_drawn_37 (by decide) (fun c_15 => ?_) (fun c_15 => ?_)
      · rw [if_pos c_15] at hM
        refine lv_ldc (v := -1000001) hx hb hown (hts _ tb877) dX7_drawn_50 ?_
        have t0 := Option.some.inj hM
        obtain ⟨q1, t1⟩ := Prod.mk.inj t0
        obtain ⟨q2, t2⟩ := Prod.mk.inj t1
        obtain ⟨q3, t3⟩ := Prod.mk.inj t2
        obtain ⟨q4, t4⟩ := Prod.mk.inj t3
        obtain ⟨q5, t5⟩ := Prod.mk.inj t4
        obtain ⟨q6, t6⟩ := Prod.mk.inj t5
        obtain ⟨q7, t7⟩ := Prod.mk.inj t6
        obtain ⟨q8, t8⟩ := Prod.mk.inj t7
        subst q1
        subst q2
        subst q3
        subst q4
        subst q5
        subst q6
        subst q7
        subst q8
        subst t8
        exact kr _ _ _ _ dX7_drawn_52 hP hD hS
      · rw [if_neg c_15] at hM
        refine lv_iload_n hx hb dX7_drawn_40 rfl (lv_at hl 3 rfl) ?_
        refine lv_i2l hx hb dX7_drawn_41 rfl ?_
        refine lv_lconst (v := 0) hx hb dX7_drawn_42 (by decide) ?_
        refine lv_lconst (v := 1) hx hb dX7_drawn_43 (by decide) ?_
        obtain ⟨r_16, hC, hM⟩ := oe1 hM
        refine cS_i (As := [.long p3.toInt64, .long (0 : Int64), .long (1 : Int64)]) (rest := []) C0 hP hD hS [] (kX7_in l G K p3.toInt64 (0 : Int64) (1 : Int64) H.size r_16 hC) rfl rfl rfl tb873 tb874 tb9 tb875 hdX7_in ⟨Nat.le_of_ble_eq_true rfl, Nat.le_of_ble_eq_true rfl⟩ rfl hl.1 (Nat.le_of_ble_eq_true rfl) rfl ⟨Nat.le_refl _, Nat.le_refl _⟩ dX7_drawn_44 (fun H locs hP hD hS => ?_)
        have hP : va_P G vwCl (WX7_drawn K m_a mA_lane mA_many mA_item mA_poem mA_fresh mA_then mA_was mA_tape mA_strengths mA_sounds mA_stand mA_scheme mA_isKept mA_kept mA_trace (0 : Int32) m_status m_acts m_taped m_cursor m_start m_token m_value m_fault m_faultAt m_latest m_stands m_least m_ways m_nearFoot m_nearFeet m_nearCost m_traced m_poem m_then m_strengths m_sounds m_stand) H := hP
        have hD : va_D A (WX7_drawn K m_a mA_lane mA_many mA_item mA_poem mA_fresh mA_then mA_was mA_tape mA_strengths mA_sounds mA_stand mA_scheme mA_isKept mA_kept mA_trace (0 : Int32) m_status m_acts m_taped m_cursor m_start m_token m_value m_fault m_faultAt m_latest m_stands m_least m_ways m_nearFoot m_nearFeet m_nearCost m_traced m_poem m_then m_strengths m_sounds m_stand) := hD
        refine lv_if_ne (tgt := 53) hx hb dX7_drawn_47 (by decide) (fun c_17 => ?_) (fun c_17 => ?_)
        · rw [if_neg c_17] at hM
          refine lv_aload_n hx hb dX7_drawn_53 rfl (lv_at hl 0 rfl) ?_
          obtain ⟨u0_18, hC, hM⟩ := oe1 hM
          refine cV_v (As := []) (rest := []) C0 hP hD hS [0, 1, 2] (kX7_layThen l G K m_a mA_lane mA_many mA_item mA_poem mA_fresh mA_then mA_was mA_tape mA_strengths mA_sounds mA_stand mA_scheme mA_isKept mA_kept mA_trace (0 : Int32) m_status m_acts m_taped m_cursor m_start m_token m_value m_fault m_faultAt m_latest m_stands m_least m_ways m_nearFoot m_nearFeet m_nearCost m_traced m_poem m_then H.size u0_18 hC) rfl rfl rfl tb1164 tb1166 tp45 tb9 tb1167 hdX7_layThen (va_recv hK hP (ci := 7) (q0 := 0) rfl rfl) ⟨Nat.le_of_ble_eq_true rfl, Nat.le_of_ble_eq_true rfl⟩ rfl hl.1 (Nat.le_of_ble_eq_true rfl) rfl ⟨Nat.le_refl _, Nat.le_refl _⟩ dX7_drawn_54 (fun H locs hP hD hS => ?_)
          have hP : va_P G vwCl (WX7_drawn K m_a mA_lane mA_many mA_item mA_poem mA_fresh mA_then mA_was mA_tape mA_strengths mA_sounds mA_stand mA_scheme mA_isKept mA_kept mA_trace (0 : Int32) m_status m_acts m_taped m_cursor m_start m_token m_value m_fault m_faultAt m_latest m_stands m_least m_ways m_nearFoot m_nearFeet m_nearCost m_traced m_poem u0_18 m_strengths m_sounds m_stand) H := hP
          have hD : va_D A (WX7_drawn K m_a mA_lane mA_many mA_item mA_poem mA_fresh mA_then mA_was mA_tape mA_strengths mA_sounds mA_stand mA_scheme mA_isKept mA_kept mA_trace (0 : Int32) m_status m_acts m_taped m_cursor m_start m_token m_value m_fault m_faultAt m_latest m_stands m_least m_ways m_nearFoot m_nearFeet m_nearCost m_traced m_poem u0_18 m_strengths m_sounds m_stand) := hD
          refine lv_iload_n hx hb dX7_drawn_57 rfl (lv_at hl 2 rfl) ?_
          refine lv_i2l hx hb dX7_drawn_58 rfl ?_
          refine lv_lstore (lv' := [(4, .long p2.toInt64), (0, .ref m_a), (1, .int p1), (2, .int p2), (3, .int p3)]) hx hb dX7_drawn_59 hl (by decide) rfl (fun ls hl => ?_)
          refine lv_iconst (v := 0) hx hb dX7_drawn_61 (by decide) ?_
          refine lv_istore (lv' := [(6, .int (0 : Int32)), (4, .long p2.toInt64), (0, .ref m_a), (1, .int p1), (2, .int p2), (3, .int p3)]) hx hb dX7_drawn_62 hl (by decide) rfl (fun ls hl => ?_)
          refine lv_iconst (v := 0) hx hb dX7_drawn_64 (by decide) ?_
          refine lv_istore (lv' := [(7, .int (0 : Int32)), (6, .int (0 : Int32)), (4, .long p2.toInt64), (0, .ref m_a), (1, .int p1), (2, .int p2), (3, .int p3)]) hx hb dX7_drawn_65 hl (by decide) rfl (fun ls hl => ?_)
          refine lv_iconst (v := 0) hx hb dX7_drawn_67 (by decide) ?_
          refine lv_istore (lv' := [(8, .int (0 : Int32)), (7, .int (0 : Int32)), (6, .int (0 : Int32)), (4, .long p2.toInt64), (0, .ref m_a), (1, .int p1), (2, .int p2), (3, .int p3)]) hx hb dX7_drawn_68 hl (by decide) rfl (fun ls hl => ?_)
          exact wX7_drawn_b70 C0 m_a mA_lane mA_many mA_item mA_poem mA_fresh mA_then mA_was mA_tape mA_strengths mA_sounds mA_stand mA_scheme mA_isKept mA_kept mA_trace m_status m_acts m_taped m_cursor m_start m_token m_value m_fault m_faultAt m_latest m_nearFoot m_nearFeet m_nearCost m_traced m_poem p1 p2 p3 r o_m_thrown o_m_stands o_m_least o_m_ways o_m_then o_m_strengths o_m_sounds o_m_stand kr  FU (0 : Int32) m_stands m_least m_ways u0_18 m_strengths m_sounds m_stand p2.toInt64 (0 : Int32) (0 : Int32) (0 : Int32) hM _ _ _ hP hD hS (lv_sub hl [4, 5, 7, 3, 2, 1, 0] rfl)
        · rw [if_pos c_17] at hM
          refine lv_ldc (v := -1000001) hx hb hown (hts _ tb877) dX7_drawn_50 ?_
          have t0 := Option.some.inj hM
          obtain ⟨q1, t1⟩ := Prod.mk.inj t0
          obtain ⟨q2, t2⟩ := Prod.mk.inj t1
          obtain ⟨q3, t3⟩ := Prod.mk.inj t2
          obtain ⟨q4, t4⟩ := Prod.mk.inj t3
          obtain ⟨q5, t5⟩ := Prod.mk.inj t4
          obtain ⟨q6, t6⟩ := Prod.mk.inj t5
          obtain ⟨q7, t7⟩ := Prod.mk.inj t6
          obtain ⟨q8, t8⟩ := Prod.mk.inj t7
          subst q1
          subst q2
          subst q3
          subst q4
          subst q5
          subst q6
          subst q7
          subst q8
          subst t8
          exact kr _ _ _ _ dX7_drawn_52 hP hD hS
  · rw [if_pos c_11] at hM
    refine lv_ldcw (v := -1000002) hx hb hown (hts _ tb977) dX7_drawn_12 ?_
    have t0 := Option.some.inj hM
    obtain ⟨q1, t1⟩ := Prod.mk.inj t0
    obtain ⟨q2, t2⟩ := Prod.mk.inj t1
    obtain ⟨q3, t3⟩ := Prod.mk.inj t2
    obtain ⟨q4, t4⟩ := Prod.mk.inj t3
    obtain ⟨q5, t5⟩ := Prod.mk.inj t4
    obtain ⟨q6, t6⟩ := Prod.mk.inj t5
    obtain ⟨q7, t7⟩ := Prod.mk.inj t6
    obtain ⟨q8, t8⟩ := Prod.mk.inj t7
    subst q1
    subst q2
    subst q3
    subst q4
    subst q5
    subst q6
    subst q7
    subst q8
    subst t8
    exact kr _ _ _ _ dX7_drawn_15 hP hD hS
set_option maxHeartbeats 4000000 in
set_option maxRecDepth 100000 in
theorem kX7_drawn (l : Launch) (G : va_G) (K : Nat → ClassId) (m_a mA_lane mA_many mA_item mA_poem mA_fresh mA_then mA_was mA_tape mA_strengths mA_sounds mA_stand mA_scheme mA_isKept mA_kept mA_trace : Nat) (m_thrown : Int32) (m_status : Int32) (m_acts : Int32) (m_taped : Int32) (m_cursor : Int32) (m_start : Int32) (m_token : Int32) (m_value : Int32) (m_fault : Int32) (m_faultAt : Int32) (m_latest : Int32) (m_stands : Int32) (m_least : Int32) (m_ways : Int32) (m_nearFoot : Int32) (m_nearFeet : Int32) (m_nearCost : Int32) (m_traced : Int32) (m_poem : Nat → Int32) (m_then : Nat → Int32) (m_strengths : Nat → Int32) (m_sounds : Nat → Int32) (m_stand : Nat → Int32) (p1 : Int32) (p2 : Int32) (p3 : Int32) (sz : Nat) (r : Int32) (o_m_thrown : Int32) (o_m_stands : Int32) (o_m_least : Int32) (o_m_ways : Int32) (o_m_then : Nat → Int32) (o_m_strengths : Nat → Int32) (o_m_sounds : Nat → Int32) (o_m_stand : Nat → Int32) (hM : mX7_drawn m_poem m_thrown m_stands m_least m_ways m_then m_strengths m_sounds m_stand p1 p2 p3 = some (r, o_m_thrown, o_m_stands, o_m_least, o_m_ways, o_m_then, o_m_strengths, o_m_sounds, o_m_stand)) : Met l yX7_drawn (mC yX7_drawn cX7_drawn 11 (some .int)) rmX7_drawn (va_Pc [.ref m_a, .int p1, .int p2, .int p3] (PCe G K E0 (WX7_drawn K m_a mA_lane mA_many mA_item mA_poem mA_fresh mA_then mA_was mA_tape mA_strengths mA_sounds mA_stand mA_scheme mA_isKept mA_kept mA_trace m_thrown m_status m_acts m_taped m_cursor m_start m_token m_value m_fault m_faultAt m_latest m_stands m_least m_ways m_nearFoot m_nearFeet m_nearCost m_traced m_poem m_then m_strengths m_sounds m_stand) sz)) (va_Qi (fun (x : Int32) (_ : Unit) => x = r) (fun _ t => va_P G vwCl (WX7_drawn K m_a mA_lane mA_many mA_item mA_poem mA_fresh mA_then mA_was mA_tape mA_strengths mA_sounds mA_stand mA_scheme mA_isKept mA_kept mA_trace o_m_thrown m_status m_acts m_taped m_cursor m_start m_token m_value m_fault m_faultAt m_latest o_m_stands o_m_least o_m_ways m_nearFoot m_nearFeet m_nearCost m_traced m_poem o_m_then o_m_strengths o_m_sounds o_m_stand) t.heap) (va_A (WX7_drawn K m_a mA_lane mA_many mA_item mA_poem mA_fresh mA_then mA_was mA_tape mA_strengths mA_sounds mA_stand mA_scheme mA_isKept mA_kept mA_trace m_thrown m_status m_acts m_taped m_cursor m_start m_token m_value m_fault m_faultAt m_latest m_stands m_least m_ways m_nearFoot m_nearFeet m_nearCost m_traced m_poem m_then m_strengths m_sounds m_stand) sz)) rmX7_drawn.cells rmX7_drawn.slots (va_A (WX7_drawn K m_a mA_lane mA_many mA_item mA_poem mA_fresh mA_then mA_was mA_tape mA_strengths mA_sounds mA_stand mA_scheme mA_isKept mA_kept mA_trace m_thrown m_status m_acts m_taped m_cursor m_start m_token m_value m_fault m_faultAt m_latest m_stands m_least m_ways m_nearFoot m_nearFeet m_nearCost m_traced m_poem m_then m_strengths m_sounds m_stand) sz) := by
  refine Met.ofW (cc := cX7_drawn) (maxL := 11) (ret := (some .int)) (by decide) rfl ?_
  intro p e s m args below meth c s₁ B hml hv
  obtain ⟨rfl, hsz, hP, hK, hD0, hE⟩ := hv
  have hx := B.exec
  have hb := B.bytes
  have hr := B.returns
  have hts0 := atoms_spec (ws := mC yX7_drawn cX7_drawn 11 (some .int)) B.pre
  have hts : ∀ w ∈ tbG, w.before _ s = true := fun w h => hts0 w (List.mem_cons_of_mem _ h)
  have hown : s.vm.findClass RX7 = some m.cls := findClass_of_methodNamed B.named
  subst hsz
  have hD := hD0.self (sz := s.heap.size)
  generalize hAe : va_A (WX7_drawn K m_a mA_lane mA_many mA_item mA_poem mA_fresh mA_then mA_was mA_tape mA_strengths mA_sounds mA_stand mA_scheme mA_isKept mA_kept mA_trace m_thrown m_status m_acts m_taped m_cursor m_start m_token m_value m_fault m_faultAt m_latest m_stands m_least m_ways m_nearFoot m_nearFeet m_nearCost m_traced m_poem m_then m_strengths m_sounds m_stand) s.heap.size = A at hD hE ⊢
  have hA : ∀ q : Nat, s.heap.size ≤ q → A q := fun q h => by rw [← hAe]; exact Or.inr h
  have hS : va_S A s.heap s.heap [] := va_S.rf
  have hl := lv_entry ([.ref m_a, .int p1, .int p2, .int p3]) (n := 11) (Nat.le_of_ble_eq_true rfl)
  rw [lg_entry_eq]
  generalize (lg_sl ([.ref m_a, .int p1, .int p2, .int p3]) ++ List.replicate (11 - (lg_sl ([.ref m_a, .int p1, .int p2, .int p3])).length) Slot.unset).toArray = ls at hl ⊢
  have hl : lv_has ls 11 [(0, .ref m_a), (1, .int p1), (2, .int p2), (3, .int p3)] := hl
  exact wX7_drawn_b0 ⟨hx, hb, hml, hown, hts, hK, hA, E0_ok, hE⟩ m_a mA_lane mA_many mA_item mA_poem mA_fresh mA_then mA_was mA_tape mA_strengths mA_sounds mA_stand mA_scheme mA_isKept mA_kept mA_trace m_status m_acts m_taped m_cursor m_start m_token m_value m_fault m_faultAt m_latest m_nearFoot m_nearFeet m_nearCost m_traced m_poem p1 p2 p3 r o_m_thrown o_m_stands o_m_least o_m_ways o_m_then o_m_strengths o_m_sounds o_m_stand (fun H locs ls pc hdg hP hD hS => W.iret (v := r) hx hb hr (fun t ht hW => ⟨⟨r, (), rfl, rfl, (show va_P G vwCl _ t.heap by rw [ht]; exact hP)⟩, hS.F ht⟩) hS.2.2 hdg) m_thrown m_stands m_least m_ways m_then m_strengths m_sounds m_stand  hM _ _ _ hP hD hS hl
abbrev WX7_image (K : Nat → ClassId) (m_a mA_lane mA_many mA_item mA_poem mA_fresh mA_then mA_was mA_tape mA_strengths mA_sounds mA_stand mA_scheme mA_isKept mA_kept mA_trace : Nat) (m_thrown : Int32) (m_status : Int32) (m_acts : Int32) (m_taped : Int32) (m_cursor : Int32) (m_start : Int32) (m_token : Int32) (m_value : Int32) (m_fault : Int32) (m_faultAt : Int32) (m_latest : Int32) (m_stands : Int32) (m_least : Int32) (m_ways : Int32) (m_nearFoot : Int32) (m_nearFeet : Int32) (m_nearCost : Int32) (m_traced : Int32) (m_poem : Nat → Int32) (m_isKept : Nat → Int32) (m_kept : Nat → Int32) : va_W := [(m_a, .inr (7, [.int m_thrown, .int m_status, .ref mA_lane, .ref mA_many, .ref mA_item, .ref mA_poem, .ref mA_fresh, .ref mA_then, .ref mA_was, .int m_acts, .ref mA_tape, .int m_taped, .int m_cursor, .int m_start, .int m_token, .int m_value, .int m_fault, .int m_faultAt, .int m_latest, .ref mA_strengths, .ref mA_sounds, .ref mA_stand, .int m_stands, .int m_least, .int m_ways, .ref mA_scheme, .int m_nearFoot, .int m_nearFeet, .int m_nearCost, .ref mA_isKept, .ref mA_kept, .ref mA_trace, .int m_traced])), aI K mA_poem 207 m_poem, aZ K mA_isKept 2 m_isKept, aI K mA_kept 414 m_kept]
def rmX7_image : Room := { frames := 1, cells := 0, slots := 0, locals := 25 }
theorem hdX7_image : yX7_image.cls = RX7 ∧ yX7_image.cls ≠ "java/lang/invoke/MethodHandle" ∧ yX7_image.cls ≠ "java/lang/invoke/VarHandle" ∧ (parseMethodDescriptor yX7_image.desc).map (fun d => d.parameters.length) = some 1 := by decide +kernel
set_option maxHeartbeats 4000000 in
set_option maxRecDepth 100000 in
theorem wX7_image_b31 {p : Program} {l : Launch} {e : Env} {s : State} {m : MethodId} {args : Array Value} {below : List Frame} {meth : Method} {c : Code} {Q : State → Prop} {G : va_G} {K : Nat → ClassId} {A : Nat → Prop} (C0 : CX p s m args c cX7_image 3 RX7 G K E0 A) (m_a mA_lane mA_many mA_item mA_poem mA_fresh mA_then mA_was mA_tape mA_strengths mA_sounds mA_stand mA_scheme mA_isKept mA_kept mA_trace : Nat) (m_status : Int32) (m_acts : Int32) (m_taped : Int32) (m_cursor : Int32) (m_start : Int32) (m_token : Int32) (m_value : Int32) (m_fault : Int32) (m_faultAt : Int32) (m_latest : Int32) (m_stands : Int32) (m_least : Int32) (m_ways : Int32) (m_nearFoot : Int32) (m_nearFeet : Int32) (m_nearCost : Int32) (m_traced : Int32) (m_poem : Nat → Int32) (p1 : Int32) (r : Int32) (o_m_thrown : Int32) (o_m_isKept : Nat → Int32) (o_m_kept : Nat → Int32) (kr : ∀ (H : Heap) (locs : List Loc) (ls : Array Slot) (pc : Nat), decode cX7_image pc = .ok (.ireturn, 1) → va_P G vwCl (WX7_image K m_a mA_lane mA_many mA_item mA_poem mA_fresh mA_then mA_was mA_tape mA_strengths mA_sounds mA_stand mA_scheme mA_isKept mA_kept mA_trace o_m_thrown m_status m_acts m_taped m_cursor m_start m_token m_value m_fault m_faultAt m_latest m_stands m_least m_ways m_nearFoot m_nearFeet m_nearCost m_traced m_poem o_m_isKept o_m_kept) H → va_D A (WX7_image K m_a mA_lane mA_many mA_item mA_poem mA_fresh mA_then mA_was mA_tape mA_strengths mA_sounds mA_stand mA_scheme mA_isKept mA_kept mA_trace o_m_thrown m_status m_acts m_taped m_cursor m_start m_token m_value m_fault m_faultAt m_latest m_stands m_least m_ways m_nearFoot m_nearFeet m_nearCost m_traced m_poem o_m_isKept o_m_kept) → va_S A s.heap H locs → W p l e rmX7_image s m args below meth c H locs 0 0 Q (F0 m pc ls [.int r])) (n : Nat) : ∀ (m_thrown : Int32) (m_isKept : Nat → Int32) (m_kept : Nat → Int32) (x2 : Int32), mX7_image_b31 m_poem p1  n m_thrown m_isKept m_kept x2 = some (r, o_m_thrown, o_m_isKept, o_m_kept) → ∀ (H : Heap) (locs : List Loc) (ls : Array Slot), va_P G vwCl (WX7_image K m_a mA_lane mA_many mA_item mA_poem mA_fresh mA_then mA_was mA_tape mA_strengths mA_sounds mA_stand mA_scheme mA_isKept mA_kept mA_trace m_thrown m_status m_acts m_taped m_cursor m_start m_token m_value m_fault m_faultAt m_latest m_stands m_least m_ways m_nearFoot m_nearFeet m_nearCost m_traced m_poem m_isKept m_kept) H → va_D A (WX7_image K m_a mA_lane mA_many mA_item mA_poem mA_fresh mA_then mA_was mA_tape mA_strengths mA_sounds mA_stand mA_scheme mA_isKept mA_kept mA_trace m_thrown m_status m_acts m_taped m_cursor m_start m_token m_value m_fault m_faultAt m_latest m_stands m_least m_ways m_nearFoot m_nearFeet m_nearCost m_traced m_poem m_isKept m_kept) → va_S A s.heap H locs → lv_has ls 3 [(0, .ref m_a), (1, .int p1), (2, .int x2)] → W p l e rmX7_image s m args below meth c H locs 0 0 Q (F0 m 31 ls []) := by
  obtain ⟨hx, hb, hml, hown, hts, hK, hA, hEo, hE⟩ := id C0
  induction n with
  | zero =>
    intro m_thrown m_isKept m_kept x2 hM
    cases hM
  | succ n ih =>
    intro m_thrown m_isKept m_kept x2 hM H locs ls hP hD hS hl
    rw [mX7_image_b31] at hM
    refine lv_iload_n hx hb dX7_image_31 rfl (lv_at hl 2 rfl) ?_
    refine lv_sipush (v := 207) hx hb dX7_image_32 (by decide) ?_
    refine lv_icmp_ge (tgt := 62) hx hb dX7_image_35 (by decide) (fun c_1 => ?_) (fun c_1 => ?_)
    · rw [if_pos c_1] at hM
      refine lv_aload_n hx hb dX7_image_62 rfl (lv_at hl 0 rfl) ?_
      refine va_get (D := G) (ci := 7) (v := .ref mA_isKept) (C := RX7) (T := TX7) (N := 33) hx hb hts inX7 hown hK hP 0 rfl rfl 29 (by decide) (hts _ tb793) (fun _ h9 => h9) rfl dX7_image_63 ?_
      refine lv_iload_n hx hb dX7_image_66 rfl (lv_at hl 1 rfl) ?_
      refine lv_iconst (v := 1) hx hb dX7_image_67 (by decide) ?_
      obtain ⟨g_2, hM⟩ := ng hM
      refine va_zast hx hb hK hP hD hS 2 1 rfl rfl g_2 dX7_image_68 (fun H locs hP hD hS => ?_)
      have hP : va_P G vwCl (WX7_image K m_a mA_lane mA_many mA_item mA_poem mA_fresh mA_then mA_was mA_tape mA_strengths mA_sounds mA_stand mA_scheme mA_isKept mA_kept mA_trace m_thrown m_status m_acts m_taped m_cursor m_start m_token m_value m_fault m_faultAt m_latest m_stands m_least m_ways m_nearFoot m_nearFeet m_nearCost m_traced m_poem (upd m_isKept p1.toNatClampNeg (vp_nar .boolean (1 : Int32))) m_kept) H := hP
      have hD : va_D A (WX7_image K m_a mA_lane mA_many mA_item mA_poem mA_fresh mA_then mA_was mA_tape mA_strengths mA_sounds mA_stand mA_scheme mA_isKept mA_kept mA_trace m_thrown m_status m_acts m_taped m_cursor m_start m_token m_value m_fault m_faultAt m_latest m_stands m_least m_ways m_nearFoot m_nearFeet m_nearCost m_traced m_poem (upd m_isKept p1.toNatClampNeg (vp_nar .boolean (1 : Int32))) m_kept) := hD
      refine lv_iconst (v := 1) hx hb dX7_image_69 (by decide) ?_
      have t0 := Option.some.inj hM
      obtain ⟨q1, t1⟩ := Prod.mk.inj t0
      obtain ⟨q2, t2⟩ := Prod.mk.inj t1
      obtain ⟨q3, t3⟩ := Prod.mk.inj t2
      subst q1
      subst q2
      subst q3
      subst t3
      exact kr _ _ _ _ dX7_image_70 hP hD hS
    · rw [if_neg c_1] at hM
      refine lv_aload_n hx hb dX7_image_38 rfl (lv_at hl 0 rfl) ?_
      refine va_get (D := G) (ci := 7) (v := .ref mA_kept) (C := RX7) (T := TX7) (N := 33) hx hb hts inX7 hown hK hP 0 rfl rfl 30 (by decide) (hts _ tb794) (fun _ h9 => h9) rfl dX7_image_39 ?_
      refine lv_sipush (v := 207) hx hb dX7_image_42 (by decide) ?_
      refine lv_iload_n hx hb dX7_image_45 rfl (lv_at hl 1 rfl) ?_
      refine lv_imul hx hb dX7_image_46 ?_
      refine lv_iload_n hx hb dX7_image_47 rfl (lv_at hl 2 rfl) ?_
      refine lv_iadd hx hb dX7_image_48 ?_
      refine lv_aload_n hx hb dX7_image_49 rfl (lv_at hl 0 rfl) ?_
      refine va_get (D := G) (ci := 7) (v := .ref mA_poem) (C := RX7) (T := TX7) (N := 33) hx hb hts inX7 hown hK hP 0 rfl rfl 5 (by decide) (hts _ tb769) (fun _ h9 => h9) rfl dX7_image_50 ?_
      refine lv_iload_n hx hb dX7_image_53 rfl (lv_at hl 2 rfl) ?_
      obtain ⟨g_3, hM⟩ := ng hM
      refine va_iald hx hb hK hP 1 0 rfl rfl g_3 dX7_image_54 ?_
      obtain ⟨g_4, hM⟩ := ng hM
      refine va_iast hx hb hK hP hD hS 3 0 rfl rfl g_4 dX7_image_55 (fun H locs hP hD hS => ?_)
      have hP : va_P G vwCl (WX7_image K m_a mA_lane mA_many mA_item mA_poem mA_fresh mA_then mA_was mA_tape mA_strengths mA_sounds mA_stand mA_scheme mA_isKept mA_kept mA_trace m_thrown m_status m_acts m_taped m_cursor m_start m_token m_value m_fault m_faultAt m_latest m_stands m_least m_ways m_nearFoot m_nearFeet m_nearCost m_traced m_poem m_isKept (upd m_kept (((207 : Int32) * p1) + x2).toNatClampNeg (m_poem x2.toNatClampNeg))) H := hP
      have hD : va_D A (WX7_image K m_a mA_lane mA_many mA_item mA_poem mA_fresh mA_then mA_was mA_tape mA_strengths mA_sounds mA_stand mA_scheme mA_isKept mA_kept mA_trace m_thrown m_status m_acts m_taped m_cursor m_start m_token m_value m_fault m_faultAt m_latest m_stands m_least m_ways m_nearFoot m_nearFeet m_nearCost m_traced m_poem m_isKept (upd m_kept (((207 : Int32) * p1) + x2).toNatClampNeg (m_poem x2.toNatClampNeg))) := hD
      refine lv_iinc (v := (x2 + 1)) (lv' := [(2, .int (x2 + 1)), (0, .ref m_a), (1, .int p1)]) hx hb dX7_image_56 hl (k := 2) rfl rfl (by decide) rfl (fun ls hl => ?_)
      refine lv_goto (tgt := 31) hx hb dX7_image_59 (by decide) ?_
      exact ih m_thrown m_isKept (upd m_kept (((207 : Int32) * p1) + x2).toNatClampNeg (m_poem x2.toNatClampNeg)) (x2 + 1) hM _ _ _ hP hD hS (lv_sub hl [1, 2, 0] rfl)
set_option maxHeartbeats 4000000 in
set_option maxRecDepth 100000 in
theorem wX7_image_b0 {p : Program} {l : Launch} {e : Env} {s : State} {m : MethodId} {args : Array Value} {below : List Frame} {meth : Method} {c : Code} {Q : State → Prop} {G : va_G} {K : Nat → ClassId} {A : Nat → Prop} (C0 : CX p s m args c cX7_image 3 RX7 G K E0 A) (m_a mA_lane mA_many mA_item mA_poem mA_fresh mA_then mA_was mA_tape mA_strengths mA_sounds mA_stand mA_scheme mA_isKept mA_kept mA_trace : Nat) (m_status : Int32) (m_acts : Int32) (m_taped : Int32) (m_cursor : Int32) (m_start : Int32) (m_token : Int32) (m_value : Int32) (m_fault : Int32) (m_faultAt : Int32) (m_latest : Int32) (m_stands : Int32) (m_least : Int32) (m_ways : Int32) (m_nearFoot : Int32) (m_nearFeet : Int32) (m_nearCost : Int32) (m_traced : Int32) (m_poem : Nat → Int32) (p1 : Int32) (r : Int32) (o_m_thrown : Int32) (o_m_isKept : Nat → Int32) (o_m_kept : Nat → Int32) (kr : ∀ (H : Heap) (locs : List Loc) (ls : Array Slot) (pc : Nat), decode cX7_image pc = .ok (.ireturn, 1) → va_P G vwCl (WX7_image K m_a mA_lane mA_many mA_item mA_poem mA_fresh mA_then mA_was mA_tape mA_strengths mA_sounds mA_stand mA_scheme mA_isKept mA_kept mA_trace o_m_thrown m_status m_acts m_taped m_cursor m_start m_token m_value m_fault m_faultAt m_latest m_stands m_least m_ways m_nearFoot m_nearFeet m_nearCost m_traced m_poem o_m_isKept o_m_kept) H → va_D A (WX7_image K m_a mA_lane mA_many mA_item mA_poem mA_fresh mA_then mA_was mA_tape mA_strengths mA_sounds mA_stand mA_scheme mA_isKept mA_kept mA_trace o_m_thrown m_status m_acts m_taped m_cursor m_start m_token m_value m_fault m_faultAt m_latest m_stands m_least m_ways m_nearFoot m_nearFeet m_nearCost m_traced m_poem o_m_isKept o_m_kept) → va_S A s.heap H locs → W p l e rmX7_image s m args below meth c H locs 0 0 Q (F0 m pc ls [.int r])) (m_thrown : Int32) (m_isKept : Nat → Int32) (m_kept : Nat → Int32) (hM : mX7_image_b0 m_poem p1  m_thrown m_isKept m_kept = some (r, o_m_thrown, o_m_isKept, o_m_kept)) : ∀ (H : Heap) (locs : List Loc) (ls : Array Slot), va_P G vwCl (WX7_image K m_a mA_lane mA_many mA_item mA_poem mA_fresh mA_then mA_was mA_tape mA_strengths mA_sounds mA_stand mA_scheme mA_isKept mA_kept mA_trace m_thrown m_status m_acts m_taped m_cursor m_start m_token m_value m_fault m_faultAt m_latest m_stands m_least m_ways m_nearFoot m_nearFeet m_nearCost m_traced m_poem m_isKept m_kept) H → va_D A (WX7_image K m_a mA_lane mA_many mA_item mA_poem mA_fresh mA_then mA_was mA_tape mA_strengths mA_sounds mA_stand mA_scheme mA_isKept mA_kept mA_trace m_thrown m_status m_acts m_taped m_cursor m_start m_token m_value m_fault m_faultAt m_latest m_stands m_least m_ways m_nearFoot m_nearFeet m_nearCost m_traced m_poem m_isKept m_kept) → va_S A s.heap H locs → lv_has ls 3 [(0, .ref m_a), (1, .int p1)] → W p l e rmX7_image s m args below meth c H locs 0 0 Q (F0 m 0 ls []) := by
  obtain ⟨hx, hb, hml, hown, hts, hK, hA, hEo, hE⟩ := id C0
  intro H locs ls hP hD hS hl
  unfold mX7_image_b0 at hM
  refine lv_aload_n hx hb dX7_image_0 rfl (lv_at hl 0 rfl) ?_
  refine lv_iconst (v := 0) hx hb dX7_image_1 (by decide) ?_
  refine va_put (D := G) (ci := 7) (v := .int (0 : Int32)) (ty := .int) (C := RX7) (T := TX7) (N := 33) hx hb hts inX7 tyX7 tyX7_ok nmX7 hown hK hP hD hS 0 rfl rfl 0 (by decide) (hts _ tb764) (fun _ h9 => h9) rfl (tyX7_ok 0 (by decide)) rfl rfl (Nat.le_of_ble_eq_true rfl) dX7_image_2 (fun H locs hP hD hS => ?_)
  have hP : va_P G vwCl (WX7_image K m_a mA_lane mA_many mA_item mA_poem mA_fresh mA_then mA_was mA_tape mA_strengths mA_sounds mA_stand mA_scheme mA_isKept mA_kept mA_trace (0 : Int32) m_status m_acts m_taped m_cursor m_start m_token m_value m_fault m_faultAt m_latest m_stands m_least m_ways m_nearFoot m_nearFeet m_nearCost m_traced m_poem m_isKept m_kept) H := hP
  have hD : va_D A (WX7_image K m_a mA_lane mA_many mA_item mA_poem mA_fresh mA_then mA_was mA_tape mA_strengths mA_sounds mA_stand mA_scheme mA_isKept mA_kept mA_trace (0 : Int32) m_status m_acts m_taped m_cursor m_start m_token m_value m_fault m_faultAt m_latest m_stands m_least m_ways m_nearFoot m_nearFeet m_nearCost m_traced m_poem m_isKept m_kept) := hD
  refine lv_iload_n hx hb dX7_image_5 rfl (lv_at hl 1 rfl) ?_
  refine lv_i2l hx hb dX7_image_6 rfl ?_
  refine lv_lconst (v := 0) hx hb dX7_image_7 (by decide) ?_
  refine lv_lconst (v := 1) hx hb dX7_image_8 (by decide) ?_
  obtain ⟨r_5, hC, hM⟩ := oe1 hM
  refine cS_i (As := [.long p1.toInt64, .long (0 : Int64), .long (1 : Int64)]) (rest := []) C0 hP hD hS [] (kX7_in l G K p1.toInt64 (0 : Int64) (1 : Int64) H.size r_5 hC) rfl rfl rfl tb873 tb874 tb9 tb875 hdX7_in ⟨Nat.le_of_ble_eq_true rfl, Nat.le_of_ble_eq_true rfl⟩ rfl hl.1 (Nat.le_of_ble_eq_true rfl) rfl ⟨Nat.le_refl _, Nat.le_refl _⟩ dX7_image_9 (fun H locs hP hD hS => ?_)
  have hP : va_P G vwCl (WX7_image K m_a mA_lane mA_many mA_item mA_poem mA_fresh mA_then mA_was mA_tape mA_strengths mA_sounds mA_stand mA_scheme mA_isKept mA_kept mA_trace (0 : Int32) m_status m_acts m_taped m_cursor m_start m_token m_value m_fault m_faultAt m_latest m_stands m_least m_ways m_nearFoot m_nearFeet m_nearCost m_traced m_poem m_isKept m_kept) H := hP
  have hD : va_D A (WX7_image K m_a mA_lane mA_many mA_item mA_poem mA_fresh mA_then mA_was mA_tape mA_strengths mA_sounds mA_stand mA_scheme mA_isKept mA_kept mA_trace (0 : Int32) m_status m_acts m_taped m_cursor m_start m_token m_value m_fault m_faultAt m_latest m_stands m_least m_ways m_nearFoot m_nearFeet m_nearCost m_traced m_poem m_isKept m_kept) := hD
  refine lv_if_ne (tgt := 18) hx hb dX7_image_12 (by decide) (fun c_6 => ?_) (fun c_6 => ?_)
  · rw [if_neg c_6] at hM
    refine lv_aload_n hx hb dX7_image_18 rfl (lv_at hl 0 rfl) ?_
    obtain ⟨r_7, hC, hM⟩ := oe1 hM
    refine cV_i (As := []) (rest := []) C0 hP hD hS [0, 1] (kX7_isThere l G K m_a mA_lane mA_many mA_item mA_poem mA_fresh mA_then mA_was mA_tape mA_strengths mA_sounds mA_stand mA_scheme mA_isKept mA_kept mA_trace (0 : Int32) m_status m_acts m_taped m_cursor m_start m_token m_value m_fault m_faultAt m_latest m_stands m_least m_ways m_nearFoot m_nearFeet m_nearCost m_traced m_poem H.size r_7 hC) rfl rfl rfl tb1014 tb1016 tp29 tb9 tb1017 hdX7_isThere (va_recv hK hP (ci := 7) (q0 := 0) rfl rfl) ⟨Nat.le_of_ble_eq_true rfl, Nat.le_of_ble_eq_true rfl⟩ rfl hl.1 (Nat.le_of_ble_eq_true rfl) rfl ⟨Nat.le_refl _, Nat.le_refl _⟩ dX7_image_19 (fun H locs hP hD hS => ?_)
    have hP : va_P G vwCl (WX7_image K m_a mA_lane mA_many mA_item mA_poem mA_fresh mA_then mA_was mA_tape mA_strengths mA_sounds mA_stand mA_scheme mA_isKept mA_kept mA_trace (0 : Int32) m_status m_acts m_taped m_cursor m_start m_token m_value m_fault m_faultAt m_latest m_stands m_least m_ways m_nearFoot m_nearFeet m_nearCost m_traced m_poem m_isKept m_kept) H := hP
    have hD : va_D A (WX7_image K m_a mA_lane mA_many mA_item mA_poem mA_fresh mA_then mA_was mA_tape mA_strengths mA_sounds mA_stand mA_scheme mA_isKept mA_kept mA_trace (0 : Int32) m_status m_acts m_taped m_cursor m_start m_token m_value m_fault m_faultAt m_latest m_stands m_least m_ways m_nearFoot m_nearFeet m_nearCost m_traced m_poem m_isKept m_kept) := hD
    refine lv_if_ne (tgt := 29) hx hb dX7_image_22 (by decide) (fun c_8 => ?_) (fun c_8 => ?_)
    · rw [if_neg c_8] at hM
      refine lv_iconst (v := 0) hx hb dX7_image_29 (by decide) ?_
      refine lv_istore_n (lv' := [(2, .int (0 : Int32)), (0, .ref m_a), (1, .int p1)]) hx hb dX7_image_30 rfl hl (by decide) rfl (fun ls hl => ?_)
      exact wX7_image_b31 C0 m_a mA_lane mA_many mA_item mA_poem mA_fresh mA_then mA_was mA_tape mA_strengths mA_sounds mA_stand mA_scheme mA_isKept mA_kept mA_trace m_status m_acts m_taped m_cursor m_start m_token m_value m_fault m_faultAt m_latest m_stands m_least m_ways m_nearFoot m_nearFeet m_nearCost m_traced m_poem p1 r o_m_thrown o_m_isKept o_m_kept kr  FU (0 : Int32) m_isKept m_kept (0 : Int32) hM _ _ _ hP hD hS (lv_sub hl [1, 2, 0] rfl)
    · rw [if_pos c_8] at hM
      refine lv_ldcw (v := -1000002) hx hb hown (hts _ tb977) dX7_image_25 ?_
      have t0 := Option.some.inj hM
      obtain ⟨q1, t1⟩ := Prod.mk.inj t0
      obtain ⟨q2, t2⟩ := Prod.mk.inj t1
      obtain ⟨q3, t3⟩ := Prod.mk.inj t2
      subst q1
      subst q2
      subst q3
      subst t3
      exact kr _ _ _ _ dX7_image_28 hP hD hS
  · rw [if_pos c_6] at hM
    refine lv_ldc (v := -1000001) hx hb hown (hts _ tb877) dX7_image_15 ?_
    have t0 := Option.some.inj hM
    obtain ⟨q1, t1⟩ := Prod.mk.inj t0
    obtain ⟨q2, t2⟩ := Prod.mk.inj t1
    obtain ⟨q3, t3⟩ := Prod.mk.inj t2
    subst q1
    subst q2
    subst q3
    subst t3
    exact kr _ _ _ _ dX7_image_17 hP hD hS
set_option maxHeartbeats 4000000 in
set_option maxRecDepth 100000 in
theorem kX7_image (l : Launch) (G : va_G) (K : Nat → ClassId) (m_a mA_lane mA_many mA_item mA_poem mA_fresh mA_then mA_was mA_tape mA_strengths mA_sounds mA_stand mA_scheme mA_isKept mA_kept mA_trace : Nat) (m_thrown : Int32) (m_status : Int32) (m_acts : Int32) (m_taped : Int32) (m_cursor : Int32) (m_start : Int32) (m_token : Int32) (m_value : Int32) (m_fault : Int32) (m_faultAt : Int32) (m_latest : Int32) (m_stands : Int32) (m_least : Int32) (m_ways : Int32) (m_nearFoot : Int32) (m_nearFeet : Int32) (m_nearCost : Int32) (m_traced : Int32) (m_poem : Nat → Int32) (m_isKept : Nat → Int32) (m_kept : Nat → Int32) (p1 : Int32) (sz : Nat) (r : Int32) (o_m_thrown : Int32) (o_m_isKept : Nat → Int32) (o_m_kept : Nat → Int32) (hM : mX7_image m_poem m_thrown m_isKept m_kept p1 = some (r, o_m_thrown, o_m_isKept, o_m_kept)) : Met l yX7_image (mC yX7_image cX7_image 3 (some .int)) rmX7_image (va_Pc [.ref m_a, .int p1] (PCe G K E0 (WX7_image K m_a mA_lane mA_many mA_item mA_poem mA_fresh mA_then mA_was mA_tape mA_strengths mA_sounds mA_stand mA_scheme mA_isKept mA_kept mA_trace m_thrown m_status m_acts m_taped m_cursor m_start m_token m_value m_fault m_faultAt m_latest m_stands m_least m_ways m_nearFoot m_nearFeet m_nearCost m_traced m_poem m_isKept m_kept) sz)) (va_Qi (fun (x : Int32) (_ : Unit) => x = r) (fun _ t => va_P G vwCl (WX7_image K m_a mA_lane mA_many mA_item mA_poem mA_fresh mA_then mA_was mA_tape mA_strengths mA_sounds mA_stand mA_scheme mA_isKept mA_kept mA_trace o_m_thrown m_status m_acts m_taped m_cursor m_start m_token m_value m_fault m_faultAt m_latest m_stands m_least m_ways m_nearFoot m_nearFeet m_nearCost m_traced m_poem o_m_isKept o_m_kept) t.heap) (va_A (WX7_image K m_a mA_lane mA_many mA_item mA_poem mA_fresh mA_then mA_was mA_tape mA_strengths mA_sounds mA_stand mA_scheme mA_isKept mA_kept mA_trace m_thrown m_status m_acts m_taped m_cursor m_start m_token m_value m_fault m_faultAt m_latest m_stands m_least m_ways m_nearFoot m_nearFeet m_nearCost m_traced m_poem m_isKept m_kept) sz)) rmX7_image.cells rmX7_image.slots (va_A (WX7_image K m_a mA_lane mA_many mA_item mA_poem mA_fresh mA_then mA_was mA_tape mA_strengths mA_sounds mA_stand mA_scheme mA_isKept mA_kept mA_trace m_thrown m_status m_acts m_taped m_cursor m_start m_token m_value m_fault m_faultAt m_latest m_stands m_least m_ways m_nearFoot m_nearFeet m_nearCost m_traced m_poem m_isKept m_kept) sz) := by
  refine Met.ofW (cc := cX7_image) (maxL := 3) (ret := (some .int)) (by decide) rfl ?_
  intro p e s m args below meth c s₁ B hml hv
  obtain ⟨rfl, hsz, hP, hK, hD0, hE⟩ := hv
  have hx := B.exec
  have hb := B.bytes
  have hr := B.returns
  have hts0 := atoms_spec (ws := mC yX7_image cX7_image 3 (some .int)) B.pre
  have hts : ∀ w ∈ tbG, w.before _ s = true := fun w h => hts0 w (List.mem_cons_of_mem _ h)
  have hown : s.vm.findClass RX7 = some m.cls := findClass_of_methodNamed B.named
  subst hsz
  have hD := hD0.self (sz := s.heap.size)
  generalize hAe : va_A (WX7_image K m_a mA_lane mA_many mA_item mA_poem mA_fresh mA_then mA_was mA_tape mA_strengths mA_sounds mA_stand mA_scheme mA_isKept mA_kept mA_trace m_thrown m_status m_acts m_taped m_cursor m_start m_token m_value m_fault m_faultAt m_latest m_stands m_least m_ways m_nearFoot m_nearFeet m_nearCost m_traced m_poem m_isKept m_kept) s.heap.size = A at hD hE ⊢
  have hA : ∀ q : Nat, s.heap.size ≤ q → A q := fun q h => by rw [← hAe]; exact Or.inr h
  have hS : va_S A s.heap s.heap [] := va_S.rf
  have hl := lv_entry ([.ref m_a, .int p1]) (n := 3) (Nat.le_of_ble_eq_true rfl)
  rw [lg_entry_eq]
  generalize (lg_sl ([.ref m_a, .int p1]) ++ List.replicate (3 - (lg_sl ([.ref m_a, .int p1])).length) Slot.unset).toArray = ls at hl ⊢
  have hl : lv_has ls 3 [(0, .ref m_a), (1, .int p1)] := hl
  exact wX7_image_b0 ⟨hx, hb, hml, hown, hts, hK, hA, E0_ok, hE⟩ m_a mA_lane mA_many mA_item mA_poem mA_fresh mA_then mA_was mA_tape mA_strengths mA_sounds mA_stand mA_scheme mA_isKept mA_kept mA_trace m_status m_acts m_taped m_cursor m_start m_token m_value m_fault m_faultAt m_latest m_stands m_least m_ways m_nearFoot m_nearFeet m_nearCost m_traced m_poem p1 r o_m_thrown o_m_isKept o_m_kept (fun H locs ls pc hdg hP hD hS => W.iret (v := r) hx hb hr (fun t ht hW => ⟨⟨r, (), rfl, rfl, (show va_P G vwCl _ t.heap by rw [ht]; exact hP)⟩, hS.F ht⟩) hS.2.2 hdg) m_thrown m_isKept m_kept  hM _ _ _ hP hD hS hl
abbrev WX7_restore (K : Nat → ClassId) (m_a mA_lane mA_many mA_item mA_poem mA_fresh mA_then mA_was mA_tape mA_strengths mA_sounds mA_stand mA_scheme mA_isKept mA_kept mA_trace : Nat) (m_thrown : Int32) (m_status : Int32) (m_acts : Int32) (m_taped : Int32) (m_cursor : Int32) (m_start : Int32) (m_token : Int32) (m_value : Int32) (m_fault : Int32) (m_faultAt : Int32) (m_latest : Int32) (m_stands : Int32) (m_least : Int32) (m_ways : Int32) (m_nearFoot : Int32) (m_nearFeet : Int32) (m_nearCost : Int32) (m_traced : Int32) (m_poem : Nat → Int32) (m_isKept : Nat → Int32) (m_kept : Nat → Int32) : va_W := [(m_a, .inr (7, [.int m_thrown, .int m_status, .ref mA_lane, .ref mA_many, .ref mA_item, .ref mA_poem, .ref mA_fresh, .ref mA_then, .ref mA_was, .int m_acts, .ref mA_tape, .int m_taped, .int m_cursor, .int m_start, .int m_token, .int m_value, .int m_fault, .int m_faultAt, .int m_latest, .ref mA_strengths, .ref mA_sounds, .ref mA_stand, .int m_stands, .int m_least, .int m_ways, .ref mA_scheme, .int m_nearFoot, .int m_nearFeet, .int m_nearCost, .ref mA_isKept, .ref mA_kept, .ref mA_trace, .int m_traced])), aI K mA_poem 207 m_poem, aZ K mA_isKept 2 m_isKept, aI K mA_kept 414 m_kept]
def rmX7_restore : Room := { frames := 1, cells := 0, slots := 0, locals := 25 }
theorem hdX7_restore : yX7_restore.cls = RX7 ∧ yX7_restore.cls ≠ "java/lang/invoke/MethodHandle" ∧ yX7_restore.cls ≠ "java/lang/invoke/VarHandle" ∧ (parseMethodDescriptor yX7_restore.desc).map (fun d => d.parameters.length) = some 1 := by decide +kernel
set_option maxHeartbeats 4000000 in
set_option maxRecDepth 100000 in
theorem wX7_restore_b33 {p : Program} {l : Launch} {e : Env} {s : State} {m : MethodId} {args : Array Value} {below : List Frame} {meth : Method} {c : Code} {Q : State → Prop} {G : va_G} {K : Nat → ClassId} {A : Nat → Prop} (C0 : CX p s m args c cX7_restore 3 RX7 G K E0 A) (m_a mA_lane mA_many mA_item mA_poem mA_fresh mA_then mA_was mA_tape mA_strengths mA_sounds mA_stand mA_scheme mA_isKept mA_kept mA_trace : Nat) (m_status : Int32) (m_taped : Int32) (m_cursor : Int32) (m_start : Int32) (m_token : Int32) (m_value : Int32) (m_fault : Int32) (m_faultAt : Int32) (m_latest : Int32) (m_stands : Int32) (m_least : Int32) (m_ways : Int32) (m_nearFoot : Int32) (m_nearFeet : Int32) (m_nearCost : Int32) (m_traced : Int32) (m_isKept : Nat → Int32) (m_kept : Nat → Int32) (p1 : Int32) (r : Int32) (o_m_thrown : Int32) (o_m_acts : Int32) (o_m_poem : Nat → Int32) (kr : ∀ (H : Heap) (locs : List Loc) (ls : Array Slot) (pc : Nat), decode cX7_restore pc = .ok (.ireturn, 1) → va_P G vwCl (WX7_restore K m_a mA_lane mA_many mA_item mA_poem mA_fresh mA_then mA_was mA_tape mA_strengths mA_sounds mA_stand mA_scheme mA_isKept mA_kept mA_trace o_m_thrown m_status o_m_acts m_taped m_cursor m_start m_token m_value m_fault m_faultAt m_latest m_stands m_least m_ways m_nearFoot m_nearFeet m_nearCost m_traced o_m_poem m_isKept m_kept) H → va_D A (WX7_restore K m_a mA_lane mA_many mA_item mA_poem mA_fresh mA_then mA_was mA_tape mA_strengths mA_sounds mA_stand mA_scheme mA_isKept mA_kept mA_trace o_m_thrown m_status o_m_acts m_taped m_cursor m_start m_token m_value m_fault m_faultAt m_latest m_stands m_least m_ways m_nearFoot m_nearFeet m_nearCost m_traced o_m_poem m_isKept m_kept) → va_S A s.heap H locs → W p l e rmX7_restore s m args below meth c H locs 0 0 Q (F0 m pc ls [.int r])) (n : Nat) : ∀ (m_thrown : Int32) (m_acts : Int32) (m_poem : Nat → Int32) (x2 : Int32), mX7_restore_b33 m_isKept m_kept p1  n m_thrown m_acts m_poem x2 = some (r, o_m_thrown, o_m_acts, o_m_poem) → ∀ (H : Heap) (locs : List Loc) (ls : Array Slot), va_P G vwCl (WX7_restore K m_a mA_lane mA_many mA_item mA_poem mA_fresh mA_then mA_was mA_tape mA_strengths mA_sounds mA_stand mA_scheme mA_isKept mA_kept mA_trace m_thrown m_status m_acts m_taped m_cursor m_start m_token m_value m_fault m_faultAt m_latest m_stands m_least m_ways m_nearFoot m_nearFeet m_nearCost m_traced m_poem m_isKept m_kept) H → va_D A (WX7_restore K m_a mA_lane mA_many mA_item mA_poem mA_fresh mA_then mA_was mA_tape mA_strengths mA_sounds mA_stand mA_scheme mA_isKept mA_kept mA_trace m_thrown m_status m_acts m_taped m_cursor m_start m_token m_value m_fault m_faultAt m_latest m_stands m_least m_ways m_nearFoot m_nearFeet m_nearCost m_traced m_poem m_isKept m_kept) → va_S A s.heap H locs → lv_has ls 3 [(0, .ref m_a), (1, .int p1), (2, .int x2)] → W p l e rmX7_restore s m args below meth c H locs 0 0 Q (F0 m 33 ls []) := by
  obtain ⟨hx, hb, hml, hown, hts, hK, hA, hEo, hE⟩ := id C0
  induction n with
  | zero =>
    intro m_thrown m_acts m_poem x2 hM
    cases hM
  | succ n ih =>
    intro m_thrown m_acts m_poem x2 hM H locs ls hP hD hS hl
    rw [mX7_restore_b33] at hM
    refine lv_iload_n hx hb dX7_restore_33 rfl (lv_at hl 2 rfl) ?_
    refine lv_sipush (v := 207) hx hb dX7_restore_34 (by decide) ?_
    refine lv_icmp_ge (tgt := 64) hx hb dX7_restore_37 (by decide) (fun c_1 => ?_) (fun c_1 => ?_)
    · rw [if_pos c_1] at hM
      refine lv_aload_n hx hb dX7_restore_64 rfl (lv_at hl 0 rfl) ?_
      refine lv_iconst (v := 0) hx hb dX7_restore_65 (by decide) ?_
      refine va_put (D := G) (ci := 7) (v := .int (0 : Int32)) (ty := .int) (C := RX7) (T := TX7) (N := 33) hx hb hts inX7 tyX7 tyX7_ok nmX7 hown hK hP hD hS 0 rfl rfl 9 (by decide) (hts _ tb773) (fun _ h9 => h9) rfl (tyX7_ok 9 (by decide)) rfl rfl (Nat.le_of_ble_eq_true rfl) dX7_restore_66 (fun H locs hP hD hS => ?_)
      have hP : va_P G vwCl (WX7_restore K m_a mA_lane mA_many mA_item mA_poem mA_fresh mA_then mA_was mA_tape mA_strengths mA_sounds mA_stand mA_scheme mA_isKept mA_kept mA_trace m_thrown m_status (0 : Int32) m_taped m_cursor m_start m_token m_value m_fault m_faultAt m_latest m_stands m_least m_ways m_nearFoot m_nearFeet m_nearCost m_traced m_poem m_isKept m_kept) H := hP
      have hD : va_D A (WX7_restore K m_a mA_lane mA_many mA_item mA_poem mA_fresh mA_then mA_was mA_tape mA_strengths mA_sounds mA_stand mA_scheme mA_isKept mA_kept mA_trace m_thrown m_status (0 : Int32) m_taped m_cursor m_start m_token m_value m_fault m_faultAt m_latest m_stands m_least m_ways m_nearFoot m_nearFeet m_nearCost m_traced m_poem m_isKept m_kept) := hD
      refine lv_iconst (v := 1) hx hb dX7_restore_69 (by decide) ?_
      have t0 := Option.some.inj hM
      obtain ⟨q1, t1⟩ := Prod.mk.inj t0
      obtain ⟨q2, t2⟩ := Prod.mk.inj t1
      obtain ⟨q3, t3⟩ := Prod.mk.inj t2
      subst q1
      subst q2
      subst q3
      subst t3
      exact kr _ _ _ _ dX7_restore_70 hP hD hS
    · rw [if_neg c_1] at hM
      refine lv_aload_n hx hb dX7_restore_40 rfl (lv_at hl 0 rfl) ?_
      refine va_get (D := G) (ci := 7) (v := .ref mA_poem) (C := RX7) (T := TX7) (N := 33) hx hb hts inX7 hown hK hP 0 rfl rfl 5 (by decide) (hts _ tb769) (fun _ h9 => h9) rfl dX7_restore_41 ?_
      refine lv_iload_n hx hb dX7_restore_44 rfl (lv_at hl 2 rfl) ?_
      refine lv_aload_n hx hb dX7_restore_45 rfl (lv_at hl 0 rfl) ?_
      refine va_get (D := G) (ci := 7) (v := .ref mA_kept) (C := RX7) (T := TX7) (N := 33) hx hb hts inX7 hown hK hP 0 rfl rfl 30 (by decide) (hts _ tb794) (fun _ h9 => h9) rfl dX7_restore_46 ?_
      refine lv_sipush (v := 207) hx hb dX7_restore_49 (by decide) ?_
      refine lv_iload_n hx hb dX7_restore_52 rfl (lv_at hl 1 rfl) ?_
      refine lv_imul hx hb dX7_restore_53 ?_
      refine lv_iload_n hx hb dX7_restore_54 rfl (lv_at hl 2 rfl) ?_
      refine lv_iadd hx hb dX7_restore_55 ?_
      obtain ⟨g_2, hM⟩ := ng hM
      refine va_iald hx hb hK hP 3 0 rfl rfl g_2 dX7_restore_56 ?_
      obtain ⟨g_3, hM⟩ := ng hM
      refine va_iast hx hb hK hP hD hS 1 0 rfl rfl g_3 dX7_restore_57 (fun H locs hP hD hS => ?_)
      have hP : va_P G vwCl (WX7_restore K m_a mA_lane mA_many mA_item mA_poem mA_fresh mA_then mA_was mA_tape mA_strengths mA_sounds mA_stand mA_scheme mA_isKept mA_kept mA_trace m_thrown m_status m_acts m_taped m_cursor m_start m_token m_value m_fault m_faultAt m_latest m_stands m_least m_ways m_nearFoot m_nearFeet m_nearCost m_traced (upd m_poem x2.toNatClampNeg (m_kept (((207 : Int32) * p1) + x2).toNatClampNeg)) m_isKept m_kept) H := hP
      have hD : va_D A (WX7_restore K m_a mA_lane mA_many mA_item mA_poem mA_fresh mA_then mA_was mA_tape mA_strengths mA_sounds mA_stand mA_scheme mA_isKept mA_kept mA_trace m_thrown m_status m_acts m_taped m_cursor m_start m_token m_value m_fault m_faultAt m_latest m_stands m_least m_ways m_nearFoot m_nearFeet m_nearCost m_traced (upd m_poem x2.toNatClampNeg (m_kept (((207 : Int32) * p1) + x2).toNatClampNeg)) m_isKept m_kept) := hD
      refine lv_iinc (v := (x2 + 1)) (lv' := [(2, .int (x2 + 1)), (0, .ref m_a), (1, .int p1)]) hx hb dX7_restore_58 hl (k := 2) rfl rfl (by decide) rfl (fun ls hl => ?_)
      refine lv_goto (tgt := 33) hx hb dX7_restore_61 (by decide) ?_
      exact ih m_thrown m_acts (upd m_poem x2.toNatClampNeg (m_kept (((207 : Int32) * p1) + x2).toNatClampNeg)) (x2 + 1) hM _ _ _ hP hD hS (lv_sub hl [1, 2, 0] rfl)
set_option maxHeartbeats 4000000 in
set_option maxRecDepth 100000 in
theorem wX7_restore_b0 {p : Program} {l : Launch} {e : Env} {s : State} {m : MethodId} {args : Array Value} {below : List Frame} {meth : Method} {c : Code} {Q : State → Prop} {G : va_G} {K : Nat → ClassId} {A : Nat → Prop} (C0 : CX p s m args c cX7_restore 3 RX7 G K E0 A) (m_a mA_lane mA_many mA_item mA_poem mA_fresh mA_then mA_was mA_tape mA_strengths mA_sounds mA_stand mA_scheme mA_isKept mA_kept mA_trace : Nat) (m_status : Int32) (m_taped : Int32) (m_cursor : Int32) (m_start : Int32) (m_token : Int32) (m_value : Int32) (m_fault : Int32) (m_faultAt : Int32) (m_latest : Int32) (m_stands : Int32) (m_least : Int32) (m_ways : Int32) (m_nearFoot : Int32) (m_nearFeet : Int32) (m_nearCost : Int32) (m_traced : Int32) (m_isKept : Nat → Int32) (m_kept : Nat → Int32) (p1 : Int32) (r : Int32) (o_m_thrown : Int32) (o_m_acts : Int32) (o_m_poem : Nat → Int32) (kr : ∀ (H : Heap) (locs : List Loc) (ls : Array Slot) (pc : Nat), decode cX7_restore pc = .ok (.ireturn, 1) → va_P G vwCl (WX7_restore K m_a mA_lane mA_many mA_item mA_poem mA_fresh mA_then mA_was mA_tape mA_strengths mA_sounds mA_stand mA_scheme mA_isKept mA_kept mA_trace o_m_thrown m_status o_m_acts m_taped m_cursor m_start m_token m_value m_fault m_faultAt m_latest m_stands m_least m_ways m_nearFoot m_nearFeet m_nearCost m_traced o_m_poem m_isKept m_kept) H → va_D A (WX7_restore K m_a mA_lane mA_many mA_item mA_poem mA_fresh mA_then mA_was mA_tape mA_strengths mA_sounds mA_stand mA_scheme mA_isKept mA_kept mA_trace o_m_thrown m_status o_m_acts m_taped m_cursor m_start m_token m_value m_fault m_faultAt m_latest m_stands m_least m_ways m_nearFoot m_nearFeet m_nearCost m_traced o_m_poem m_isKept m_kept) → va_S A s.heap H locs → W p l e rmX7_restore s m args below meth c H locs 0 0 Q (F0 m pc ls [.int r])) (m_thrown : Int32) (m_acts : Int32) (m_poem : Nat → Int32) (hM : mX7_restore_b0 m_isKept m_kept p1  m_thrown m_acts m_poem = some (r, o_m_thrown, o_m_acts, o_m_poem)) : ∀ (H : Heap) (locs : List Loc) (ls : Array Slot), va_P G vwCl (WX7_restore K m_a mA_lane mA_many mA_item mA_poem mA_fresh mA_then mA_was mA_tape mA_strengths mA_sounds mA_stand mA_scheme mA_isKept mA_kept mA_trace m_thrown m_status m_acts m_taped m_cursor m_start m_token m_value m_fault m_faultAt m_latest m_stands m_least m_ways m_nearFoot m_nearFeet m_nearCost m_traced m_poem m_isKept m_kept) H → va_D A (WX7_restore K m_a mA_lane mA_many mA_item mA_poem mA_fresh mA_then mA_was mA_tape mA_strengths mA_sounds mA_stand mA_scheme mA_isKept mA_kept mA_trace m_thrown m_status m_acts m_taped m_cursor m_start m_token m_value m_fault m_faultAt m_latest m_stands m_least m_ways m_nearFoot m_nearFeet m_nearCost m_traced m_poem m_isKept m_kept) → va_S A s.heap H locs → lv_has ls 3 [(0, .ref m_a), (1, .int p1)] → W p l e rmX7_restore s m args below meth c H locs 0 0 Q (F0 m 0 ls []) := by
  obtain ⟨hx, hb, hml, hown, hts, hK, hA, hEo, hE⟩ := id C0
  intro H locs ls hP hD hS hl
  unfold mX7_restore_b0 at hM
  refine lv_aload_n hx hb dX7_restore_0 rfl (lv_at hl 0 rfl) ?_
  refine lv_iconst (v := 0) hx hb dX7_restore_1 (by decide) ?_
  refine va_put (D := G) (ci := 7) (v := .int (0 : Int32)) (ty := .int) (C := RX7) (T := TX7) (N := 33) hx hb hts inX7 tyX7 tyX7_ok nmX7 hown hK hP hD hS 0 rfl rfl 0 (by decide) (hts _ tb764) (fun _ h9 => h9) rfl (tyX7_ok 0 (by decide)) rfl rfl (Nat.le_of_ble_eq_true rfl) dX7_restore_2 (fun H locs hP hD hS => ?_)
  have hP : va_P G vwCl (WX7_restore K m_a mA_lane mA_many mA_item mA_poem mA_fresh mA_then mA_was mA_tape mA_strengths mA_sounds mA_stand mA_scheme mA_isKept mA_kept mA_trace (0 : Int32) m_status m_acts m_taped m_cursor m_start m_token m_value m_fault m_faultAt m_latest m_stands m_least m_ways m_nearFoot m_nearFeet m_nearCost m_traced m_poem m_isKept m_kept) H := hP
  have hD : va_D A (WX7_restore K m_a mA_lane mA_many mA_item mA_poem mA_fresh mA_then mA_was mA_tape mA_strengths mA_sounds mA_stand mA_scheme mA_isKept mA_kept mA_trace (0 : Int32) m_status m_acts m_taped m_cursor m_start m_token m_value m_fault m_faultAt m_latest m_stands m_least m_ways m_nearFoot m_nearFeet m_nearCost m_traced m_poem m_isKept m_kept) := hD
  refine lv_iload_n hx hb dX7_restore_5 rfl (lv_at hl 1 rfl) ?_
  refine lv_i2l hx hb dX7_restore_6 rfl ?_
  refine lv_lconst (v := 0) hx hb dX7_restore_7 (by decide) ?_
  refine lv_lconst (v := 1) hx hb dX7_restore_8 (by decide) ?_
  obtain ⟨r_4, hC, hM⟩ := oe1 hM
  refine cS_i (As := [.long p1.toInt64, .long (0 : Int64), .long (1 : Int64)]) (rest := []) C0 hP hD hS [] (kX7_in l G K p1.toInt64 (0 : Int64) (1 : Int64) H.size r_4 hC) rfl rfl rfl tb873 tb874 tb9 tb875 hdX7_in ⟨Nat.le_of_ble_eq_true rfl, Nat.le_of_ble_eq_true rfl⟩ rfl hl.1 (Nat.le_of_ble_eq_true rfl) rfl ⟨Nat.le_refl _, Nat.le_refl _⟩ dX7_restore_9 (fun H locs hP hD hS => ?_)
  have hP : va_P G vwCl (WX7_restore K m_a mA_lane mA_many mA_item mA_poem mA_fresh mA_then mA_was mA_tape mA_strengths mA_sounds mA_stand mA_scheme mA_isKept mA_kept mA_trace (0 : Int32) m_status m_acts m_taped m_cursor m_start m_token m_value m_fault m_faultAt m_latest m_stands m_least m_ways m_nearFoot m_nearFeet m_nearCost m_traced m_poem m_isKept m_kept) H := hP
  have hD : va_D A (WX7_restore K m_a mA_lane mA_many mA_item mA_poem mA_fresh mA_then mA_was mA_tape mA_strengths mA_sounds mA_stand mA_scheme mA_isKept mA_kept mA_trace (0 : Int32) m_status m_acts m_taped m_cursor m_start m_token m_value m_fault m_faultAt m_latest m_stands m_least m_ways m_nearFoot m_nearFeet m_nearCost m_traced m_poem m_isKept m_kept) := hD
  refine lv_if_ne (tgt := 18) hx hb dX7_restore_12 (by decide) (fun c_5 => ?_) (fun c_5 => ?_)
  · rw [if_neg c_5] at hM
    refine lv_aload_n hx hb dX7_restore_18 rfl (lv_at hl 0 rfl) ?_
    refine va_get (D := G) (ci := 7) (v := .ref mA_isKept) (C := RX7) (T := TX7) (N := 33) hx hb hts inX7 hown hK hP 0 rfl rfl 29 (by decide) (hts _ tb793) (fun _ h9 => h9) rfl dX7_restore_19 ?_
    refine lv_iload_n hx hb dX7_restore_22 rfl (lv_at hl 1 rfl) ?_
    obtain ⟨g_6, hM⟩ := ng hM
    refine va_zald hx hb hK hP 2 1 rfl rfl g_6 dX7_restore_23 ?_
    refine lv_if_ne (tgt := 31) hx hb dX7_restore_24 (by decide) (fun c_7 => ?_) (fun c_7 => ?_)
    · rw [if_neg c_7] at hM
      refine lv_iconst (v := 0) hx hb dX7_restore_31 (by decide) ?_
      refine lv_istore_n (lv' := [(2, .int (0 : Int32)), (0, .ref m_a), (1, .int p1)]) hx hb dX7_restore_32 rfl hl (by decide) rfl (fun ls hl => ?_)
      exact wX7_restore_b33 C0 m_a mA_lane mA_many mA_item mA_poem mA_fresh mA_then mA_was mA_tape mA_strengths mA_sounds mA_stand mA_scheme mA_isKept mA_kept mA_trace m_status m_taped m_cursor m_start m_token m_value m_fault m_faultAt m_latest m_stands m_least m_ways m_nearFoot m_nearFeet m_nearCost m_traced m_isKept m_kept p1 r o_m_thrown o_m_acts o_m_poem kr  FU (0 : Int32) m_acts m_poem (0 : Int32) hM _ _ _ hP hD hS (lv_sub hl [1, 2, 0] rfl)
    · rw [if_pos c_7] at hM
      refine lv_ldcw (v := -1000002) hx hb hown (hts _ tb977) dX7_restore_27 ?_
      have t0 := Option.some.inj hM
      obtain ⟨q1, t1⟩ := Prod.mk.inj t0
      obtain ⟨q2, t2⟩ := Prod.mk.inj t1
      obtain ⟨q3, t3⟩ := Prod.mk.inj t2
      subst q1
      subst q2
      subst q3
      subst t3
      exact kr _ _ _ _ dX7_restore_30 hP hD hS
  · rw [if_pos c_5] at hM
    refine lv_ldc (v := -1000001) hx hb hown (hts _ tb877) dX7_restore_15 ?_
    have t0 := Option.some.inj hM
    obtain ⟨q1, t1⟩ := Prod.mk.inj t0
    obtain ⟨q2, t2⟩ := Prod.mk.inj t1
    obtain ⟨q3, t3⟩ := Prod.mk.inj t2
    subst q1
    subst q2
    subst q3
    subst t3
    exact kr _ _ _ _ dX7_restore_17 hP hD hS
set_option maxHeartbeats 4000000 in
set_option maxRecDepth 100000 in
theorem kX7_restore (l : Launch) (G : va_G) (K : Nat → ClassId) (m_a mA_lane mA_many mA_item mA_poem mA_fresh mA_then mA_was mA_tape mA_strengths mA_sounds mA_stand mA_scheme mA_isKept mA_kept mA_trace : Nat) (m_thrown : Int32) (m_status : Int32) (m_acts : Int32) (m_taped : Int32) (m_cursor : Int32) (m_start : Int32) (m_token : Int32) (m_value : Int32) (m_fault : Int32) (m_faultAt : Int32) (m_latest : Int32) (m_stands : Int32) (m_least : Int32) (m_ways : Int32) (m_nearFoot : Int32) (m_nearFeet : Int32) (m_nearCost : Int32) (m_traced : Int32) (m_poem : Nat → Int32) (m_isKept : Nat → Int32) (m_kept : Nat → Int32) (p1 : Int32) (sz : Nat) (r : Int32) (o_m_thrown : Int32) (o_m_acts : Int32) (o_m_poem : Nat → Int32) (hM : mX7_restore m_isKept m_kept m_thrown m_acts m_poem p1 = some (r, o_m_thrown, o_m_acts, o_m_poem)) : Met l yX7_restore (mC yX7_restore cX7_restore 3 (some .int)) rmX7_restore (va_Pc [.ref m_a, .int p1] (PCe G K E0 (WX7_restore K m_a mA_lane mA_many mA_item mA_poem mA_fresh mA_then mA_was mA_tape mA_strengths mA_sounds mA_stand mA_scheme mA_isKept mA_kept mA_trace m_thrown m_status m_acts m_taped m_cursor m_start m_token m_value m_fault m_faultAt m_latest m_stands m_least m_ways m_nearFoot m_nearFeet m_nearCost m_traced m_poem m_isKept m_kept) sz)) (va_Qi (fun (x : Int32) (_ : Unit) => x = r) (fun _ t => va_P G vwCl (WX7_restore K m_a mA_lane mA_many mA_item mA_poem mA_fresh mA_then mA_was mA_tape mA_strengths mA_sounds mA_stand mA_scheme mA_isKept mA_kept mA_trace o_m_thrown m_status o_m_acts m_taped m_cursor m_start m_token m_value m_fault m_faultAt m_latest m_stands m_least m_ways m_nearFoot m_nearFeet m_nearCost m_traced o_m_poem m_isKept m_kept) t.heap) (va_A (WX7_restore K m_a mA_lane mA_many mA_item mA_poem mA_fresh mA_then mA_was mA_tape mA_strengths mA_sounds mA_stand mA_scheme mA_isKept mA_kept mA_trace m_thrown m_status m_acts m_taped m_cursor m_start m_token m_value m_fault m_faultAt m_latest m_stands m_least m_ways m_nearFoot m_nearFeet m_nearCost m_traced m_poem m_isKept m_kept) sz)) rmX7_restore.cells rmX7_restore.slots (va_A (WX7_restore K m_a mA_lane mA_many mA_item mA_poem mA_fresh mA_then mA_was mA_tape mA_strengths mA_sounds mA_stand mA_scheme mA_isKept mA_kept mA_trace m_thrown m_status m_acts m_taped m_cursor m_start m_token m_value m_fault m_faultAt m_latest m_stands m_least m_ways m_nearFoot m_nearFeet m_nearCost m_traced m_poem m_isKept m_kept) sz) := by
  refine Met.ofW (cc := cX7_restore) (maxL := 3) (ret := (some .int)) (by decide) rfl ?_
  intro p e s m args below meth c s₁ B hml hv
  obtain ⟨rfl, hsz, hP, hK, hD0, hE⟩ := hv
  have hx := B.exec
  have hb := B.bytes
  have hr := B.returns
  have hts0 := atoms_spec (ws := mC yX7_restore cX7_restore 3 (some .int)) B.pre
  have hts : ∀ w ∈ tbG, w.before _ s = true := fun w h => hts0 w (List.mem_cons_of_mem _ h)
  have hown : s.vm.findClass RX7 = some m.cls := findClass_of_methodNamed B.named
  subst hsz
  have hD := hD0.self (sz := s.heap.size)
  generalize hAe : va_A (WX7_restore K m_a mA_lane mA_many mA_item mA_poem mA_fresh mA_then mA_was mA_tape mA_strengths mA_sounds mA_stand mA_scheme mA_isKept mA_kept mA_trace m_thrown m_status m_acts m_taped m_cursor m_start m_token m_value m_fault m_faultAt m_latest m_stands m_least m_ways m_nearFoot m_nearFeet m_nearCost m_traced m_poem m_isKept m_kept) s.heap.size = A at hD hE ⊢
  have hA : ∀ q : Nat, s.heap.size ≤ q → A q := fun q h => by rw [← hAe]; exact Or.inr h
  have hS : va_S A s.heap s.heap [] := va_S.rf
  have hl := lv_entry ([.ref m_a, .int p1]) (n := 3) (Nat.le_of_ble_eq_true rfl)
  rw [lg_entry_eq]
  generalize (lg_sl ([.ref m_a, .int p1]) ++ List.replicate (3 - (lg_sl ([.ref m_a, .int p1])).length) Slot.unset).toArray = ls at hl ⊢
  have hl : lv_has ls 3 [(0, .ref m_a), (1, .int p1)] := hl
  exact wX7_restore_b0 ⟨hx, hb, hml, hown, hts, hK, hA, E0_ok, hE⟩ m_a mA_lane mA_many mA_item mA_poem mA_fresh mA_then mA_was mA_tape mA_strengths mA_sounds mA_stand mA_scheme mA_isKept mA_kept mA_trace m_status m_taped m_cursor m_start m_token m_value m_fault m_faultAt m_latest m_stands m_least m_ways m_nearFoot m_nearFeet m_nearCost m_traced m_isKept m_kept p1 r o_m_thrown o_m_acts o_m_poem (fun H locs ls pc hdg hP hD hS => W.iret (v := r) hx hb hr (fun t ht hW => ⟨⟨r, (), rfl, rfl, (show va_P G vwCl _ t.heap by rw [ht]; exact hP)⟩, hS.F ht⟩) hS.2.2 hdg) m_thrown m_acts m_poem  hM _ _ _ hP hD hS hl
def rmX7_isOf : Room := { frames := 0, cells := 0, slots := 0, locals := 0 }
theorem hdX7_isOf : yX7_isOf.cls ≠ "java/lang/invoke/MethodHandle" ∧ yX7_isOf.cls ≠ "java/lang/invoke/VarHandle" ∧ (parseMethodDescriptor yX7_isOf.desc).map (fun d => d.parameters.length) = some 2 := by decide +kernel
set_option maxHeartbeats 4000000 in
set_option maxRecDepth 100000 in
theorem wX7_isOf_b19 {p : Program} {l : Launch} {e : Env} {s : State} {m : MethodId} {args : Array Value} {below : List Frame} {meth : Method} {c : Code} {Q : State → Prop} {G : va_G} {K : Nat → ClassId} {A : Nat → Prop} (C0 : CX p s m args c cX7_isOf 2 RX7 G K E0 A)  (p1 : Int32) (p2 : Int32) (r : Int32)  (kr : ∀ (H : Heap) (locs : List Loc) (ls : Array Slot) (pc : Nat), decode cX7_isOf pc = .ok (.ireturn, 1) → (r = 0 ∨ r = 1) → va_P G vwCl [] H → va_D A [] → va_S A s.heap H locs → W p l e rmX7_isOf s m args below meth c H locs 0 0 Q (F0 m pc ls [.int r]))  (hM : mX7_isOf_b19 p1 p2   = some r) : ∀ (H : Heap) (locs : List Loc) (ls : Array Slot), va_P G vwCl [] H → va_D A [] → va_S A s.heap H locs → lv_has ls 2 [(0, .int p1), (1, .int p2)] → W p l e rmX7_isOf s m args below meth c H locs 0 0 Q (F0 m 19 ls []) := by
  obtain ⟨hx, hb, hml, hown, hts, hK, hA, hEo, hE⟩ := id C0
  intro H locs ls hP hD hS hl
  unfold mX7_isOf_b19 at hM
  refine lv_iload_n hx hb dX7_isOf_19 rfl (lv_at hl 1 rfl) ?_
  refine lv_iconst (v := 4) hx hb dX7_isOf_20 (by decide) ?_
  refine lv_icmp_ne (tgt := 33) hx hb dX7_isOf_21 (by decide) (fun c_1 => ?_) (fun c_1 => ?_)
  · rw [if_neg c_1] at hM
    refine lv_iconst (v := 0) hx hb dX7_isOf_33 (by decide) ?_
    have q1 := Option.some.inj hM
    subst q1
    exact kr _ _ _ _ dX7_isOf_34 (by decide) hP hD hS
  · rw [if_pos c_1] at hM
    refine lv_iload_n hx hb dX7_isOf_24 rfl (lv_at hl 0 rfl) ?_
    refine lv_iconst (v := 5) hx hb dX7_isOf_25 (by decide) ?_
    refine lv_icmp_ne (tgt := 33) hx hb dX7_isOf_26 (by decide) (fun c_2 => ?_) (fun c_2 => ?_)
    · rw [if_neg c_2] at hM
      refine lv_iconst (v := 0) hx hb dX7_isOf_33 (by decide) ?_
      have q1 := Option.some.inj hM
      subst q1
      exact kr _ _ _ _ dX7_isOf_34 (by decide) hP hD hS
    · rw [if_pos c_2] at hM
      refine lv_iconst (v := 1) hx hb dX7_isOf_29 (by decide) ?_
      refine lv_goto (tgt := 34) hx hb dX7_isOf_30 (by decide) ?_
      have q1 := Option.some.inj hM
      subst q1
      exact kr _ _ _ _ dX7_isOf_34 (by decide) hP hD hS
set_option maxHeartbeats 4000000 in
set_option maxRecDepth 100000 in
theorem wX7_isOf_b0 {p : Program} {l : Launch} {e : Env} {s : State} {m : MethodId} {args : Array Value} {below : List Frame} {meth : Method} {c : Code} {Q : State → Prop} {G : va_G} {K : Nat → ClassId} {A : Nat → Prop} (C0 : CX p s m args c cX7_isOf 2 RX7 G K E0 A)  (p1 : Int32) (p2 : Int32) (r : Int32)  (kr : ∀ (H : Heap) (locs : List Loc) (ls : Array Slot) (pc : Nat), decode cX7_isOf pc = .ok (.ireturn, 1) → (r = 0 ∨ r = 1) → va_P G vwCl [] H → va_D A [] → va_S A s.heap H locs → W p l e rmX7_isOf s m args below meth c H locs 0 0 Q (F0 m pc ls [.int r]))  (hM : mX7_isOf_b0 p1 p2   = some r) : ∀ (H : Heap) (locs : List Loc) (ls : Array Slot), va_P G vwCl [] H → va_D A [] → va_S A s.heap H locs → lv_has ls 2 [(0, .int p1), (1, .int p2)] → W p l e rmX7_isOf s m args below meth c H locs 0 0 Q (F0 m 0 ls []) := by
  obtain ⟨hx, hb, hml, hown, hts, hK, hA, hEo, hE⟩ := id C0
  intro H locs ls hP hD hS hl
  unfold mX7_isOf_b0 at hM
  refine lv_iload_n hx hb dX7_isOf_0 rfl (lv_at hl 1 rfl) ?_
  refine lv_if_eq (tgt := 29) hx hb dX7_isOf_1 (by decide) (fun c_3 => ?_) (fun c_3 => ?_)
  · rw [if_pos c_3] at hM
    refine lv_iconst (v := 1) hx hb dX7_isOf_29 (by decide) ?_
    refine lv_goto (tgt := 34) hx hb dX7_isOf_30 (by decide) ?_
    have q1 := Option.some.inj hM
    subst q1
    exact kr _ _ _ _ dX7_isOf_34 (by decide) hP hD hS
  · rw [if_neg c_3] at hM
    refine lv_iload_n hx hb dX7_isOf_4 rfl (lv_at hl 0 rfl) ?_
    refine lv_iload_n hx hb dX7_isOf_5 rfl (lv_at hl 1 rfl) ?_
    refine lv_icmp_eq (tgt := 29) hx hb dX7_isOf_6 (by decide) (fun c_4 => ?_) (fun c_4 => ?_)
    · rw [if_pos c_4] at hM
      refine lv_iconst (v := 1) hx hb dX7_isOf_29 (by decide) ?_
      refine lv_goto (tgt := 34) hx hb dX7_isOf_30 (by decide) ?_
      have q1 := Option.some.inj hM
      subst q1
      exact kr _ _ _ _ dX7_isOf_34 (by decide) hP hD hS
    · rw [if_neg c_4] at hM
      refine lv_iload_n hx hb dX7_isOf_9 rfl (lv_at hl 1 rfl) ?_
      refine lv_iconst (v := 1) hx hb dX7_isOf_10 (by decide) ?_
      refine lv_icmp_ne (tgt := 19) hx hb dX7_isOf_11 (by decide) (fun c_5 => ?_) (fun c_5 => ?_)
      · rw [if_neg c_5] at hM
        exact wX7_isOf_b19 C0 p1 p2 r kr   hM _ _ _ hP hD hS (lv_sub hl [0, 1] rfl)
      · rw [if_pos c_5] at hM
        refine lv_iload_n hx hb dX7_isOf_14 rfl (lv_at hl 0 rfl) ?_
        refine lv_iconst (v := 4) hx hb dX7_isOf_15 (by decide) ?_
        refine lv_icmp_lt (tgt := 29) hx hb dX7_isOf_16 (by decide) (fun c_6 => ?_) (fun c_6 => ?_)
        · rw [if_pos c_6] at hM
          refine lv_iconst (v := 1) hx hb dX7_isOf_29 (by decide) ?_
          refine lv_goto (tgt := 34) hx hb dX7_isOf_30 (by decide) ?_
          have q1 := Option.some.inj hM
          subst q1
          exact kr _ _ _ _ dX7_isOf_34 (by decide) hP hD hS
        · rw [if_neg c_6] at hM
          exact wX7_isOf_b19 C0 p1 p2 r kr   hM _ _ _ hP hD hS (lv_sub hl [0, 1] rfl)
set_option maxHeartbeats 4000000 in
set_option maxRecDepth 100000 in
theorem kX7_isOf (l : Launch) (G : va_G) (K : Nat → ClassId)  (p1 : Int32) (p2 : Int32) (sz : Nat) (r : Int32)  (hM : mX7_isOf p1 p2 = some r) : Met l yX7_isOf (mC yX7_isOf cX7_isOf 2 (some .boolean)) rmX7_isOf (va_Pc [.int p1, .int p2] (PCe G K E0 [] sz)) (va_Qi (fun (x : Int32) (_ : Unit) => x = r) (fun _ t => va_P G vwCl [] t.heap) (va_A [] sz)) rmX7_isOf.cells rmX7_isOf.slots (va_A [] sz) := by
  refine Met.ofW (cc := cX7_isOf) (maxL := 2) (ret := (some .boolean)) (by decide) rfl ?_
  intro p e s m args below meth c s₁ B hml hv
  obtain ⟨rfl, hsz, hP, hK, hD0, hE⟩ := hv
  have hx := B.exec
  have hb := B.bytes
  have hr := B.returns
  have hts0 := atoms_spec (ws := mC yX7_isOf cX7_isOf 2 (some .boolean)) B.pre
  have hts : ∀ w ∈ tbG, w.before _ s = true := fun w h => hts0 w (List.mem_cons_of_mem _ h)
  have hown : s.vm.findClass RX7 = some m.cls := findClass_of_methodNamed B.named
  subst hsz
  have hD := hD0.self (sz := s.heap.size)
  generalize hAe : va_A [] s.heap.size = A at hD hE ⊢
  have hA : ∀ q : Nat, s.heap.size ≤ q → A q := fun q h => by rw [← hAe]; exact Or.inr h
  have hS : va_S A s.heap s.heap [] := va_S.rf
  have hl := lv_entry ([.int p1, .int p2]) (n := 2) (Nat.le_of_ble_eq_true rfl)
  rw [lg_entry_eq]
  generalize (lg_sl ([.int p1, .int p2]) ++ List.replicate (2 - (lg_sl ([.int p1, .int p2])).length) Slot.unset).toArray = ls at hl ⊢
  have hl : lv_has ls 2 [(0, .int p1), (1, .int p2)] := hl
  exact wX7_isOf_b0 ⟨hx, hb, hml, hown, hts, hK, hA, E0_ok, hE⟩ p1 p2 r (fun H locs ls pc hdg hz hP hD hS => W.zret (v := r) (ty := .boolean) hx hb hr (nar_b hz) (fun t ht hW => ⟨⟨r, (), rfl, rfl, (show va_P G vwCl _ t.heap by rw [ht]; exact hP)⟩, hS.F ht⟩) hS.2.2 hdg)   hM _ _ _ hP hD hS hl
