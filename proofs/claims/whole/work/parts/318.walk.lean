abbrev WX7_stressed (K : Nat → ClassId) (m_a mA_lane mA_many mA_item mA_poem mA_fresh mA_then mA_was mA_tape mA_strengths mA_sounds mA_stand mA_scheme mA_isKept mA_kept mA_trace : Nat) (m_thrown : Int32) (m_status : Int32) (m_acts : Int32) (m_taped : Int32) (m_cursor : Int32) (m_start : Int32) (m_token : Int32) (m_value : Int32) (m_fault : Int32) (m_faultAt : Int32) (m_latest : Int32) (m_stands : Int32) (m_least : Int32) (m_ways : Int32) (m_nearFoot : Int32) (m_nearFeet : Int32) (m_nearCost : Int32) (m_traced : Int32) (m_poem : Nat → Int32) (m_strengths : Nat → Int32) (m_sounds : Nat → Int32) (m_stand : Nat → Int32) : va_W := [(m_a, .inr (7, [.int m_thrown, .int m_status, .ref mA_lane, .ref mA_many, .ref mA_item, .ref mA_poem, .ref mA_fresh, .ref mA_then, .ref mA_was, .int m_acts, .ref mA_tape, .int m_taped, .int m_cursor, .int m_start, .int m_token, .int m_value, .int m_fault, .int m_faultAt, .int m_latest, .ref mA_strengths, .ref mA_sounds, .ref mA_stand, .int m_stands, .int m_least, .int m_ways, .ref mA_scheme, .int m_nearFoot, .int m_nearFeet, .int m_nearCost, .ref mA_isKept, .ref mA_kept, .ref mA_trace, .int m_traced])), aI K mA_poem 207 m_poem, aI K mA_strengths 20 m_strengths, aI K mA_sounds 5 m_sounds, aI K mA_stand 20 m_stand]
def rmX7_stressed : Room := { frames := 8, cells := 0, slots := 0, locals := 190 }
theorem hdX7_stressed : yX7_stressed.cls = RX7 ∧ yX7_stressed.cls ≠ "java/lang/invoke/MethodHandle" ∧ yX7_stressed.cls ≠ "java/lang/invoke/VarHandle" ∧ (parseMethodDescriptor yX7_stressed.desc).map (fun d => d.parameters.length) = some 4 := by decide +kernel
set_option maxHeartbeats 4000000 in
set_option maxRecDepth 100000 in
theorem wX7_stressed_b99 {p : Program} {l : Launch} {e : Env} {s : State} {m : MethodId} {args : Array Value} {below : List Frame} {meth : Method} {c : Code} {Q : State → Prop} {G : va_G} {K : Nat → ClassId} {A : Nat → Prop} (C0 : CX p s m args c cX7_stressed 16 RX7 G K E0 A) (m_a mA_lane mA_many mA_item mA_poem mA_fresh mA_then mA_was mA_tape mA_strengths mA_sounds mA_stand mA_scheme mA_isKept mA_kept mA_trace : Nat) (m_status : Int32) (m_acts : Int32) (m_taped : Int32) (m_cursor : Int32) (m_start : Int32) (m_token : Int32) (m_value : Int32) (m_fault : Int32) (m_faultAt : Int32) (m_latest : Int32) (m_nearFoot : Int32) (m_nearFeet : Int32) (m_nearCost : Int32) (m_traced : Int32) (m_poem : Nat → Int32) (p1 : Int32) (p2 : Int32) (p3 : Int32) (p4 : Int32) (r : Int64) (o_m_thrown : Int32) (o_m_stands : Int32) (o_m_least : Int32) (o_m_ways : Int32) (o_m_strengths : Nat → Int32) (o_m_sounds : Nat → Int32) (o_m_stand : Nat → Int32) (kr : ∀ (H : Heap) (locs : List Loc) (ls : Array Slot) (pc : Nat), decode cX7_stressed pc = .ok (.lreturn, 1) → va_P G vwCl (WX7_stressed K m_a mA_lane mA_many mA_item mA_poem mA_fresh mA_then mA_was mA_tape mA_strengths mA_sounds mA_stand mA_scheme mA_isKept mA_kept mA_trace o_m_thrown m_status m_acts m_taped m_cursor m_start m_token m_value m_fault m_faultAt m_latest o_m_stands o_m_least o_m_ways m_nearFoot m_nearFeet m_nearCost m_traced m_poem o_m_strengths o_m_sounds o_m_stand) H → va_D A (WX7_stressed K m_a mA_lane mA_many mA_item mA_poem mA_fresh mA_then mA_was mA_tape mA_strengths mA_sounds mA_stand mA_scheme mA_isKept mA_kept mA_trace o_m_thrown m_status m_acts m_taped m_cursor m_start m_token m_value m_fault m_faultAt m_latest o_m_stands o_m_least o_m_ways m_nearFoot m_nearFeet m_nearCost m_traced m_poem o_m_strengths o_m_sounds o_m_stand) → va_S A s.heap H locs → W p l e rmX7_stressed s m args below meth c H locs 0 0 Q (F0 m pc ls [.long r])) (k84 : Int32 → Int32 → Int32 → Int32 → (Nat → Int32) → (Nat → Int32) → (Nat → Int32) → Int32 → Int64 → Int64 → Int32 → Option (Int64 × (Int32) × (Int32) × (Int32) × (Int32) × (Nat → Int32) × (Nat → Int32) × (Nat → Int32))) (hk84 : ∀ (m_thrown : Int32) (m_stands : Int32) (m_least : Int32) (m_ways : Int32) (m_strengths : Nat → Int32) (m_sounds : Nat → Int32) (m_stand : Nat → Int32) (x5 : Int32) (x6 : Int64) (x8 : Int64) (x10 : Int32), k84 m_thrown m_stands m_least m_ways m_strengths m_sounds m_stand x5 x6 x8 x10 = some (r, o_m_thrown, o_m_stands, o_m_least, o_m_ways, o_m_strengths, o_m_sounds, o_m_stand) → ∀ (H : Heap) (locs : List Loc) (ls : Array Slot), va_P G vwCl (WX7_stressed K m_a mA_lane mA_many mA_item mA_poem mA_fresh mA_then mA_was mA_tape mA_strengths mA_sounds mA_stand mA_scheme mA_isKept mA_kept mA_trace m_thrown m_status m_acts m_taped m_cursor m_start m_token m_value m_fault m_faultAt m_latest m_stands m_least m_ways m_nearFoot m_nearFeet m_nearCost m_traced m_poem m_strengths m_sounds m_stand) H → va_D A (WX7_stressed K m_a mA_lane mA_many mA_item mA_poem mA_fresh mA_then mA_was mA_tape mA_strengths mA_sounds mA_stand mA_scheme mA_isKept mA_kept mA_trace m_thrown m_status m_acts m_taped m_cursor m_start m_token m_value m_fault m_faultAt m_latest m_stands m_least m_ways m_nearFoot m_nearFeet m_nearCost m_traced m_poem m_strengths m_sounds m_stand) → va_S A s.heap H locs → lv_has ls 16 [(0, .ref m_a), (1, .int p1), (2, .int p2), (3, .int p3), (4, .int p4), (5, .int x5), (6, .long x6), (8, .long x8), (10, .int x10)] → W p l e rmX7_stressed s m args below meth c H locs 0 0 Q (F0 m 84 ls [])) (n : Nat) : ∀ (m_thrown : Int32) (m_stands : Int32) (m_least : Int32) (m_ways : Int32) (m_strengths : Nat → Int32) (m_sounds : Nat → Int32) (m_stand : Nat → Int32) (x5 : Int32) (x6 : Int64) (x8 : Int64) (x10 : Int32) (x11 : Int64) (x13 : Int32), mX7_stressed_b99 m_poem p1 p2 p3 p4 k84 n m_thrown m_stands m_least m_ways m_strengths m_sounds m_stand x5 x6 x8 x10 x11 x13 = some (r, o_m_thrown, o_m_stands, o_m_least, o_m_ways, o_m_strengths, o_m_sounds, o_m_stand) → ∀ (H : Heap) (locs : List Loc) (ls : Array Slot), va_P G vwCl (WX7_stressed K m_a mA_lane mA_many mA_item mA_poem mA_fresh mA_then mA_was mA_tape mA_strengths mA_sounds mA_stand mA_scheme mA_isKept mA_kept mA_trace m_thrown m_status m_acts m_taped m_cursor m_start m_token m_value m_fault m_faultAt m_latest m_stands m_least m_ways m_nearFoot m_nearFeet m_nearCost m_traced m_poem m_strengths m_sounds m_stand) H → va_D A (WX7_stressed K m_a mA_lane mA_many mA_item mA_poem mA_fresh mA_then mA_was mA_tape mA_strengths mA_sounds mA_stand mA_scheme mA_isKept mA_kept mA_trace m_thrown m_status m_acts m_taped m_cursor m_start m_token m_value m_fault m_faultAt m_latest m_stands m_least m_ways m_nearFoot m_nearFeet m_nearCost m_traced m_poem m_strengths m_sounds m_stand) → va_S A s.heap H locs → lv_has ls 16 [(0, .ref m_a), (1, .int p1), (2, .int p2), (3, .int p3), (4, .int p4), (5, .int x5), (6, .long x6), (8, .long x8), (10, .int x10), (11, .long x11), (13, .int x13)] → W p l e rmX7_stressed s m args below meth c H locs 0 0 Q (F0 m 99 ls []) := by
  obtain ⟨hx, hb, hml, hown, hts, hK, hA, hEo, hE⟩ := id C0
  induction n with
  | zero =>
    intro m_thrown m_stands m_least m_ways m_strengths m_sounds m_stand x5 x6 x8 x10 x11 x13 hM
    cases hM
  | succ n ih =>
    intro m_thrown m_stands m_least m_ways m_strengths m_sounds m_stand x5 x6 x8 x10 x11 x13 hM H locs ls hP hD hS hl
    rw [mX7_stressed_b99] at hM
    refine lv_iload hx hb dX7_stressed_99 (lv_at hl 10 rfl) ?_
    refine lv_iload hx hb dX7_stressed_101 (lv_at hl 5 rfl) ?_
    refine lv_icmp_ge (tgt := 138) hx hb dX7_stressed_103 (by decide) (fun c_1 => ?_) (fun c_1 => ?_)
    · rw [if_pos c_1] at hM
      refine lv_aload_n hx hb dX7_stressed_138 rfl (lv_at hl 0 rfl) ?_
      refine lv_aload_n hx hb dX7_stressed_139 rfl (lv_at hl 0 rfl) ?_
      refine va_get (D := G) (ci := 7) (v := .ref mA_poem) (C := RX7) (T := TX7) (N := 33) hx hb hts inX7 hown hK hP 0 rfl rfl 5 (by decide) (hts _ tb769) (fun _ h9 => h9) rfl dX7_stressed_140 ?_
      refine lv_iload_n hx hb dX7_stressed_143 rfl (lv_at hl 1 rfl) ?_
      refine lv_aload_n hx hb dX7_stressed_144 rfl (lv_at hl 0 rfl) ?_
      refine va_get (D := G) (ci := 7) (v := .ref mA_poem) (C := RX7) (T := TX7) (N := 33) hx hb hts inX7 hown hK hP 0 rfl rfl 5 (by decide) (hts _ tb769) (fun _ h9 => h9) rfl dX7_stressed_145 ?_
      refine lv_iconst (v := 1) hx hb dX7_stressed_148 (by decide) ?_
      refine va_iald hx hb hK hP 1 0 rfl rfl (show ¬ ((1 : Int32) < 0 ∨ 207 ≤ ((1 : Int32)).toNatClampNeg) by decide) dX7_stressed_149 ?_
      refine lv_aload_n hx hb dX7_stressed_150 rfl (lv_at hl 0 rfl) ?_
      refine va_get (D := G) (ci := 7) (v := .ref mA_poem) (C := RX7) (T := TX7) (N := 33) hx hb hts inX7 hown hK hP 0 rfl rfl 5 (by decide) (hts _ tb769) (fun _ h9 => h9) rfl dX7_stressed_151 ?_
      refine lv_iconst (v := 2) hx hb dX7_stressed_154 (by decide) ?_
      refine va_iald hx hb hK hP 1 0 rfl rfl (show ¬ ((2 : Int32) < 0 ∨ 207 ≤ ((2 : Int32)).toNatClampNeg) by decide) dX7_stressed_155 ?_
      refine lv_iload hx hb dX7_stressed_156 (lv_at hl 8 rfl) ?_
      obtain ⟨r_2, u0_2, u1_2, u2_2, u3_2, u4_2, u5_2, hC, hM⟩ := oe7 hM
      refine cV_i (As := [.ref mA_poem, .int p1, .int (m_poem (1 : Int32).toNatClampNeg), .int (m_poem (2 : Int32).toNatClampNeg), .int x10]) (rest := []) C0 hP hD hS [0, 2, 3, 4, 1] (kX7_scanOf l G K m_a mA_lane mA_many mA_item mA_poem mA_fresh mA_then mA_was mA_tape mA_strengths mA_sounds mA_stand mA_scheme mA_isKept mA_kept mA_trace mA_poem m_thrown m_status m_acts m_taped m_cursor m_start m_token m_value m_fault m_faultAt m_latest m_stands m_least m_ways m_nearFoot m_nearFeet m_nearCost m_traced m_strengths m_sounds m_stand m_poem p1 (m_poem (1 : Int32).toNatClampNeg) (m_poem (2 : Int32).toNatClampNeg) x10 H.size r_2 u0_2 u1_2 u2_2 u3_2 u4_2 u5_2 hC) rfl rfl rfl tb1090 tb1092 tp34 tb9 tb1093 hdX7_scanOf (va_recv hK hP (ci := 7) (q0 := 0) rfl rfl) ⟨Nat.le_of_ble_eq_true rfl, Nat.le_of_ble_eq_true rfl⟩ rfl hl.1 (Nat.le_of_ble_eq_true rfl) rfl ⟨Nat.le_refl _, Nat.le_refl _⟩ dX7_stressed_158 (fun H locs hP hD hS => ?_)
      have hP : va_P G vwCl (WX7_stressed K m_a mA_lane mA_many mA_item mA_poem mA_fresh mA_then mA_was mA_tape mA_strengths mA_sounds mA_stand mA_scheme mA_isKept mA_kept mA_trace m_thrown m_status m_acts m_taped m_cursor m_start m_token m_value m_fault m_faultAt m_latest u0_2 u1_2 u2_2 m_nearFoot m_nearFeet m_nearCost m_traced m_poem u3_2 u4_2 u5_2) H := hP
      have hD : va_D A (WX7_stressed K m_a mA_lane mA_many mA_item mA_poem mA_fresh mA_then mA_was mA_tape mA_strengths mA_sounds mA_stand mA_scheme mA_isKept mA_kept mA_trace m_thrown m_status m_acts m_taped m_cursor m_start m_token m_value m_fault m_faultAt m_latest u0_2 u1_2 u2_2 m_nearFoot m_nearFeet m_nearCost m_traced m_poem u3_2 u4_2 u5_2) := hD
      refine lv_istore (lv' := [(13, .int r_2), (0, .ref m_a), (1, .int p1), (2, .int p2), (3, .int p3), (4, .int p4), (5, .int x5), (6, .long x6), (8, .long x8), (10, .int x10), (11, .long x11)]) hx hb dX7_stressed_161 hl (by decide) rfl (fun ls hl => ?_)
      refine lv_lload hx hb dX7_stressed_163 (lv_at hl 8 rfl) ?_
      refine lv_lload hx hb dX7_stressed_165 (lv_at hl 10 rfl) ?_
      refine lv_ladd hx hb dX7_stressed_167 ?_
      refine lv_lstore (lv' := [(8, .long (x8 + x11)), (13, .int r_2), (0, .ref m_a), (1, .int p1), (2, .int p2), (3, .int p3), (4, .int p4), (5, .int x5), (6, .long x6), (10, .int x10), (11, .long x11)]) hx hb dX7_stressed_168 hl (by decide) rfl (fun ls hl => ?_)
      refine lv_lload hx hb dX7_stressed_170 (lv_at hl 8 rfl) ?_
      refine lv_iload hx hb dX7_stressed_172 (lv_at hl 1 rfl) ?_
      refine lv_ldc (v := -1000000) hx hb hown (hts _ tb917) dX7_stressed_174 ?_
      refine lv_icmp_eq (tgt := 190) hx hb dX7_stressed_176 (by decide) (fun c_3 => ?_) (fun c_3 => ?_)
      · rw [if_pos c_3] at hM
        refine lv_lconst (v := 0) hx hb dX7_stressed_190 (by decide) ?_
        refine lv_ladd hx hb dX7_stressed_191 ?_
        refine lv_lstore (lv' := [(6, .long (x6 + (0 : Int64))), (8, .long (x8 + x11)), (13, .int r_2), (0, .ref m_a), (1, .int p1), (2, .int p2), (3, .int p3), (4, .int p4), (5, .int x5), (10, .int x10), (11, .long x11)]) hx hb dX7_stressed_192 hl (by decide) rfl (fun ls hl => ?_)
        refine lv_iinc (v := (x10 + 1)) (lv' := [(10, .int (x10 + 1)), (6, .long (x6 + (0 : Int64))), (8, .long (x8 + x11)), (13, .int r_2), (0, .ref m_a), (1, .int p1), (2, .int p2), (3, .int p3), (4, .int p4), (5, .int x5), (11, .long x11)]) hx hb dX7_stressed_194 hl (k := 9) rfl rfl (by decide) rfl (fun ls hl => ?_)
        refine lv_goto (tgt := 84) hx hb dX7_stressed_197 (by decide) ?_
        exact hk84 m_thrown u0_2 u1_2 u2_2 u3_2 u4_2 u5_2 x5 (x6 + (0 : Int64)) (x8 + x11) (x10 + 1) hM _ _ _ hP hD hS (lv_sub hl [4, 5, 6, 7, 8, 9, 1, 2, 0] rfl)
      · rw [if_neg c_3] at hM
        refine lv_iload hx hb dX7_stressed_179 (lv_at hl 1 rfl) ?_
        refine lv_iload_n hx hb dX7_stressed_181 rfl (lv_at hl 4 rfl) ?_
        refine lv_icmp_gt (tgt := 190) hx hb dX7_stressed_182 (by decide) (fun c_4 => ?_) (fun c_4 => ?_)
        · rw [if_pos c_4] at hM
          refine lv_lconst (v := 0) hx hb dX7_stressed_190 (by decide) ?_
          refine lv_ladd hx hb dX7_stressed_191 ?_
          refine lv_lstore (lv' := [(6, .long (x6 + (0 : Int64))), (8, .long (x8 + x11)), (13, .int r_2), (0, .ref m_a), (1, .int p1), (2, .int p2), (3, .int p3), (4, .int p4), (5, .int x5), (10, .int x10), (11, .long x11)]) hx hb dX7_stressed_192 hl (by decide) rfl (fun ls hl => ?_)
          refine lv_iinc (v := (x10 + 1)) (lv' := [(10, .int (x10 + 1)), (6, .long (x6 + (0 : Int64))), (8, .long (x8 + x11)), (13, .int r_2), (0, .ref m_a), (1, .int p1), (2, .int p2), (3, .int p3), (4, .int p4), (5, .int x5), (11, .long x11)]) hx hb dX7_stressed_194 hl (k := 9) rfl rfl (by decide) rfl (fun ls hl => ?_)
          refine lv_goto (tgt := 84) hx hb dX7_stressed_197 (by decide) ?_
          exact hk84 m_thrown u0_2 u1_2 u2_2 u3_2 u4_2 u5_2 x5 (x6 + (0 : Int64)) (x8 + x11) (x10 + 1) hM _ _ _ hP hD hS (lv_sub hl [4, 5, 6, 7, 8, 9, 1, 2, 0] rfl)
        · rw [if_neg c_4] at hM
          refine lv_lload hx hb dX7_stressed_185 (lv_at hl 10 rfl) ?_
          refine lv_goto (tgt := 191) hx hb dX7_stressed_187 (by decide) ?_
          refine lv_ladd hx hb dX7_stressed_191 ?_
          refine lv_lstore (lv' := [(6, .long (x6 + x11)), (8, .long (x8 + x11)), (13, .int r_2), (0, .ref m_a), (1, .int p1), (2, .int p2), (3, .int p3), (4, .int p4), (5, .int x5), (10, .int x10), (11, .long x11)]) hx hb dX7_stressed_192 hl (by decide) rfl (fun ls hl => ?_)
          refine lv_iinc (v := (x10 + 1)) (lv' := [(10, .int (x10 + 1)), (6, .long (x6 + x11)), (8, .long (x8 + x11)), (13, .int r_2), (0, .ref m_a), (1, .int p1), (2, .int p2), (3, .int p3), (4, .int p4), (5, .int x5), (11, .long x11)]) hx hb dX7_stressed_194 hl (k := 9) rfl rfl (by decide) rfl (fun ls hl => ?_)
          refine lv_goto (tgt := 84) hx hb dX7_stressed_197 (by decide) ?_
          exact hk84 m_thrown u0_2 u1_2 u2_2 u3_2 u4_2 u5_2 x5 (x6 + x11) (x8 + x11) (x10 + 1) hM _ _ _ hP hD hS (lv_sub hl [4, 5, 6, 7, 8, 9, 1, 2, 0] rfl)
    · rw [if_neg c_1] at hM
      refine lv_lload hx hb dX7_stressed_106 (lv_at hl 9 rfl) ?_
      refine lv_iload hx hb dX7_stressed_108 (lv_at hl 8 rfl) ?_
      refine lv_iload hx hb dX7_stressed_110 (lv_at hl 10 rfl) ?_
      obtain ⟨r_5, hC, hM⟩ := oe1 hM
      refine cS_i (As := [.int x10, .int x13]) (rest := [.long x11]) C0 hP hD hS [] (kX7_has l G K x10 x13 H.size r_5 hC) rfl rfl rfl tb1102 tb1103 tb9 tb1104 hdX7_has ⟨Nat.le_of_ble_eq_true rfl, Nat.le_of_ble_eq_true rfl⟩ rfl hl.1 (Nat.le_of_ble_eq_true rfl) rfl ⟨Nat.le_refl _, Nat.le_refl _⟩ dX7_stressed_112 (fun H locs hP hD hS => ?_)
      have hP : va_P G vwCl (WX7_stressed K m_a mA_lane mA_many mA_item mA_poem mA_fresh mA_then mA_was mA_tape mA_strengths mA_sounds mA_stand mA_scheme mA_isKept mA_kept mA_trace m_thrown m_status m_acts m_taped m_cursor m_start m_token m_value m_fault m_faultAt m_latest m_stands m_least m_ways m_nearFoot m_nearFeet m_nearCost m_traced m_poem m_strengths m_sounds m_stand) H := hP
      have hD : va_D A (WX7_stressed K m_a mA_lane mA_many mA_item mA_poem mA_fresh mA_then mA_was mA_tape mA_strengths mA_sounds mA_stand mA_scheme mA_isKept mA_kept mA_trace m_thrown m_status m_acts m_taped m_cursor m_start m_token m_value m_fault m_faultAt m_latest m_stands m_least m_ways m_nearFoot m_nearFeet m_nearCost m_traced m_poem m_strengths m_sounds m_stand) := hD
      refine lv_if_eq (tgt := 123) hx hb dX7_stressed_115 (by decide) (fun c_6 => ?_) (fun c_6 => ?_)
      · rw [if_pos c_6] at hM
        refine lv_ldc2 (v := 10) hx hb hown (hts _ tb1184) dX7_stressed_123 ?_
        refine lv_iload_n hx hb dX7_stressed_126 rfl (lv_at hl 3 rfl) ?_
        refine lv_i2l hx hb dX7_stressed_127 rfl ?_
        refine lv_lsub hx hb dX7_stressed_128 ?_
        refine lv_lmul hx hb dX7_stressed_129 ?_
        refine lv_lstore (lv' := [(11, .long (x11 * ((10 : Int64) - p3.toInt64))), (0, .ref m_a), (1, .int p1), (2, .int p2), (3, .int p3), (4, .int p4), (5, .int x5), (6, .long x6), (8, .long x8), (10, .int x10), (13, .int x13)]) hx hb dX7_stressed_130 hl (by decide) rfl (fun ls hl => ?_)
        refine lv_iinc (v := (x13 + 1)) (lv' := [(13, .int (x13 + 1)), (11, .long (x11 * ((10 : Int64) - p3.toInt64))), (0, .ref m_a), (1, .int p1), (2, .int p2), (3, .int p3), (4, .int p4), (5, .int x5), (6, .long x6), (8, .long x8), (10, .int x10)]) hx hb dX7_stressed_132 hl (k := 10) rfl rfl (by decide) rfl (fun ls hl => ?_)
        refine lv_goto (tgt := 99) hx hb dX7_stressed_135 (by decide) ?_
        exact ih m_thrown m_stands m_least m_ways m_strengths m_sounds m_stand x5 x6 x8 x10 (x11 * ((10 : Int64) - p3.toInt64)) (x13 + 1) hM _ _ _ hP hD hS (lv_sub hl [2, 3, 4, 5, 6, 7, 8, 9, 10, 1, 0] rfl)
      · rw [if_neg c_6] at hM
        refine lv_iload_n hx hb dX7_stressed_118 rfl (lv_at hl 3 rfl) ?_
        refine lv_i2l hx hb dX7_stressed_119 rfl ?_
        refine lv_goto (tgt := 129) hx hb dX7_stressed_120 (by decide) ?_
        refine lv_lmul hx hb dX7_stressed_129 ?_
        refine lv_lstore (lv' := [(11, .long (x11 * p3.toInt64)), (0, .ref m_a), (1, .int p1), (2, .int p2), (3, .int p3), (4, .int p4), (5, .int x5), (6, .long x6), (8, .long x8), (10, .int x10), (13, .int x13)]) hx hb dX7_stressed_130 hl (by decide) rfl (fun ls hl => ?_)
        refine lv_iinc (v := (x13 + 1)) (lv' := [(13, .int (x13 + 1)), (11, .long (x11 * p3.toInt64)), (0, .ref m_a), (1, .int p1), (2, .int p2), (3, .int p3), (4, .int p4), (5, .int x5), (6, .long x6), (8, .long x8), (10, .int x10)]) hx hb dX7_stressed_132 hl (k := 10) rfl rfl (by decide) rfl (fun ls hl => ?_)
        refine lv_goto (tgt := 99) hx hb dX7_stressed_135 (by decide) ?_
        exact ih m_thrown m_stands m_least m_ways m_strengths m_sounds m_stand x5 x6 x8 x10 (x11 * p3.toInt64) (x13 + 1) hM _ _ _ hP hD hS (lv_sub hl [2, 3, 4, 5, 6, 7, 8, 9, 10, 1, 0] rfl)
set_option maxHeartbeats 4000000 in
set_option maxRecDepth 100000 in
theorem wX7_stressed_b208 {p : Program} {l : Launch} {e : Env} {s : State} {m : MethodId} {args : Array Value} {below : List Frame} {meth : Method} {c : Code} {Q : State → Prop} {G : va_G} {K : Nat → ClassId} {A : Nat → Prop} (C0 : CX p s m args c cX7_stressed 16 RX7 G K E0 A) (m_a mA_lane mA_many mA_item mA_poem mA_fresh mA_then mA_was mA_tape mA_strengths mA_sounds mA_stand mA_scheme mA_isKept mA_kept mA_trace : Nat) (m_status : Int32) (m_acts : Int32) (m_taped : Int32) (m_cursor : Int32) (m_start : Int32) (m_token : Int32) (m_value : Int32) (m_fault : Int32) (m_faultAt : Int32) (m_latest : Int32) (m_nearFoot : Int32) (m_nearFeet : Int32) (m_nearCost : Int32) (m_traced : Int32) (m_poem : Nat → Int32) (p1 : Int32) (p2 : Int32) (p3 : Int32) (p4 : Int32) (r : Int64) (o_m_thrown : Int32) (o_m_stands : Int32) (o_m_least : Int32) (o_m_ways : Int32) (o_m_strengths : Nat → Int32) (o_m_sounds : Nat → Int32) (o_m_stand : Nat → Int32) (kr : ∀ (H : Heap) (locs : List Loc) (ls : Array Slot) (pc : Nat), decode cX7_stressed pc = .ok (.lreturn, 1) → va_P G vwCl (WX7_stressed K m_a mA_lane mA_many mA_item mA_poem mA_fresh mA_then mA_was mA_tape mA_strengths mA_sounds mA_stand mA_scheme mA_isKept mA_kept mA_trace o_m_thrown m_status m_acts m_taped m_cursor m_start m_token m_value m_fault m_faultAt m_latest o_m_stands o_m_least o_m_ways m_nearFoot m_nearFeet m_nearCost m_traced m_poem o_m_strengths o_m_sounds o_m_stand) H → va_D A (WX7_stressed K m_a mA_lane mA_many mA_item mA_poem mA_fresh mA_then mA_was mA_tape mA_strengths mA_sounds mA_stand mA_scheme mA_isKept mA_kept mA_trace o_m_thrown m_status m_acts m_taped m_cursor m_start m_token m_value m_fault m_faultAt m_latest o_m_stands o_m_least o_m_ways m_nearFoot m_nearFeet m_nearCost m_traced m_poem o_m_strengths o_m_sounds o_m_stand) → va_S A s.heap H locs → W p l e rmX7_stressed s m args below meth c H locs 0 0 Q (F0 m pc ls [.long r])) (n : Nat) : ∀ (m_thrown : Int32) (m_stands : Int32) (m_least : Int32) (m_ways : Int32) (m_strengths : Nat → Int32) (m_sounds : Nat → Int32) (m_stand : Nat → Int32) (x6 : Int64) (x8 : Int64) (x10 : Int64) (x12 : Int64), mX7_stressed_b208 m_poem p1 p2 p3 p4  n m_thrown m_stands m_least m_ways m_strengths m_sounds m_stand x6 x8 x10 x12 = some (r, o_m_thrown, o_m_stands, o_m_least, o_m_ways, o_m_strengths, o_m_sounds, o_m_stand) → ∀ (H : Heap) (locs : List Loc) (ls : Array Slot), va_P G vwCl (WX7_stressed K m_a mA_lane mA_many mA_item mA_poem mA_fresh mA_then mA_was mA_tape mA_strengths mA_sounds mA_stand mA_scheme mA_isKept mA_kept mA_trace m_thrown m_status m_acts m_taped m_cursor m_start m_token m_value m_fault m_faultAt m_latest m_stands m_least m_ways m_nearFoot m_nearFeet m_nearCost m_traced m_poem m_strengths m_sounds m_stand) H → va_D A (WX7_stressed K m_a mA_lane mA_many mA_item mA_poem mA_fresh mA_then mA_was mA_tape mA_strengths mA_sounds mA_stand mA_scheme mA_isKept mA_kept mA_trace m_thrown m_status m_acts m_taped m_cursor m_start m_token m_value m_fault m_faultAt m_latest m_stands m_least m_ways m_nearFoot m_nearFeet m_nearCost m_traced m_poem m_strengths m_sounds m_stand) → va_S A s.heap H locs → lv_has ls 16 [(4, .int p4), (6, .long x6), (8, .long x8), (10, .long x10), (12, .long x12)] → W p l e rmX7_stressed s m args below meth c H locs 0 0 Q (F0 m 208 ls []) := by
  obtain ⟨hx, hb, hml, hown, hts, hK, hA, hEo, hE⟩ := id C0
  induction n with
  | zero =>
    intro m_thrown m_stands m_least m_ways m_strengths m_sounds m_stand x6 x8 x10 x12 hM
    cases hM
  | succ n ih =>
    intro m_thrown m_stands m_least m_ways m_strengths m_sounds m_stand x6 x8 x10 x12 hM H locs ls hP hD hS hl
    rw [mX7_stressed_b208] at hM
    refine lv_lload hx hb dX7_stressed_208 (lv_at hl 4 rfl) ?_
    refine lv_lconst (v := 0) hx hb dX7_stressed_210 (by decide) ?_
    refine W.lcmp hx hb dX7_stressed_211 ?_
    refine lv_if_eq (tgt := 233) hx hb dX7_stressed_212 (by decide) (fun c_7 => ?_) (fun c_7 => ?_)
    · rw [if_pos c_7] at hM
      refine lv_iload hx hb dX7_stressed_233 (lv_at hl 0 rfl) ?_
      refine lv_if_ne (tgt := 243) hx hb dX7_stressed_235 (by decide) (fun c_8 => ?_) (fun c_8 => ?_)
      · rw [if_neg c_8] at hM
        refine lv_lload hx hb dX7_stressed_243 (lv_at hl 2 rfl) ?_
        refine lv_lload hx hb dX7_stressed_245 (lv_at hl 3 rfl) ?_
        obtain ⟨g_9, hM⟩ := ng hM
        refine lv_ldiv hx hb dX7_stressed_247 g_9 ?_
        have t0 := Option.some.inj hM
        obtain ⟨q1, t1⟩ := Prod.mk.inj t0
        obtain ⟨q2, t2⟩ := Prod.mk.inj t1
        obtain ⟨q3, t3⟩ := Prod.mk.inj t2
        obtain ⟨q4, t4⟩ := Prod.mk.inj t3
        obtain ⟨q5, t5⟩ := Prod.mk.inj t4
        obtain ⟨q6, t6⟩ := Prod.mk.inj t5
        obtain ⟨q7, t7⟩ := Prod.mk.inj t6
        subst q1
        subst q2
        subst q3
        subst q4
        subst q5
        subst q6
        subst q7
        subst t7
        exact kr _ _ _ _ dX7_stressed_248 hP hD hS
      · rw [if_pos c_8] at hM
        refine lv_lload hx hb dX7_stressed_238 (lv_at hl 1 rfl) ?_
        refine lv_goto (tgt := 245) hx hb dX7_stressed_240 (by decide) ?_
        refine lv_lload hx hb dX7_stressed_245 (lv_at hl 3 rfl) ?_
        obtain ⟨g_10, hM⟩ := ng hM
        refine lv_ldiv hx hb dX7_stressed_247 g_10 ?_
        have t0 := Option.some.inj hM
        obtain ⟨q1, t1⟩ := Prod.mk.inj t0
        obtain ⟨q2, t2⟩ := Prod.mk.inj t1
        obtain ⟨q3, t3⟩ := Prod.mk.inj t2
        obtain ⟨q4, t4⟩ := Prod.mk.inj t3
        obtain ⟨q5, t5⟩ := Prod.mk.inj t4
        obtain ⟨q6, t6⟩ := Prod.mk.inj t5
        obtain ⟨q7, t7⟩ := Prod.mk.inj t6
        subst q1
        subst q2
        subst q3
        subst q4
        subst q5
        subst q6
        subst q7
        subst t7
        exact kr _ _ _ _ dX7_stressed_248 hP hD hS
    · rw [if_neg c_7] at hM
      refine lv_lload hx hb dX7_stressed_215 (lv_at hl 3 rfl) ?_
      refine lv_lload hx hb dX7_stressed_217 (lv_at hl 4 rfl) ?_
      obtain ⟨g_11, hM⟩ := ng hM
      refine lv_lrem hx hb dX7_stressed_219 g_11 ?_
      refine lv_lstore (lv' := [(14, .long (x10 - x10 / x12 * x12)), (4, .int p4), (6, .long x6), (8, .long x8), (10, .long x10), (12, .long x12)]) hx hb dX7_stressed_220 hl (by decide) rfl (fun ls hl => ?_)
      refine lv_lload hx hb dX7_stressed_222 (lv_at hl 5 rfl) ?_
      refine lv_lstore (lv' := [(10, .long x12), (14, .long (x10 - x10 / x12 * x12)), (4, .int p4), (6, .long x6), (8, .long x8), (12, .long x12)]) hx hb dX7_stressed_224 hl (by decide) rfl (fun ls hl => ?_)
      refine lv_lload hx hb dX7_stressed_226 (lv_at hl 1 rfl) ?_
      refine lv_lstore (lv' := [(12, .long (x10 - x10 / x12 * x12)), (10, .long x12), (14, .long (x10 - x10 / x12 * x12)), (4, .int p4), (6, .long x6), (8, .long x8)]) hx hb dX7_stressed_228 hl (by decide) rfl (fun ls hl => ?_)
      refine lv_goto (tgt := 208) hx hb dX7_stressed_230 (by decide) ?_
      exact ih m_thrown m_stands m_least m_ways m_strengths m_sounds m_stand x6 x8 x12 (x10 - x10 / x12 * x12) hM _ _ _ hP hD hS (lv_sub hl [3, 4, 5, 1, 0] rfl)
set_option maxHeartbeats 4000000 in
set_option maxRecDepth 100000 in
theorem wX7_stressed_b84 {p : Program} {l : Launch} {e : Env} {s : State} {m : MethodId} {args : Array Value} {below : List Frame} {meth : Method} {c : Code} {Q : State → Prop} {G : va_G} {K : Nat → ClassId} {A : Nat → Prop} (C0 : CX p s m args c cX7_stressed 16 RX7 G K E0 A) (m_a mA_lane mA_many mA_item mA_poem mA_fresh mA_then mA_was mA_tape mA_strengths mA_sounds mA_stand mA_scheme mA_isKept mA_kept mA_trace : Nat) (m_status : Int32) (m_acts : Int32) (m_taped : Int32) (m_cursor : Int32) (m_start : Int32) (m_token : Int32) (m_value : Int32) (m_fault : Int32) (m_faultAt : Int32) (m_latest : Int32) (m_nearFoot : Int32) (m_nearFeet : Int32) (m_nearCost : Int32) (m_traced : Int32) (m_poem : Nat → Int32) (p1 : Int32) (p2 : Int32) (p3 : Int32) (p4 : Int32) (r : Int64) (o_m_thrown : Int32) (o_m_stands : Int32) (o_m_least : Int32) (o_m_ways : Int32) (o_m_strengths : Nat → Int32) (o_m_sounds : Nat → Int32) (o_m_stand : Nat → Int32) (kr : ∀ (H : Heap) (locs : List Loc) (ls : Array Slot) (pc : Nat), decode cX7_stressed pc = .ok (.lreturn, 1) → va_P G vwCl (WX7_stressed K m_a mA_lane mA_many mA_item mA_poem mA_fresh mA_then mA_was mA_tape mA_strengths mA_sounds mA_stand mA_scheme mA_isKept mA_kept mA_trace o_m_thrown m_status m_acts m_taped m_cursor m_start m_token m_value m_fault m_faultAt m_latest o_m_stands o_m_least o_m_ways m_nearFoot m_nearFeet m_nearCost m_traced m_poem o_m_strengths o_m_sounds o_m_stand) H → va_D A (WX7_stressed K m_a mA_lane mA_many mA_item mA_poem mA_fresh mA_then mA_was mA_tape mA_strengths mA_sounds mA_stand mA_scheme mA_isKept mA_kept mA_trace o_m_thrown m_status m_acts m_taped m_cursor m_start m_token m_value m_fault m_faultAt m_latest o_m_stands o_m_least o_m_ways m_nearFoot m_nearFeet m_nearCost m_traced m_poem o_m_strengths o_m_sounds o_m_stand) → va_S A s.heap H locs → W p l e rmX7_stressed s m args below meth c H locs 0 0 Q (F0 m pc ls [.long r])) (n : Nat) : ∀ (m_thrown : Int32) (m_stands : Int32) (m_least : Int32) (m_ways : Int32) (m_strengths : Nat → Int32) (m_sounds : Nat → Int32) (m_stand : Nat → Int32) (x5 : Int32) (x6 : Int64) (x8 : Int64) (x10 : Int32), mX7_stressed_b84 m_poem p1 p2 p3 p4  n m_thrown m_stands m_least m_ways m_strengths m_sounds m_stand x5 x6 x8 x10 = some (r, o_m_thrown, o_m_stands, o_m_least, o_m_ways, o_m_strengths, o_m_sounds, o_m_stand) → ∀ (H : Heap) (locs : List Loc) (ls : Array Slot), va_P G vwCl (WX7_stressed K m_a mA_lane mA_many mA_item mA_poem mA_fresh mA_then mA_was mA_tape mA_strengths mA_sounds mA_stand mA_scheme mA_isKept mA_kept mA_trace m_thrown m_status m_acts m_taped m_cursor m_start m_token m_value m_fault m_faultAt m_latest m_stands m_least m_ways m_nearFoot m_nearFeet m_nearCost m_traced m_poem m_strengths m_sounds m_stand) H → va_D A (WX7_stressed K m_a mA_lane mA_many mA_item mA_poem mA_fresh mA_then mA_was mA_tape mA_strengths mA_sounds mA_stand mA_scheme mA_isKept mA_kept mA_trace m_thrown m_status m_acts m_taped m_cursor m_start m_token m_value m_fault m_faultAt m_latest m_stands m_least m_ways m_nearFoot m_nearFeet m_nearCost m_traced m_poem m_strengths m_sounds m_stand) → va_S A s.heap H locs → lv_has ls 16 [(0, .ref m_a), (1, .int p1), (2, .int p2), (3, .int p3), (4, .int p4), (5, .int x5), (6, .long x6), (8, .long x8), (10, .int x10)] → W p l e rmX7_stressed s m args below meth c H locs 0 0 Q (F0 m 84 ls []) := by
  obtain ⟨hx, hb, hml, hown, hts, hK, hA, hEo, hE⟩ := id C0
  induction n with
  | zero =>
    intro m_thrown m_stands m_least m_ways m_strengths m_sounds m_stand x5 x6 x8 x10 hM
    cases hM
  | succ n ih =>
    intro m_thrown m_stands m_least m_ways m_strengths m_sounds m_stand x5 x6 x8 x10 hM H locs ls hP hD hS hl
    rw [mX7_stressed_b84] at hM
    refine lv_iload hx hb dX7_stressed_84 (lv_at hl 8 rfl) ?_
    refine lv_iconst (v := 1) hx hb dX7_stressed_86 (by decide) ?_
    refine lv_iload hx hb dX7_stressed_87 (lv_at hl 5 rfl) ?_
    refine lv_ishl hx hb dX7_stressed_89 ?_
    refine lv_icmp_ge (tgt := 200) hx hb dX7_stressed_90 (by decide) (fun c_12 => ?_) (fun c_12 => ?_)
    · rw [if_pos c_12] at hM
      refine lv_lload hx hb dX7_stressed_200 (lv_at hl 6 rfl) ?_
      refine lv_lstore (lv' := [(10, .long x6), (0, .ref m_a), (1, .int p1), (2, .int p2), (3, .int p3), (4, .int p4), (5, .int x5), (6, .long x6), (8, .long x8)]) hx hb dX7_stressed_202 hl (by decide) rfl (fun ls hl => ?_)
      refine lv_lload hx hb dX7_stressed_204 (lv_at hl 8 rfl) ?_
      refine lv_lstore (lv' := [(12, .long x8), (10, .long x6), (0, .ref m_a), (1, .int p1), (2, .int p2), (3, .int p3), (4, .int p4), (5, .int x5), (6, .long x6), (8, .long x8)]) hx hb dX7_stressed_206 hl (by decide) rfl (fun ls hl => ?_)
      exact wX7_stressed_b208 C0 m_a mA_lane mA_many mA_item mA_poem mA_fresh mA_then mA_was mA_tape mA_strengths mA_sounds mA_stand mA_scheme mA_isKept mA_kept mA_trace m_status m_acts m_taped m_cursor m_start m_token m_value m_fault m_faultAt m_latest m_nearFoot m_nearFeet m_nearCost m_traced m_poem p1 p2 p3 p4 r o_m_thrown o_m_stands o_m_least o_m_ways o_m_strengths o_m_sounds o_m_stand kr  FU m_thrown m_stands m_least m_ways m_strengths m_sounds m_stand x6 x8 x6 x8 hM _ _ _ hP hD hS (lv_sub hl [6, 8, 9, 1, 0] rfl)
    · rw [if_neg c_12] at hM
      refine lv_lconst (v := 1) hx hb dX7_stressed_93 (by decide) ?_
      refine lv_lstore (lv' := [(11, .long (1 : Int64)), (0, .ref m_a), (1, .int p1), (2, .int p2), (3, .int p3), (4, .int p4), (5, .int x5), (6, .long x6), (8, .long x8), (10, .int x10)]) hx hb dX7_stressed_94 hl (by decide) rfl (fun ls hl => ?_)
      refine lv_iconst (v := 0) hx hb dX7_stressed_96 (by decide) ?_
      refine lv_istore (lv' := [(13, .int (0 : Int32)), (11, .long (1 : Int64)), (0, .ref m_a), (1, .int p1), (2, .int p2), (3, .int p3), (4, .int p4), (5, .int x5), (6, .long x6), (8, .long x8), (10, .int x10)]) hx hb dX7_stressed_97 hl (by decide) rfl (fun ls hl => ?_)
      exact wX7_stressed_b99 C0 m_a mA_lane mA_many mA_item mA_poem mA_fresh mA_then mA_was mA_tape mA_strengths mA_sounds mA_stand mA_scheme mA_isKept mA_kept mA_trace m_status m_acts m_taped m_cursor m_start m_token m_value m_fault m_faultAt m_latest m_nearFoot m_nearFeet m_nearCost m_traced m_poem p1 p2 p3 p4 r o_m_thrown o_m_stands o_m_least o_m_ways o_m_strengths o_m_sounds o_m_stand kr (mX7_stressed_b84 m_poem p1 p2 p3 p4  n) ih FU m_thrown m_stands m_least m_ways m_strengths m_sounds m_stand x5 x6 x8 x10 (1 : Int64) (0 : Int32) hM _ _ _ hP hD hS (lv_sub hl [2, 3, 4, 5, 6, 7, 8, 9, 10, 1, 0] rfl)
set_option maxHeartbeats 4000000 in
set_option maxRecDepth 100000 in
theorem wX7_stressed_b0 {p : Program} {l : Launch} {e : Env} {s : State} {m : MethodId} {args : Array Value} {below : List Frame} {meth : Method} {c : Code} {Q : State → Prop} {G : va_G} {K : Nat → ClassId} {A : Nat → Prop} (C0 : CX p s m args c cX7_stressed 16 RX7 G K E0 A) (m_a mA_lane mA_many mA_item mA_poem mA_fresh mA_then mA_was mA_tape mA_strengths mA_sounds mA_stand mA_scheme mA_isKept mA_kept mA_trace : Nat) (m_status : Int32) (m_acts : Int32) (m_taped : Int32) (m_cursor : Int32) (m_start : Int32) (m_token : Int32) (m_value : Int32) (m_fault : Int32) (m_faultAt : Int32) (m_latest : Int32) (m_nearFoot : Int32) (m_nearFeet : Int32) (m_nearCost : Int32) (m_traced : Int32) (m_poem : Nat → Int32) (p1 : Int32) (p2 : Int32) (p3 : Int32) (p4 : Int32) (r : Int64) (o_m_thrown : Int32) (o_m_stands : Int32) (o_m_least : Int32) (o_m_ways : Int32) (o_m_strengths : Nat → Int32) (o_m_sounds : Nat → Int32) (o_m_stand : Nat → Int32) (kr : ∀ (H : Heap) (locs : List Loc) (ls : Array Slot) (pc : Nat), decode cX7_stressed pc = .ok (.lreturn, 1) → va_P G vwCl (WX7_stressed K m_a mA_lane mA_many mA_item mA_poem mA_fresh mA_then mA_was mA_tape mA_strengths mA_sounds mA_stand mA_scheme mA_isKept mA_kept mA_trace o_m_thrown m_status m_acts m_taped m_cursor m_start m_token m_value m_fault m_faultAt m_latest o_m_stands o_m_least o_m_ways m_nearFoot m_nearFeet m_nearCost m_traced m_poem o_m_strengths o_m_sounds o_m_stand) H → va_D A (WX7_stressed K m_a mA_lane mA_many mA_item mA_poem mA_fresh mA_then mA_was mA_tape mA_strengths mA_sounds mA_stand mA_scheme mA_isKept mA_kept mA_trace o_m_thrown m_status m_acts m_taped m_cursor m_start m_token m_value m_fault m_faultAt m_latest o_m_stands o_m_least o_m_ways m_nearFoot m_nearFeet m_nearCost m_traced m_poem o_m_strengths o_m_sounds o_m_stand) → va_S A s.heap H locs → W p l e rmX7_stressed s m args below meth c H locs 0 0 Q (F0 m pc ls [.long r])) (m_thrown : Int32) (m_stands : Int32) (m_least : Int32) (m_ways : Int32) (m_strengths : Nat → Int32) (m_sounds : Nat → Int32) (m_stand : Nat → Int32) (hM : mX7_stressed_b0 m_poem p1 p2 p3 p4  m_thrown m_stands m_least m_ways m_strengths m_sounds m_stand = some (r, o_m_thrown, o_m_stands, o_m_least, o_m_ways, o_m_strengths, o_m_sounds, o_m_stand)) : ∀ (H : Heap) (locs : List Loc) (ls : Array Slot), va_P G vwCl (WX7_stressed K m_a mA_lane mA_many mA_item mA_poem mA_fresh mA_then mA_was mA_tape mA_strengths mA_sounds mA_stand mA_scheme mA_isKept mA_kept mA_trace m_thrown m_status m_acts m_taped m_cursor m_start m_token m_value m_fault m_faultAt m_latest m_stands m_least m_ways m_nearFoot m_nearFeet m_nearCost m_traced m_poem m_strengths m_sounds m_stand) H → va_D A (WX7_stressed K m_a mA_lane mA_many mA_item mA_poem mA_fresh mA_then mA_was mA_tape mA_strengths mA_sounds mA_stand mA_scheme mA_isKept mA_kept mA_trace m_thrown m_status m_acts m_taped m_cursor m_start m_token m_value m_fault m_faultAt m_latest m_stands m_least m_ways m_nearFoot m_nearFeet m_nearCost m_traced m_poem m_strengths m_sounds m_stand) → va_S A s.heap H locs → lv_has ls 16 [(0, .ref m_a), (1, .int p1), (2, .int p2), (3, .int p3), (4, .int p4)] → W p l e rmX7_stressed s m args below meth c H locs 0 0 Q (F0 m 0 ls []) := by
  obtain ⟨hx, hb, hml, hown, hts, hK, hA, hEo, hE⟩ := id C0
  intro H locs ls hP hD hS hl
  unfold mX7_stressed_b0 at hM
  refine lv_aload_n hx hb dX7_stressed_0 rfl (lv_at hl 0 rfl) ?_
  refine lv_iconst (v := 0) hx hb dX7_stressed_1 (by decide) ?_
  refine va_put (D := G) (ci := 7) (v := .int (0 : Int32)) (ty := .int) (C := RX7) (T := TX7) (N := 33) hx hb hts inX7 tyX7 tyX7_ok nmX7 hown hK hP hD hS 0 rfl rfl 0 (by decide) (hts _ tb764) (fun _ h9 => h9) rfl (tyX7_ok 0 (by decide)) rfl rfl (Nat.le_of_ble_eq_true rfl) dX7_stressed_2 (fun H locs hP hD hS => ?_)
  have hP : va_P G vwCl (WX7_stressed K m_a mA_lane mA_many mA_item mA_poem mA_fresh mA_then mA_was mA_tape mA_strengths mA_sounds mA_stand mA_scheme mA_isKept mA_kept mA_trace (0 : Int32) m_status m_acts m_taped m_cursor m_start m_token m_value m_fault m_faultAt m_latest m_stands m_least m_ways m_nearFoot m_nearFeet m_nearCost m_traced m_poem m_strengths m_sounds m_stand) H := hP
  have hD : va_D A (WX7_stressed K m_a mA_lane mA_many mA_item mA_poem mA_fresh mA_then mA_was mA_tape mA_strengths mA_sounds mA_stand mA_scheme mA_isKept mA_kept mA_trace (0 : Int32) m_status m_acts m_taped m_cursor m_start m_token m_value m_fault m_faultAt m_latest m_stands m_least m_ways m_nearFoot m_nearFeet m_nearCost m_traced m_poem m_strengths m_sounds m_stand) := hD
  refine lv_aload_n hx hb dX7_stressed_5 rfl (lv_at hl 0 rfl) ?_
  refine lv_iload_n hx hb dX7_stressed_6 rfl (lv_at hl 1 rfl) ?_
  obtain ⟨r_13, hC, hM⟩ := oe1 hM
  refine cV_i (As := [.int p1]) (rest := []) C0 hP hD hS [0, 1] (kX7_isLine l G K m_a mA_lane mA_many mA_item mA_poem mA_fresh mA_then mA_was mA_tape mA_strengths mA_sounds mA_stand mA_scheme mA_isKept mA_kept mA_trace (0 : Int32) m_status m_acts m_taped m_cursor m_start m_token m_value m_fault m_faultAt m_latest m_stands m_least m_ways m_nearFoot m_nearFeet m_nearCost m_traced m_poem p1 H.size r_13 hC) rfl rfl rfl tb986 tb988 tp27 tb9 tb989 hdX7_isLine (va_recv hK hP (ci := 7) (q0 := 0) rfl rfl) ⟨Nat.le_of_ble_eq_true rfl, Nat.le_of_ble_eq_true rfl⟩ rfl hl.1 (Nat.le_of_ble_eq_true rfl) rfl ⟨Nat.le_refl _, Nat.le_refl _⟩ dX7_stressed_7 (fun H locs hP hD hS => ?_)
  have hP : va_P G vwCl (WX7_stressed K m_a mA_lane mA_many mA_item mA_poem mA_fresh mA_then mA_was mA_tape mA_strengths mA_sounds mA_stand mA_scheme mA_isKept mA_kept mA_trace (0 : Int32) m_status m_acts m_taped m_cursor m_start m_token m_value m_fault m_faultAt m_latest m_stands m_least m_ways m_nearFoot m_nearFeet m_nearCost m_traced m_poem m_strengths m_sounds m_stand) H := hP
  have hD : va_D A (WX7_stressed K m_a mA_lane mA_many mA_item mA_poem mA_fresh mA_then mA_was mA_tape mA_strengths mA_sounds mA_stand mA_scheme mA_isKept mA_kept mA_trace (0 : Int32) m_status m_acts m_taped m_cursor m_start m_token m_value m_fault m_faultAt m_latest m_stands m_least m_ways m_nearFoot m_nearFeet m_nearCost m_traced m_poem m_strengths m_sounds m_stand) := hD
  refine lv_if_eq (tgt := 48) hx hb dX7_stressed_10 (by decide) (fun c_14 => ?_) (fun c_14 => ?_)
  · rw [if_pos c_14] at hM
    refine lv_ldc2 (v := -1000001) hx hb hown (hts _ tb1185) dX7_stressed_48 ?_
    have t0 := Option.some.inj hM
    obtain ⟨q1, t1⟩ := Prod.mk.inj t0
    obtain ⟨q2, t2⟩ := Prod.mk.inj t1
    obtain ⟨q3, t3⟩ := Prod.mk.inj t2
    obtain ⟨q4, t4⟩ := Prod.mk.inj t3
    obtain ⟨q5, t5⟩ := Prod.mk.inj t4
    obtain ⟨q6, t6⟩ := Prod.mk.inj t5
    obtain ⟨q7, t7⟩ := Prod.mk.inj t6
    subst q1
    subst q2
    subst q3
    subst q4
    subst q5
    subst q6
    subst q7
    subst t7
    exact kr _ _ _ _ dX7_stressed_51 hP hD hS
  · rw [if_neg c_14] at hM
    refine lv_iload_n hx hb dX7_stressed_13 rfl (lv_at hl 2 rfl) ?_
    refine lv_i2l hx hb dX7_stressed_14 rfl ?_
    refine lv_lconst (v := 0) hx hb dX7_stressed_15 (by decide) ?_
    refine lv_ldc2 (v := 99) hx hb hown (hts _ tb1163) dX7_stressed_16 ?_
    obtain ⟨r_15, hC, hM⟩ := oe1 hM
    refine cS_i (As := [.long p2.toInt64, .long (0 : Int64), .long (99 : Int64)]) (rest := []) C0 hP hD hS [] (kX7_in l G K p2.toInt64 (0 : Int64) (99 : Int64) H.size r_15 hC) rfl rfl rfl tb873 tb874 tb9 tb875 hdX7_in ⟨Nat.le_of_ble_eq_true rfl, Nat.le_of_ble_eq_true rfl⟩ rfl hl.1 (Nat.le_of_ble_eq_true rfl) rfl ⟨Nat.le_refl _, Nat.le_refl _⟩ dX7_stressed_19 (fun H locs hP hD hS => ?_)
    have hP : va_P G vwCl (WX7_stressed K m_a mA_lane mA_many mA_item mA_poem mA_fresh mA_then mA_was mA_tape mA_strengths mA_sounds mA_stand mA_scheme mA_isKept mA_kept mA_trace (0 : Int32) m_status m_acts m_taped m_cursor m_start m_token m_value m_fault m_faultAt m_latest m_stands m_least m_ways m_nearFoot m_nearFeet m_nearCost m_traced m_poem m_strengths m_sounds m_stand) H := hP
    have hD : va_D A (WX7_stressed K m_a mA_lane mA_many mA_item mA_poem mA_fresh mA_then mA_was mA_tape mA_strengths mA_sounds mA_stand mA_scheme mA_isKept mA_kept mA_trace (0 : Int32) m_status m_acts m_taped m_cursor m_start m_token m_value m_fault m_faultAt m_latest m_stands m_least m_ways m_nearFoot m_nearFeet m_nearCost m_traced m_poem m_strengths m_sounds m_stand) := hD
    refine lv_if_eq (tgt := 48) hx hb dX7_stressed_22 (by decide) (fun c_16 => ?_) (fun c_16 => ?_)
    · rw [if_pos c_16] at hM
      refine lv_ldc2 (v := -1000001) hx hb hown (hts _ tb1185) dX7_stressed_48 ?_
      have t0 := Option.some.inj hM
      obtain ⟨q1, t1⟩ := Prod.mk.inj t0
      obtain ⟨q2, t2⟩ := Prod.mk.inj t1
      obtain ⟨q3, t3⟩ := Prod.mk.inj t2
      obtain ⟨q4, t4⟩ := Prod.mk.inj t3
      obtain ⟨q5, t5⟩ := Prod.mk.inj t4
      obtain ⟨q6, t6⟩ := Prod.mk.inj t5
      obtain ⟨q7, t7⟩ := Prod.mk.inj t6
      subst q1
      subst q2
      subst q3
      subst q4
      subst q5
      subst q6
      subst q7
      subst t7
      exact kr _ _ _ _ dX7_stressed_51 hP hD hS
    · rw [if_neg c_16] at hM
      refine lv_iload_n hx hb dX7_stressed_25 rfl (lv_at hl 3 rfl) ?_
      refine lv_i2l hx hb dX7_stressed_26 rfl ?_
      refine lv_lconst (v := 0) hx hb dX7_stressed_27 (by decide) ?_
      refine lv_ldc2 (v := 10) hx hb hown (hts _ tb1184) dX7_stressed_28 ?_
      obtain ⟨r_17, hC, hM⟩ := oe1 hM
      refine cS_i (As := [.long p3.toInt64, .long (0 : Int64), .long (10 : Int64)]) (rest := []) C0 hP hD hS [] (kX7_in l G K p3.toInt64 (0 : Int64) (10 : Int64) H.size r_17 hC) rfl rfl rfl tb873 tb874 tb9 tb875 hdX7_in ⟨Nat.le_of_ble_eq_true rfl, Nat.le_of_ble_eq_true rfl⟩ rfl hl.1 (Nat.le_of_ble_eq_true rfl) rfl ⟨Nat.le_refl _, Nat.le_refl _⟩ dX7_stressed_31 (fun H locs hP hD hS => ?_)
      have hP : va_P G vwCl (WX7_stressed K m_a mA_lane mA_many mA_item mA_poem mA_fresh mA_then mA_was mA_tape mA_strengths mA_sounds mA_stand mA_scheme mA_isKept mA_kept mA_trace (0 : Int32) m_status m_acts m_taped m_cursor m_start m_token m_value m_fault m_faultAt m_latest m_stands m_least m_ways m_nearFoot m_nearFeet m_nearCost m_traced m_poem m_strengths m_sounds m_stand) H := hP
      have hD : va_D A (WX7_stressed K m_a mA_lane mA_many mA_item mA_poem mA_fresh mA_then mA_was mA_tape mA_strengths mA_sounds mA_stand mA_scheme mA_isKept mA_kept mA_trace (0 : Int32) m_status m_acts m_taped m_cursor m_start m_token m_value m_fault m_faultAt m_latest m_stands m_least m_ways m_nearFoot m_nearFeet m_nearCost m_traced m_poem m_strengths m_sounds m_stand) := hD
      refine lv_if_eq (tgt := 48) hx hb dX7_stressed_34 (by decide) (fun c_18 => ?_) (fun c_18 => ?_)
      · rw [if_pos c_18] at hM
        refine lv_ldc2 (v := -1000001) hx hb hown (hts _ tb1185) dX7_stressed_48 ?_
        have t0 := Option.some.inj hM
        obtain ⟨q1, t1⟩ := Prod.mk.inj t0
        obtain ⟨q2, t2⟩ := Prod.mk.inj t1
        obtain ⟨q3, t3⟩ := Prod.mk.inj t2
        obtain ⟨q4, t4⟩ := Prod.mk.inj t3
        obtain ⟨q5, t5⟩ := Prod.mk.inj t4
        obtain ⟨q6, t6⟩ := Prod.mk.inj t5
        obtain ⟨q7, t7⟩ := Prod.mk.inj t6
        subst q1
        subst q2
        subst q3
        subst q4
        subst q5
        subst q6
        subst q7
        subst t7
        exact kr _ _ _ _ dX7_stressed_51 hP hD hS
      · rw [if_neg c_18] at hM
        refine lv_iload hx hb dX7_stressed_37 (lv_at hl 4 rfl) ?_
        refine lv_i2l hx hb dX7_stressed_39 rfl ?_
        refine lv_lconst (v := 0) hx hb dX7_stressed_40 (by decide) ?_
        refine lv_lconst (v := 1) hx hb dX7_stressed_41 (by decide) ?_
        obtain ⟨r_19, hC, hM⟩ := oe1 hM
        refine cS_i (As := [.long p4.toInt64, .long (0 : Int64), .long (1 : Int64)]) (rest := []) C0 hP hD hS [] (kX7_in l G K p4.toInt64 (0 : Int64) (1 : Int64) H.size r_19 hC) rfl rfl rfl tb873 tb874 tb9 tb875 hdX7_in ⟨Nat.le_of_ble_eq_true rfl, Nat.le_of_ble_eq_true rfl⟩ rfl hl.1 (Nat.le_of_ble_eq_true rfl) rfl ⟨Nat.le_refl _, Nat.le_refl _⟩ dX7_stressed_42 (fun H locs hP hD hS => ?_)
        have hP : va_P G vwCl (WX7_stressed K m_a mA_lane mA_many mA_item mA_poem mA_fresh mA_then mA_was mA_tape mA_strengths mA_sounds mA_stand mA_scheme mA_isKept mA_kept mA_trace (0 : Int32) m_status m_acts m_taped m_cursor m_start m_token m_value m_fault m_faultAt m_latest m_stands m_least m_ways m_nearFoot m_nearFeet m_nearCost m_traced m_poem m_strengths m_sounds m_stand) H := hP
        have hD : va_D A (WX7_stressed K m_a mA_lane mA_many mA_item mA_poem mA_fresh mA_then mA_was mA_tape mA_strengths mA_sounds mA_stand mA_scheme mA_isKept mA_kept mA_trace (0 : Int32) m_status m_acts m_taped m_cursor m_start m_token m_value m_fault m_faultAt m_latest m_stands m_least m_ways m_nearFoot m_nearFeet m_nearCost m_traced m_poem m_strengths m_sounds m_stand) := hD
        refine lv_if_ne (tgt := 52) hx hb dX7_stressed_45 (by decide) (fun c_20 => ?_) (fun c_20 => ?_)
        · rw [if_neg c_20] at hM
          refine lv_aload_n hx hb dX7_stressed_52 rfl (lv_at hl 0 rfl) ?_
          refine lv_aload_n hx hb dX7_stressed_53 rfl (lv_at hl 0 rfl) ?_
          refine va_get (D := G) (ci := 7) (v := .ref mA_poem) (C := RX7) (T := TX7) (N := 33) hx hb hts inX7 hown hK hP 0 rfl rfl 5 (by decide) (hts _ tb769) (fun _ h9 => h9) rfl dX7_stressed_54 ?_
          refine lv_iload_n hx hb dX7_stressed_57 rfl (lv_at hl 1 rfl) ?_
          refine lv_iconst (v := (-1)) hx hb dX7_stressed_58 (by decide) ?_
          obtain ⟨r_21, u0_21, u1_21, hC, hM⟩ := oe3 hM
          refine cV_i (As := [.ref mA_poem, .int p1, .int ((-1) : Int32)]) (rest := []) C0 hP hD hS [0, 2, 3, 1] (kX7_layLine l G K m_a mA_lane mA_many mA_item mA_poem mA_fresh mA_then mA_was mA_tape mA_strengths mA_sounds mA_stand mA_scheme mA_isKept mA_kept mA_trace mA_poem (0 : Int32) m_status m_acts m_taped m_cursor m_start m_token m_value m_fault m_faultAt m_latest m_stands m_least m_ways m_nearFoot m_nearFeet m_nearCost m_traced m_strengths m_sounds m_poem p1 ((-1) : Int32) H.size r_21 u0_21 u1_21 hC) rfl rfl rfl tb1094 tb1096 tp35 tb9 tb1097 hdX7_layLine (va_recv hK hP (ci := 7) (q0 := 0) rfl rfl) ⟨Nat.le_of_ble_eq_true rfl, Nat.le_of_ble_eq_true rfl⟩ rfl hl.1 (Nat.le_of_ble_eq_true rfl) rfl ⟨Nat.le_refl _, Nat.le_refl _⟩ dX7_stressed_59 (fun H locs hP hD hS => ?_)
          have hP : va_P G vwCl (WX7_stressed K m_a mA_lane mA_many mA_item mA_poem mA_fresh mA_then mA_was mA_tape mA_strengths mA_sounds mA_stand mA_scheme mA_isKept mA_kept mA_trace (0 : Int32) m_status m_acts m_taped m_cursor m_start m_token m_value m_fault m_faultAt m_latest m_stands m_least m_ways m_nearFoot m_nearFeet m_nearCost m_traced m_poem u0_21 u1_21 m_stand) H := hP
          have hD : va_D A (WX7_stressed K m_a mA_lane mA_many mA_item mA_poem mA_fresh mA_then mA_was mA_tape mA_strengths mA_sounds mA_stand mA_scheme mA_isKept mA_kept mA_trace (0 : Int32) m_status m_acts m_taped m_cursor m_start m_token m_value m_fault m_faultAt m_latest m_stands m_least m_ways m_nearFoot m_nearFeet m_nearCost m_traced m_poem u0_21 u1_21 m_stand) := hD
          refine lv_istore (lv' := [(5, .int r_21), (0, .ref m_a), (1, .int p1), (2, .int p2), (3, .int p3), (4, .int p4)]) hx hb dX7_stressed_62 hl (by decide) rfl (fun ls hl => ?_)
          refine lv_iload hx hb dX7_stressed_64 (lv_at hl 0 rfl) ?_
          refine lv_bipush (v := 8) hx hb dX7_stressed_66 (by decide) ?_
          refine lv_icmp_le (tgt := 75) hx hb dX7_stressed_68 (by decide) (fun c_22 => ?_) (fun c_22 => ?_)
          · rw [if_pos c_22] at hM
            refine lv_lconst (v := 0) hx hb dX7_stressed_75 (by decide) ?_
            refine lv_lstore (lv' := [(6, .long (0 : Int64)), (5, .int r_21), (0, .ref m_a), (1, .int p1), (2, .int p2), (3, .int p3), (4, .int p4)]) hx hb dX7_stressed_76 hl (by decide) rfl (fun ls hl => ?_)
            refine lv_lconst (v := 0) hx hb dX7_stressed_78 (by decide) ?_
            refine lv_lstore (lv' := [(8, .long (0 : Int64)), (6, .long (0 : Int64)), (5, .int r_21), (0, .ref m_a), (1, .int p1), (2, .int p2), (3, .int p3), (4, .int p4)]) hx hb dX7_stressed_79 hl (by decide) rfl (fun ls hl => ?_)
            refine lv_iconst (v := 0) hx hb dX7_stressed_81 (by decide) ?_
            refine lv_istore (lv' := [(10, .int (0 : Int32)), (8, .long (0 : Int64)), (6, .long (0 : Int64)), (5, .int r_21), (0, .ref m_a), (1, .int p1), (2, .int p2), (3, .int p3), (4, .int p4)]) hx hb dX7_stressed_82 hl (by decide) rfl (fun ls hl => ?_)
            exact wX7_stressed_b84 C0 m_a mA_lane mA_many mA_item mA_poem mA_fresh mA_then mA_was mA_tape mA_strengths mA_sounds mA_stand mA_scheme mA_isKept mA_kept mA_trace m_status m_acts m_taped m_cursor m_start m_token m_value m_fault m_faultAt m_latest m_nearFoot m_nearFeet m_nearCost m_traced m_poem p1 p2 p3 p4 r o_m_thrown o_m_stands o_m_least o_m_ways o_m_strengths o_m_sounds o_m_stand kr  FU (0 : Int32) m_stands m_least m_ways u0_21 u1_21 m_stand r_21 (0 : Int64) (0 : Int64) (0 : Int32) hM _ _ _ hP hD hS (lv_sub hl [4, 5, 6, 7, 8, 3, 2, 1, 0] rfl)
          · rw [if_neg c_22] at hM
            refine lv_ldc2 (v := -1000003) hx hb hown (hts _ tb1186) dX7_stressed_71 ?_
            have t0 := Option.some.inj hM
            obtain ⟨q1, t1⟩ := Prod.mk.inj t0
            obtain ⟨q2, t2⟩ := Prod.mk.inj t1
            obtain ⟨q3, t3⟩ := Prod.mk.inj t2
            obtain ⟨q4, t4⟩ := Prod.mk.inj t3
            obtain ⟨q5, t5⟩ := Prod.mk.inj t4
            obtain ⟨q6, t6⟩ := Prod.mk.inj t5
            obtain ⟨q7, t7⟩ := Prod.mk.inj t6
            subst q1
            subst q2
            subst q3
            subst q4
            subst q5
            subst q6
            subst q7
            subst t7
            exact kr _ _ _ _ dX7_stressed_74 hP hD hS
        · rw [if_pos c_20] at hM
          refine lv_ldc2 (v := -1000001) hx hb hown (hts _ tb1185) dX7_stressed_48 ?_
          have t0 := Option.some.inj hM
          obtain ⟨q1, t1⟩ := Prod.mk.inj t0
          obtain ⟨q2, t2⟩ := Prod.mk.inj t1
          obtain ⟨q3, t3⟩ := Prod.mk.inj t2
          obtain ⟨q4, t4⟩ := Prod.mk.inj t3
          obtain ⟨q5, t5⟩ := Prod.mk.inj t4
          obtain ⟨q6, t6⟩ := Prod.mk.inj t5
          obtain ⟨q7, t7⟩ := Prod.mk.inj t6
          subst q1
          subst q2
          subst q3
          subst q4
          subst q5
          subst q6
          subst q7
          subst t7
          exact kr _ _ _ _ dX7_stressed_51 hP hD hS
set_option maxHeartbeats 4000000 in
set_option maxRecDepth 100000 in
theorem kX7_stressed (l : Launch) (G : va_G) (K : Nat → ClassId) (m_a mA_lane mA_many mA_item mA_poem mA_fresh mA_then mA_was mA_tape mA_strengths mA_sounds mA_stand mA_scheme mA_isKept mA_kept mA_trace : Nat) (m_thrown : Int32) (m_status : Int32) (m_acts : Int32) (m_taped : Int32) (m_cursor : Int32) (m_start : Int32) (m_token : Int32) (m_value : Int32) (m_fault : Int32) (m_faultAt : Int32) (m_latest : Int32) (m_stands : Int32) (m_least : Int32) (m_ways : Int32) (m_nearFoot : Int32) (m_nearFeet : Int32) (m_nearCost : Int32) (m_traced : Int32) (m_poem : Nat → Int32) (m_strengths : Nat → Int32) (m_sounds : Nat → Int32) (m_stand : Nat → Int32) (p1 : Int32) (p2 : Int32) (p3 : Int32) (p4 : Int32) (sz : Nat) (r : Int64) (o_m_thrown : Int32) (o_m_stands : Int32) (o_m_least : Int32) (o_m_ways : Int32) (o_m_strengths : Nat → Int32) (o_m_sounds : Nat → Int32) (o_m_stand : Nat → Int32) (hM : mX7_stressed m_poem m_thrown m_stands m_least m_ways m_strengths m_sounds m_stand p1 p2 p3 p4 = some (r, o_m_thrown, o_m_stands, o_m_least, o_m_ways, o_m_strengths, o_m_sounds, o_m_stand)) : Met l yX7_stressed (mC yX7_stressed cX7_stressed 16 (some .long)) rmX7_stressed (va_Pc [.ref m_a, .int p1, .int p2, .int p3, .int p4] (PCe G K E0 (WX7_stressed K m_a mA_lane mA_many mA_item mA_poem mA_fresh mA_then mA_was mA_tape mA_strengths mA_sounds mA_stand mA_scheme mA_isKept mA_kept mA_trace m_thrown m_status m_acts m_taped m_cursor m_start m_token m_value m_fault m_faultAt m_latest m_stands m_least m_ways m_nearFoot m_nearFeet m_nearCost m_traced m_poem m_strengths m_sounds m_stand) sz)) (va_Ql (fun (x : Int64) (_ : Unit) => x = r) (fun _ t => va_P G vwCl (WX7_stressed K m_a mA_lane mA_many mA_item mA_poem mA_fresh mA_then mA_was mA_tape mA_strengths mA_sounds mA_stand mA_scheme mA_isKept mA_kept mA_trace o_m_thrown m_status m_acts m_taped m_cursor m_start m_token m_value m_fault m_faultAt m_latest o_m_stands o_m_least o_m_ways m_nearFoot m_nearFeet m_nearCost m_traced m_poem o_m_strengths o_m_sounds o_m_stand) t.heap) (va_A (WX7_stressed K m_a mA_lane mA_many mA_item mA_poem mA_fresh mA_then mA_was mA_tape mA_strengths mA_sounds mA_stand mA_scheme mA_isKept mA_kept mA_trace m_thrown m_status m_acts m_taped m_cursor m_start m_token m_value m_fault m_faultAt m_latest m_stands m_least m_ways m_nearFoot m_nearFeet m_nearCost m_traced m_poem m_strengths m_sounds m_stand) sz)) rmX7_stressed.cells rmX7_stressed.slots (va_A (WX7_stressed K m_a mA_lane mA_many mA_item mA_poem mA_fresh mA_then mA_was mA_tape mA_strengths mA_sounds mA_stand mA_scheme mA_isKept mA_kept mA_trace m_thrown m_status m_acts m_taped m_cursor m_start m_token m_value m_fault m_faultAt m_latest m_stands m_least m_ways m_nearFoot m_nearFeet m_nearCost m_traced m_poem m_strengths m_sounds m_stand) sz) := by
  refine Met.ofW (cc := cX7_stressed) (maxL := 16) (ret := (some .long)) (by decide) rfl ?_
  intro p e s m args below meth c s₁ B hml hv
  obtain ⟨rfl, hsz, hP, hK, hD0, hE⟩ := hv
  have hx := B.exec
  have hb := B.bytes
  have hr := B.returns
  have hts0 := atoms_spec (ws := mC yX7_stressed cX7_stressed 16 (some .long)) B.pre
  have hts : ∀ w ∈ tbG, w.before _ s = true := fun w h => hts0 w (List.mem_cons_of_mem _ h)
  have hown : s.vm.findClass RX7 = some m.cls := findClass_of_methodNamed B.named
  subst hsz
  have hD := hD0.self (sz := s.heap.size)
  generalize hAe : va_A (WX7_stressed K m_a mA_lane mA_many mA_item mA_poem mA_fresh mA_then mA_was mA_tape mA_strengths mA_sounds mA_stand mA_scheme mA_isKept mA_kept mA_trace m_thrown m_status m_acts m_taped m_cursor m_start m_token m_value m_fault m_faultAt m_latest m_stands m_least m_ways m_nearFoot m_nearFeet m_nearCost m_traced m_poem m_strengths m_sounds m_stand) s.heap.size = A at hD hE ⊢
  have hA : ∀ q : Nat, s.heap.size ≤ q → A q := fun q h => by rw [← hAe]; exact Or.inr h
  have hS : va_S A s.heap s.heap [] := va_S.rf
  have hl := lv_entry ([.ref m_a, .int p1, .int p2, .int p3, .int p4]) (n := 16) (Nat.le_of_ble_eq_true rfl)
  rw [lg_entry_eq]
  generalize (lg_sl ([.ref m_a, .int p1, .int p2, .int p3, .int p4]) ++ List.replicate (16 - (lg_sl ([.ref m_a, .int p1, .int p2, .int p3, .int p4])).length) Slot.unset).toArray = ls at hl ⊢
  have hl : lv_has ls 16 [(0, .ref m_a), (1, .int p1), (2, .int p2), (3, .int p3), (4, .int p4)] := hl
  exact wX7_stressed_b0 ⟨hx, hb, hml, hown, hts, hK, hA, E0_ok, hE⟩ m_a mA_lane mA_many mA_item mA_poem mA_fresh mA_then mA_was mA_tape mA_strengths mA_sounds mA_stand mA_scheme mA_isKept mA_kept mA_trace m_status m_acts m_taped m_cursor m_start m_token m_value m_fault m_faultAt m_latest m_nearFoot m_nearFeet m_nearCost m_traced m_poem p1 p2 p3 p4 r o_m_thrown o_m_stands o_m_least o_m_ways o_m_strengths o_m_sounds o_m_stand (fun H locs ls pc hdg hP hD hS => W.lret (v := r) hx hb hr (fun t ht hW => ⟨⟨r, (), rfl, rfl, (show va_P G vwCl _ t.heap by rw [ht]; exact hP)⟩, hS.F ht⟩) hS.2.2 hdg) m_thrown m_stands m_least m_ways m_strengths m_sounds m_stand  hM _ _ _ hP hD hS hl
