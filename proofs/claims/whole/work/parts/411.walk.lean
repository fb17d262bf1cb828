def mX6_answerOf_b0 (krec : Int32 → (Nat → Int32) → Int32 → Int32 → Int32 → Option (Int32 × (Int32) × (Nat → Int32))) (L : List Nat) (ln : Nat → Int32) (sy : Nat → Int32) (v_words : Int32) (v_kinds : Nat → Int32) (v_spelled : Nat → Nat) (p1 : Int32) (p2 : Int32) (p3 : Int32)  (x_begun : Int32) (x_bodies : Nat → Int32) : Option (Int32 × (Int32) × (Nat → Int32)) := (if (10 : Int32) < p3 then some ((0 : Int32), x_begun, x_bodies) else ob1 (mX2_hasWord v_words p2) (fun r_2 => (if r_2 = 0 then some ((0 : Int32), x_begun, x_bodies) else ob2 (mX6_leave x_begun x_bodies p1) (fun u0_4 u1_4 => if (p2 < 0 ∨ 20 ≤ p2.toNatClampNeg) then none else (if p1 = 10 then if (p2 < 0 ∨ 20 ≤ p2.toNatClampNeg) then none else if ¬ ((v_spelled p2.toNatClampNeg) ∈ L) then none else some ((ln (v_spelled p2.toNatClampNeg)), u0_4, u1_4) else (if p1 = 11 then ob3 (krec u0_4 u1_4 (10 : Int32) p2 (p3 + (1 : Int32))) (fun r_10 u0_10 u1_10 => ob1 (mX6_bodyOf (v_kinds p2.toNatClampNeg) (1 : Int32)) (fun r_11 => ob3 (krec u0_10 u1_10 r_11 p2 (p3 + (1 : Int32))) (fun r_12 u0_12 u1_12 => some ((r_10 + r_12), u0_12, u1_12)))) else (if p1 = 12 then ob3 (krec u0_4 u1_4 (11 : Int32) p2 (p3 + (1 : Int32))) (fun r_14 u0_14 u1_14 => some (((0 : Int32) - r_14), u0_14, u1_14)) else (if p1 = 13 then ob3 (krec u0_4 u1_4 (10 : Int32) p2 (p3 + (1 : Int32))) (fun r_16 u0_16 u1_16 => some ((r_16 - (100 : Int32)), u0_16, u1_16)) else (if p1 = 14 then ob3 (krec u0_4 u1_4 (13 : Int32) p2 (p3 + (1 : Int32))) (fun r_18 u0_18 u1_18 => some (((2 : Int32) * r_18), u0_18, u1_18)) else (if p1 = 15 then some (p2, u0_4, u1_4) else (if p1 = 16 then some (p2, u0_4, u1_4) else (if p1 = 17 then some (p2, u0_4, u1_4) else (if p1 = 18 then some (p2, u0_4, u1_4) else (if p1 = 19 then some (p2, u0_4, u1_4) else (if p1 = 20 then some (p2, u0_4, u1_4) else (if p1 = 21 then ob3 (krec u0_4 u1_4 (20 : Int32) p2 (p3 + (1 : Int32))) (fun r_26 u0_26 u1_26 => if (p2 < 0 ∨ 20 ≤ p2.toNatClampNeg) then none else if ¬ ((v_spelled p2.toNatClampNeg) ∈ L) then none else some ((r_26 + (sy (v_spelled p2.toNatClampNeg))), u0_26, u1_26)) else (if p1 = 22 then ob3 (krec u0_4 u1_4 (21 : Int32) p2 (p3 + (1 : Int32))) (fun r_30 u0_30 u1_30 => some ((r_30 - (1000 : Int32)), u0_30, u1_30)) else (if p1 = 23 then ob3 (krec u0_4 u1_4 (20 : Int32) p2 (p3 + (1 : Int32))) (fun r_32 u0_32 u1_32 => ob1 (mX6_bodyOf (v_kinds p2.toNatClampNeg) (0 : Int32)) (fun r_33 => ob3 (krec u0_32 u1_32 r_33 p2 (p3 + (1 : Int32))) (fun r_34 u0_34 u1_34 => some ((r_32 - r_34), u0_34, u1_34)))) else (if p1 = 24 then ob3 (krec u0_4 u1_4 (21 : Int32) p2 (p3 + (1 : Int32))) (fun r_36 u0_36 u1_36 => some (((2 : Int32) * r_36), u0_36, u1_36)) else some (p2, u0_4, u1_4))))))))))))))))))))
def mX6_answerOf (L : List Nat) (ln : Nat → Int32) (sy : Nat → Int32) (v_words : Int32) (v_kinds : Nat → Int32) (v_spelled : Nat → Nat) : Nat → Int32 → (Nat → Int32) → Int32 → Int32 → Int32 → Option (Int32 × (Int32) × (Nat → Int32))
  | 0, _, _, _, _, _ => none
  | nr + 1, x_begun, x_bodies, p1, p2, p3 => mX6_answerOf_b0 (mX6_answerOf L ln sy v_words v_kinds v_spelled nr) L ln sy v_words v_kinds v_spelled p1 p2 p3 x_begun x_bodies 
abbrev WX6_answerOf (K : Nat → ClassId) (x_a xA_rows rd_a v_a d_a xA_images ac_a er_a xA_hits xA_bodies vA_sizes vA_kinds vA_spelled vA_scheme : Nat) (x_begun : Int32) (x_latestFault : Int32) (x_latestFinding : Int32) (v_foot : Int32) (v_feet : Int32) (v_lines : Int32) (v_words : Int32) (v_sizes : Nat → Int32) (v_kinds : Nat → Int32) (v_spelled : Nat → Nat) (v_scheme : Nat → Int32) (x_bodies : Nat → Int32) : va_W := [(x_a, .inr (6, [.ref xA_rows, .ref rd_a, .ref v_a, .ref d_a, .ref xA_images, .ref ac_a, .ref er_a, .ref xA_hits, .ref xA_bodies, .int x_begun, .int x_latestFault, .int x_latestFinding])), (v_a, .inr (2, [.int v_foot, .int v_feet, .int v_lines, .int v_words, .ref vA_sizes, .ref vA_kinds, .ref vA_spelled, .ref vA_scheme])), aI K vA_sizes 4 v_sizes, aI K vA_kinds 20 v_kinds, aS K vA_spelled 20 v_spelled, aI K vA_scheme 4 v_scheme, aI K xA_bodies 16 x_bodies]
def rmX6_answerOf (n : Nat) : Room := { frames := 2 + n, cells := 0, slots := 0, locals := 61 + 40 * n }
theorem hdX6_answerOf : yX6_answerOf.cls = RX6 ∧ yX6_answerOf.cls ≠ "java/lang/invoke/MethodHandle" ∧ yX6_answerOf.cls ≠ "java/lang/invoke/VarHandle" ∧ (parseMethodDescriptor yX6_answerOf.desc).map (fun d => d.parameters.length) = some 3 := by decide +kernel
set_option maxHeartbeats 4000000 in
set_option maxRecDepth 100000 in
theorem wX6_answerOf_b0 {p : Program} {l : Launch} {e : Env} {s : State} {m : MethodId} {args : Array Value} {below : List Frame} {meth : Method} {c : Code} {Q : State → Prop} {G : va_G} {K : Nat → ClassId} {A : Nat → Prop} {tt : Nat → Nat} {L : List Nat} {la : Nat → Nat} {sa : Nat → Nat} {ln : Nat → Int32} {sy : Nat → Int32} {sn : Nat → Int32} {lt : Nat → Nat → Int32} {st : Nat → Nat → Int32} (C0 : CX p s m args c cX6_answerOf 6 RX6 G K (EC G K tt L la sa ln sy sn lt st) A) (x_a xA_rows rd_a v_a d_a xA_images ac_a er_a xA_hits xA_bodies vA_sizes vA_kinds vA_spelled vA_scheme : Nat) (x_latestFault : Int32) (x_latestFinding : Int32) (v_foot : Int32) (v_feet : Int32) (v_lines : Int32) (v_words : Int32) (v_sizes : Nat → Int32) (v_kinds : Nat → Int32) (v_spelled : Nat → Nat) (v_scheme : Nat → Int32) (p1 : Int32) (p2 : Int32) (p3 : Int32) (nr : Nat) (krec : Int32 → (Nat → Int32) → Int32 → Int32 → Int32 → Option (Int32 × (Int32) × (Nat → Int32))) (hrec : ∀ (x_begun : Int32) (x_bodies : Nat → Int32) (p1 : Int32) (p2 : Int32) (p3 : Int32) (sz : Nat) (r : Int32) (o_x_begun : Int32) (o_x_bodies : Nat → Int32), krec x_begun x_bodies p1 p2 p3 = some (r, o_x_begun, o_x_bodies) → Met l yX6_answerOf (mC yX6_answerOf cX6_answerOf 6 (some .int)) (rmX6_answerOf nr) (va_Pc [.ref x_a, .int p1, .int p2, .int p3] (PCe G K (EC G K tt L la sa ln sy sn lt st) (WX6_answerOf K x_a xA_rows rd_a v_a d_a xA_images ac_a er_a xA_hits xA_bodies vA_sizes vA_kinds vA_spelled vA_scheme x_begun x_latestFault x_latestFinding v_foot v_feet v_lines v_words v_sizes v_kinds v_spelled v_scheme x_bodies) sz)) (va_Qi (fun (x : Int32) (_ : Unit) => x = r) (fun _ t => va_P G vwCl (WX6_answerOf K x_a xA_rows rd_a v_a d_a xA_images ac_a er_a xA_hits xA_bodies vA_sizes vA_kinds vA_spelled vA_scheme o_x_begun x_latestFault x_latestFinding v_foot v_feet v_lines v_words v_sizes v_kinds v_spelled v_scheme o_x_bodies) t.heap) (va_A (WX6_answerOf K x_a xA_rows rd_a v_a d_a xA_images ac_a er_a xA_hits xA_bodies vA_sizes vA_kinds vA_spelled vA_scheme x_begun x_latestFault x_latestFinding v_foot v_feet v_lines v_words v_sizes v_kinds v_spelled v_scheme x_bodies) sz)) (rmX6_answerOf nr).cells (rmX6_answerOf nr).slots (va_A (WX6_answerOf K x_a xA_rows rd_a v_a d_a xA_images ac_a er_a xA_hits xA_bodies vA_sizes vA_kinds vA_spelled vA_scheme x_begun x_latestFault x_latestFinding v_foot v_feet v_lines v_words v_sizes v_kinds v_spelled v_scheme x_bodies) sz)) (r : Int32) (o_x_begun : Int32) (o_x_bodies : Nat → Int32) (kr : ∀ (H : Heap) (locs : List Loc) (ls : Array Slot) (pc : Nat), decode cX6_answerOf pc = .ok (.ireturn, 1) → va_P G vwCl (WX6_answerOf K x_a xA_rows rd_a v_a d_a xA_images ac_a er_a xA_hits xA_bodies vA_sizes vA_kinds vA_spelled vA_scheme o_x_begun x_latestFault x_latestFinding v_foot v_feet v_lines v_words v_sizes v_kinds v_spelled v_scheme o_x_bodies) H → va_D A (WX6_answerOf K x_a xA_rows rd_a v_a d_a xA_images ac_a er_a xA_hits xA_bodies vA_sizes vA_kinds vA_spelled vA_scheme o_x_begun x_latestFault x_latestFinding v_foot v_feet v_lines v_words v_sizes v_kinds v_spelled v_scheme o_x_bodies) → va_S A s.heap H locs → W p l e (rmX6_answerOf (nr + 1)) s m args below meth c H locs 0 0 Q (F0 m pc ls [.int r])) (x_begun : Int32) (x_bodies : Nat → Int32) (hM : mX6_answerOf_b0 krec L ln sy v_words v_kinds v_spelled p1 p2 p3  x_begun x_bodies = some (r, o_x_begun, o_x_bodies)) : ∀ (H : Heap) (locs : List Loc) (ls : Array Slot), va_P G vwCl (WX6_answerOf K x_a xA_rows rd_a v_a d_a xA_images ac_a er_a xA_hits xA_bodies vA_sizes vA_kinds vA_spelled vA_scheme x_begun x_latestFault x_latestFinding v_foot v_feet v_lines v_words v_sizes v_kinds v_spelled v_scheme x_bodies) H → va_D A (WX6_answerOf K x_a xA_rows rd_a v_a d_a xA_images ac_a er_a xA_hits xA_bodies vA_sizes vA_kinds vA_spelled vA_scheme x_begun x_latestFault x_latestFinding v_foot v_feet v_lines v_words v_sizes v_kinds v_spelled v_scheme x_bodies) → va_S A s.heap H locs → lv_has ls 6 [(0, .ref x_a), (1, .int p1), (2, .int p2), (3, .int p3)] → W p l e (rmX6_answerOf (nr + 1)) s m args below meth c H locs 0 0 Q (F0 m 0 ls []) := by
  obtain ⟨hx, hb, hml, hown, hts, hK, hA, hEo, hE⟩ := id C0
  intro H locs ls hP hD hS hl
  unfold mX6_answerOf_b0 at hM
  refine lv_iload_n hx hb dX6_answerOf_0 rfl (lv_at hl 3 rfl) ?_
  refine lv_bipush (v := 10) hx hb dX6_answerOf_1 (by decide) ?_
  refine lv_icmp_gt (tgt := 17) hx hb dX6_answerOf_3 (by decide) (fun c_1 => ?_) (fun c_1 => ?_)
  · rw [if_pos c_1] at hM
    refine lv_iconst (v := 0) hx hb dX6_answerOf_17 (by decide) ?_
    have t0 := Option.some.inj hM
    obtain ⟨q1, t1⟩ := Prod.mk.inj t0
    obtain ⟨q2, t2⟩ := Prod.mk.inj t1
    subst q1
    subst q2
    subst t2
    exact kr _ _ _ _ dX6_answerOf_18 hP hD hS
  · rw [if_neg c_1] at hM
    refine lv_aload_n hx hb dX6_answerOf_6 rfl (lv_at hl 0 rfl) ?_
    refine va_get (D := G) (ci := 6) (v := .ref v_a) (C := RX6) (T := TX6) (N := 12) hx hb hts inX6 hown hK hP 0 rfl rfl 2 (by decide) (hts _ tb247) (fun _ h9 => h9) rfl dX6_answerOf_7 ?_
    refine lv_iload_n hx hb dX6_answerOf_10 rfl (lv_at hl 2 rfl) ?_
    obtain ⟨r_2, hC, hM⟩ := oe1 hM
    refine cV_i (As := [.int p2]) (rest := []) C0 hP hD hS [1, 2, 3, 4, 5] (kX2_hasWord l G K tt L la sa ln sy sn lt st v_a vA_sizes vA_kinds vA_spelled vA_scheme v_foot v_feet v_lines v_words v_sizes v_kinds v_spelled v_scheme p2 H.size r_2 hC) rfl rfl rfl tb432 tb415 tb416 tb7 tb417 hdX2_hasWord (va_recv hK hP (ci := 2) (q0 := 1) rfl rfl) ⟨(by simp only [rmX2_hasWord, rmX6_answerOf]; omega), (by simp only [rmX2_hasWord, rmX6_answerOf]; omega)⟩ rfl hl.1 (Nat.le_of_ble_eq_true rfl) rfl ⟨Nat.le_refl _, Nat.le_refl _⟩ dX6_answerOf_11 (fun H locs hP hD hS => ?_)
    have hP : va_P G vwCl (WX6_answerOf K x_a xA_rows rd_a v_a d_a xA_images ac_a er_a xA_hits xA_bodies vA_sizes vA_kinds vA_spelled vA_scheme x_begun x_latestFault x_latestFinding v_foot v_feet v_lines v_words v_sizes v_kinds v_spelled v_scheme x_bodies) H := hP
    have hD : va_D A (WX6_answerOf K x_a xA_rows rd_a v_a d_a xA_images ac_a er_a xA_hits xA_bodies vA_sizes vA_kinds vA_spelled vA_scheme x_begun x_latestFault x_latestFinding v_foot v_feet v_lines v_words v_sizes v_kinds v_spelled v_scheme x_bodies) := hD
    refine lv_if_ne (tgt := 19) hx hb dX6_answerOf_14 (by decide) (fun c_3 => ?_) (fun c_3 => ?_)
    · rw [if_neg c_3] at hM
      refine lv_aload_n hx hb dX6_answerOf_19 rfl (lv_at hl 0 rfl) ?_
      refine lv_iload_n hx hb dX6_answerOf_20 rfl (lv_at hl 1 rfl) ?_
      obtain ⟨u0_4, u1_4, hC, hM⟩ := oe2 hM
      refine cV_v (As := [.int p1]) (rest := []) C0 hP hD hS [0, 6] (kX6_leave l G K tt L la sa ln sy sn lt st x_a xA_rows rd_a v_a d_a xA_images ac_a er_a xA_hits xA_bodies x_begun x_latestFault x_latestFinding x_bodies p1 H.size u0_4 u1_4 hC) rfl rfl rfl tb730 tb732 tp11 tb1 tb733 hdX6_leave (va_recv hK hP (ci := 6) (q0 := 0) rfl rfl) ⟨(by simp only [rmX6_leave, rmX6_answerOf]; omega), (by simp only [rmX6_leave, rmX6_answerOf]; omega)⟩ rfl hl.1 (Nat.le_of_ble_eq_true rfl) rfl ⟨Nat.le_refl _, Nat.le_refl _⟩ dX6_answerOf_21 (fun H locs hP hD hS => ?_)
      have hP : va_P G vwCl (WX6_answerOf K x_a xA_rows rd_a v_a d_a xA_images ac_a er_a xA_hits xA_bodies vA_sizes vA_kinds vA_spelled vA_scheme u0_4 x_latestFault x_latestFinding v_foot v_feet v_lines v_words v_sizes v_kinds v_spelled v_scheme u1_4) H := hP
      have hD : va_D A (WX6_answerOf K x_a xA_rows rd_a v_a d_a xA_images ac_a er_a xA_hits xA_bodies vA_sizes vA_kinds vA_spelled vA_scheme u0_4 x_latestFault x_latestFinding v_foot v_feet v_lines v_words v_sizes v_kinds v_spelled v_scheme u1_4) := hD
      refine lv_iload_n hx hb dX6_answerOf_24 rfl (lv_at hl 3 rfl) ?_
      refine lv_iconst (v := 1) hx hb dX6_answerOf_25 (by decide) ?_
      refine lv_iadd hx hb dX6_answerOf_26 ?_
      refine lv_istore (lv' := [(4, .int (p3 + (1 : Int32))), (0, .ref x_a), (1, .int p1), (2, .int p2), (3, .int p3)]) hx hb dX6_answerOf_27 hl (by decide) rfl (fun ls hl => ?_)
      refine lv_aload_n hx hb dX6_answerOf_29 rfl (lv_at hl 1 rfl) ?_
      refine va_get (D := G) (ci := 6) (v := .ref v_a) (C := RX6) (T := TX6) (N := 12) hx hb hts inX6 hown hK hP 0 rfl rfl 2 (by decide) (hts _ tb247) (fun _ h9 => h9) rfl dX6_answerOf_30 ?_
      refine va_get (D := G) (ci := 2) (v := .ref vA_kinds) (C := RX2) (T := TX2) (N := 8) hx hb hts inX2 hown hK hP 1 rfl rfl 5 (by decide) (hts _ tb192) (fun _ h9 => h9) rfl dX6_answerOf_33 ?_
      refine lv_iload_n hx hb dX6_answerOf_36 rfl (lv_at hl 3 rfl) ?_
      obtain ⟨g_5, hM⟩ := ng hM
      refine va_iald hx hb hK hP 3 0 rfl rfl g_5 dX6_answerOf_37 ?_
      refine lv_istore (lv' := [(5, .int (v_kinds p2.toNatClampNeg)), (4, .int (p3 + (1 : Int32))), (0, .ref x_a), (1, .int p1), (2, .int p2), (3, .int p3)]) hx hb dX6_answerOf_38 hl (by decide) rfl (fun ls hl => ?_)
      refine lv_iload_n hx hb dX6_answerOf_40 rfl (lv_at hl 3 rfl) ?_
      by_cases c_6 : p1 = 10
      · rw [if_pos c_6] at hM
        refine lv_tableIn (off := 75) (tgt := 116) hx hb dX6_answerOf_41 (by rw [c_6]; decide) (by rw [c_6]; decide) (by rw [c_6]; decide) (by decide) ?_
        refine lv_aload_n hx hb dX6_answerOf_116 rfl (lv_at hl 2 rfl) ?_
        refine va_get (D := G) (ci := 6) (v := .ref v_a) (C := RX6) (T := TX6) (N := 12) hx hb hts inX6 hown hK hP 0 rfl rfl 2 (by decide) (hts _ tb247) (fun _ h9 => h9) rfl dX6_answerOf_117 ?_
        refine va_get (D := G) (ci := 2) (v := .ref vA_spelled) (C := RX2) (T := TX2) (N := 8) hx hb hts inX2 hown hK hP 1 rfl rfl 6 (by decide) (hts _ tb195) (fun _ h9 => h9) rfl dX6_answerOf_120 ?_
        refine lv_iload_n hx hb dX6_answerOf_123 rfl (lv_at hl 4 rfl) ?_
        obtain ⟨g_7, hM⟩ := ng hM
        refine va_aldq hx hb hK hP 4 2 rfl rfl g_7 dX6_answerOf_124 ?_
        show W p l e (rmX6_answerOf (nr + 1)) s m args below meth c H locs 0 0 Q (F0 m 125 ls [.ref (v_spelled p2.toNatClampNeg)])
        obtain ⟨g_8, hM⟩ := ng hM
        refine va_get (D := G) (ci := 5) (v := .int (ln (v_spelled p2.toNatClampNeg))) (C := RX5) (T := TX5) (N := 5) hx hb hts inX5 hown hK (sp_at hE hS (Decidable.not_not.mp g_8)) 0 rfl rfl 0 (by decide) (hts _ tb124) (fun _ h9 => h9) rfl dX6_answerOf_125 ?_
        have t0 := Option.some.inj hM
        obtain ⟨q1, t1⟩ := Prod.mk.inj t0
        obtain ⟨q2, t2⟩ := Prod.mk.inj t1
        subst q1
        subst q2
        subst t2
        exact kr _ _ _ _ dX6_answerOf_128 hP hD hS
      · rw [if_neg c_6] at hM
        by_cases c_9 : p1 = 11
        · rw [if_pos c_9] at hM
          refine lv_tableIn (off := 88) (tgt := 129) hx hb dX6_answerOf_41 (by rw [c_9]; decide) (by rw [c_9]; decide) (by rw [c_9]; decide) (by decide) ?_
          refine lv_aload_n hx hb dX6_answerOf_129 rfl (lv_at hl 2 rfl) ?_
          refine lv_bipush (v := 10) hx hb dX6_answerOf_130 (by decide) ?_
          refine lv_iload_n hx hb dX6_answerOf_132 rfl (lv_at hl 4 rfl) ?_
          refine lv_iload hx hb dX6_answerOf_133 (lv_at hl 1 rfl) ?_
          obtain ⟨r_10, u0_10, u1_10, hC, hM⟩ := oe3 hM
          refine cV_i (As := [.int (10 : Int32), .int p2, .int (p3 + (1 : Int32))]) (rest := []) C0 hP hD hS [0, 1, 2, 3, 4, 5, 6] (hrec u0_4 u1_4 (10 : Int32) p2 (p3 + (1 : Int32)) H.size r_10 u0_10 u1_10 hC) rfl rfl rfl tb726 tb728 tp10 tb1 tb729 hdX6_answerOf (va_recv hK hP (ci := 6) (q0 := 0) rfl rfl) ⟨(by simp only [rmX6_answerOf, rmX6_answerOf]; omega), (by simp only [rmX6_answerOf, rmX6_answerOf]; omega)⟩ rfl hl.1 (Nat.le_of_ble_eq_true rfl) rfl ⟨Nat.le_refl _, Nat.le_refl _⟩ dX6_answerOf_135 (fun H locs hP hD hS => ?_)
          have hP : va_P G vwCl (WX6_answerOf K x_a xA_rows rd_a v_a d_a xA_images ac_a er_a xA_hits xA_bodies vA_sizes vA_kinds vA_spelled vA_scheme u0_10 x_latestFault x_latestFinding v_foot v_feet v_lines v_words v_sizes v_kinds v_spelled v_scheme u1_10) H := hP
          have hD : va_D A (WX6_answerOf K x_a xA_rows rd_a v_a d_a xA_images ac_a er_a xA_hits xA_bodies vA_sizes vA_kinds vA_spelled vA_scheme u0_10 x_latestFault x_latestFinding v_foot v_feet v_lines v_words v_sizes v_kinds v_spelled v_scheme u1_10) := hD
          refine lv_aload_n hx hb dX6_answerOf_138 rfl (lv_at hl 2 rfl) ?_
          refine lv_iload hx hb dX6_answerOf_139 (lv_at hl 0 rfl) ?_
          refine lv_iconst (v := 1) hx hb dX6_answerOf_141 (by decide) ?_
          obtain ⟨r_11, hC, hM⟩ := oe1 hM
          refine cS_i (As := [.int (v_kinds p2.toNatClampNeg), .int (1 : Int32)]) (rest := [.ref x_a, .int r_10]) C0 hP hD hS [] (kX6_bodyOf l G K tt L la sa ln sy sn lt st (v_kinds p2.toNatClampNeg) (1 : Int32) H.size r_11 hC) rfl rfl rfl tb719 tb720 tb1 tb721 hdX6_bodyOf ⟨(by simp only [rmX6_bodyOf, rmX6_answerOf]; omega), (by simp only [rmX6_bodyOf, rmX6_answerOf]; omega)⟩ rfl hl.1 (Nat.le_of_ble_eq_true rfl) rfl ⟨Nat.le_refl _, Nat.le_refl _⟩ dX6_answerOf_142 (fun H locs hP hD hS => ?_)
          have hP : va_P G vwCl (WX6_answerOf K x_a xA_rows rd_a v_a d_a xA_images ac_a er_a xA_hits xA_bodies vA_sizes vA_kinds vA_spelled vA_scheme u0_10 x_latestFault x_latestFinding v_foot v_feet v_lines v_words v_sizes v_kinds v_spelled v_scheme u1_10) H := hP
          have hD : va_D A (WX6_answerOf K x_a xA_rows rd_a v_a d_a xA_images ac_a er_a xA_hits xA_bodies vA_sizes vA_kinds vA_spelled vA_scheme u0_10 x_latestFault x_latestFinding v_foot v_feet v_lines v_words v_sizes v_kinds v_spelled v_scheme u1_10) := hD
          refine lv_iload_n hx hb dX6_answerOf_145 rfl (lv_at hl 4 rfl) ?_
          refine lv_iload hx hb dX6_answerOf_146 (lv_at hl 1 rfl) ?_
          obtain ⟨r_12, u0_12, u1_12, hC, hM⟩ := oe3 hM
          refine cV_i (As := [.int r_11, .int p2, .int (p3 + (1 : Int32))]) (rest := [.int r_10]) C0 hP hD hS [0, 1, 2, 3, 4, 5, 6] (hrec u0_10 u1_10 r_11 p2 (p3 + (1 : Int32)) H.size r_12 u0_12 u1_12 hC) rfl rfl rfl tb726 tb728 tp10 tb1 tb729 hdX6_answerOf (va_recv hK hP (ci := 6) (q0 := 0) rfl rfl) ⟨(by simp only [rmX6_answerOf, rmX6_answerOf]; omega), (by simp only [rmX6_answerOf, rmX6_answerOf]; omega)⟩ rfl hl.1 (Nat.le_of_ble_eq_true rfl) rfl ⟨Nat.le_refl _, Nat.le_refl _⟩ dX6_answerOf_148 (fun H locs hP hD hS => ?_)
          have hP : va_P G vwCl (WX6_answerOf K x_a xA_rows rd_a v_a d_a xA_images ac_a er_a xA_hits xA_bodies vA_sizes vA_kinds vA_spelled vA_scheme u0_12 x_latestFault x_latestFinding v_foot v_feet v_lines v_words v_sizes v_kinds v_spelled v_scheme u1_12) H := hP
          have hD : va_D A (WX6_answerOf K x_a xA_rows rd_a v_a d_a xA_images ac_a er_a xA_hits xA_bodies vA_sizes vA_kinds vA_spelled vA_scheme u0_12 x_latestFault x_latestFinding v_foot v_feet v_lines v_words v_sizes v_kinds v_spelled v_scheme u1_12) := hD
          refine lv_iadd hx hb dX6_answerOf_151 ?_
          have t0 := Option.some.inj hM
          obtain ⟨q1, t1⟩ := Prod.mk.inj t0
          obtain ⟨q2, t2⟩ := Prod.mk.inj t1
          subst q1
          subst q2
          subst t2
          exact kr _ _ _ _ dX6_answerOf_152 hP hD hS
        · rw [if_neg c_9] at hM
          by_cases c_13 : p1 = 12
          · rw [if_pos c_13] at hM
            refine lv_tableIn (off := 112) (tgt := 153) hx hb dX6_answerOf_41 (by rw [c_13]; decide) (by rw [c_13]; decide) (by rw [c_13]; decide) (by decide) ?_
            refine lv_iconst (v := 0) hx hb dX6_answerOf_153 (by decide) ?_
            refine lv_aload_n hx hb dX6_answerOf_154 rfl (lv_at hl 2 rfl) ?_
            refine lv_bipush (v := 11) hx hb dX6_answerOf_155 (by decide) ?_
            refine lv_iload_n hx hb dX6_answerOf_157 rfl (lv_at hl 4 rfl) ?_
            refine lv_iload hx hb dX6_answerOf_158 (lv_at hl 1 rfl) ?_
            obtain ⟨r_14, u0_14, u1_14, hC, hM⟩ := oe3 hM
            refine cV_i (As := [.int (11 : Int32), .int p2, .int (p3 + (1 : Int32))]) (rest := [.int (0 : Int32)]) C0 hP hD hS [0, 1, 2, 3, 4, 5, 6] (hrec u0_4 u1_4 (11 : Int32) p2 (p3 + (1 : Int32)) H.size r_14 u0_14 u1_14 hC) rfl rfl rfl tb726 tb728 tp10 tb1 tb729 hdX6_answerOf (va_recv hK hP (ci := 6) (q0 := 0) rfl rfl) ⟨(by simp only [rmX6_answerOf, rmX6_answerOf]; omega), (by simp only [rmX6_answerOf, rmX6_answerOf]; omega)⟩ rfl hl.1 (Nat.le_of_ble_eq_true rfl) rfl ⟨Nat.le_refl _, Nat.le_refl _⟩ dX6_answerOf_160 (fun H locs hP hD hS => ?_)
            have hP : va_P G vwCl (WX6_answerOf K x_a xA_rows rd_a v_a d_a xA_images ac_a er_a xA_hits xA_bodies vA_sizes vA_kinds vA_spelled vA_scheme u0_14 x_latestFault x_latestFinding v_foot v_feet v_lines v_words v_sizes v_kinds v_spelled v_scheme u1_14) H := hP
            have hD : va_D A (WX6_answerOf K x_a xA_rows rd_a v_a d_a xA_images ac_a er_a xA_hits xA_bodies vA_sizes vA_kinds vA_spelled vA_scheme u0_14 x_latestFault x_latestFinding v_foot v_feet v_lines v_words v_sizes v_kinds v_spelled v_scheme u1_14) := hD
            refine lv_isub hx hb dX6_answerOf_163 ?_
            have t0 := Option.some.inj hM
            obtain ⟨q1, t1⟩ := Prod.mk.inj t0
            obtain ⟨q2, t2⟩ := Prod.mk.inj t1
            subst q1
            subst q2
            subst t2
            exact kr _ _ _ _ dX6_answerOf_164 hP hD hS
          · rw [if_neg c_13] at hM
            by_cases c_15 : p1 = 13
            · rw [if_pos c_15] at hM
              refine lv_tableIn (off := 124) (tgt := 165) hx hb dX6_answerOf_41 (by rw [c_15]; decide) (by rw [c_15]; decide) (by rw [c_15]; decide) (by decide) ?_
              refine lv_aload_n hx hb dX6_answerOf_165 rfl (lv_at hl 2 rfl) ?_
              refine lv_bipush (v := 10) hx hb dX6_answerOf_166 (by decide) ?_
              refine lv_iload_n hx hb dX6_answerOf_168 rfl (lv_at hl 4 rfl) ?_
              refine lv_iload hx hb dX6_answerOf_169 (lv_at hl 1 rfl) ?_
              obtain ⟨r_16, u0_16, u1_16, hC, hM⟩ := oe3 hM
              refine cV_i (As := [.int (10 : Int32), .int p2, .int (p3 + (1 : Int32))]) (rest := []) C0 hP hD hS [0, 1, 2, 3, 4, 5, 6] (hrec u0_4 u1_4 (10 : Int32) p2 (p3 + (1 : Int32)) H.size r_16 u0_16 u1_16 hC) rfl rfl rfl tb726 tb728 tp10 tb1 tb729 hdX6_answerOf (va_recv hK hP (ci := 6) (q0 := 0) rfl rfl) ⟨(by simp only [rmX6_answerOf, rmX6_answerOf]; omega), (by simp only [rmX6_answerOf, rmX6_answerOf]; omega)⟩ rfl hl.1 (Nat.le_of_ble_eq_true rfl) rfl ⟨Nat.le_refl _, Nat.le_refl _⟩ dX6_answerOf_171 (fun H locs hP hD hS => ?_)
              have hP : va_P G vwCl (WX6_answerOf K x_a xA_rows rd_a v_a d_a xA_images ac_a er_a xA_hits xA_bodies vA_sizes vA_kinds vA_spelled vA_scheme u0_16 x_latestFault x_latestFinding v_foot v_feet v_lines v_words v_sizes v_kinds v_spelled v_scheme u1_16) H := hP
              have hD : va_D A (WX6_answerOf K x_a xA_rows rd_a v_a d_a xA_images ac_a er_a xA_hits xA_bodies vA_sizes vA_kinds vA_spelled vA_scheme u0_16 x_latestFault x_latestFinding v_foot v_feet v_lines v_words v_sizes v_kinds v_spelled v_scheme u1_16) := hD
              refine lv_bipush (v := 100) hx hb dX6_answerOf_174 (by decide) ?_
              refine lv_isub hx hb dX6_answerOf_176 ?_
              have t0 := Option.some.inj hM
              obtain ⟨q1, t1⟩ := Prod.mk.inj t0
              obtain ⟨q2, t2⟩ := Prod.mk.inj t1
              subst q1
              subst q2
              subst t2
              exact kr _ _ _ _ dX6_answerOf_177 hP hD hS
            · rw [if_neg c_15] at hM
              by_cases c_17 : p1 = 14
              · rw [if_pos c_17] at hM
                refine lv_tableIn (off := 137) (tgt := 178) hx hb dX6_answerOf_41 (by rw [c_17]; decide) (by rw [c_17]; decide) (by rw [c_17]; decide) (by decide) ?_
                refine lv_iconst (v := 2) hx hb dX6_answerOf_178 (by decide) ?_
                refine lv_aload_n hx hb dX6_answerOf_179 rfl (lv_at hl 2 rfl) ?_
                refine lv_bipush (v := 13) hx hb dX6_answerOf_180 (by decide) ?_
                refine lv_iload_n hx hb dX6_answerOf_182 rfl (lv_at hl 4 rfl) ?_
                refine lv_iload hx hb dX6_answerOf_183 (lv_at hl 1 rfl) ?_
                obtain ⟨r_18, u0_18, u1_18, hC, hM⟩ := oe3 hM
                refine cV_i (As := [.int (13 : Int32), .int p2, .int (p3 + (1 : Int32))]) (rest := [.int (2 : Int32)]) C0 hP hD hS [0, 1, 2, 3, 4, 5, 6] (hrec u0_4 u1_4 (13 : Int32) p2 (p3 + (1 : Int32)) H.size r_18 u0_18 u1_18 hC) rfl rfl rfl tb726 tb728 tp10 tb1 tb729 hdX6_answerOf (va_recv hK hP (ci := 6) (q0 := 0) rfl rfl) ⟨(by simp only [rmX6_answerOf, rmX6_answerOf]; omega), (by simp only [rmX6_answerOf, rmX6_answerOf]; omega)⟩ rfl hl.1 (Nat.le_of_ble_eq_true rfl) rfl ⟨Nat.le_refl _, Nat.le_refl _⟩ dX6_answerOf_185 (fun H locs hP hD hS => ?_)
                have hP : va_P G vwCl (WX6_answerOf K x_a xA_rows rd_a v_a d_a xA_images ac_a er_a xA_hits xA_bodies vA_sizes vA_kinds vA_spelled vA_scheme u0_18 x_latestFault x_latestFinding v_foot v_feet v_lines v_words v_sizes v_kinds v_spelled v_scheme u1_18) H := hP
                have hD : va_D A (WX6_answerOf K x_a xA_rows rd_a v_a d_a xA_images ac_a er_a xA_hits xA_bodies vA_sizes vA_kinds vA_spelled vA_scheme u0_18 x_latestFault x_latestFinding v_foot v_feet v_lines v_words v_sizes v_kinds v_spelled v_scheme u1_18) := hD
                refine lv_imul hx hb dX6_answerOf_188 ?_
                have t0 := Option.some.inj hM
                obtain ⟨q1, t1⟩ := Prod.mk.inj t0
                obtain ⟨q2, t2⟩ := Prod.mk.inj t1
                subst q1
                subst q2
                subst t2
                exact kr _ _ _ _ dX6_answerOf_189 hP hD hS
              · rw [if_neg c_17] at hM
                by_cases c_19 : p1 = 15
                · rw [if_pos c_19] at hM
                  refine lv_tableIn (off := 222) (tgt := 263) hx hb dX6_answerOf_41 (by rw [c_19]; decide) (by rw [c_19]; decide) (by rw [c_19]; decide) (by decide) ?_
                  refine lv_iload_n hx hb dX6_answerOf_263 rfl (lv_at hl 4 rfl) ?_
                  have t0 := Option.some.inj hM
                  obtain ⟨q1, t1⟩ := Prod.mk.inj t0
                  obtain ⟨q2, t2⟩ := Prod.mk.inj t1
                  subst q1
                  subst q2
                  subst t2
                  exact kr _ _ _ _ dX6_answerOf_264 hP hD hS
                · rw [if_neg c_19] at hM
                  by_cases c_20 : p1 = 16
                  · rw [if_pos c_20] at hM
                    refine lv_tableIn (off := 222) (tgt := 263) hx hb dX6_answerOf_41 (by rw [c_20]; decide) (by rw [c_20]; decide) (by rw [c_20]; decide) (by decide) ?_
                    refine lv_iload_n hx hb dX6_answerOf_263 rfl (lv_at hl 4 rfl) ?_
                    have t0 := Option.some.inj hM
                    obtain ⟨q1, t1⟩ := Prod.mk.inj t0
                    obtain ⟨q2, t2⟩ := Prod.mk.inj t1
                    subst q1
                    subst q2
                    subst t2
                    exact kr _ _ _ _ dX6_answerOf_264 hP hD hS
                  · rw [if_neg c_20] at hM
                    by_cases c_21 : p1 = 17
                    · rw [if_pos c_21] at hM
                      refine lv_tableIn (off := 222) (tgt := 263) hx hb dX6_answerOf_41 (by rw [c_21]; decide) (by rw [c_21]; decide) (by rw [c_21]; decide) (by decide) ?_
                      refine lv_iload_n hx hb dX6_answerOf_263 rfl (lv_at hl 4 rfl) ?_
                      have t0 := Option.some.inj hM
                      obtain ⟨q1, t1⟩ := Prod.mk.inj t0
                      obtain ⟨q2, t2⟩ := Prod.mk.inj t1
                      subst q1
                      subst q2
                      subst t2
                      exact kr _ _ _ _ dX6_answerOf_264 hP hD hS
                    · rw [if_neg c_21] at hM
                      by_cases c_22 : p1 = 18
                      · rw [if_pos c_22] at hM
                        refine lv_tableIn (off := 222) (tgt := 263) hx hb dX6_answerOf_41 (by rw [c_22]; decide) (by rw [c_22]; decide) (by rw [c_22]; decide) (by decide) ?_
                        refine lv_iload_n hx hb dX6_answerOf_263 rfl (lv_at hl 4 rfl) ?_
                        have t0 := Option.some.inj hM
                        obtain ⟨q1, t1⟩ := Prod.mk.inj t0
                        obtain ⟨q2, t2⟩ := Prod.mk.inj t1
                        subst q1
                        subst q2
                        subst t2
                        exact kr _ _ _ _ dX6_answerOf_264 hP hD hS
                      · rw [if_neg c_22] at hM
                        by_cases c_23 : p1 = 19
                        · rw [if_pos c_23] at hM
                          refine lv_tableIn (off := 222) (tgt := 263) hx hb dX6_answerOf_41 (by rw [c_23]; decide) (by rw [c_23]; decide) (by rw [c_23]; decide) (by decide) ?_
                          refine lv_iload_n hx hb dX6_answerOf_263 rfl (lv_at hl 4 rfl) ?_
                          have t0 := Option.some.inj hM
                          obtain ⟨q1, t1⟩ := Prod.mk.inj t0
                          obtain ⟨q2, t2⟩ := Prod.mk.inj t1
                          subst q1
                          subst q2
                          subst t2
                          exact kr _ _ _ _ dX6_answerOf_264 hP hD hS
                        · rw [if_neg c_23] at hM
                          by_cases c_24 : p1 = 20
                          · rw [if_pos c_24] at hM
                            refine lv_tableIn (off := 222) (tgt := 263) hx hb dX6_answerOf_41 (by rw [c_24]; decide) (by rw [c_24]; decide) (by rw [c_24]; decide) (by decide) ?_
                            refine lv_iload_n hx hb dX6_answerOf_263 rfl (lv_at hl 4 rfl) ?_
                            have t0 := Option.some.inj hM
                            obtain ⟨q1, t1⟩ := Prod.mk.inj t0
                            obtain ⟨q2, t2⟩ := Prod.mk.inj t1
                            subst q1
                            subst q2
                            subst t2
                            exact kr _ _ _ _ dX6_answerOf_264 hP hD hS
                          · rw [if_neg c_24] at hM
                            by_cases c_25 : p1 = 21
                            · rw [if_pos c_25] at hM
                              refine lv_tableIn (off := 149) (tgt := 190) hx hb dX6_answerOf_41 (by rw [c_25]; decide) (by rw [c_25]; decide) (by rw [c_25]; decide) (by decide) ?_
                              refine lv_aload_n hx hb dX6_answerOf_190 rfl (lv_at hl 2 rfl) ?_
                              refine lv_bipush (v := 20) hx hb dX6_answerOf_191 (by decide) ?_
                              refine lv_iload_n hx hb dX6_answerOf_193 rfl (lv_at hl 4 rfl) ?_
                              refine lv_iload hx hb dX6_answerOf_194 (lv_at hl 1 rfl) ?_
                              obtain ⟨r_26, u0_26, u1_26, hC, hM⟩ := oe3 hM
                              refine cV_i (As := [.int (20 : Int32), .int p2, .int (p3 + (1 : Int32))]) (rest := []) C0 hP hD hS [0, 1, 2, 3, 4, 5, 6] (hrec u0_4 u1_4 (20 : Int32) p2 (p3 + (1 : Int32)) H.size r_26 u0_26 u1_26 hC) rfl rfl rfl tb726 tb728 tp10 tb1 tb729 hdX6_answerOf (va_recv hK hP (ci := 6) (q0 := 0) rfl rfl) ⟨(by simp only [rmX6_answerOf, rmX6_answerOf]; omega), (by simp only [rmX6_answerOf, rmX6_answerOf]; omega)⟩ rfl hl.1 (Nat.le_of_ble_eq_true rfl) rfl ⟨Nat.le_refl _, Nat.le_refl _⟩ dX6_answerOf_196 (fun H locs hP hD hS => ?_)
                              have hP : va_P G vwCl (WX6_answerOf K x_a xA_rows rd_a v_a d_a xA_images ac_a er_a xA_hits xA_bodies vA_sizes vA_kinds vA_spelled vA_scheme u0_26 x_latestFault x_latestFinding v_foot v_feet v_lines v_words v_sizes v_kinds v_spelled v_scheme u1_26) H := hP
                              have hD : va_D A (WX6_answerOf K x_a xA_rows rd_a v_a d_a xA_images ac_a er_a xA_hits xA_bodies vA_sizes vA_kinds vA_spelled vA_scheme u0_26 x_latestFault x_latestFinding v_foot v_feet v_lines v_words v_sizes v_kinds v_spelled v_scheme u1_26) := hD
                              refine lv_aload_n hx hb dX6_answerOf_199 rfl (lv_at hl 2 rfl) ?_
                              refine va_get (D := G) (ci := 6) (v := .ref v_a) (C := RX6) (T := TX6) (N := 12) hx hb hts inX6 hown hK hP 0 rfl rfl 2 (by decide) (hts _ tb247) (fun _ h9 => h9) rfl dX6_answerOf_200 ?_
                              refine va_get (D := G) (ci := 2) (v := .ref vA_spelled) (C := RX2) (T := TX2) (N := 8) hx hb hts inX2 hown hK hP 1 rfl rfl 6 (by decide) (hts _ tb195) (fun _ h9 => h9) rfl dX6_answerOf_203 ?_
                              refine lv_iload_n hx hb dX6_answerOf_206 rfl (lv_at hl 4 rfl) ?_
                              obtain ⟨g_27, hM⟩ := ng hM
                              refine va_aldq hx hb hK hP 4 2 rfl rfl g_27 dX6_answerOf_207 ?_
                              show W p l e (rmX6_answerOf (nr + 1)) s m args below meth c H locs 0 0 Q (F0 m 208 ls [.ref (v_spelled p2.toNatClampNeg), .int r_26])
                              obtain ⟨g_28, hM⟩ := ng hM
                              refine va_get (D := G) (ci := 5) (v := .int (sy (v_spelled p2.toNatClampNeg))) (C := RX5) (T := TX5) (N := 5) hx hb hts inX5 hown hK (sp_at hE hS (Decidable.not_not.mp g_28)) 0 rfl rfl 2 (by decide) (hts _ tb132) (fun _ h9 => h9) rfl dX6_answerOf_208 ?_
                              refine lv_iadd hx hb dX6_answerOf_211 ?_
                              have t0 := Option.some.inj hM
                              obtain ⟨q1, t1⟩ := Prod.mk.inj t0
                              obtain ⟨q2, t2⟩ := Prod.mk.inj t1
                              subst q1
                              subst q2
                              subst t2
                              exact kr _ _ _ _ dX6_answerOf_212 hP hD hS
                            · rw [if_neg c_25] at hM
                              by_cases c_29 : p1 = 22
                              · rw [if_pos c_29] at hM
                                refine lv_tableIn (off := 172) (tgt := 213) hx hb dX6_answerOf_41 (by rw [c_29]; decide) (by rw [c_29]; decide) (by rw [c_29]; decide) (by decide) ?_
                                refine lv_aload_n hx hb dX6_answerOf_213 rfl (lv_at hl 2 rfl) ?_
                                refine lv_bipush (v := 21) hx hb dX6_answerOf_214 (by decide) ?_
                                refine lv_iload_n hx hb dX6_answerOf_216 rfl (lv_at hl 4 rfl) ?_
                                refine lv_iload hx hb dX6_answerOf_217 (lv_at hl 1 rfl) ?_
                                obtain ⟨r_30, u0_30, u1_30, hC, hM⟩ := oe3 hM
                                refine cV_i (As := [.int (21 : Int32), .int p2, .int (p3 + (1 : Int32))]) (rest := []) C0 hP hD hS [0, 1, 2, 3, 4, 5, 6] (hrec u0_4 u1_4 (21 : Int32) p2 (p3 + (1 : Int32)) H.size r_30 u0_30 u1_30 hC) rfl rfl rfl tb726 tb728 tp10 tb1 tb729 hdX6_answerOf (va_recv hK hP (ci := 6) (q0 := 0) rfl rfl) ⟨(by simp only [rmX6_answerOf, rmX6_answerOf]; omega), (by simp only [rmX6_answerOf, rmX6_answerOf]; omega)⟩ rfl hl.1 (Nat.le_of_ble_eq_true rfl) rfl ⟨Nat.le_refl _, Nat.le_refl _⟩ dX6_answerOf_219 (fun H locs hP hD hS => ?_)
                                have hP : va_P G vwCl (WX6_answerOf K x_a xA_rows rd_a v_a d_a xA_images ac_a er_a xA_hits xA_bodies vA_sizes vA_kinds vA_spelled vA_scheme u0_30 x_latestFault x_latestFinding v_foot v_feet v_lines v_words v_sizes v_kinds v_spelled v_scheme u1_30) H := hP
                                have hD : va_D A (WX6_answerOf K x_a xA_rows rd_a v_a d_a xA_images ac_a er_a xA_hits xA_bodies vA_sizes vA_kinds vA_spelled vA_scheme u0_30 x_latestFault x_latestFinding v_foot v_feet v_lines v_words v_sizes v_kinds v_spelled v_scheme u1_30) := hD
                                refine lv_sipush (v := 1000) hx hb dX6_answerOf_222 (by decide) ?_
                                refine lv_isub hx hb dX6_answerOf_225 ?_
                                have t0 := Option.some.inj hM
                                obtain ⟨q1, t1⟩ := Prod.mk.inj t0
                                obtain ⟨q2, t2⟩ := Prod.mk.inj t1
                                subst q1
                                subst q2
                                subst t2
                                exact kr _ _ _ _ dX6_answerOf_226 hP hD hS
                              · rw [if_neg c_29] at hM
                                by_cases c_31 : p1 = 23
                                · rw [if_pos c_31] at hM
                                  refine lv_tableIn (off := 186) (tgt := 227) hx hb dX6_answerOf_41 (by rw [c_31]; decide) (by rw [c_31]; decide) (by rw [c_31]; decide) (by decide) ?_
                                  refine lv_aload_n hx hb dX6_answerOf_227 rfl (lv_at hl 2 rfl) ?_
                                  refine lv_bipush (v := 20) hx hb dX6_answerOf_228 (by decide) ?_
                                  refine lv_iload_n hx hb dX6_answerOf_230 rfl (lv_at hl 4 rfl) ?_
                                  refine lv_iload hx hb dX6_answerOf_231 (lv_at hl 1 rfl) ?_
                                  obtain ⟨r_32, u0_32, u1_32, hC, hM⟩ := oe3 hM
                                  refine cV_i (As := [.int (20 : Int32), .int p2, .int (p3 + (1 : Int32))]) (rest := []) C0 hP hD hS [0, 1, 2, 3, 4, 5, 6] (hrec u0_4 u1_4 (20 : Int32) p2 (p3 + (1 : Int32)) H.size r_32 u0_32 u1_32 hC) rfl rfl rfl tb726 tb728 tp10 tb1 tb729 hdX6_answerOf (va_recv hK hP (ci := 6) (q0 := 0) rfl rfl) ⟨(by simp only [rmX6_answerOf, rmX6_answerOf]; omega), (by simp only [rmX6_answerOf, rmX6_answerOf]; omega)⟩ rfl hl.1 (Nat.le_of_ble_eq_true rfl) rfl ⟨Nat.le_refl _, Nat.le_refl _⟩ dX6_answerOf_233 (fun H locs hP hD hS => ?_)
                                  have hP : va_P G vwCl (WX6_answerOf K x_a xA_rows rd_a v_a d_a xA_images ac_a er_a xA_hits xA_bodies vA_sizes vA_kinds vA_spelled vA_scheme u0_32 x_latestFault x_latestFinding v_foot v_feet v_lines v_words v_sizes v_kinds v_spelled v_scheme u1_32) H := hP
                                  have hD : va_D A (WX6_answerOf K x_a xA_rows rd_a v_a d_a xA_images ac_a er_a xA_hits xA_bodies vA_sizes vA_kinds vA_spelled vA_scheme u0_32 x_latestFault x_latestFinding v_foot v_feet v_lines v_words v_sizes v_kinds v_spelled v_scheme u1_32) := hD
                                  refine lv_aload_n hx hb dX6_answerOf_236 rfl (lv_at hl 2 rfl) ?_
                                  refine lv_iload hx hb dX6_answerOf_237 (lv_at hl 0 rfl) ?_
                                  refine lv_iconst (v := 0) hx hb dX6_answerOf_239 (by decide) ?_
                                  obtain ⟨r_33, hC, hM⟩ := oe1 hM
                                  refine cS_i (As := [.int (v_kinds p2.toNatClampNeg), .int (0 : Int32)]) (rest := [.ref x_a, .int r_32]) C0 hP hD hS [] (kX6_bodyOf l G K tt L la sa ln sy sn lt st (v_kinds p2.toNatClampNeg) (0 : Int32) H.size r_33 hC) rfl rfl rfl tb719 tb720 tb1 tb721 hdX6_bodyOf ⟨(by simp only [rmX6_bodyOf, rmX6_answerOf]; omega), (by simp only [rmX6_bodyOf, rmX6_answerOf]; omega)⟩ rfl hl.1 (Nat.le_of_ble_eq_true rfl) rfl ⟨Nat.le_refl _, Nat.le_refl _⟩ dX6_answerOf_240 (fun H locs hP hD hS => ?_)
                                  have hP : va_P G vwCl (WX6_answerOf K x_a xA_rows rd_a v_a d_a xA_images ac_a er_a xA_hits xA_bodies vA_sizes vA_kinds vA_spelled vA_scheme u0_32 x_latestFault x_latestFinding v_foot v_feet v_lines v_words v_sizes v_kinds v_spelled v_scheme u1_32) H := hP
                                  have hD : va_D A (WX6_answerOf K x_a xA_rows rd_a v_a d_a xA_images ac_a er_a xA_hits xA_bodies vA_sizes vA_kinds vA_spelled vA_scheme u0_32 x_latestFault x_latestFinding v_foot v_feet v_lines v_words v_sizes v_kinds v_spelled v_scheme u1_32) := hD
                                  refine lv_iload_n hx hb dX6_answerOf_243 rfl (lv_at hl 4 rfl) ?_
                                  refine lv_iload hx hb dX6_answerOf_244 (lv_at hl 1 rfl) ?_
                                  obtain ⟨r_34, u0_34, u1_34, hC, hM⟩ := oe3 hM
                                  refine cV_i (As := [.int r_33, .int p2, .int (p3 + (1 : Int32))]) (rest := [.int r_32]) C0 hP hD hS [0, 1, 2, 3, 4, 5, 6] (hrec u0_32 u1_32 r_33 p2 (p3 + (1 : Int32)) H.size r_34 u0_34 u1_34 hC) rfl rfl rfl tb726 tb728 tp10 tb1 tb729 hdX6_answerOf (va_recv hK hP (ci := 6) (q0 := 0) rfl rfl) ⟨(by simp only [rmX6_answerOf, rmX6_answerOf]; omega), (by simp only [rmX6_answerOf, rmX6_answerOf]; omega)⟩ rfl hl.1 (Nat.le_of_ble_eq_true rfl) rfl ⟨Nat.le_refl _, Nat.le_refl _⟩ dX6_answerOf_246 (fun H locs hP hD hS => ?_)
                                  have hP : va_P G vwCl (WX6_answerOf K x_a xA_rows rd_a v_a d_a xA_images ac_a er_a xA_hits xA_bodies vA_sizes vA_kinds vA_spelled vA_scheme u0_34 x_latestFault x_latestFinding v_foot v_feet v_lines v_words v_sizes v_kinds v_spelled v_scheme u1_34) H := hP
                                  have hD : va_D A (WX6_answerOf K x_a xA_rows rd_a v_a d_a xA_images ac_a er_a xA_hits xA_bodies vA_sizes vA_kinds vA_spelled vA_scheme u0_34 x_latestFault x_latestFinding v_foot v_feet v_lines v_words v_sizes v_kinds v_spelled v_scheme u1_34) := hD
                                  refine lv_isub hx hb dX6_answerOf_249 ?_
                                  have t0 := Option.some.inj hM
                                  obtain ⟨q1, t1⟩ := Prod.mk.inj t0
                                  obtain ⟨q2, t2⟩ := Prod.mk.inj t1
                                  subst q1
                                  subst q2
                                  subst t2
                                  exact kr _ _ _ _ dX6_answerOf_250 hP hD hS
                                · rw [if_neg c_31] at hM
                                  by_cases c_35 : p1 = 24
                                  · rw [if_pos c_35] at hM
                                    refine lv_tableIn (off := 210) (tgt := 251) hx hb dX6_answerOf_41 (by rw [c_35]; decide) (by rw [c_35]; decide) (by rw [c_35]; decide) (by decide) ?_
                                    refine lv_iconst (v := 2) hx hb dX6_answerOf_251 (by decide) ?_
                                    refine lv_aload_n hx hb dX6_answerOf_252 rfl (lv_at hl 2 rfl) ?_
                                    refine lv_bipush (v := 21) hx hb dX6_answerOf_253 (by decide) ?_
                                    refine lv_iload_n hx hb dX6_answerOf_255 rfl (lv_at hl 4 rfl) ?_
                                    refine lv_iload hx hb dX6_answerOf_256 (lv_at hl 1 rfl) ?_
                                    obtain ⟨r_36, u0_36, u1_36, hC, hM⟩ := oe3 hM
                                    refine cV_i (As := [.int (21 : Int32), .int p2, .int (p3 + (1 : Int32))]) (rest := [.int (2 : Int32)]) C0 hP hD hS [0, 1, 2, 3, 4, 5, 6] (hrec u0_4 u1_4 (21 : Int32) p2 (p3 + (1 : Int32)) H.size r_36 u0_36 u1_36 hC) rfl rfl rfl tb726 tb728 tp10 tb1 tb729 hdX6_answerOf (va_recv hK hP (ci := 6) (q0 := 0) rfl rfl) ⟨(by simp only [rmX6_answerOf, rmX6_answerOf]; omega), (by simp only [rmX6_answerOf, rmX6_answerOf]; omega)⟩ rfl hl.1 (Nat.le_of_ble_eq_true rfl) rfl ⟨Nat.le_refl _, Nat.le_refl _⟩ dX6_answerOf_258 (fun H locs hP hD hS => ?_)
                                    have hP : va_P G vwCl (WX6_answerOf K x_a xA_rows rd_a v_a d_a xA_images ac_a er_a xA_hits xA_bodies vA_sizes vA_kinds vA_spelled vA_scheme u0_36 x_latestFault x_latestFinding v_foot v_feet v_lines v_words v_sizes v_kinds v_spelled v_scheme u1_36) H := hP
                                    have hD : va_D A (WX6_answerOf K x_a xA_rows rd_a v_a d_a xA_images ac_a er_a xA_hits xA_bodies vA_sizes vA_kinds vA_spelled vA_scheme u0_36 x_latestFault x_latestFinding v_foot v_feet v_lines v_words v_sizes v_kinds v_spelled v_scheme u1_36) := hD
                                    refine lv_imul hx hb dX6_answerOf_261 ?_
                                    have t0 := Option.some.inj hM
                                    obtain ⟨q1, t1⟩ := Prod.mk.inj t0
                                    obtain ⟨q2, t2⟩ := Prod.mk.inj t1
                                    subst q1
                                    subst q2
                                    subst t2
                                    exact kr _ _ _ _ dX6_answerOf_262 hP hD hS
                                  · rw [if_neg c_35] at hM
                                    refine lv_tableOut (tgt := 263) hx hb dX6_answerOf_41 (by have q0 : p1.toInt ≠ 10 := (fun q => c_6 (Int32.toInt_inj.mp (q.trans (by decide)))); have q1 : p1.toInt ≠ 11 := (fun q => c_9 (Int32.toInt_inj.mp (q.trans (by decide)))); have q2 : p1.toInt ≠ 12 := (fun q => c_13 (Int32.toInt_inj.mp (q.trans (by decide)))); have q3 : p1.toInt ≠ 13 := (fun q => c_15 (Int32.toInt_inj.mp (q.trans (by decide)))); have q4 : p1.toInt ≠ 14 := (fun q => c_17 (Int32.toInt_inj.mp (q.trans (by decide)))); have q5 : p1.toInt ≠ 15 := (fun q => c_19 (Int32.toInt_inj.mp (q.trans (by decide)))); have q6 : p1.toInt ≠ 16 := (fun q => c_20 (Int32.toInt_inj.mp (q.trans (by decide)))); have q7 : p1.toInt ≠ 17 := (fun q => c_21 (Int32.toInt_inj.mp (q.trans (by decide)))); have q8 : p1.toInt ≠ 18 := (fun q => c_22 (Int32.toInt_inj.mp (q.trans (by decide)))); have q9 : p1.toInt ≠ 19 := (fun q => c_23 (Int32.toInt_inj.mp (q.trans (by decide)))); have q10 : p1.toInt ≠ 20 := (fun q => c_24 (Int32.toInt_inj.mp (q.trans (by decide)))); have q11 : p1.toInt ≠ 21 := (fun q => c_25 (Int32.toInt_inj.mp (q.trans (by decide)))); have q12 : p1.toInt ≠ 22 := (fun q => c_29 (Int32.toInt_inj.mp (q.trans (by decide)))); have q13 : p1.toInt ≠ 23 := (fun q => c_31 (Int32.toInt_inj.mp (q.trans (by decide)))); have q14 : p1.toInt ≠ 24 := (fun q => c_35 (Int32.toInt_inj.mp (q.trans (by decide)))); omega) (by decide) ?_
                                    refine lv_iload_n hx hb dX6_answerOf_263 rfl (lv_at hl 4 rfl) ?_
                                    have t0 := Option.some.inj hM
                                    obtain ⟨q1, t1⟩ := Prod.mk.inj t0
                                    obtain ⟨q2, t2⟩ := Prod.mk.inj t1
                                    subst q1
                                    subst q2
                                    subst t2
                                    exact kr _ _ _ _ dX6_answerOf_264 hP hD hS
    · rw [if_pos c_3] at hM
      refine lv_iconst (v := 0) hx hb dX6_answerOf_17 (by decide) ?_
      have t0 := Option.some.inj hM
      obtain ⟨q1, t1⟩ := Prod.mk.inj t0
      obtain ⟨q2, t2⟩ := Prod.mk.inj t1
      subst q1
      subst q2
      subst t2
      exact kr _ _ _ _ dX6_answerOf_18 hP hD hS
set_option maxHeartbeats 4000000 in
set_option maxRecDepth 100000 in
theorem kX6_answerOf (l : Launch) (G : va_G) (K : Nat → ClassId) (tt : Nat → Nat) (L : List Nat) (la : Nat → Nat) (sa : Nat → Nat) (ln : Nat → Int32) (sy : Nat → Int32) (sn : Nat → Int32) (lt : Nat → Nat → Int32) (st : Nat → Nat → Int32) (x_a xA_rows rd_a v_a d_a xA_images ac_a er_a xA_hits xA_bodies vA_sizes vA_kinds vA_spelled vA_scheme : Nat) (x_latestFault : Int32) (x_latestFinding : Int32) (v_foot : Int32) (v_feet : Int32) (v_lines : Int32) (v_words : Int32) (v_sizes : Nat → Int32) (v_kinds : Nat → Int32) (v_spelled : Nat → Nat) (v_scheme : Nat → Int32) (nr : Nat) : ∀ (x_begun : Int32) (x_bodies : Nat → Int32) (p1 : Int32) (p2 : Int32) (p3 : Int32) (sz : Nat) (r : Int32) (o_x_begun : Int32) (o_x_bodies : Nat → Int32), mX6_answerOf L ln sy v_words v_kinds v_spelled nr x_begun x_bodies p1 p2 p3 = some (r, o_x_begun, o_x_bodies) → Met l yX6_answerOf (mC yX6_answerOf cX6_answerOf 6 (some .int)) (rmX6_answerOf nr) (va_Pc [.ref x_a, .int p1, .int p2, .int p3] (PCe G K (EC G K tt L la sa ln sy sn lt st) (WX6_answerOf K x_a xA_rows rd_a v_a d_a xA_images ac_a er_a xA_hits xA_bodies vA_sizes vA_kinds vA_spelled vA_scheme x_begun x_latestFault x_latestFinding v_foot v_feet v_lines v_words v_sizes v_kinds v_spelled v_scheme x_bodies) sz)) (va_Qi (fun (x : Int32) (_ : Unit) => x = r) (fun _ t => va_P G vwCl (WX6_answerOf K x_a xA_rows rd_a v_a d_a xA_images ac_a er_a xA_hits xA_bodies vA_sizes vA_kinds vA_spelled vA_scheme o_x_begun x_latestFault x_latestFinding v_foot v_feet v_lines v_words v_sizes v_kinds v_spelled v_scheme o_x_bodies) t.heap) (va_A (WX6_answerOf K x_a xA_rows rd_a v_a d_a xA_images ac_a er_a xA_hits xA_bodies vA_sizes vA_kinds vA_spelled vA_scheme x_begun x_latestFault x_latestFinding v_foot v_feet v_lines v_words v_sizes v_kinds v_spelled v_scheme x_bodies) sz)) (rmX6_answerOf nr).cells (rmX6_answerOf nr).slots (va_A (WX6_answerOf K x_a xA_rows rd_a v_a d_a xA_images ac_a er_a xA_hits xA_bodies vA_sizes vA_kinds vA_spelled vA_scheme x_begun x_latestFault x_latestFinding v_foot v_feet v_lines v_words v_sizes v_kinds v_spelled v_scheme x_bodies) sz) := by
  induction nr with
  | zero =>
    intro x_begun x_bodies p1 p2 p3 sz r o_x_begun o_x_bodies hM
    cases hM
  | succ nr ih =>
    intro x_begun x_bodies p1 p2 p3 sz r o_x_begun o_x_bodies hM
    rw [mX6_answerOf] at hM
    refine Met.ofW (cc := cX6_answerOf) (maxL := 6) (ret := (some .int)) (by decide) rfl ?_
    intro p e s m args below meth c s₁ B hml hv
    obtain ⟨rfl, hsz, hP, hK, hD0, hE⟩ := hv
    have hx := B.exec
    have hb := B.bytes
    have hr := B.returns
    have hts0 := atoms_spec (ws := mC yX6_answerOf cX6_answerOf 6 (some .int)) B.pre
    have hts : ∀ w ∈ tbG, w.before _ s = true := fun w h => hts0 w (List.mem_cons_of_mem _ h)
    have hown : s.vm.findClass RX6 = some m.cls := findClass_of_methodNamed B.named
    subst hsz
    have hD := hD0.self (sz := s.heap.size)
    generalize hAe : va_A (WX6_answerOf K x_a xA_rows rd_a v_a d_a xA_images ac_a er_a xA_hits xA_bodies vA_sizes vA_kinds vA_spelled vA_scheme x_begun x_latestFault x_latestFinding v_foot v_feet v_lines v_words v_sizes v_kinds v_spelled v_scheme x_bodies) s.heap.size = A at hD hE ⊢
    have hA : ∀ q : Nat, s.heap.size ≤ q → A q := fun q h => by rw [← hAe]; exact Or.inr h
    have hS : va_S A s.heap s.heap [] := va_S.rf
    have hl := lv_entry ([.ref x_a, .int p1, .int p2, .int p3]) (n := 6) (Nat.le_of_ble_eq_true rfl)
    rw [lg_entry_eq]
    generalize (lg_sl ([.ref x_a, .int p1, .int p2, .int p3]) ++ List.replicate (6 - (lg_sl ([.ref x_a, .int p1, .int p2, .int p3])).length) Slot.unset).toArray = ls at hl ⊢
    have hl : lv_has ls 6 [(0, .ref x_a), (1, .int p1), (2, .int p2), (3, .int p3)] := hl
    exact wX6_answerOf_b0 ⟨hx, hb, hml, hown, hts, hK, hA, EC_ok _ _ _ _ _ _ _ _ _ _ _, hE⟩ x_a xA_rows rd_a v_a d_a xA_images ac_a er_a xA_hits xA_bodies vA_sizes vA_kinds vA_spelled vA_scheme x_latestFault x_latestFinding v_foot v_feet v_lines v_words v_sizes v_kinds v_spelled v_scheme p1 p2 p3 nr (mX6_answerOf L ln sy v_words v_kinds v_spelled nr) ih r o_x_begun o_x_bodies (fun H locs ls pc hdg hP hD hS => W.iret (v := r) hx hb hr (fun t ht hW => ⟨⟨r, (), rfl, rfl, (show va_P G vwCl _ t.heap by rw [ht]; exact hP)⟩, hS.F ht⟩) hS.2.2 hdg) x_begun x_bodies  hM _ _ _ hP hD hS hl
def mX6_ask_b0 (L : List Nat) (ln : Nat → Int32) (sy : Nat → Int32) (v_words : Int32) (v_kinds : Nat → Int32) (v_spelled : Nat → Nat) (p1 : Int32) (p2 : Int32)  (x_begun : Int32) (x_bodies : Nat → Int32) : Option (Int32 × (Int32) × (Nat → Int32)) := ob1 (mX2_hasWord v_words p1) (fun r_1 => (if r_1 = 0 then some ((-1000001 : Int32), x_begun, x_bodies) else (if p2 < 0 then some ((-1000001 : Int32), x_begun, x_bodies) else (if p2 ≤ (1 : Int32) then if (p1 < 0 ∨ 20 ≤ p1.toNatClampNeg) then none else ob1 (mX6_bodyOf (v_kinds p1.toNatClampNeg) p2) (fun r_6 => ob3 (mX6_answerOf L ln sy v_words v_kinds v_spelled 40 (0 : Int32) x_bodies r_6 p1 (0 : Int32)) (fun r_7 u0_7 u1_7 => some (r_7, u0_7, u1_7))) else some ((-1000001 : Int32), x_begun, x_bodies)))))
def mX6_ask (L : List Nat) (ln : Nat → Int32) (sy : Nat → Int32) (v_words : Int32) (v_kinds : Nat → Int32) (v_spelled : Nat → Nat) (x_begun : Int32) (x_bodies : Nat → Int32) (p1 : Int32) (p2 : Int32) : Option (Int32 × (Int32) × (Nat → Int32)) := mX6_ask_b0 L ln sy v_words v_kinds v_spelled p1 p2 x_begun x_bodies 
abbrev WX6_ask (K : Nat → ClassId) (x_a xA_rows rd_a v_a d_a xA_images ac_a er_a xA_hits xA_bodies vA_sizes vA_kinds vA_spelled vA_scheme : Nat) (x_begun : Int32) (x_latestFault : Int32) (x_latestFinding : Int32) (v_foot : Int32) (v_feet : Int32) (v_lines : Int32) (v_words : Int32) (v_sizes : Nat → Int32) (v_kinds : Nat → Int32) (v_spelled : Nat → Nat) (v_scheme : Nat → Int32) (x_bodies : Nat → Int32) : va_W := [(x_a, .inr (6, [.ref xA_rows, .ref rd_a, .ref v_a, .ref d_a, .ref xA_images, .ref ac_a, .ref er_a, .ref xA_hits, .ref xA_bodies, .int x_begun, .int x_latestFault, .int x_latestFinding])), (v_a, .inr (2, [.int v_foot, .int v_feet, .int v_lines, .int v_words, .ref vA_sizes, .ref vA_kinds, .ref vA_spelled, .ref vA_scheme])), aI K vA_sizes 4 v_sizes, aI K vA_kinds 20 v_kinds, aS K vA_spelled 20 v_spelled, aI K vA_scheme 4 v_scheme, aI K xA_bodies 16 x_bodies]
def rmX6_ask : Room := { frames := 43, cells := 0, slots := 0, locals := 1686 }
theorem hdX6_ask : yX6_ask.cls = RX6 ∧ yX6_ask.cls ≠ "java/lang/invoke/MethodHandle" ∧ yX6_ask.cls ≠ "java/lang/invoke/VarHandle" ∧ (parseMethodDescriptor yX6_ask.desc).map (fun d => d.parameters.length) = some 2 := by decide +kernel
set_option maxHeartbeats 4000000 in
set_option maxRecDepth 100000 in
theorem wX6_ask_b0 {p : Program} {l : Launch} {e : Env} {s : State} {m : MethodId} {args : Array Value} {below : List Frame} {meth : Method} {c : Code} {Q : State → Prop} {G : va_G} {K : Nat → ClassId} {A : Nat → Prop} {tt : Nat → Nat} {L : List Nat} {la : Nat → Nat} {sa : Nat → Nat} {ln : Nat → Int32} {sy : Nat → Int32} {sn : Nat → Int32} {lt : Nat → Nat → Int32} {st : Nat → Nat → Int32} (C0 : CX p s m args c cX6_ask 3 RX6 G K (EC G K tt L la sa ln sy sn lt st) A) (x_a xA_rows rd_a v_a d_a xA_images ac_a er_a xA_hits xA_bodies vA_sizes vA_kinds vA_spelled vA_scheme : Nat) (x_latestFault : Int32) (x_latestFinding : Int32) (v_foot : Int32) (v_feet : Int32) (v_lines : Int32) (v_words : Int32) (v_sizes : Nat → Int32) (v_kinds : Nat → Int32) (v_spelled : Nat → Nat) (v_scheme : Nat → Int32) (p1 : Int32) (p2 : Int32) (r : Int32) (o_x_begun : Int32) (o_x_bodies : Nat → Int32) (kr : ∀ (H : Heap) (locs : List Loc) (ls : Array Slot) (pc : Nat), decode cX6_ask pc = .ok (.ireturn, 1) → va_P G vwCl (WX6_ask K x_a xA_rows rd_a v_a d_a xA_images ac_a er_a xA_hits xA_bodies vA_sizes vA_kinds vA_spelled vA_scheme o_x_begun x_latestFault x_latestFinding v_foot v_feet v_lines v_words v_sizes v_kinds v_spelled v_scheme o_x_bodies) H → va_D A (WX6_ask K x_a xA_rows rd_a v_a d_a xA_images ac_a er_a xA_hits xA_bodies vA_sizes vA_kinds vA_spelled vA_scheme o_x_begun x_latestFault x_latestFinding v_foot v_feet v_lines v_words v_sizes v_kinds v_spelled v_scheme o_x_bodies) → va_S A s.heap H locs → W p l e rmX6_ask s m args below meth c H locs 0 0 Q (F0 m pc ls [.int r])) (x_begun : Int32) (x_bodies : Nat → Int32) (hM : mX6_ask_b0 L ln sy v_words v_kinds v_spelled p1 p2  x_begun x_bodies = some (r, o_x_begun, o_x_bodies)) : ∀ (H : Heap) (locs : List Loc) (ls : Array Slot), va_P G vwCl (WX6_ask K x_a xA_rows rd_a v_a d_a xA_images ac_a er_a xA_hits xA_bodies vA_sizes vA_kinds vA_spelled vA_scheme x_begun x_latestFault x_latestFinding v_foot v_feet v_lines v_words v_sizes v_kinds v_spelled v_scheme x_bodies) H → va_D A (WX6_ask K x_a xA_rows rd_a v_a d_a xA_images ac_a er_a xA_hits xA_bodies vA_sizes vA_kinds vA_spelled vA_scheme x_begun x_latestFault x_latestFinding v_foot v_feet v_lines v_words v_sizes v_kinds v_spelled v_scheme x_bodies) → va_S A s.heap H locs → lv_has ls 3 [(0, .ref x_a), (1, .int p1), (2, .int p2)] → W p l e rmX6_ask s m args below meth c H locs 0 0 Q (F0 m 0 ls []) := by
  obtain ⟨hx, hb, hml, hown, hts, hK, hA, hEo, hE⟩ := id C0
  intro H locs ls hP hD hS hl
  unfold mX6_ask_b0 at hM
  refine lv_aload_n hx hb dX6_ask_0 rfl (lv_at hl 0 rfl) ?_
  refine va_get (D := G) (ci := 6) (v := .ref v_a) (C := RX6) (T := TX6) (N := 12) hx hb hts inX6 hown hK hP 0 rfl rfl 2 (by decide) (hts _ tb247) (fun _ h9 => h9) rfl dX6_ask_1 ?_
  refine lv_iload_n hx hb dX6_ask_4 rfl (lv_at hl 1 rfl) ?_
  obtain ⟨r_1, hC, hM⟩ := oe1 hM
  refine cV_i (As := [.int p1]) (rest := []) C0 hP hD hS [1, 2, 3, 4, 5] (kX2_hasWord l G K tt L la sa ln sy sn lt st v_a vA_sizes vA_kinds vA_spelled vA_scheme v_foot v_feet v_lines v_words v_sizes v_kinds v_spelled v_scheme p1 H.size r_1 hC) rfl rfl rfl tb432 tb415 tb416 tb7 tb417 hdX2_hasWord (va_recv hK hP (ci := 2) (q0 := 1) rfl rfl) ⟨Nat.le_of_ble_eq_true rfl, Nat.le_of_ble_eq_true rfl⟩ rfl hl.1 (Nat.le_of_ble_eq_true rfl) rfl ⟨Nat.le_refl _, Nat.le_refl _⟩ dX6_ask_5 (fun H locs hP hD hS => ?_)
  have hP : va_P G vwCl (WX6_ask K x_a xA_rows rd_a v_a d_a xA_images ac_a er_a xA_hits xA_bodies vA_sizes vA_kinds vA_spelled vA_scheme x_begun x_latestFault x_latestFinding v_foot v_feet v_lines v_words v_sizes v_kinds v_spelled v_scheme x_bodies) H := hP
  have hD : va_D A (WX6_ask K x_a xA_rows rd_a v_a d_a xA_images ac_a er_a xA_hits xA_bodies vA_sizes vA_kinds vA_spelled vA_scheme x_begun x_latestFault x_latestFinding v_foot v_feet v_lines v_words v_sizes v_kinds v_spelled v_scheme x_bodies) := hD
  refine lv_if_eq (tgt := 20) hx hb dX6_ask_8 (by decide) (fun c_2 => ?_) (fun c_2 => ?_)
  · rw [if_pos c_2] at hM
    refine lv_ldc (v := -1000001) hx hb hown (hts _ tb289) dX6_ask_20 ?_
    have t0 := Option.some.inj hM
    obtain ⟨q1, t1⟩ := Prod.mk.inj t0
    obtain ⟨q2, t2⟩ := Prod.mk.inj t1
    subst q1
    subst q2
    subst t2
    exact kr _ _ _ _ dX6_ask_22 hP hD hS
  · rw [if_neg c_2] at hM
    refine lv_iload_n hx hb dX6_ask_11 rfl (lv_at hl 2 rfl) ?_
    refine lv_if_lt (tgt := 20) hx hb dX6_ask_12 (by decide) (fun c_3 => ?_) (fun c_3 => ?_)
    · rw [if_pos c_3] at hM
      refine lv_ldc (v := -1000001) hx hb hown (hts _ tb289) dX6_ask_20 ?_
      have t0 := Option.some.inj hM
      obtain ⟨q1, t1⟩ := Prod.mk.inj t0
      obtain ⟨q2, t2⟩ := Prod.mk.inj t1
      subst q1
      subst q2
      subst t2
      exact kr _ _ _ _ dX6_ask_22 hP hD hS
    · rw [if_neg c_3] at hM
      refine lv_iload_n hx hb dX6_ask_15 rfl (lv_at hl 2 rfl) ?_
      refine lv_iconst (v := 1) hx hb dX6_ask_16 (by decide) ?_
      refine lv_icmp_le (tgt := 23) hx hb dX6_ask_17 (by decide) (fun c_4 => ?_) (fun c_4 => ?_)
      · rw [if_pos c_4] at hM
        refine lv_aload_n hx hb dX6_ask_23 rfl (lv_at hl 0 rfl) ?_
        refine lv_iconst (v := 0) hx hb dX6_ask_24 (by decide) ?_
        refine va_put (D := G) (ci := 6) (v := .int (0 : Int32)) (ty := .int) (C := RX6) (T := TX6) (N := 12) hx hb hts inX6 tyX6 tyX6_ok nmX6 hown hK hP hD hS 0 rfl rfl 9 (by decide) (hts _ tb254) (fun _ h9 => h9) rfl (tyX6_ok 9 (by decide)) rfl rfl (Nat.le_of_ble_eq_true rfl) dX6_ask_25 (fun H locs hP hD hS => ?_)
        have hP : va_P G vwCl (WX6_ask K x_a xA_rows rd_a v_a d_a xA_images ac_a er_a xA_hits xA_bodies vA_sizes vA_kinds vA_spelled vA_scheme (0 : Int32) x_latestFault x_latestFinding v_foot v_feet v_lines v_words v_sizes v_kinds v_spelled v_scheme x_bodies) H := hP
        have hD : va_D A (WX6_ask K x_a xA_rows rd_a v_a d_a xA_images ac_a er_a xA_hits xA_bodies vA_sizes vA_kinds vA_spelled vA_scheme (0 : Int32) x_latestFault x_latestFinding v_foot v_feet v_lines v_words v_sizes v_kinds v_spelled v_scheme x_bodies) := hD
        refine lv_aload_n hx hb dX6_ask_28 rfl (lv_at hl 0 rfl) ?_
        refine lv_aload_n hx hb dX6_ask_29 rfl (lv_at hl 0 rfl) ?_
        refine va_get (D := G) (ci := 6) (v := .ref v_a) (C := RX6) (T := TX6) (N := 12) hx hb hts inX6 hown hK hP 0 rfl rfl 2 (by decide) (hts _ tb247) (fun _ h9 => h9) rfl dX6_ask_30 ?_
        refine va_get (D := G) (ci := 2) (v := .ref vA_kinds) (C := RX2) (T := TX2) (N := 8) hx hb hts inX2 hown hK hP 1 rfl rfl 5 (by decide) (hts _ tb192) (fun _ h9 => h9) rfl dX6_ask_33 ?_
        refine lv_iload_n hx hb dX6_ask_36 rfl (lv_at hl 1 rfl) ?_
        obtain ⟨g_5, hM⟩ := ng hM
        refine va_iald hx hb hK hP 3 0 rfl rfl g_5 dX6_ask_37 ?_
        refine lv_iload_n hx hb dX6_ask_38 rfl (lv_at hl 2 rfl) ?_
        obtain ⟨r_6, hC, hM⟩ := oe1 hM
        refine cS_i (As := [.int (v_kinds p1.toNatClampNeg), .int p2]) (rest := [.ref x_a]) C0 hP hD hS [] (kX6_bodyOf l G K tt L la sa ln sy sn lt st (v_kinds p1.toNatClampNeg) p2 H.size r_6 hC) rfl rfl rfl tb719 tb720 tb1 tb721 hdX6_bodyOf ⟨Nat.le_of_ble_eq_true rfl, Nat.le_of_ble_eq_true rfl⟩ rfl hl.1 (Nat.le_of_ble_eq_true rfl) rfl ⟨Nat.le_refl _, Nat.le_refl _⟩ dX6_ask_39 (fun H locs hP hD hS => ?_)
        have hP : va_P G vwCl (WX6_ask K x_a xA_rows rd_a v_a d_a xA_images ac_a er_a xA_hits xA_bodies vA_sizes vA_kinds vA_spelled vA_scheme (0 : Int32) x_latestFault x_latestFinding v_foot v_feet v_lines v_words v_sizes v_kinds v_spelled v_scheme x_bodies) H := hP
        have hD : va_D A (WX6_ask K x_a xA_rows rd_a v_a d_a xA_images ac_a er_a xA_hits xA_bodies vA_sizes vA_kinds vA_spelled vA_scheme (0 : Int32) x_latestFault x_latestFinding v_foot v_feet v_lines v_words v_sizes v_kinds v_spelled v_scheme x_bodies) := hD
        refine lv_iload_n hx hb dX6_ask_42 rfl (lv_at hl 1 rfl) ?_
        refine lv_iconst (v := 0) hx hb dX6_ask_43 (by decide) ?_
        obtain ⟨r_7, u0_7, u1_7, hC, hM⟩ := oe3 hM
        refine cV_i (As := [.int r_6, .int p1, .int (0 : Int32)]) (rest := []) C0 hP hD hS [0, 1, 2, 3, 4, 5, 6] (kX6_answerOf l G K tt L la sa ln sy sn lt st x_a xA_rows rd_a v_a d_a xA_images ac_a er_a xA_hits xA_bodies vA_sizes vA_kinds vA_spelled vA_scheme x_latestFault x_latestFinding v_foot v_feet v_lines v_words v_sizes v_kinds v_spelled v_scheme 40 (0 : Int32) x_bodies r_6 p1 (0 : Int32) H.size r_7 u0_7 u1_7 hC) rfl rfl rfl tb726 tb728 tp10 tb1 tb729 hdX6_answerOf (va_recv hK hP (ci := 6) (q0 := 0) rfl rfl) ⟨Nat.le_of_ble_eq_true rfl, Nat.le_of_ble_eq_true rfl⟩ rfl hl.1 (Nat.le_of_ble_eq_true rfl) rfl ⟨Nat.le_refl _, Nat.le_refl _⟩ dX6_ask_44 (fun H locs hP hD hS => ?_)
        have hP : va_P G vwCl (WX6_ask K x_a xA_rows rd_a v_a d_a xA_images ac_a er_a xA_hits xA_bodies vA_sizes vA_kinds vA_spelled vA_scheme u0_7 x_latestFault x_latestFinding v_foot v_feet v_lines v_words v_sizes v_kinds v_spelled v_scheme u1_7) H := hP
        have hD : va_D A (WX6_ask K x_a xA_rows rd_a v_a d_a xA_images ac_a er_a xA_hits xA_bodies vA_sizes vA_kinds vA_spelled vA_scheme u0_7 x_latestFault x_latestFinding v_foot v_feet v_lines v_words v_sizes v_kinds v_spelled v_scheme u1_7) := hD
        have t0 := Option.some.inj hM
        obtain ⟨q1, t1⟩ := Prod.mk.inj t0
        obtain ⟨q2, t2⟩ := Prod.mk.inj t1
        subst q1
        subst q2
        subst t2
        exact kr _ _ _ _ dX6_ask_47 hP hD hS
      · rw [if_neg c_4] at hM
        refine lv_ldc (v := -1000001) hx hb hown (hts _ tb289) dX6_ask_20 ?_
        have t0 := Option.some.inj hM
        obtain ⟨q1, t1⟩ := Prod.mk.inj t0
        obtain ⟨q2, t2⟩ := Prod.mk.inj t1
        subst q1
        subst q2
        subst t2
        exact kr _ _ _ _ dX6_ask_22 hP hD hS
set_option maxHeartbeats 4000000 in
set_option maxRecDepth 100000 in
theorem kX6_ask (l : Launch) (G : va_G) (K : Nat → ClassId) (tt : Nat → Nat) (L : List Nat) (la : Nat → Nat) (sa : Nat → Nat) (ln : Nat → Int32) (sy : Nat → Int32) (sn : Nat → Int32) (lt : Nat → Nat → Int32) (st : Nat → Nat → Int32) (x_a xA_rows rd_a v_a d_a xA_images ac_a er_a xA_hits xA_bodies vA_sizes vA_kinds vA_spelled vA_scheme : Nat) (x_begun : Int32) (x_latestFault : Int32) (x_latestFinding : Int32) (v_foot : Int32) (v_feet : Int32) (v_lines : Int32) (v_words : Int32) (v_sizes : Nat → Int32) (v_kinds : Nat → Int32) (v_spelled : Nat → Nat) (v_scheme : Nat → Int32) (x_bodies : Nat → Int32) (p1 : Int32) (p2 : Int32) (sz : Nat) (r : Int32) (o_x_begun : Int32) (o_x_bodies : Nat → Int32) (hM : mX6_ask L ln sy v_words v_kinds v_spelled x_begun x_bodies p1 p2 = some (r, o_x_begun, o_x_bodies)) : Met l yX6_ask (mC yX6_ask cX6_ask 3 (some .int)) rmX6_ask (va_Pc [.ref x_a, .int p1, .int p2] (PCe G K (EC G K tt L la sa ln sy sn lt st) (WX6_ask K x_a xA_rows rd_a v_a d_a xA_images ac_a er_a xA_hits xA_bodies vA_sizes vA_kinds vA_spelled vA_scheme x_begun x_latestFault x_latestFinding v_foot v_feet v_lines v_words v_sizes v_kinds v_spelled v_scheme x_bodies) sz)) (va_Qi (fun (x : Int32) (_ : Unit) => x = r) (fun _ t => va_P G vwCl (WX6_ask K x_a xA_rows rd_a v_a d_a xA_images ac_a er_a xA_hits xA_bodies vA_sizes vA_kinds vA_spelled vA_scheme o_x_begun x_latestFault x_latestFinding v_foot v_feet v_lines v_words v_sizes v_kinds v_spelled v_scheme o_x_bodies) t.heap) (va_A (WX6_ask K x_a xA_rows rd_a v_a d_a xA_images ac_a er_a xA_hits xA_bodies vA_sizes vA_kinds vA_spelled vA_scheme x_begun x_latestFault x_latestFinding v_foot v_feet v_lines v_words v_sizes v_kinds v_spelled v_scheme x_bodies) sz)) rmX6_ask.cells rmX6_ask.slots (va_A (WX6_ask K x_a xA_rows rd_a v_a d_a xA_images ac_a er_a xA_hits xA_bodies vA_sizes vA_kinds vA_spelled vA_scheme x_begun x_latestFault x_latestFinding v_foot v_feet v_lines v_words v_sizes v_kinds v_spelled v_scheme x_bodies) sz) := by
  refine Met.ofW (cc := cX6_ask) (maxL := 3) (ret := (some .int)) (by decide) rfl ?_
  intro p e s m args below meth c s₁ B hml hv
  obtain ⟨rfl, hsz, hP, hK, hD0, hE⟩ := hv
  have hx := B.exec
  have hb := B.bytes
  have hr := B.returns
  have hts0 := atoms_spec (ws := mC yX6_ask cX6_ask 3 (some .int)) B.pre
  have hts : ∀ w ∈ tbG, w.before _ s = true := fun w h => hts0 w (List.mem_cons_of_mem _ h)
  have hown : s.vm.findClass RX6 = some m.cls := findClass_of_methodNamed B.named
  subst hsz
  have hD := hD0.self (sz := s.heap.size)
  generalize hAe : va_A (WX6_ask K x_a xA_rows rd_a v_a d_a xA_images ac_a er_a xA_hits xA_bodies vA_sizes vA_kinds vA_spelled vA_scheme x_begun x_latestFault x_latestFinding v_foot v_feet v_lines v_words v_sizes v_kinds v_spelled v_scheme x_bodies) s.heap.size = A at hD hE ⊢
  have hA : ∀ q : Nat, s.heap.size ≤ q → A q := fun q h => by rw [← hAe]; exact Or.inr h
  have hS : va_S A s.heap s.heap [] := va_S.rf
  have hl := lv_entry ([.ref x_a, .int p1, .int p2]) (n := 3) (Nat.le_of_ble_eq_true rfl)
  rw [lg_entry_eq]
  generalize (lg_sl ([.ref x_a, .int p1, .int p2]) ++ List.replicate (3 - (lg_sl ([.ref x_a, .int p1, .int p2])).length) Slot.unset).toArray = ls at hl ⊢
  have hl : lv_has ls 3 [(0, .ref x_a), (1, .int p1), (2, .int p2)] := hl
  exact wX6_ask_b0 ⟨hx, hb, hml, hown, hts, hK, hA, EC_ok _ _ _ _ _ _ _ _ _ _ _, hE⟩ x_a xA_rows rd_a v_a d_a xA_images ac_a er_a xA_hits xA_bodies vA_sizes vA_kinds vA_spelled vA_scheme x_latestFault x_latestFinding v_foot v_feet v_lines v_words v_sizes v_kinds v_spelled v_scheme p1 p2 r o_x_begun o_x_bodies (fun H locs ls pc hdg hP hD hS => W.iret (v := r) hx hb hr (fun t ht hW => ⟨⟨r, (), rfl, rfl, (show va_P G vwCl _ t.heap by rw [ht]; exact hP)⟩, hS.F ht⟩) hS.2.2 hdg) x_begun x_bodies  hM _ _ _ hP hD hS hl
def mX6_rowsThere_b4 (x_lane : Nat → Int32)  : Nat → Int32 → Int32 → Option (Int32)
  | 0, _, _ => none
  | n + 1, x1, x2 => (if (8 : Int32) ≤ x2 then some x1 else if (x2 < 0 ∨ 8 ≤ x2.toNatClampNeg) then none else if (8 ≤ x2.toNatClampNeg) then none else ob1 (mX4_isMissing (x_lane x2.toNatClampNeg)) (fun r_3 => (if r_3 = 0 then mX6_rowsThere_b4 x_lane  n (x1 + 1) (x2 + 1) else mX6_rowsThere_b4 x_lane  n x1 (x2 + 1))))
def mX6_rowsThere_b0 (x_lane : Nat → Int32)   : Option (Int32) := mX6_rowsThere_b4 x_lane  FU (0 : Int32) (0 : Int32)
def mX6_rowsThere (x_lane : Nat → Int32) : Option (Int32) := mX6_rowsThere_b0 x_lane  
abbrev WX6_rowsThere (K : Nat → ClassId) (x_a xA_rows rd_a v_a d_a xA_images ac_a er_a xA_hits xA_bodies : Nat) (x_ra x_rb : Nat → Nat) (x_begun : Int32) (x_latestFault : Int32) (x_latestFinding : Int32) (x_lane : Nat → Int32) (x_rsz : Nat → Int32) (x_item : Nat → Nat → Int32) : va_W := ([(x_a, .inr (6, [.ref xA_rows, .ref rd_a, .ref v_a, .ref d_a, .ref xA_images, .ref ac_a, .ref er_a, .ref xA_hits, .ref xA_bodies, .int x_begun, .int x_latestFault, .int x_latestFinding])), aR K xA_rows 8 x_ra] ++ wrs K x_ra x_rb x_lane x_rsz x_item)
def rmX6_rowsThere : Room := { frames := 1, cells := 0, slots := 0, locals := 20 }
theorem hdX6_rowsThere : yX6_rowsThere.cls = RX6 ∧ yX6_rowsThere.cls ≠ "java/lang/invoke/MethodHandle" ∧ yX6_rowsThere.cls ≠ "java/lang/invoke/VarHandle" ∧ (parseMethodDescriptor yX6_rowsThere.desc).map (fun d => d.parameters.length) = some 0 := by decide +kernel
set_option maxHeartbeats 4000000 in
set_option maxRecDepth 100000 in
theorem wX6_rowsThere_b4 {p : Program} {l : Launch} {e : Env} {s : State} {m : MethodId} {args : Array Value} {below : List Frame} {meth : Method} {c : Code} {Q : State → Prop} {G : va_G} {K : Nat → ClassId} {A : Nat → Prop} {tt : Nat → Nat} {L : List Nat} {la : Nat → Nat} {sa : Nat → Nat} {ln : Nat → Int32} {sy : Nat → Int32} {sn : Nat → Int32} {lt : Nat → Nat → Int32} {st : Nat → Nat → Int32} (C0 : CX p s m args c cX6_rowsThere 3 RX6 G K (EC G K tt L la sa ln sy sn lt st) A) (x_a xA_rows rd_a v_a d_a xA_images ac_a er_a xA_hits xA_bodies : Nat) (x_ra x_rb : Nat → Nat) (x_begun : Int32) (x_latestFault : Int32) (x_latestFinding : Int32) (x_lane : Nat → Int32) (x_rsz : Nat → Int32) (x_item : Nat → Nat → Int32)  (r : Int32)  (kr : ∀ (H : Heap) (locs : List Loc) (ls : Array Slot) (pc : Nat), decode cX6_rowsThere pc = .ok (.ireturn, 1) → va_P G vwCl (WX6_rowsThere K x_a xA_rows rd_a v_a d_a xA_images ac_a er_a xA_hits xA_bodies x_ra x_rb x_begun x_latestFault x_latestFinding x_lane x_rsz x_item) H → va_D A (WX6_rowsThere K x_a xA_rows rd_a v_a d_a xA_images ac_a er_a xA_hits xA_bodies x_ra x_rb x_begun x_latestFault x_latestFinding x_lane x_rsz x_item) → va_S A s.heap H locs → W p l e rmX6_rowsThere s m args below meth c H locs 0 0 Q (F0 m pc ls [.int r])) (n : Nat) : ∀ (x1 : Int32) (x2 : Int32), mX6_rowsThere_b4 x_lane  n x1 x2 = some r → ∀ (H : Heap) (locs : List Loc) (ls : Array Slot), va_P G vwCl (WX6_rowsThere K x_a xA_rows rd_a v_a d_a xA_images ac_a er_a xA_hits xA_bodies x_ra x_rb x_begun x_latestFault x_latestFinding x_lane x_rsz x_item) H → va_D A (WX6_rowsThere K x_a xA_rows rd_a v_a d_a xA_images ac_a er_a xA_hits xA_bodies x_ra x_rb x_begun x_latestFault x_latestFinding x_lane x_rsz x_item) → va_S A s.heap H locs → lv_has ls 3 [(0, .ref x_a), (1, .int x1), (2, .int x2)] → W p l e rmX6_rowsThere s m args below meth c H locs 0 0 Q (F0 m 4 ls []) := by
  obtain ⟨hx, hb, hml, hown, hts, hK, hA, hEo, hE⟩ := id C0
  induction n with
  | zero =>
    intro x1 x2 hM
    cases hM
  | succ n ih =>
    intro x1 x2 hM H locs ls hP hD hS hl
    rw [mX6_rowsThere_b4] at hM
    refine lv_iload_n hx hb dX6_rowsThere_4 rfl (lv_at hl 2 rfl) ?_
    refine lv_bipush (v := 8) hx hb dX6_rowsThere_5 (by decide) ?_
    refine lv_icmp_ge (tgt := 31) hx hb dX6_rowsThere_7 (by decide) (fun c_1 => ?_) (fun c_1 => ?_)
    · rw [if_pos c_1] at hM
      refine lv_iload_n hx hb dX6_rowsThere_31 rfl (lv_at hl 1 rfl) ?_
      have q1 := Option.some.inj hM
      subst q1
      exact kr _ _ _ _ dX6_rowsThere_32 hP hD hS
    · rw [if_neg c_1] at hM
      refine lv_aload_n hx hb dX6_rowsThere_10 rfl (lv_at hl 0 rfl) ?_
      refine va_get (D := G) (ci := 6) (v := .ref xA_rows) (C := RX6) (T := TX6) (N := 12) hx hb hts inX6 hown hK hP 0 rfl rfl 0 (by decide) (hts _ tb245) (fun _ h9 => h9) rfl dX6_rowsThere_11 ?_
      refine lv_iload_n hx hb dX6_rowsThere_14 rfl (lv_at hl 2 rfl) ?_
      obtain ⟨g_2, hM⟩ := ng hM
      refine va_aldq hx hb hK hP 1 3 rfl rfl g_2 dX6_rowsThere_15 ?_
      show W p l e rmX6_rowsThere s m args below meth c H locs 0 0 Q (F0 m 16 ls [.ref (x_ra x2.toNatClampNeg)])
      obtain ⟨g_4, hM⟩ := ng hM
      obtain ⟨r_3, hC, hM⟩ := oe1 hM
      refine cV_i (As := []) (rest := []) C0 hP hD hS ([] ++ [2 + x2.toNatClampNeg, 2 + (8 + x2.toNatClampNeg)]) (kX4_isMissing l G K tt L la sa ln sy sn lt st (x_ra x2.toNatClampNeg) (x_rb x2.toNatClampNeg) (x_lane x2.toNatClampNeg) (x_rsz x2.toNatClampNeg) (x_item x2.toNatClampNeg) H.size r_3 hC) (co_dec (N := 8) (P := fun i => va_nd ([] ++ [2 + i, 2 + (8 + i)]) = true) (by decide) (Nat.lt_of_not_le g_4)) (wr_hC (len := 2) (wsS := []) rfl (Nat.lt_of_not_le g_4) rfl) rfl tb303 tb304 tb305 tb6 tb306 hdX4_isMissing (va_recv hK hP (ci := 4) (q0 := 2 + x2.toNatClampNeg) rfl (wr_o rfl (Nat.lt_of_not_le g_4))) ⟨Nat.le_of_ble_eq_true rfl, Nat.le_of_ble_eq_true rfl⟩ rfl hl.1 (Nat.le_of_ble_eq_true rfl) rfl ⟨Nat.le_refl _, Nat.le_refl _⟩ dX6_rowsThere_16 (fun H locs hP hD hS => ?_)
      have hP : va_P G vwCl (WX6_rowsThere K x_a xA_rows rd_a v_a d_a xA_images ac_a er_a xA_hits xA_bodies x_ra x_rb x_begun x_latestFault x_latestFinding x_lane x_rsz x_item) H := Eq.mp (congrArg (fun w => va_P G vwCl w H) (wr_keep2 (pre := [(x_a, .inr (6, [.ref xA_rows, .ref rd_a, .ref v_a, .ref d_a, .ref xA_images, .ref ac_a, .ref er_a, .ref xA_hits, .ref xA_bodies, .int x_begun, .int x_latestFault, .int x_latestFinding])), aR K xA_rows 8 x_ra]) (K := K) (ra := x_ra) (rb := x_rb) (lane := x_lane) (rsz := x_rsz) (item := x_item) (len := 2) rfl (Nat.lt_of_not_le g_4))) hP
      have hD : va_D A (WX6_rowsThere K x_a xA_rows rd_a v_a d_a xA_images ac_a er_a xA_hits xA_bodies x_ra x_rb x_begun x_latestFault x_latestFinding x_lane x_rsz x_item) := Eq.mp (congrArg (fun w => va_D A w) (wr_keep2 (pre := [(x_a, .inr (6, [.ref xA_rows, .ref rd_a, .ref v_a, .ref d_a, .ref xA_images, .ref ac_a, .ref er_a, .ref xA_hits, .ref xA_bodies, .int x_begun, .int x_latestFault, .int x_latestFinding])), aR K xA_rows 8 x_ra]) (K := K) (ra := x_ra) (rb := x_rb) (lane := x_lane) (rsz := x_rsz) (item := x_item) (len := 2) rfl (Nat.lt_of_not_le g_4))) hD
      refine lv_if_ne (tgt := 25) hx hb dX6_rowsThere_19 (by decide) (fun c_5 => ?_) (fun c_5 => ?_)
      · rw [if_neg c_5] at hM
        refine lv_iinc (v := (x2 + 1)) (lv' := [(2, .int (x2 + 1)), (0, .ref x_a), (1, .int x1)]) hx hb dX6_rowsThere_25 hl (k := 2) rfl rfl (by decide) rfl (fun ls hl => ?_)
        refine lv_goto (tgt := 4) hx hb dX6_rowsThere_28 (by decide) ?_
        exact ih x1 (x2 + 1) hM _ _ _ hP hD hS (lv_sub hl [1, 2, 0] rfl)
      · rw [if_pos c_5] at hM
        refine lv_iinc (v := (x1 + 1)) (lv' := [(1, .int (x1 + 1)), (0, .ref x_a), (2, .int x2)]) hx hb dX6_rowsThere_22 hl (k := 1) rfl rfl (by decide) rfl (fun ls hl => ?_)
        refine lv_iinc (v := (x2 + 1)) (lv' := [(2, .int (x2 + 1)), (1, .int (x1 + 1)), (0, .ref x_a)]) hx hb dX6_rowsThere_25 hl (k := 2) rfl rfl (by decide) rfl (fun ls hl => ?_)
        refine lv_goto (tgt := 4) hx hb dX6_rowsThere_28 (by decide) ?_
        exact ih (x1 + 1) (x2 + 1) hM _ _ _ hP hD hS (lv_sub hl [2, 1, 0] rfl)
set_option maxHeartbeats 4000000 in
set_option maxRecDepth 100000 in
theorem wX6_rowsThere_b0 {p : Program} {l : Launch} {e : Env} {s : State} {m : MethodId} {args : Array Value} {below : List Frame} {meth : Method} {c : Code} {Q : State → Prop} {G : va_G} {K : Nat → ClassId} {A : Nat → Prop} {tt : Nat → Nat} {L : List Nat} {la : Nat → Nat} {sa : Nat → Nat} {ln : Nat → Int32} {sy : Nat → Int32} {sn : Nat → Int32} {lt : Nat → Nat → Int32} {st : Nat → Nat → Int32} (C0 : CX p s m args c cX6_rowsThere 3 RX6 G K (EC G K tt L la sa ln sy sn lt st) A) (x_a xA_rows rd_a v_a d_a xA_images ac_a er_a xA_hits xA_bodies : Nat) (x_ra x_rb : Nat → Nat) (x_begun : Int32) (x_latestFault : Int32) (x_latestFinding : Int32) (x_lane : Nat → Int32) (x_rsz : Nat → Int32) (x_item : Nat → Nat → Int32)  (r : Int32)  (kr : ∀ (H : Heap) (locs : List Loc) (ls : Array Slot) (pc : Nat), decode cX6_rowsThere pc = .ok (.ireturn, 1) → va_P G vwCl (WX6_rowsThere K x_a xA_rows rd_a v_a d_a xA_images ac_a er_a xA_hits xA_bodies x_ra x_rb x_begun x_latestFault x_latestFinding x_lane x_rsz x_item) H → va_D A (WX6_rowsThere K x_a xA_rows rd_a v_a d_a xA_images ac_a er_a xA_hits xA_bodies x_ra x_rb x_begun x_latestFault x_latestFinding x_lane x_rsz x_item) → va_S A s.heap H locs → W p l e rmX6_rowsThere s m args below meth c H locs 0 0 Q (F0 m pc ls [.int r]))  (hM : mX6_rowsThere_b0 x_lane   = some r) : ∀ (H : Heap) (locs : List Loc) (ls : Array Slot), va_P G vwCl (WX6_rowsThere K x_a xA_rows rd_a v_a d_a xA_images ac_a er_a xA_hits xA_bodies x_ra x_rb x_begun x_latestFault x_latestFinding x_lane x_rsz x_item) H → va_D A (WX6_rowsThere K x_a xA_rows rd_a v_a d_a xA_images ac_a er_a xA_hits xA_bodies x_ra x_rb x_begun x_latestFault x_latestFinding x_lane x_rsz x_item) → va_S A s.heap H locs → lv_has ls 3 [(0, .ref x_a)] → W p l e rmX6_rowsThere s m args below meth c H locs 0 0 Q (F0 m 0 ls []) := by
  obtain ⟨hx, hb, hml, hown, hts, hK, hA, hEo, hE⟩ := id C0
  intro H locs ls hP hD hS hl
  unfold mX6_rowsThere_b0 at hM
  refine lv_iconst (v := 0) hx hb dX6_rowsThere_0 (by decide) ?_
  refine lv_istore_n (lv' := [(1, .int (0 : Int32)), (0, .ref x_a)]) hx hb dX6_rowsThere_1 rfl hl (by decide) rfl (fun ls hl => ?_)
  refine lv_iconst (v := 0) hx hb dX6_rowsThere_2 (by decide) ?_
  refine lv_istore_n (lv' := [(2, .int (0 : Int32)), (1, .int (0 : Int32)), (0, .ref x_a)]) hx hb dX6_rowsThere_3 rfl hl (by decide) rfl (fun ls hl => ?_)
  exact wX6_rowsThere_b4 C0 x_a xA_rows rd_a v_a d_a xA_images ac_a er_a xA_hits xA_bodies x_ra x_rb x_begun x_latestFault x_latestFinding x_lane x_rsz x_item r kr  FU (0 : Int32) (0 : Int32) hM _ _ _ hP hD hS (lv_sub hl [2, 1, 0] rfl)
set_option maxHeartbeats 4000000 in
set_option maxRecDepth 100000 in
theorem kX6_rowsThere (l : Launch) (G : va_G) (K : Nat → ClassId) (tt : Nat → Nat) (L : List Nat) (la : Nat → Nat) (sa : Nat → Nat) (ln : Nat → Int32) (sy : Nat → Int32) (sn : Nat → Int32) (lt : Nat → Nat → Int32) (st : Nat → Nat → Int32) (x_a xA_rows rd_a v_a d_a xA_images ac_a er_a xA_hits xA_bodies : Nat) (x_ra x_rb : Nat → Nat) (x_begun : Int32) (x_latestFault : Int32) (x_latestFinding : Int32) (x_lane : Nat → Int32) (x_rsz : Nat → Int32) (x_item : Nat → Nat → Int32)  (sz : Nat) (r : Int32)  (hM : mX6_rowsThere x_lane = some r) : Met l yX6_rowsThere (mC yX6_rowsThere cX6_rowsThere 3 (some .int)) rmX6_rowsThere (va_Pc [.ref x_a] (PCe G K (EC G K tt L la sa ln sy sn lt st) (WX6_rowsThere K x_a xA_rows rd_a v_a d_a xA_images ac_a er_a xA_hits xA_bodies x_ra x_rb x_begun x_latestFault x_latestFinding x_lane x_rsz x_item) sz)) (va_Qi (fun (x : Int32) (_ : Unit) => x = r) (fun _ t => va_P G vwCl (WX6_rowsThere K x_a xA_rows rd_a v_a d_a xA_images ac_a er_a xA_hits xA_bodies x_ra x_rb x_begun x_latestFault x_latestFinding x_lane x_rsz x_item) t.heap) (va_A (WX6_rowsThere K x_a xA_rows rd_a v_a d_a xA_images ac_a er_a xA_hits xA_bodies x_ra x_rb x_begun x_latestFault x_latestFinding x_lane x_rsz x_item) sz)) rmX6_rowsThere.cells rmX6_rowsThere.slots (va_A (WX6_rowsThere K x_a xA_rows rd_a v_a d_a xA_images ac_a er_a xA_hits xA_bodies x_ra x_rb x_begun x_latestFault x_latestFinding x_lane x_rsz x_item) sz) := by
  refine Met.ofW (cc := cX6_rowsThere) (maxL := 3) (ret := (some .int)) (by decide) rfl ?_
  intro p e s m args below meth c s₁ B hml hv
  obtain ⟨rfl, hsz, hP, hK, hD0, hE⟩ := hv
  have hx := B.exec
  have hb := B.bytes
  have hr := B.returns
  have hts0 := atoms_spec (ws := mC yX6_rowsThere cX6_rowsThere 3 (some .int)) B.pre
  have hts : ∀ w ∈ tbG, w.before _ s = true := fun w h => hts0 w (List.mem_cons_of_mem _ h)
  have hown : s.vm.findClass RX6 = some m.cls := findClass_of_methodNamed B.named
  subst hsz
  have hD := hD0.self (sz := s.heap.size)
  generalize hAe : va_A (WX6_rowsThere K x_a xA_rows rd_a v_a d_a xA_images ac_a er_a xA_hits xA_bodies x_ra x_rb x_begun x_latestFault x_latestFinding x_lane x_rsz x_item) s.heap.size = A at hD hE ⊢
  have hA : ∀ q : Nat, s.heap.size ≤ q → A q := fun q h => by rw [← hAe]; exact Or.inr h
  have hS : va_S A s.heap s.heap [] := va_S.rf
  have hl := lv_entry ([.ref x_a]) (n := 3) (Nat.le_of_ble_eq_true rfl)
  rw [lg_entry_eq]
  generalize (lg_sl ([.ref x_a]) ++ List.replicate (3 - (lg_sl ([.ref x_a])).length) Slot.unset).toArray = ls at hl ⊢
  have hl : lv_has ls 3 [(0, .ref x_a)] := hl
  exact wX6_rowsThere_b0 ⟨hx, hb, hml, hown, hts, hK, hA, EC_ok _ _ _ _ _ _ _ _ _ _ _, hE⟩ x_a xA_rows rd_a v_a d_a xA_images ac_a er_a xA_hits xA_bodies x_ra x_rb x_begun x_latestFault x_latestFinding x_lane x_rsz x_item r (fun H locs ls pc hdg hP hD hS => W.iret (v := r) hx hb hr (fun t ht hW => ⟨⟨r, (), rfl, rfl, (show va_P G vwCl _ t.heap by rw [ht]; exact hP)⟩, hS.F ht⟩) hS.2.2 hdg)   hM _ _ _ hP hD hS hl
