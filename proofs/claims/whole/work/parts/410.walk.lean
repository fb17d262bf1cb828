def mX6_row_b0 (p1 : Int32) (p2 : Int32) (p3 : Int32)  (x_latestFinding : Int32) (x_lane : Nat → Int32) (x_rsz : Nat → Int32) (x_item : Nat → Nat → Int32) : Option (Int32 × (Int32) × (Nat → Int32) × (Nat → Int32) × (Nat → Nat → Int32)) := ob1 (mX6_isRow p1) (fun r_1 => (if r_1 = 0 then some ((-1000001 : Int32), x_latestFinding, x_lane, x_rsz, x_item) else (if p2 < 0 then some ((-1000001 : Int32), x_latestFinding, x_lane, x_rsz, x_item) else (if (3 : Int32) ≤ p2 then some ((-1000001 : Int32), x_latestFinding, x_lane, x_rsz, x_item) else (if p3 ≤ (40 : Int32) then (if 0 ≤ p3 then if (p1 < 0 ∨ 8 ≤ p1.toNatClampNeg) then none else if (8 ≤ p1.toNatClampNeg) then none else ob3 (mX4_begin (x_lane p1.toNatClampNeg) (x_rsz p1.toNatClampNeg) (x_item p1.toNatClampNeg) p2 p3) (fun u0_8 u1_8 u2_8 => some (p3, (0 : Int32), (va_up x_lane p1.toNatClampNeg u0_8), (va_up x_rsz p1.toNatClampNeg u1_8), (va_up x_item p1.toNatClampNeg u2_8))) else ob2 (mX6_found x_latestFinding (4 : Int32)) (fun r_10 u0_10 => some (r_10, u0_10, x_lane, x_rsz, x_item))) else some ((-1000001 : Int32), x_latestFinding, x_lane, x_rsz, x_item))))))
def mX6_row (x_latestFinding : Int32) (x_lane : Nat → Int32) (x_rsz : Nat → Int32) (x_item : Nat → Nat → Int32) (p1 : Int32) (p2 : Int32) (p3 : Int32) : Option (Int32 × (Int32) × (Nat → Int32) × (Nat → Int32) × (Nat → Nat → Int32)) := mX6_row_b0 p1 p2 p3 x_latestFinding x_lane x_rsz x_item 
abbrev WX6_row (K : Nat → ClassId) (x_a xA_rows rd_a v_a d_a xA_images ac_a er_a xA_hits xA_bodies : Nat) (x_ra x_rb : Nat → Nat) (x_begun : Int32) (x_latestFault : Int32) (x_latestFinding : Int32) (x_lane : Nat → Int32) (x_rsz : Nat → Int32) (x_item : Nat → Nat → Int32) : va_W := ([(x_a, .inr (6, [.ref xA_rows, .ref rd_a, .ref v_a, .ref d_a, .ref xA_images, .ref ac_a, .ref er_a, .ref xA_hits, .ref xA_bodies, .int x_begun, .int x_latestFault, .int x_latestFinding])), aR K xA_rows 8 x_ra] ++ wrs K x_ra x_rb x_lane x_rsz x_item)
def rmX6_row : Room := { frames := 1, cells := 0, slots := 0, locals := 23 }
theorem hdX6_row : yX6_row.cls = RX6 ∧ yX6_row.cls ≠ "java/lang/invoke/MethodHandle" ∧ yX6_row.cls ≠ "java/lang/invoke/VarHandle" ∧ (parseMethodDescriptor yX6_row.desc).map (fun d => d.parameters.length) = some 3 := by decide +kernel
set_option maxHeartbeats 4000000 in
set_option maxRecDepth 100000 in
theorem wX6_row_b0 {p : Program} {l : Launch} {e : Env} {s : State} {m : MethodId} {args : Array Value} {below : List Frame} {meth : Method} {c : Code} {Q : State → Prop} {G : va_G} {K : Nat → ClassId} {A : Nat → Prop} {tt : Nat → Nat} {L : List Nat} {la : Nat → Nat} {sa : Nat → Nat} {ln : Nat → Int32} {sy : Nat → Int32} {sn : Nat → Int32} {lt : Nat → Nat → Int32} {st : Nat → Nat → Int32} (C0 : CX p s m args c cX6_row 4 RX6 G K (EC G K tt L la sa ln sy sn lt st) A) (x_a xA_rows rd_a v_a d_a xA_images ac_a er_a xA_hits xA_bodies : Nat) (x_ra x_rb : Nat → Nat) (x_begun : Int32) (x_latestFault : Int32) (p1 : Int32) (p2 : Int32) (p3 : Int32) (r : Int32) (o_x_latestFinding : Int32) (o_x_lane : Nat → Int32) (o_x_rsz : Nat → Int32) (o_x_item : Nat → Nat → Int32) (kr : ∀ (H : Heap) (locs : List Loc) (ls : Array Slot) (pc : Nat), decode cX6_row pc = .ok (.ireturn, 1) → va_P G vwCl (WX6_row K x_a xA_rows rd_a v_a d_a xA_images ac_a er_a xA_hits xA_bodies x_ra x_rb x_begun x_latestFault o_x_latestFinding o_x_lane o_x_rsz o_x_item) H → va_D A (WX6_row K x_a xA_rows rd_a v_a d_a xA_images ac_a er_a xA_hits xA_bodies x_ra x_rb x_begun x_latestFault o_x_latestFinding o_x_lane o_x_rsz o_x_item) → va_S A s.heap H locs → W p l e rmX6_row s m args below meth c H locs 0 0 Q (F0 m pc ls [.int r])) (x_latestFinding : Int32) (x_lane : Nat → Int32) (x_rsz : Nat → Int32) (x_item : Nat → Nat → Int32) (hM : mX6_row_b0 p1 p2 p3  x_latestFinding x_lane x_rsz x_item = some (r, o_x_latestFinding, o_x_lane, o_x_rsz, o_x_item)) : ∀ (H : Heap) (locs : List Loc) (ls : Array Slot), va_P G vwCl (WX6_row K x_a xA_rows rd_a v_a d_a xA_images ac_a er_a xA_hits xA_bodies x_ra x_rb x_begun x_latestFault x_latestFinding x_lane x_rsz x_item) H → va_D A (WX6_row K x_a xA_rows rd_a v_a d_a xA_images ac_a er_a xA_hits xA_bodies x_ra x_rb x_begun x_latestFault x_latestFinding x_lane x_rsz x_item) → va_S A s.heap H locs → lv_has ls 4 [(0, .ref x_a), (1, .int p1), (2, .int p2), (3, .int p3)] → W p l e rmX6_row s m args below meth c H locs 0 0 Q (F0 m 0 ls []) := by
  obtain ⟨hx, hb, hml, hown, hts, hK, hA, hEo, hE⟩ := id C0
  intro H locs ls hP hD hS hl
  unfold mX6_row_b0 at hM
  refine lv_iload_n hx hb dX6_row_0 rfl (lv_at hl 1 rfl) ?_
  obtain ⟨r_1, hC, hM⟩ := oe1 hM
  refine cS_i (As := [.int p1]) (rest := []) C0 hP hD hS [] (kX6_isRow l G K tt L la sa ln sy sn lt st p1 H.size r_1 hC) rfl rfl rfl tb286 tb287 tb1 tb288 hdX6_isRow ⟨Nat.le_of_ble_eq_true rfl, Nat.le_of_ble_eq_true rfl⟩ rfl hl.1 (Nat.le_of_ble_eq_true rfl) rfl ⟨Nat.le_refl _, Nat.le_refl _⟩ dX6_row_1 (fun H locs hP hD hS => ?_)
  have hP : va_P G vwCl (WX6_row K x_a xA_rows rd_a v_a d_a xA_images ac_a er_a xA_hits xA_bodies x_ra x_rb x_begun x_latestFault x_latestFinding x_lane x_rsz x_item) H := hP
  have hD : va_D A (WX6_row K x_a xA_rows rd_a v_a d_a xA_images ac_a er_a xA_hits xA_bodies x_ra x_rb x_begun x_latestFault x_latestFinding x_lane x_rsz x_item) := hD
  refine lv_if_eq (tgt := 22) hx hb dX6_row_4 (by decide) (fun c_2 => ?_) (fun c_2 => ?_)
  · rw [if_pos c_2] at hM
    refine lv_ldc (v := -1000001) hx hb hown (hts _ tb289) dX6_row_22 ?_
    have t0 := Option.some.inj hM
    obtain ⟨q1, t1⟩ := Prod.mk.inj t0
    obtain ⟨q2, t2⟩ := Prod.mk.inj t1
    obtain ⟨q3, t3⟩ := Prod.mk.inj t2
    obtain ⟨q4, t4⟩ := Prod.mk.inj t3
    subst q1
    subst q2
    subst q3
    subst q4
    subst t4
    exact kr _ _ _ _ dX6_row_24 hP hD hS
  · rw [if_neg c_2] at hM
    refine lv_iload_n hx hb dX6_row_7 rfl (lv_at hl 2 rfl) ?_
    refine lv_if_lt (tgt := 22) hx hb dX6_row_8 (by decide) (fun c_3 => ?_) (fun c_3 => ?_)
    · rw [if_pos c_3] at hM
      refine lv_ldc (v := -1000001) hx hb hown (hts _ tb289) dX6_row_22 ?_
      have t0 := Option.some.inj hM
      obtain ⟨q1, t1⟩ := Prod.mk.inj t0
      obtain ⟨q2, t2⟩ := Prod.mk.inj t1
      obtain ⟨q3, t3⟩ := Prod.mk.inj t2
      obtain ⟨q4, t4⟩ := Prod.mk.inj t3
      subst q1
      subst q2
      subst q3
      subst q4
      subst t4
      exact kr _ _ _ _ dX6_row_24 hP hD hS
    · rw [if_neg c_3] at hM
      refine lv_iload_n hx hb dX6_row_11 rfl (lv_at hl 2 rfl) ?_
      refine lv_iconst (v := 3) hx hb dX6_row_12 (by decide) ?_
      refine lv_icmp_ge (tgt := 22) hx hb dX6_row_13 (by decide) (fun c_4 => ?_) (fun c_4 => ?_)
      · rw [if_pos c_4] at hM
        refine lv_ldc (v := -1000001) hx hb hown (hts _ tb289) dX6_row_22 ?_
        have t0 := Option.some.inj hM
        obtain ⟨q1, t1⟩ := Prod.mk.inj t0
        obtain ⟨q2, t2⟩ := Prod.mk.inj t1
        obtain ⟨q3, t3⟩ := Prod.mk.inj t2
        obtain ⟨q4, t4⟩ := Prod.mk.inj t3
        subst q1
        subst q2
        subst q3
        subst q4
        subst t4
        exact kr _ _ _ _ dX6_row_24 hP hD hS
      · rw [if_neg c_4] at hM
        refine lv_iload_n hx hb dX6_row_16 rfl (lv_at hl 3 rfl) ?_
        refine lv_bipush (v := 40) hx hb dX6_row_17 (by decide) ?_
        refine lv_icmp_le (tgt := 25) hx hb dX6_row_19 (by decide) (fun c_5 => ?_) (fun c_5 => ?_)
        · rw [if_pos c_5] at hM
          refine lv_iload_n hx hb dX6_row_25 rfl (lv_at hl 3 rfl) ?_
          refine lv_if_ge (tgt := 35) hx hb dX6_row_26 (by decide) (fun c_6 => ?_) (fun c_6 => ?_)
          · rw [if_pos c_6] at hM
            refine lv_aload_n hx hb dX6_row_35 rfl (lv_at hl 0 rfl) ?_
            refine lv_iconst (v := 0) hx hb dX6_row_36 (by decide) ?_
            refine va_put (D := G) (ci := 6) (v := .int (0 : Int32)) (ty := .int) (C := RX6) (T := TX6) (N := 12) hx hb hts inX6 tyX6 tyX6_ok nmX6 hown hK hP hD hS 0 rfl rfl 11 (by decide) (hts _ tb256) (fun _ h9 => h9) rfl (tyX6_ok 11 (by decide)) rfl rfl (Nat.le_of_ble_eq_true rfl) dX6_row_37 (fun H locs hP hD hS => ?_)
            have hP : va_P G vwCl (WX6_row K x_a xA_rows rd_a v_a d_a xA_images ac_a er_a xA_hits xA_bodies x_ra x_rb x_begun x_latestFault (0 : Int32) x_lane x_rsz x_item) H := hP
            have hD : va_D A (WX6_row K x_a xA_rows rd_a v_a d_a xA_images ac_a er_a xA_hits xA_bodies x_ra x_rb x_begun x_latestFault (0 : Int32) x_lane x_rsz x_item) := hD
            refine lv_aload_n hx hb dX6_row_40 rfl (lv_at hl 0 rfl) ?_
            refine va_get (D := G) (ci := 6) (v := .ref xA_rows) (C := RX6) (T := TX6) (N := 12) hx hb hts inX6 hown hK hP 0 rfl rfl 0 (by decide) (hts _ tb245) (fun _ h9 => h9) rfl dX6_row_41 ?_
            refine lv_iload_n hx hb dX6_row_44 rfl (lv_at hl 1 rfl) ?_
            obtain ⟨g_7, hM⟩ := ng hM
            refine va_aldq hx hb hK hP 1 3 rfl rfl g_7 dX6_row_45 ?_
            show W p l e rmX6_row s m args below meth c H locs 0 0 Q (F0 m 46 ls [.ref (x_ra p1.toNatClampNeg)])
            refine lv_iload_n hx hb dX6_row_46 rfl (lv_at hl 2 rfl) ?_
            refine lv_iload_n hx hb dX6_row_47 rfl (lv_at hl 3 rfl) ?_
            obtain ⟨g_9, hM⟩ := ng hM
            obtain ⟨u0_8, u1_8, u2_8, hC, hM⟩ := oe3 hM
            refine cV_v (As := [.int p2, .int p3]) (rest := []) C0 hP hD hS ([] ++ [2 + p1.toNatClampNeg, 2 + (8 + p1.toNatClampNeg)]) (kX4_begin l G K tt L la sa ln sy sn lt st (x_ra p1.toNatClampNeg) (x_rb p1.toNatClampNeg) (x_lane p1.toNatClampNeg) (x_rsz p1.toNatClampNeg) (x_item p1.toNatClampNeg) p2 p3 H.size u0_8 u1_8 u2_8 hC) (co_dec (N := 8) (P := fun i => va_nd ([] ++ [2 + i, 2 + (8 + i)]) = true) (by decide) (Nat.lt_of_not_le g_9)) (wr_hC (len := 2) (wsS := []) rfl (Nat.lt_of_not_le g_9) rfl) rfl tb295 tb296 tb297 tb6 tb298 hdX4_begin (va_recv hK hP (ci := 4) (q0 := 2 + p1.toNatClampNeg) rfl (wr_o rfl (Nat.lt_of_not_le g_9))) ⟨Nat.le_of_ble_eq_true rfl, Nat.le_of_ble_eq_true rfl⟩ rfl hl.1 (Nat.le_of_ble_eq_true rfl) rfl ⟨Nat.le_refl _, Nat.le_refl _⟩ dX6_row_48 (fun H locs hP hD hS => ?_)
            have hP : va_P G vwCl (WX6_row K x_a xA_rows rd_a v_a d_a xA_images ac_a er_a xA_hits xA_bodies x_ra x_rb x_begun x_latestFault (0 : Int32) (va_up x_lane p1.toNatClampNeg u0_8) (va_up x_rsz p1.toNatClampNeg u1_8) (va_up x_item p1.toNatClampNeg u2_8)) H := Eq.mp (congrArg (fun w => va_P G vwCl w H) (wr_set2 (pre := [(x_a, .inr (6, [.ref xA_rows, .ref rd_a, .ref v_a, .ref d_a, .ref xA_images, .ref ac_a, .ref er_a, .ref xA_hits, .ref xA_bodies, .int x_begun, .int x_latestFault, .int (0 : Int32)])), aR K xA_rows 8 x_ra]) (K := K) (ra := x_ra) (rb := x_rb) (lane := x_lane) (rsz := x_rsz) (item := x_item) (len := 2) rfl (Nat.lt_of_not_le g_9) u0_8 u1_8 u2_8)) hP
            have hD : va_D A (WX6_row K x_a xA_rows rd_a v_a d_a xA_images ac_a er_a xA_hits xA_bodies x_ra x_rb x_begun x_latestFault (0 : Int32) (va_up x_lane p1.toNatClampNeg u0_8) (va_up x_rsz p1.toNatClampNeg u1_8) (va_up x_item p1.toNatClampNeg u2_8)) := Eq.mp (congrArg (fun w => va_D A w) (wr_set2 (pre := [(x_a, .inr (6, [.ref xA_rows, .ref rd_a, .ref v_a, .ref d_a, .ref xA_images, .ref ac_a, .ref er_a, .ref xA_hits, .ref xA_bodies, .int x_begun, .int x_latestFault, .int (0 : Int32)])), aR K xA_rows 8 x_ra]) (K := K) (ra := x_ra) (rb := x_rb) (lane := x_lane) (rsz := x_rsz) (item := x_item) (len := 2) rfl (Nat.lt_of_not_le g_9) u0_8 u1_8 u2_8)) hD
            refine lv_iload_n hx hb dX6_row_51 rfl (lv_at hl 3 rfl) ?_
            have t0 := Option.some.inj hM
            obtain ⟨q1, t1⟩ := Prod.mk.inj t0
            obtain ⟨q2, t2⟩ := Prod.mk.inj t1
            obtain ⟨q3, t3⟩ := Prod.mk.inj t2
            obtain ⟨q4, t4⟩ := Prod.mk.inj t3
            subst q1
            subst q2
            subst q3
            subst q4
            subst t4
            exact kr _ _ _ _ dX6_row_52 hP hD hS
          · rw [if_neg c_6] at hM
            refine lv_aload_n hx hb dX6_row_29 rfl (lv_at hl 0 rfl) ?_
            refine lv_iconst (v := 4) hx hb dX6_row_30 (by decide) ?_
            obtain ⟨r_10, u0_10, hC, hM⟩ := oe2 hM
            refine cV_i (As := [.int (4 : Int32)]) (rest := []) C0 hP hD hS [0] (kX6_found l G K tt L la sa ln sy sn lt st x_a xA_rows rd_a v_a d_a xA_images ac_a er_a xA_hits xA_bodies x_begun x_latestFault x_latestFinding (4 : Int32) H.size r_10 u0_10 hC) rfl rfl rfl tb290 tb292 tp0 tb1 tb293 hdX6_found (va_recv hK hP (ci := 6) (q0 := 0) rfl rfl) ⟨Nat.le_of_ble_eq_true rfl, Nat.le_of_ble_eq_true rfl⟩ rfl hl.1 (Nat.le_of_ble_eq_true rfl) rfl ⟨Nat.le_refl _, Nat.le_refl _⟩ dX6_row_31 (fun H locs hP hD hS => ?_)
            have hP : va_P G vwCl (WX6_row K x_a xA_rows rd_a v_a d_a xA_images ac_a er_a xA_hits xA_bodies x_ra x_rb x_begun x_latestFault u0_10 x_lane x_rsz x_item) H := hP
            have hD : va_D A (WX6_row K x_a xA_rows rd_a v_a d_a xA_images ac_a er_a xA_hits xA_bodies x_ra x_rb x_begun x_latestFault u0_10 x_lane x_rsz x_item) := hD
            have t0 := Option.some.inj hM
            obtain ⟨q1, t1⟩ := Prod.mk.inj t0
            obtain ⟨q2, t2⟩ := Prod.mk.inj t1
            obtain ⟨q3, t3⟩ := Prod.mk.inj t2
            obtain ⟨q4, t4⟩ := Prod.mk.inj t3
            subst q1
            subst q2
            subst q3
            subst q4
            subst t4
            exact kr _ _ _ _ dX6_row_34 hP hD hS
        · rw [if_neg c_5] at hM
          refine lv_ldc (v := -1000001) hx hb hown (hts _ tb289) dX6_row_22 ?_
          have t0 := Option.some.inj hM
          obtain ⟨q1, t1⟩ := Prod.mk.inj t0
          obtain ⟨q2, t2⟩ := Prod.mk.inj t1
          obtain ⟨q3, t3⟩ := Prod.mk.inj t2
          obtain ⟨q4, t4⟩ := Prod.mk.inj t3
          subst q1
          subst q2
          subst q3
          subst q4
          subst t4
          exact kr _ _ _ _ dX6_row_24 hP hD hS
set_option maxHeartbeats 4000000 in
set_option maxRecDepth 100000 in
theorem kX6_row (l : Launch) (G : va_G) (K : Nat → ClassId) (tt : Nat → Nat) (L : List Nat) (la : Nat → Nat) (sa : Nat → Nat) (ln : Nat → Int32) (sy : Nat → Int32) (sn : Nat → Int32) (lt : Nat → Nat → Int32) (st : Nat → Nat → Int32) (x_a xA_rows rd_a v_a d_a xA_images ac_a er_a xA_hits xA_bodies : Nat) (x_ra x_rb : Nat → Nat) (x_begun : Int32) (x_latestFault : Int32) (x_latestFinding : Int32) (x_lane : Nat → Int32) (x_rsz : Nat → Int32) (x_item : Nat → Nat → Int32) (p1 : Int32) (p2 : Int32) (p3 : Int32) (sz : Nat) (r : Int32) (o_x_latestFinding : Int32) (o_x_lane : Nat → Int32) (o_x_rsz : Nat → Int32) (o_x_item : Nat → Nat → Int32) (hM : mX6_row x_latestFinding x_lane x_rsz x_item p1 p2 p3 = some (r, o_x_latestFinding, o_x_lane, o_x_rsz, o_x_item)) : Met l yX6_row (mC yX6_row cX6_row 4 (some .int)) rmX6_row (va_Pc [.ref x_a, .int p1, .int p2, .int p3] (PCe G K (EC G K tt L la sa ln sy sn lt st) (WX6_row K x_a xA_rows rd_a v_a d_a xA_images ac_a er_a xA_hits xA_bodies x_ra x_rb x_begun x_latestFault x_latestFinding x_lane x_rsz x_item) sz)) (va_Qi (fun (x : Int32) (_ : Unit) => x = r) (fun _ t => va_P G vwCl (WX6_row K x_a xA_rows rd_a v_a d_a xA_images ac_a er_a xA_hits xA_bodies x_ra x_rb x_begun x_latestFault o_x_latestFinding o_x_lane o_x_rsz o_x_item) t.heap) (va_A (WX6_row K x_a xA_rows rd_a v_a d_a xA_images ac_a er_a xA_hits xA_bodies x_ra x_rb x_begun x_latestFault x_latestFinding x_lane x_rsz x_item) sz)) rmX6_row.cells rmX6_row.slots (va_A (WX6_row K x_a xA_rows rd_a v_a d_a xA_images ac_a er_a xA_hits xA_bodies x_ra x_rb x_begun x_latestFault x_latestFinding x_lane x_rsz x_item) sz) := by
  refine Met.ofW (cc := cX6_row) (maxL := 4) (ret := (some .int)) (by decide) rfl ?_
  intro p e s m args below meth c s₁ B hml hv
  obtain ⟨rfl, hsz, hP, hK, hD0, hE⟩ := hv
  have hx := B.exec
  have hb := B.bytes
  have hr := B.returns
  have hts0 := atoms_spec (ws := mC yX6_row cX6_row 4 (some .int)) B.pre
  have hts : ∀ w ∈ tbG, w.before _ s = true := fun w h => hts0 w (List.mem_cons_of_mem _ h)
  have hown : s.vm.findClass RX6 = some m.cls := findClass_of_methodNamed B.named
  subst hsz
  have hD := hD0.self (sz := s.heap.size)
  generalize hAe : va_A (WX6_row K x_a xA_rows rd_a v_a d_a xA_images ac_a er_a xA_hits xA_bodies x_ra x_rb x_begun x_latestFault x_latestFinding x_lane x_rsz x_item) s.heap.size = A at hD hE ⊢
  have hA : ∀ q : Nat, s.heap.size ≤ q → A q := fun q h => by rw [← hAe]; exact Or.inr h
  have hS : va_S A s.heap s.heap [] := va_S.rf
  have hl := lv_entry ([.ref x_a, .int p1, .int p2, .int p3]) (n := 4) (Nat.le_of_ble_eq_true rfl)
  rw [lg_entry_eq]
  generalize (lg_sl ([.ref x_a, .int p1, .int p2, .int p3]) ++ List.replicate (4 - (lg_sl ([.ref x_a, .int p1, .int p2, .int p3])).length) Slot.unset).toArray = ls at hl ⊢
  have hl : lv_has ls 4 [(0, .ref x_a), (1, .int p1), (2, .int p2), (3, .int p3)] := hl
  exact wX6_row_b0 ⟨hx, hb, hml, hown, hts, hK, hA, EC_ok _ _ _ _ _ _ _ _ _ _ _, hE⟩ x_a xA_rows rd_a v_a d_a xA_images ac_a er_a xA_hits xA_bodies x_ra x_rb x_begun x_latestFault p1 p2 p3 r o_x_latestFinding o_x_lane o_x_rsz o_x_item (fun H locs ls pc hdg hP hD hS => W.iret (v := r) hx hb hr (fun t ht hW => ⟨⟨r, (), rfl, rfl, (show va_P G vwCl _ t.heap by rw [ht]; exact hP)⟩, hS.F ht⟩) hS.2.2 hdg) x_latestFinding x_lane x_rsz x_item  hM _ _ _ hP hD hS hl
def mX6_set_b0 (x_lane : Nat → Int32) (x_rsz : Nat → Int32) (p1 : Int32) (p2 : Int32) (p3 : Int32)  (x_latestFinding : Int32) (x_item : Nat → Nat → Int32) : Option (Int32 × (Int32) × (Nat → Nat → Int32)) := ob1 (mX6_isRow p1) (fun r_1 => (if r_1 = 0 then some ((-1000001 : Int32), x_latestFinding, x_item) else if (p1 < 0 ∨ 8 ≤ p1.toNatClampNeg) then none else if (8 ≤ p1.toNatClampNeg) then none else ob1 (mX4_isMissing (x_lane p1.toNatClampNeg)) (fun r_4 => (if r_4 = 0 then if (8 ≤ p1.toNatClampNeg) then none else ob1 (mX4_holds (x_rsz p1.toNatClampNeg) p2 (1 : Int32)) (fun r_7 => (if r_7 = 0 then ob2 (mX6_found x_latestFinding (2 : Int32)) (fun r_18 u0_18 => some (r_18, u0_18, x_item)) else if (8 ≤ p1.toNatClampNeg) then none else if (8 ≤ p1.toNatClampNeg) then none else ob1 (mX4_narrowed (x_lane p1.toNatClampNeg) p3) (fun r_11 => if (8 ≤ p1.toNatClampNeg) then none else if (p2 < 0 ∨ 40 ≤ p2.toNatClampNeg) then none else if (8 ≤ p1.toNatClampNeg) then none else if (8 ≤ p1.toNatClampNeg) then none else if (p2 < 0 ∨ 40 ≤ p2.toNatClampNeg) then none else some (((va_up x_item p1.toNatClampNeg (upd (x_item p1.toNatClampNeg) p2.toNatClampNeg r_11)) p1.toNatClampNeg p2.toNatClampNeg), (0 : Int32), (va_up x_item p1.toNatClampNeg (upd (x_item p1.toNatClampNeg) p2.toNatClampNeg r_11)))))) else ob2 (mX6_found x_latestFinding (1 : Int32)) (fun r_19 u0_19 => some (r_19, u0_19, x_item))))))
def mX6_set (x_lane : Nat → Int32) (x_rsz : Nat → Int32) (x_latestFinding : Int32) (x_item : Nat → Nat → Int32) (p1 : Int32) (p2 : Int32) (p3 : Int32) : Option (Int32 × (Int32) × (Nat → Nat → Int32)) := mX6_set_b0 x_lane x_rsz p1 p2 p3 x_latestFinding x_item 
abbrev WX6_set (K : Nat → ClassId) (x_a xA_rows rd_a v_a d_a xA_images ac_a er_a xA_hits xA_bodies : Nat) (x_ra x_rb : Nat → Nat) (x_begun : Int32) (x_latestFault : Int32) (x_latestFinding : Int32) (x_lane : Nat → Int32) (x_rsz : Nat → Int32) (x_item : Nat → Nat → Int32) : va_W := ([(x_a, .inr (6, [.ref xA_rows, .ref rd_a, .ref v_a, .ref d_a, .ref xA_images, .ref ac_a, .ref er_a, .ref xA_hits, .ref xA_bodies, .int x_begun, .int x_latestFault, .int x_latestFinding])), aR K xA_rows 8 x_ra] ++ wrs K x_ra x_rb x_lane x_rsz x_item)
def rmX6_set : Room := { frames := 1, cells := 0, slots := 0, locals := 22 }
theorem hdX6_set : yX6_set.cls = RX6 ∧ yX6_set.cls ≠ "java/lang/invoke/MethodHandle" ∧ yX6_set.cls ≠ "java/lang/invoke/VarHandle" ∧ (parseMethodDescriptor yX6_set.desc).map (fun d => d.parameters.length) = some 3 := by decide +kernel
set_option maxHeartbeats 4000000 in
set_option maxRecDepth 100000 in
theorem wX6_set_b0 {p : Program} {l : Launch} {e : Env} {s : State} {m : MethodId} {args : Array Value} {below : List Frame} {meth : Method} {c : Code} {Q : State → Prop} {G : va_G} {K : Nat → ClassId} {A : Nat → Prop} {tt : Nat → Nat} {L : List Nat} {la : Nat → Nat} {sa : Nat → Nat} {ln : Nat → Int32} {sy : Nat → Int32} {sn : Nat → Int32} {lt : Nat → Nat → Int32} {st : Nat → Nat → Int32} (C0 : CX p s m args c cX6_set 5 RX6 G K (EC G K tt L la sa ln sy sn lt st) A) (x_a xA_rows rd_a v_a d_a xA_images ac_a er_a xA_hits xA_bodies : Nat) (x_ra x_rb : Nat → Nat) (x_begun : Int32) (x_latestFault : Int32) (x_lane : Nat → Int32) (x_rsz : Nat → Int32) (p1 : Int32) (p2 : Int32) (p3 : Int32) (r : Int32) (o_x_latestFinding : Int32) (o_x_item : Nat → Nat → Int32) (kr : ∀ (H : Heap) (locs : List Loc) (ls : Array Slot) (pc : Nat), decode cX6_set pc = .ok (.ireturn, 1) → va_P G vwCl (WX6_set K x_a xA_rows rd_a v_a d_a xA_images ac_a er_a xA_hits xA_bodies x_ra x_rb x_begun x_latestFault o_x_latestFinding x_lane x_rsz o_x_item) H → va_D A (WX6_set K x_a xA_rows rd_a v_a d_a xA_images ac_a er_a xA_hits xA_bodies x_ra x_rb x_begun x_latestFault o_x_latestFinding x_lane x_rsz o_x_item) → va_S A s.heap H locs → W p l e rmX6_set s m args below meth c H locs 0 0 Q (F0 m pc ls [.int r])) (x_latestFinding : Int32) (x_item : Nat → Nat → Int32) (hM : mX6_set_b0 x_lane x_rsz p1 p2 p3  x_latestFinding x_item = some (r, o_x_latestFinding, o_x_item)) : ∀ (H : Heap) (locs : List Loc) (ls : Array Slot), va_P G vwCl (WX6_set K x_a xA_rows rd_a v_a d_a xA_images ac_a er_a xA_hits xA_bodies x_ra x_rb x_begun x_latestFault x_latestFinding x_lane x_rsz x_item) H → va_D A (WX6_set K x_a xA_rows rd_a v_a d_a xA_images ac_a er_a xA_hits xA_bodies x_ra x_rb x_begun x_latestFault x_latestFinding x_lane x_rsz x_item) → va_S A s.heap H locs → lv_has ls 5 [(0, .ref x_a), (1, .int p1), (2, .int p2), (3, .int p3)] → W p l e rmX6_set s m args below meth c H locs 0 0 Q (F0 m 0 ls []) := by
  obtain ⟨hx, hb, hml, hown, hts, hK, hA, hEo, hE⟩ := id C0
  intro H locs ls hP hD hS hl
  unfold mX6_set_b0 at hM
  refine lv_iload_n hx hb dX6_set_0 rfl (lv_at hl 1 rfl) ?_
  obtain ⟨r_1, hC, hM⟩ := oe1 hM
  refine cS_i (As := [.int p1]) (rest := []) C0 hP hD hS [] (kX6_isRow l G K tt L la sa ln sy sn lt st p1 H.size r_1 hC) rfl rfl rfl tb286 tb287 tb1 tb288 hdX6_isRow ⟨Nat.le_of_ble_eq_true rfl, Nat.le_of_ble_eq_true rfl⟩ rfl hl.1 (Nat.le_of_ble_eq_true rfl) rfl ⟨Nat.le_refl _, Nat.le_refl _⟩ dX6_set_1 (fun H locs hP hD hS => ?_)
  have hP : va_P G vwCl (WX6_set K x_a xA_rows rd_a v_a d_a xA_images ac_a er_a xA_hits xA_bodies x_ra x_rb x_begun x_latestFault x_latestFinding x_lane x_rsz x_item) H := hP
  have hD : va_D A (WX6_set K x_a xA_rows rd_a v_a d_a xA_images ac_a er_a xA_hits xA_bodies x_ra x_rb x_begun x_latestFault x_latestFinding x_lane x_rsz x_item) := hD
  refine lv_if_ne (tgt := 10) hx hb dX6_set_4 (by decide) (fun c_2 => ?_) (fun c_2 => ?_)
  · rw [if_neg c_2] at hM
    refine lv_aload_n hx hb dX6_set_10 rfl (lv_at hl 0 rfl) ?_
    refine va_get (D := G) (ci := 6) (v := .ref xA_rows) (C := RX6) (T := TX6) (N := 12) hx hb hts inX6 hown hK hP 0 rfl rfl 0 (by decide) (hts _ tb245) (fun _ h9 => h9) rfl dX6_set_11 ?_
    refine lv_iload_n hx hb dX6_set_14 rfl (lv_at hl 1 rfl) ?_
    obtain ⟨g_3, hM⟩ := ng hM
    refine va_aldq hx hb hK hP 1 3 rfl rfl g_3 dX6_set_15 ?_
    show W p l e rmX6_set s m args below meth c H locs 0 0 Q (F0 m 16 ls [.ref (x_ra p1.toNatClampNeg)])
    refine lv_astore (lv' := [(4, .ref (x_ra p1.toNatClampNeg)), (0, .ref x_a), (1, .int p1), (2, .int p2), (3, .int p3)]) hx hb dX6_set_16 hl (by decide) rfl (fun ls hl => ?_)
    refine lv_aload hx hb dX6_set_18 (lv_at hl 0 rfl) ?_
    obtain ⟨g_5, hM⟩ := ng hM
    obtain ⟨r_4, hC, hM⟩ := oe1 hM
    refine cV_i (As := []) (rest := []) C0 hP hD hS ([] ++ [2 + p1.toNatClampNeg, 2 + (8 + p1.toNatClampNeg)]) (kX4_isMissing l G K tt L la sa ln sy sn lt st (x_ra p1.toNatClampNeg) (x_rb p1.toNatClampNeg) (x_lane p1.toNatClampNeg) (x_rsz p1.toNatClampNeg) (x_item p1.toNatClampNeg) H.size r_4 hC) (co_dec (N := 8) (P := fun i => va_nd ([] ++ [2 + i, 2 + (8 + i)]) = true) (by decide) (Nat.lt_of_not_le g_5)) (wr_hC (len := 2) (wsS := []) rfl (Nat.lt_of_not_le g_5) rfl) rfl tb303 tb304 tb305 tb6 tb306 hdX4_isMissing (va_recv hK hP (ci := 4) (q0 := 2 + p1.toNatClampNeg) rfl (wr_o rfl (Nat.lt_of_not_le g_5))) ⟨Nat.le_of_ble_eq_true rfl, Nat.le_of_ble_eq_true rfl⟩ rfl hl.1 (Nat.le_of_ble_eq_true rfl) rfl ⟨Nat.le_refl _, Nat.le_refl _⟩ dX6_set_20 (fun H locs hP hD hS => ?_)
    have hP : va_P G vwCl (WX6_set K x_a xA_rows rd_a v_a d_a xA_images ac_a er_a xA_hits xA_bodies x_ra x_rb x_begun x_latestFault x_latestFinding x_lane x_rsz x_item) H := Eq.mp (congrArg (fun w => va_P G vwCl w H) (wr_keep2 (pre := [(x_a, .inr (6, [.ref xA_rows, .ref rd_a, .ref v_a, .ref d_a, .ref xA_images, .ref ac_a, .ref er_a, .ref xA_hits, .ref xA_bodies, .int x_begun, .int x_latestFault, .int x_latestFinding])), aR K xA_rows 8 x_ra]) (K := K) (ra := x_ra) (rb := x_rb) (lane := x_lane) (rsz := x_rsz) (item := x_item) (len := 2) rfl (Nat.lt_of_not_le g_5))) hP
    have hD : va_D A (WX6_set K x_a xA_rows rd_a v_a d_a xA_images ac_a er_a xA_hits xA_bodies x_ra x_rb x_begun x_latestFault x_latestFinding x_lane x_rsz x_item) := Eq.mp (congrArg (fun w => va_D A w) (wr_keep2 (pre := [(x_a, .inr (6, [.ref xA_rows, .ref rd_a, .ref v_a, .ref d_a, .ref xA_images, .ref ac_a, .ref er_a, .ref xA_hits, .ref xA_bodies, .int x_begun, .int x_latestFault, .int x_latestFinding])), aR K xA_rows 8 x_ra]) (K := K) (ra := x_ra) (rb := x_rb) (lane := x_lane) (rsz := x_rsz) (item := x_item) (len := 2) rfl (Nat.lt_of_not_le g_5))) hD
    refine lv_if_eq (tgt := 32) hx hb dX6_set_23 (by decide) (fun c_6 => ?_) (fun c_6 => ?_)
    · rw [if_pos c_6] at hM
      refine lv_aload hx hb dX6_set_32 (lv_at hl 0 rfl) ?_
      refine lv_iload_n hx hb dX6_set_34 rfl (lv_at hl 3 rfl) ?_
      refine lv_iconst (v := 1) hx hb dX6_set_35 (by decide) ?_
      obtain ⟨g_8, hM⟩ := ng hM
      obtain ⟨r_7, hC, hM⟩ := oe1 hM
      refine cV_i (As := [.int p2, .int (1 : Int32)]) (rest := []) C0 hP hD hS ([] ++ [2 + p1.toNatClampNeg, 2 + (8 + p1.toNatClampNeg)]) (kX4_holds l G K tt L la sa ln sy sn lt st (x_ra p1.toNatClampNeg) (x_rb p1.toNatClampNeg) (x_lane p1.toNatClampNeg) (x_rsz p1.toNatClampNeg) (x_item p1.toNatClampNeg) p2 (1 : Int32) H.size r_7 hC) (co_dec (N := 8) (P := fun i => va_nd ([] ++ [2 + i, 2 + (8 + i)]) = true) (by decide) (Nat.lt_of_not_le g_8)) (wr_hC (len := 2) (wsS := []) rfl (Nat.lt_of_not_le g_8) rfl) rfl tb307 tb308 tb309 tb6 tb310 hdX4_holds (va_recv hK hP (ci := 4) (q0 := 2 + p1.toNatClampNeg) rfl (wr_o rfl (Nat.lt_of_not_le g_8))) ⟨Nat.le_of_ble_eq_true rfl, Nat.le_of_ble_eq_true rfl⟩ rfl hl.1 (Nat.le_of_ble_eq_true rfl) rfl ⟨Nat.le_refl _, Nat.le_refl _⟩ dX6_set_36 (fun H locs hP hD hS => ?_)
      have hP : va_P G vwCl (WX6_set K x_a xA_rows rd_a v_a d_a xA_images ac_a er_a xA_hits xA_bodies x_ra x_rb x_begun x_latestFault x_latestFinding x_lane x_rsz x_item) H := Eq.mp (congrArg (fun w => va_P G vwCl w H) (wr_keep2 (pre := [(x_a, .inr (6, [.ref xA_rows, .ref rd_a, .ref v_a, .ref d_a, .ref xA_images, .ref ac_a, .ref er_a, .ref xA_hits, .ref xA_bodies, .int x_begun, .int x_latestFault, .int x_latestFinding])), aR K xA_rows 8 x_ra]) (K := K) (ra := x_ra) (rb := x_rb) (lane := x_lane) (rsz := x_rsz) (item := x_item) (len := 2) rfl (Nat.lt_of_not_le g_8))) hP
      have hD : va_D A (WX6_set K x_a xA_rows rd_a v_a d_a xA_images ac_a er_a xA_hits xA_bodies x_ra x_rb x_begun x_latestFault x_latestFinding x_lane x_rsz x_item) := Eq.mp (congrArg (fun w => va_D A w) (wr_keep2 (pre := [(x_a, .inr (6, [.ref xA_rows, .ref rd_a, .ref v_a, .ref d_a, .ref xA_images, .ref ac_a, .ref er_a, .ref xA_hits, .ref xA_bodies, .int x_begun, .int x_latestFault, .int x_latestFinding])), aR K xA_rows 8 x_ra]) (K := K) (ra := x_ra) (rb := x_rb) (lane := x_lane) (rsz := x_rsz) (item := x_item) (len := 2) rfl (Nat.lt_of_not_le g_8))) hD
      refine lv_if_ne (tgt := 48) hx hb dX6_set_39 (by decide) (fun c_9 => ?_) (fun c_9 => ?_)
      · rw [if_neg c_9] at hM
        refine lv_aload_n hx hb dX6_set_48 rfl (lv_at hl 1 rfl) ?_
        refine lv_iconst (v := 0) hx hb dX6_set_49 (by decide) ?_
        refine va_put (D := G) (ci := 6) (v := .int (0 : Int32)) (ty := .int) (C := RX6) (T := TX6) (N := 12) hx hb hts inX6 tyX6 tyX6_ok nmX6 hown hK hP hD hS 0 rfl rfl 11 (by decide) (hts _ tb256) (fun _ h9 => h9) rfl (tyX6_ok 11 (by decide)) rfl rfl (Nat.le_of_ble_eq_true rfl) dX6_set_50 (fun H locs hP hD hS => ?_)
        have hP : va_P G vwCl (WX6_set K x_a xA_rows rd_a v_a d_a xA_images ac_a er_a xA_hits xA_bodies x_ra x_rb x_begun x_latestFault (0 : Int32) x_lane x_rsz x_item) H := hP
        have hD : va_D A (WX6_set K x_a xA_rows rd_a v_a d_a xA_images ac_a er_a xA_hits xA_bodies x_ra x_rb x_begun x_latestFault (0 : Int32) x_lane x_rsz x_item) := hD
        refine lv_aload hx hb dX6_set_53 (lv_at hl 0 rfl) ?_
        obtain ⟨g_10, hM⟩ := ng hM
        refine va_get (D := G) (ci := 4) (v := .ref (x_rb p1.toNatClampNeg)) (C := RX4) (T := TX4) (N := 3) hx hb hts inX4 hown hK hP (2 + p1.toNatClampNeg) (wr_o rfl (Nat.lt_of_not_le g_10)) rfl 0 (by decide) (hts _ tb154) (fun _ h9 => h9) rfl dX6_set_55 ?_
        refine lv_iload_n hx hb dX6_set_58 rfl (lv_at hl 3 rfl) ?_
        refine lv_aload hx hb dX6_set_59 (lv_at hl 0 rfl) ?_
        refine lv_iload_n hx hb dX6_set_61 rfl (lv_at hl 4 rfl) ?_
        obtain ⟨g_12, hM⟩ := ng hM
        obtain ⟨r_11, hC, hM⟩ := oe1 hM
        refine cV_i (As := [.int p3]) (rest := [.int p2, .ref (x_rb p1.toNatClampNeg)]) C0 hP hD hS ([] ++ [2 + p1.toNatClampNeg, 2 + (8 + p1.toNatClampNeg)]) (kX4_narrowed l G K tt L la sa ln sy sn lt st (x_ra p1.toNatClampNeg) (x_rb p1.toNatClampNeg) (x_lane p1.toNatClampNeg) (x_rsz p1.toNatClampNeg) (x_item p1.toNatClampNeg) p3 H.size r_11 hC) (co_dec (N := 8) (P := fun i => va_nd ([] ++ [2 + i, 2 + (8 + i)]) = true) (by decide) (Nat.lt_of_not_le g_12)) (wr_hC (len := 2) (wsS := []) rfl (Nat.lt_of_not_le g_12) rfl) rfl tb311 tb312 tb313 tb6 tb314 hdX4_narrowed (va_recv hK hP (ci := 4) (q0 := 2 + p1.toNatClampNeg) rfl (wr_o rfl (Nat.lt_of_not_le g_12))) ⟨Nat.le_of_ble_eq_true rfl, Nat.le_of_ble_eq_true rfl⟩ rfl hl.1 (Nat.le_of_ble_eq_true rfl) rfl ⟨Nat.le_refl _, Nat.le_refl _⟩ dX6_set_62 (fun H locs hP hD hS => ?_)
        have hP : va_P G vwCl (WX6_set K x_a xA_rows rd_a v_a d_a xA_images ac_a er_a xA_hits xA_bodies x_ra x_rb x_begun x_latestFault (0 : Int32) x_lane x_rsz x_item) H := Eq.mp (congrArg (fun w => va_P G vwCl w H) (wr_keep2 (pre := [(x_a, .inr (6, [.ref xA_rows, .ref rd_a, .ref v_a, .ref d_a, .ref xA_images, .ref ac_a, .ref er_a, .ref xA_hits, .ref xA_bodies, .int x_begun, .int x_latestFault, .int (0 : Int32)])), aR K xA_rows 8 x_ra]) (K := K) (ra := x_ra) (rb := x_rb) (lane := x_lane) (rsz := x_rsz) (item := x_item) (len := 2) rfl (Nat.lt_of_not_le g_12))) hP
        have hD : va_D A (WX6_set K x_a xA_rows rd_a v_a d_a xA_images ac_a er_a xA_hits xA_bodies x_ra x_rb x_begun x_latestFault (0 : Int32) x_lane x_rsz x_item) := Eq.mp (congrArg (fun w => va_D A w) (wr_keep2 (pre := [(x_a, .inr (6, [.ref xA_rows, .ref rd_a, .ref v_a, .ref d_a, .ref xA_images, .ref ac_a, .ref er_a, .ref xA_hits, .ref xA_bodies, .int x_begun, .int x_latestFault, .int (0 : Int32)])), aR K xA_rows 8 x_ra]) (K := K) (ra := x_ra) (rb := x_rb) (lane := x_lane) (rsz := x_rsz) (item := x_item) (len := 2) rfl (Nat.lt_of_not_le g_12))) hD
        obtain ⟨g_13, hM⟩ := ng hM
        obtain ⟨g_14, hM⟩ := ng hM
        refine va_iast hx hb hK hP hD hS (2 + (8 + p1.toNatClampNeg)) 0 (wr_i rfl (Nat.lt_of_not_le g_13)) rfl g_14 dX6_set_65 (fun H locs hP hD hS => ?_)
        have hP : va_P G vwCl (WX6_set K x_a xA_rows rd_a v_a d_a xA_images ac_a er_a xA_hits xA_bodies x_ra x_rb x_begun x_latestFault (0 : Int32) x_lane x_rsz (va_up x_item p1.toNatClampNeg (upd (x_item p1.toNatClampNeg) p2.toNatClampNeg r_11))) H := Eq.mp (congrArg (fun w => va_P G vwCl w H) (wr_si (pre := [(x_a, .inr (6, [.ref xA_rows, .ref rd_a, .ref v_a, .ref d_a, .ref xA_images, .ref ac_a, .ref er_a, .ref xA_hits, .ref xA_bodies, .int x_begun, .int x_latestFault, .int (0 : Int32)])), aR K xA_rows 8 x_ra]) (K := K) (ra := x_ra) (rb := x_rb) (lane := x_lane) (rsz := x_rsz) (item := x_item) (len := 2) rfl (Nat.lt_of_not_le g_13) (upd (x_item p1.toNatClampNeg) p2.toNatClampNeg r_11))) hP
        have hD : va_D A (WX6_set K x_a xA_rows rd_a v_a d_a xA_images ac_a er_a xA_hits xA_bodies x_ra x_rb x_begun x_latestFault (0 : Int32) x_lane x_rsz (va_up x_item p1.toNatClampNeg (upd (x_item p1.toNatClampNeg) p2.toNatClampNeg r_11))) := Eq.mp (congrArg (fun w => va_D A w) (wr_si (pre := [(x_a, .inr (6, [.ref xA_rows, .ref rd_a, .ref v_a, .ref d_a, .ref xA_images, .ref ac_a, .ref er_a, .ref xA_hits, .ref xA_bodies, .int x_begun, .int x_latestFault, .int (0 : Int32)])), aR K xA_rows 8 x_ra]) (K := K) (ra := x_ra) (rb := x_rb) (lane := x_lane) (rsz := x_rsz) (item := x_item) (len := 2) rfl (Nat.lt_of_not_le g_13) (upd (x_item p1.toNatClampNeg) p2.toNatClampNeg r_11))) hD
        refine lv_aload hx hb dX6_set_66 (lv_at hl 0 rfl) ?_
        obtain ⟨g_15, hM⟩ := ng hM
        refine va_get (D := G) (ci := 4) (v := .ref (x_rb p1.toNatClampNeg)) (C := RX4) (T := TX4) (N := 3) hx hb hts inX4 hown hK hP (2 + p1.toNatClampNeg) (wr_o rfl (Nat.lt_of_not_le g_15)) rfl 0 (by decide) (hts _ tb154) (fun _ h9 => h9) rfl dX6_set_68 ?_
        refine lv_iload_n hx hb dX6_set_71 rfl (lv_at hl 3 rfl) ?_
        obtain ⟨g_16, hM⟩ := ng hM
        obtain ⟨g_17, hM⟩ := ng hM
        refine va_iald hx hb hK hP (2 + (8 + p1.toNatClampNeg)) 0 (wr_i rfl (Nat.lt_of_not_le g_16)) rfl g_17 dX6_set_72 ?_
        have t0 := Option.some.inj hM
        obtain ⟨q1, t1⟩ := Prod.mk.inj t0
        obtain ⟨q2, t2⟩ := Prod.mk.inj t1
        subst q1
        subst q2
        subst t2
        exact kr _ _ _ _ dX6_set_73 hP hD hS
      · rw [if_pos c_9] at hM
        refine lv_aload_n hx hb dX6_set_42 rfl (lv_at hl 1 rfl) ?_
        refine lv_iconst (v := 2) hx hb dX6_set_43 (by decide) ?_
        obtain ⟨r_18, u0_18, hC, hM⟩ := oe2 hM
        refine cV_i (As := [.int (2 : Int32)]) (rest := []) C0 hP hD hS [0] (kX6_found l G K tt L la sa ln sy sn lt st x_a xA_rows rd_a v_a d_a xA_images ac_a er_a xA_hits xA_bodies x_begun x_latestFault x_latestFinding (2 : Int32) H.size r_18 u0_18 hC) rfl rfl rfl tb290 tb292 tp0 tb1 tb293 hdX6_found (va_recv hK hP (ci := 6) (q0 := 0) rfl rfl) ⟨Nat.le_of_ble_eq_true rfl, Nat.le_of_ble_eq_true rfl⟩ rfl hl.1 (Nat.le_of_ble_eq_true rfl) rfl ⟨Nat.le_refl _, Nat.le_refl _⟩ dX6_set_44 (fun H locs hP hD hS => ?_)
        have hP : va_P G vwCl (WX6_set K x_a xA_rows rd_a v_a d_a xA_images ac_a er_a xA_hits xA_bodies x_ra x_rb x_begun x_latestFault u0_18 x_lane x_rsz x_item) H := hP
        have hD : va_D A (WX6_set K x_a xA_rows rd_a v_a d_a xA_images ac_a er_a xA_hits xA_bodies x_ra x_rb x_begun x_latestFault u0_18 x_lane x_rsz x_item) := hD
        have t0 := Option.some.inj hM
        obtain ⟨q1, t1⟩ := Prod.mk.inj t0
        obtain ⟨q2, t2⟩ := Prod.mk.inj t1
        subst q1
        subst q2
        subst t2
        exact kr _ _ _ _ dX6_set_47 hP hD hS
    · rw [if_neg c_6] at hM
      refine lv_aload_n hx hb dX6_set_26 rfl (lv_at hl 1 rfl) ?_
      refine lv_iconst (v := 1) hx hb dX6_set_27 (by decide) ?_
      obtain ⟨r_19, u0_19, hC, hM⟩ := oe2 hM
      refine cV_i (As := [.int (1 : Int32)]) (rest := []) C0 hP hD hS [0] (kX6_found l G K tt L la sa ln sy sn lt st x_a xA_rows rd_a v_a d_a xA_images ac_a er_a xA_hits xA_bodies x_begun x_latestFault x_latestFinding (1 : Int32) H.size r_19 u0_19 hC) rfl rfl rfl tb290 tb292 tp0 tb1 tb293 hdX6_found (va_recv hK hP (ci := 6) (q0 := 0) rfl rfl) ⟨Nat.le_of_ble_eq_true rfl, Nat.le_of_ble_eq_true rfl⟩ rfl hl.1 (Nat.le_of_ble_eq_true rfl) rfl ⟨Nat.le_refl _, Nat.le_refl _⟩ dX6_set_28 (fun H locs hP hD hS => ?_)
      have hP : va_P G vwCl (WX6_set K x_a xA_rows rd_a v_a d_a xA_images ac_a er_a xA_hits xA_bodies x_ra x_rb x_begun x_latestFault u0_19 x_lane x_rsz x_item) H := hP
      have hD : va_D A (WX6_set K x_a xA_rows rd_a v_a d_a xA_images ac_a er_a xA_hits xA_bodies x_ra x_rb x_begun x_latestFault u0_19 x_lane x_rsz x_item) := hD
      have t0 := Option.some.inj hM
      obtain ⟨q1, t1⟩ := Prod.mk.inj t0
      obtain ⟨q2, t2⟩ := Prod.mk.inj t1
      subst q1
      subst q2
      subst t2
      exact kr _ _ _ _ dX6_set_31 hP hD hS
  · rw [if_pos c_2] at hM
    refine lv_ldc (v := -1000001) hx hb hown (hts _ tb289) dX6_set_7 ?_
    have t0 := Option.some.inj hM
    obtain ⟨q1, t1⟩ := Prod.mk.inj t0
    obtain ⟨q2, t2⟩ := Prod.mk.inj t1
    subst q1
    subst q2
    subst t2
    exact kr _ _ _ _ dX6_set_9 hP hD hS
set_option maxHeartbeats 4000000 in
set_option maxRecDepth 100000 in
theorem kX6_set (l : Launch) (G : va_G) (K : Nat → ClassId) (tt : Nat → Nat) (L : List Nat) (la : Nat → Nat) (sa : Nat → Nat) (ln : Nat → Int32) (sy : Nat → Int32) (sn : Nat → Int32) (lt : Nat → Nat → Int32) (st : Nat → Nat → Int32) (x_a xA_rows rd_a v_a d_a xA_images ac_a er_a xA_hits xA_bodies : Nat) (x_ra x_rb : Nat → Nat) (x_begun : Int32) (x_latestFault : Int32) (x_latestFinding : Int32) (x_lane : Nat → Int32) (x_rsz : Nat → Int32) (x_item : Nat → Nat → Int32) (p1 : Int32) (p2 : Int32) (p3 : Int32) (sz : Nat) (r : Int32) (o_x_latestFinding : Int32) (o_x_item : Nat → Nat → Int32) (hM : mX6_set x_lane x_rsz x_latestFinding x_item p1 p2 p3 = some (r, o_x_latestFinding, o_x_item)) : Met l yX6_set (mC yX6_set cX6_set 5 (some .int)) rmX6_set (va_Pc [.ref x_a, .int p1, .int p2, .int p3] (PCe G K (EC G K tt L la sa ln sy sn lt st) (WX6_set K x_a xA_rows rd_a v_a d_a xA_images ac_a er_a xA_hits xA_bodies x_ra x_rb x_begun x_latestFault x_latestFinding x_lane x_rsz x_item) sz)) (va_Qi (fun (x : Int32) (_ : Unit) => x = r) (fun _ t => va_P G vwCl (WX6_set K x_a xA_rows rd_a v_a d_a xA_images ac_a er_a xA_hits xA_bodies x_ra x_rb x_begun x_latestFault o_x_latestFinding x_lane x_rsz o_x_item) t.heap) (va_A (WX6_set K x_a xA_rows rd_a v_a d_a xA_images ac_a er_a xA_hits xA_bodies x_ra x_rb x_begun x_latestFault x_latestFinding x_lane x_rsz x_item) sz)) rmX6_set.cells rmX6_set.slots (va_A (WX6_set K x_a xA_rows rd_a v_a d_a xA_images ac_a er_a xA_hits xA_bodies x_ra x_rb x_begun x_latestFault x_latestFinding x_lane x_rsz x_item) sz) := by
  refine Met.ofW (cc := cX6_set) (maxL := 5) (ret := (some .int)) (by decide) rfl ?_
  intro p e s m args below meth c s₁ B hml hv
  obtain ⟨rfl, hsz, hP, hK, hD0, hE⟩ := hv
  have hx := B.exec
  have hb := B.bytes
  have hr := B.returns
  have hts0 := atoms_spec (ws := mC yX6_set cX6_set 5 (some .int)) B.pre
  have hts : ∀ w ∈ tbG, w.before _ s = true := fun w h => hts0 w (List.mem_cons_of_mem _ h)
  have hown : s.vm.findClass RX6 = some m.cls := findClass_of_methodNamed B.named
  subst hsz
  have hD := hD0.self (sz := s.heap.size)
  generalize hAe : va_A (WX6_set K x_a xA_rows rd_a v_a d_a xA_images ac_a er_a xA_hits xA_bodies x_ra x_rb x_begun x_latestFault x_latestFinding x_lane x_rsz x_item) s.heap.size = A at hD hE ⊢
  have hA : ∀ q : Nat, s.heap.size ≤ q → A q := fun q h => by rw [← hAe]; exact Or.inr h
  have hS : va_S A s.heap s.heap [] := va_S.rf
  have hl := lv_entry ([.ref x_a, .int p1, .int p2, .int p3]) (n := 5) (Nat.le_of_ble_eq_true rfl)
  rw [lg_entry_eq]
  generalize (lg_sl ([.ref x_a, .int p1, .int p2, .int p3]) ++ List.replicate (5 - (lg_sl ([.ref x_a, .int p1, .int p2, .int p3])).length) Slot.unset).toArray = ls at hl ⊢
  have hl : lv_has ls 5 [(0, .ref x_a), (1, .int p1), (2, .int p2), (3, .int p3)] := hl
  exact wX6_set_b0 ⟨hx, hb, hml, hown, hts, hK, hA, EC_ok _ _ _ _ _ _ _ _ _ _ _, hE⟩ x_a xA_rows rd_a v_a d_a xA_images ac_a er_a xA_hits xA_bodies x_ra x_rb x_begun x_latestFault x_lane x_rsz p1 p2 p3 r o_x_latestFinding o_x_item (fun H locs ls pc hdg hP hD hS => W.iret (v := r) hx hb hr (fun t ht hW => ⟨⟨r, (), rfl, rfl, (show va_P G vwCl _ t.heap by rw [ht]; exact hP)⟩, hS.F ht⟩) hS.2.2 hdg) x_latestFinding x_item  hM _ _ _ hP hD hS hl
def mX6_copy_b49 (x_lane : Nat → Int32) (x_rsz : Nat → Int32) (p1 : Int32) (p2 : Int32) (p3 : Int32) (p4 : Int32) (p5 : Int32)  (x_latestFinding : Int32) (x_item : Nat → Nat → Int32) : Option (Int32 × (Int32) × (Nat → Nat → Int32)) := ob2 (mX6_found x_latestFinding (1 : Int32)) (fun r_1 u0_1 => some (r_1, u0_1, x_item))
def mX6_copy_b97 (x_lane : Nat → Int32) (x_rsz : Nat → Int32) (p1 : Int32) (p2 : Int32) (p3 : Int32) (p4 : Int32) (p5 : Int32)  (x_latestFinding : Int32) (x_item : Nat → Nat → Int32) : Option (Int32 × (Int32) × (Nat → Nat → Int32)) := ob2 (mX6_found x_latestFinding (2 : Int32)) (fun r_2 u0_2 => some (r_2, u0_2, x_item))
def mX6_copy_b0 (x_lane : Nat → Int32) (x_rsz : Nat → Int32) (p1 : Int32) (p2 : Int32) (p3 : Int32) (p4 : Int32) (p5 : Int32)  (x_latestFinding : Int32) (x_item : Nat → Nat → Int32) : Option (Int32 × (Int32) × (Nat → Nat → Int32)) := ob1 (mX6_isRow p1) (fun r_3 => (if r_3 = 0 then some ((-1000001 : Int32), x_latestFinding, x_item) else ob1 (mX6_isRow p3) (fun r_5 => (if r_5 = 0 then some ((-1000001 : Int32), x_latestFinding, x_item) else if (p1 < 0 ∨ 8 ≤ p1.toNatClampNeg) then none else if (p3 < 0 ∨ 8 ≤ p3.toNatClampNeg) then none else if (8 ≤ p1.toNatClampNeg) then none else ob1 (mX4_isMissing (x_lane p1.toNatClampNeg)) (fun r_9 => (if r_9 = 0 then if (8 ≤ p3.toNatClampNeg) then none else ob1 (mX4_isMissing (x_lane p3.toNatClampNeg)) (fun r_12 => (if r_12 = 0 then if (8 ≤ p1.toNatClampNeg) then none else if (8 ≤ p3.toNatClampNeg) then none else (if (x_lane p1.toNatClampNeg) = (x_lane p3.toNatClampNeg) then if (8 ≤ p1.toNatClampNeg) then none else ob1 (mX4_holds (x_rsz p1.toNatClampNeg) p2 p5) (fun r_18 => (if r_18 = 0 then mX6_copy_b97 x_lane x_rsz p1 p2 p3 p4 p5  x_latestFinding x_item else if (8 ≤ p3.toNatClampNeg) then none else ob1 (mX4_holds (x_rsz p3.toNatClampNeg) p4 p5) (fun r_21 => (if r_21 = 0 then mX6_copy_b97 x_lane x_rsz p1 p2 p3 p4 p5  x_latestFinding x_item else if (8 ≤ p1.toNatClampNeg) then none else if (8 ≤ p3.toNatClampNeg) then none else if (8 ≤ p1.toNatClampNeg) then none else if (8 ≤ p3.toNatClampNeg) then none else if (p2 < 0) then none else if (p4 < 0) then none else if (p5 < 0) then none else if (40 < p2.toNatClampNeg + p5.toNatClampNeg) then none else if (40 < p4.toNatClampNeg + p5.toNatClampNeg) then none else some (p5, (0 : Int32), (va_up x_item p3.toNatClampNeg (va_cpy (x_item p1.toNatClampNeg) (x_item p3.toNatClampNeg) p2.toNatClampNeg p4.toNatClampNeg p5.toNatClampNeg))))))) else ob2 (mX6_found x_latestFinding (5 : Int32)) (fun r_33 u0_33 => some (r_33, u0_33, x_item))) else mX6_copy_b49 x_lane x_rsz p1 p2 p3 p4 p5  x_latestFinding x_item)) else mX6_copy_b49 x_lane x_rsz p1 p2 p3 p4 p5  x_latestFinding x_item))))))
def mX6_copy (x_lane : Nat → Int32) (x_rsz : Nat → Int32) (x_latestFinding : Int32) (x_item : Nat → Nat → Int32) (p1 : Int32) (p2 : Int32) (p3 : Int32) (p4 : Int32) (p5 : Int32) : Option (Int32 × (Int32) × (Nat → Nat → Int32)) := mX6_copy_b0 x_lane x_rsz p1 p2 p3 p4 p5 x_latestFinding x_item 
abbrev WX6_copy (K : Nat → ClassId) (x_a xA_rows rd_a v_a d_a xA_images ac_a er_a xA_hits xA_bodies : Nat) (x_ra x_rb : Nat → Nat) (x_begun : Int32) (x_latestFault : Int32) (x_latestFinding : Int32) (x_lane : Nat → Int32) (x_rsz : Nat → Int32) (x_item : Nat → Nat → Int32) : va_W := ([(x_a, .inr (6, [.ref xA_rows, .ref rd_a, .ref v_a, .ref d_a, .ref xA_images, .ref ac_a, .ref er_a, .ref xA_hits, .ref xA_bodies, .int x_begun, .int x_latestFault, .int x_latestFinding])), aR K xA_rows 8 x_ra] ++ wrs K x_ra x_rb x_lane x_rsz x_item)
def rmX6_copy : Room := { frames := 1, cells := 0, slots := 0, locals := 59 }
theorem hdX6_copy : yX6_copy.cls = RX6 ∧ yX6_copy.cls ≠ "java/lang/invoke/MethodHandle" ∧ yX6_copy.cls ≠ "java/lang/invoke/VarHandle" ∧ (parseMethodDescriptor yX6_copy.desc).map (fun d => d.parameters.length) = some 5 := by decide +kernel
set_option maxHeartbeats 4000000 in
set_option maxRecDepth 100000 in
theorem wX6_copy_b49 {p : Program} {l : Launch} {e : Env} {s : State} {m : MethodId} {args : Array Value} {below : List Frame} {meth : Method} {c : Code} {Q : State → Prop} {G : va_G} {K : Nat → ClassId} {A : Nat → Prop} {tt : Nat → Nat} {L : List Nat} {la : Nat → Nat} {sa : Nat → Nat} {ln : Nat → Int32} {sy : Nat → Int32} {sn : Nat → Int32} {lt : Nat → Nat → Int32} {st : Nat → Nat → Int32} (C0 : CX p s m args c cX6_copy 8 RX6 G K (EC G K tt L la sa ln sy sn lt st) A) (x_a xA_rows rd_a v_a d_a xA_images ac_a er_a xA_hits xA_bodies : Nat) (x_ra x_rb : Nat → Nat) (x_begun : Int32) (x_latestFault : Int32) (x_lane : Nat → Int32) (x_rsz : Nat → Int32) (p1 : Int32) (p2 : Int32) (p3 : Int32) (p4 : Int32) (p5 : Int32) (r : Int32) (o_x_latestFinding : Int32) (o_x_item : Nat → Nat → Int32) (kr : ∀ (H : Heap) (locs : List Loc) (ls : Array Slot) (pc : Nat), decode cX6_copy pc = .ok (.ireturn, 1) → va_P G vwCl (WX6_copy K x_a xA_rows rd_a v_a d_a xA_images ac_a er_a xA_hits xA_bodies x_ra x_rb x_begun x_latestFault o_x_latestFinding x_lane x_rsz o_x_item) H → va_D A (WX6_copy K x_a xA_rows rd_a v_a d_a xA_images ac_a er_a xA_hits xA_bodies x_ra x_rb x_begun x_latestFault o_x_latestFinding x_lane x_rsz o_x_item) → va_S A s.heap H locs → W p l e rmX6_copy s m args below meth c H locs 0 0 Q (F0 m pc ls [.int r])) (x_latestFinding : Int32) (x_item : Nat → Nat → Int32) (hM : mX6_copy_b49 x_lane x_rsz p1 p2 p3 p4 p5  x_latestFinding x_item = some (r, o_x_latestFinding, o_x_item)) : ∀ (H : Heap) (locs : List Loc) (ls : Array Slot), va_P G vwCl (WX6_copy K x_a xA_rows rd_a v_a d_a xA_images ac_a er_a xA_hits xA_bodies x_ra x_rb x_begun x_latestFault x_latestFinding x_lane x_rsz x_item) H → va_D A (WX6_copy K x_a xA_rows rd_a v_a d_a xA_images ac_a er_a xA_hits xA_bodies x_ra x_rb x_begun x_latestFault x_latestFinding x_lane x_rsz x_item) → va_S A s.heap H locs → lv_has ls 8 [(0, .ref x_a)] → W p l e rmX6_copy s m args below meth c H locs 0 0 Q (F0 m 49 ls []) := by
  obtain ⟨hx, hb, hml, hown, hts, hK, hA, hEo, hE⟩ := id C0
  intro H locs ls hP hD hS hl
  unfold mX6_copy_b49 at hM
  refine lv_aload_n hx hb dX6_copy_49 rfl (lv_at hl 0 rfl) ?_
  refine lv_iconst (v := 1) hx hb dX6_copy_50 (by decide) ?_
  obtain ⟨r_1, u0_1, hC, hM⟩ := oe2 hM
  refine cV_i (As := [.int (1 : Int32)]) (rest := []) C0 hP hD hS [0] (kX6_found l G K tt L la sa ln sy sn lt st x_a xA_rows rd_a v_a d_a xA_images ac_a er_a xA_hits xA_bodies x_begun x_latestFault x_latestFinding (1 : Int32) H.size r_1 u0_1 hC) rfl rfl rfl tb290 tb292 tp0 tb1 tb293 hdX6_found (va_recv hK hP (ci := 6) (q0 := 0) rfl rfl) ⟨Nat.le_of_ble_eq_true rfl, Nat.le_of_ble_eq_true rfl⟩ rfl hl.1 (Nat.le_of_ble_eq_true rfl) rfl ⟨Nat.le_refl _, Nat.le_refl _⟩ dX6_copy_51 (fun H locs hP hD hS => ?_)
  have hP : va_P G vwCl (WX6_copy K x_a xA_rows rd_a v_a d_a xA_images ac_a er_a xA_hits xA_bodies x_ra x_rb x_begun x_latestFault u0_1 x_lane x_rsz x_item) H := hP
  have hD : va_D A (WX6_copy K x_a xA_rows rd_a v_a d_a xA_images ac_a er_a xA_hits xA_bodies x_ra x_rb x_begun x_latestFault u0_1 x_lane x_rsz x_item) := hD
  have t0 := Option.some.inj hM
  obtain ⟨q1, t1⟩ := Prod.mk.inj t0
  obtain ⟨q2, t2⟩ := Prod.mk.inj t1
  subst q1
  subst q2
  subst t2
  exact kr _ _ _ _ dX6_copy_54 hP hD hS
set_option maxHeartbeats 4000000 in
set_option maxRecDepth 100000 in
theorem wX6_copy_b97 {p : Program} {l : Launch} {e : Env} {s : State} {m : MethodId} {args : Array Value} {below : List Frame} {meth : Method} {c : Code} {Q : State → Prop} {G : va_G} {K : Nat → ClassId} {A : Nat → Prop} {tt : Nat → Nat} {L : List Nat} {la : Nat → Nat} {sa : Nat → Nat} {ln : Nat → Int32} {sy : Nat → Int32} {sn : Nat → Int32} {lt : Nat → Nat → Int32} {st : Nat → Nat → Int32} (C0 : CX p s m args c cX6_copy 8 RX6 G K (EC G K tt L la sa ln sy sn lt st) A) (x_a xA_rows rd_a v_a d_a xA_images ac_a er_a xA_hits xA_bodies : Nat) (x_ra x_rb : Nat → Nat) (x_begun : Int32) (x_latestFault : Int32) (x_lane : Nat → Int32) (x_rsz : Nat → Int32) (p1 : Int32) (p2 : Int32) (p3 : Int32) (p4 : Int32) (p5 : Int32) (r : Int32) (o_x_latestFinding : Int32) (o_x_item : Nat → Nat → Int32) (kr : ∀ (H : Heap) (locs : List Loc) (ls : Array Slot) (pc : Nat), decode cX6_copy pc = .ok (.ireturn, 1) → va_P G vwCl (WX6_copy K x_a xA_rows rd_a v_a d_a xA_images ac_a er_a xA_hits xA_bodies x_ra x_rb x_begun x_latestFault o_x_latestFinding x_lane x_rsz o_x_item) H → va_D A (WX6_copy K x_a xA_rows rd_a v_a d_a xA_images ac_a er_a xA_hits xA_bodies x_ra x_rb x_begun x_latestFault o_x_latestFinding x_lane x_rsz o_x_item) → va_S A s.heap H locs → W p l e rmX6_copy s m args below meth c H locs 0 0 Q (F0 m pc ls [.int r])) (x_latestFinding : Int32) (x_item : Nat → Nat → Int32) (hM : mX6_copy_b97 x_lane x_rsz p1 p2 p3 p4 p5  x_latestFinding x_item = some (r, o_x_latestFinding, o_x_item)) : ∀ (H : Heap) (locs : List Loc) (ls : Array Slot), va_P G vwCl (WX6_copy K x_a xA_rows rd_a v_a d_a xA_images ac_a er_a xA_hits xA_bodies x_ra x_rb x_begun x_latestFault x_latestFinding x_lane x_rsz x_item) H → va_D A (WX6_copy K x_a xA_rows rd_a v_a d_a xA_images ac_a er_a xA_hits xA_bodies x_ra x_rb x_begun x_latestFault x_latestFinding x_lane x_rsz x_item) → va_S A s.heap H locs → lv_has ls 8 [(0, .ref x_a)] → W p l e rmX6_copy s m args below meth c H locs 0 0 Q (F0 m 97 ls []) := by
  obtain ⟨hx, hb, hml, hown, hts, hK, hA, hEo, hE⟩ := id C0
  intro H locs ls hP hD hS hl
  unfold mX6_copy_b97 at hM
  refine lv_aload_n hx hb dX6_copy_97 rfl (lv_at hl 0 rfl) ?_
  refine lv_iconst (v := 2) hx hb dX6_copy_98 (by decide) ?_
  obtain ⟨r_2, u0_2, hC, hM⟩ := oe2 hM
  refine cV_i (As := [.int (2 : Int32)]) (rest := []) C0 hP hD hS [0] (kX6_found l G K tt L la sa ln sy sn lt st x_a xA_rows rd_a v_a d_a xA_images ac_a er_a xA_hits xA_bodies x_begun x_latestFault x_latestFinding (2 : Int32) H.size r_2 u0_2 hC) rfl rfl rfl tb290 tb292 tp0 tb1 tb293 hdX6_found (va_recv hK hP (ci := 6) (q0 := 0) rfl rfl) ⟨Nat.le_of_ble_eq_true rfl, Nat.le_of_ble_eq_true rfl⟩ rfl hl.1 (Nat.le_of_ble_eq_true rfl) rfl ⟨Nat.le_refl _, Nat.le_refl _⟩ dX6_copy_99 (fun H locs hP hD hS => ?_)
  have hP : va_P G vwCl (WX6_copy K x_a xA_rows rd_a v_a d_a xA_images ac_a er_a xA_hits xA_bodies x_ra x_rb x_begun x_latestFault u0_2 x_lane x_rsz x_item) H := hP
  have hD : va_D A (WX6_copy K x_a xA_rows rd_a v_a d_a xA_images ac_a er_a xA_hits xA_bodies x_ra x_rb x_begun x_latestFault u0_2 x_lane x_rsz x_item) := hD
  have t0 := Option.some.inj hM
  obtain ⟨q1, t1⟩ := Prod.mk.inj t0
  obtain ⟨q2, t2⟩ := Prod.mk.inj t1
  subst q1
  subst q2
  subst t2
  exact kr _ _ _ _ dX6_copy_102 hP hD hS
set_option maxHeartbeats 4000000 in
set_option maxRecDepth 100000 in
theorem wX6_copy_b0 {p : Program} {l : Launch} {e : Env} {s : State} {m : MethodId} {args : Array Value} {below : List Frame} {meth : Method} {c : Code} {Q : State → Prop} {G : va_G} {K : Nat → ClassId} {A : Nat → Prop} {tt : Nat → Nat} {L : List Nat} {la : Nat → Nat} {sa : Nat → Nat} {ln : Nat → Int32} {sy : Nat → Int32} {sn : Nat → Int32} {lt : Nat → Nat → Int32} {st : Nat → Nat → Int32} (C0 : CX p s m args c cX6_copy 8 RX6 G K (EC G K tt L la sa ln sy sn lt st) A) (x_a xA_rows rd_a v_a d_a xA_images ac_a er_a xA_hits xA_bodies : Nat) (x_ra x_rb : Nat → Nat) (x_begun : Int32) (x_latestFault : Int32) (x_lane : Nat → Int32) (x_rsz : Nat → Int32) (p1 : Int32) (p2 : Int32) (p3 : Int32) (p4 : Int32) (p5 : Int32) (r : Int32) (o_x_latestFinding : Int32) (o_x_item : Nat → Nat → Int32) (kr : ∀ (H : Heap) (locs : List Loc) (ls : Array Slot) (pc : Nat), decode cX6_copy pc = .ok (.ireturn, 1) → va_P G vwCl (WX6_copy K x_a xA_rows rd_a v_a d_a xA_images ac_a er_a xA_hits xA_bodies x_ra x_rb x_begun x_latestFault o_x_latestFinding x_lane x_rsz o_x_item) H → va_D A (WX6_copy K x_a xA_rows rd_a v_a d_a xA_images ac_a er_a xA_hits xA_bodies x_ra x_rb x_begun x_latestFault o_x_latestFinding x_lane x_rsz o_x_item) → va_S A s.heap H locs → W p l e rmX6_copy s m args below meth c H locs 0 0 Q (F0 m pc ls [.int r])) (x_latestFinding : Int32) (x_item : Nat → Nat → Int32) (hM : mX6_copy_b0 x_lane x_rsz p1 p2 p3 p4 p5  x_latestFinding x_item = some (r, o_x_latestFinding, o_x_item)) : ∀ (H : Heap) (locs : List Loc) (ls : Array Slot), va_P G vwCl (WX6_copy K x_a xA_rows rd_a v_a d_a xA_images ac_a er_a xA_hits xA_bodies x_ra x_rb x_begun x_latestFault x_latestFinding x_lane x_rsz x_item) H → va_D A (WX6_copy K x_a xA_rows rd_a v_a d_a xA_images ac_a er_a xA_hits xA_bodies x_ra x_rb x_begun x_latestFault x_latestFinding x_lane x_rsz x_item) → va_S A s.heap H locs → lv_has ls 8 [(0, .ref x_a), (1, .int p1), (2, .int p2), (3, .int p3), (4, .int p4), (5, .int p5)] → W p l e rmX6_copy s m args below meth c H locs 0 0 Q (F0 m 0 ls []) := by
  obtain ⟨hx, hb, hml, hown, hts, hK, hA, hEo, hE⟩ := id C0
  intro H locs ls hP hD hS hl
  unfold mX6_copy_b0 at hM
  refine lv_iload_n hx hb dX6_copy_0 rfl (lv_at hl 1 rfl) ?_
  obtain ⟨r_3, hC, hM⟩ := oe1 hM
  refine cS_i (As := [.int p1]) (rest := []) C0 hP hD hS [] (kX6_isRow l G K tt L la sa ln sy sn lt st p1 H.size r_3 hC) rfl rfl rfl tb286 tb287 tb1 tb288 hdX6_isRow ⟨Nat.le_of_ble_eq_true rfl, Nat.le_of_ble_eq_true rfl⟩ rfl hl.1 (Nat.le_of_ble_eq_true rfl) rfl ⟨Nat.le_refl _, Nat.le_refl _⟩ dX6_copy_1 (fun H locs hP hD hS => ?_)
  have hP : va_P G vwCl (WX6_copy K x_a xA_rows rd_a v_a d_a xA_images ac_a er_a xA_hits xA_bodies x_ra x_rb x_begun x_latestFault x_latestFinding x_lane x_rsz x_item) H := hP
  have hD : va_D A (WX6_copy K x_a xA_rows rd_a v_a d_a xA_images ac_a er_a xA_hits xA_bodies x_ra x_rb x_begun x_latestFault x_latestFinding x_lane x_rsz x_item) := hD
  refine lv_if_eq (tgt := 14) hx hb dX6_copy_4 (by decide) (fun c_4 => ?_) (fun c_4 => ?_)
  · rw [if_pos c_4] at hM
    refine lv_ldc (v := -1000001) hx hb hown (hts _ tb289) dX6_copy_14 ?_
    have t0 := Option.some.inj hM
    obtain ⟨q1, t1⟩ := Prod.mk.inj t0
    obtain ⟨q2, t2⟩ := Prod.mk.inj t1
    subst q1
    subst q2
    subst t2
    exact kr _ _ _ _ dX6_copy_16 hP hD hS
  · rw [if_neg c_4] at hM
    refine lv_iload_n hx hb dX6_copy_7 rfl (lv_at hl 3 rfl) ?_
    obtain ⟨r_5, hC, hM⟩ := oe1 hM
    refine cS_i (As := [.int p3]) (rest := []) C0 hP hD hS [] (kX6_isRow l G K tt L la sa ln sy sn lt st p3 H.size r_5 hC) rfl rfl rfl tb286 tb287 tb1 tb288 hdX6_isRow ⟨Nat.le_of_ble_eq_true rfl, Nat.le_of_ble_eq_true rfl⟩ rfl hl.1 (Nat.le_of_ble_eq_true rfl) rfl ⟨Nat.le_refl _, Nat.le_refl _⟩ dX6_copy_8 (fun H locs hP hD hS => ?_)
    have hP : va_P G vwCl (WX6_copy K x_a xA_rows rd_a v_a d_a xA_images ac_a er_a xA_hits xA_bodies x_ra x_rb x_begun x_latestFault x_latestFinding x_lane x_rsz x_item) H := hP
    have hD : va_D A (WX6_copy K x_a xA_rows rd_a v_a d_a xA_images ac_a er_a xA_hits xA_bodies x_ra x_rb x_begun x_latestFault x_latestFinding x_lane x_rsz x_item) := hD
    refine lv_if_ne (tgt := 17) hx hb dX6_copy_11 (by decide) (fun c_6 => ?_) (fun c_6 => ?_)
    · rw [if_neg c_6] at hM
      refine lv_aload_n hx hb dX6_copy_17 rfl (lv_at hl 0 rfl) ?_
      refine va_get (D := G) (ci := 6) (v := .ref xA_rows) (C := RX6) (T := TX6) (N := 12) hx hb hts inX6 hown hK hP 0 rfl rfl 0 (by decide) (hts _ tb245) (fun _ h9 => h9) rfl dX6_copy_18 ?_
      refine lv_iload_n hx hb dX6_copy_21 rfl (lv_at hl 1 rfl) ?_
      obtain ⟨g_7, hM⟩ := ng hM
      refine va_aldq hx hb hK hP 1 3 rfl rfl g_7 dX6_copy_22 ?_
      show W p l e rmX6_copy s m args below meth c H locs 0 0 Q (F0 m 23 ls [.ref (x_ra p1.toNatClampNeg)])
      refine lv_astore (lv' := [(6, .ref (x_ra p1.toNatClampNeg)), (0, .ref x_a), (1, .int p1), (2, .int p2), (3, .int p3), (4, .int p4), (5, .int p5)]) hx hb dX6_copy_23 hl (by decide) rfl (fun ls hl => ?_)
      refine lv_aload_n hx hb dX6_copy_25 rfl (lv_at hl 1 rfl) ?_
      refine va_get (D := G) (ci := 6) (v := .ref xA_rows) (C := RX6) (T := TX6) (N := 12) hx hb hts inX6 hown hK hP 0 rfl rfl 0 (by decide) (hts _ tb245) (fun _ h9 => h9) rfl dX6_copy_26 ?_
      refine lv_iload_n hx hb dX6_copy_29 rfl (lv_at hl 4 rfl) ?_
      obtain ⟨g_8, hM⟩ := ng hM
      refine va_aldq hx hb hK hP 1 3 rfl rfl g_8 dX6_copy_30 ?_
      show W p l e rmX6_copy s m args below meth c H locs 0 0 Q (F0 m 31 ls [.ref (x_ra p3.toNatClampNeg)])
      refine lv_astore (lv' := [(7, .ref (x_ra p3.toNatClampNeg)), (6, .ref (x_ra p1.toNatClampNeg)), (0, .ref x_a), (1, .int p1), (2, .int p2), (3, .int p3), (4, .int p4), (5, .int p5)]) hx hb dX6_copy_31 hl (by decide) rfl (fun ls hl => ?_)
      refine lv_aload hx hb dX6_copy_33 (lv_at hl 1 rfl) ?_
      obtain ⟨g_10, hM⟩ := ng hM
      obtain ⟨r_9, hC, hM⟩ := oe1 hM
      refine cV_i (As := []) (rest := []) C0 hP hD hS ([] ++ [2 + p1.toNatClampNeg, 2 + (8 + p1.toNatClampNeg)]) (kX4_isMissing l G K tt L la sa ln sy sn lt st (x_ra p1.toNatClampNeg) (x_rb p1.toNatClampNeg) (x_lane p1.toNatClampNeg) (x_rsz p1.toNatClampNeg) (x_item p1.toNatClampNeg) H.size r_9 hC) (co_dec (N := 8) (P := fun i => va_nd ([] ++ [2 + i, 2 + (8 + i)]) = true) (by decide) (Nat.lt_of_not_le g_10)) (wr_hC (len := 2) (wsS := []) rfl (Nat.lt_of_not_le g_10) rfl) rfl tb303 tb304 tb305 tb6 tb306 hdX4_isMissing (va_recv hK hP (ci := 4) (q0 := 2 + p1.toNatClampNeg) rfl (wr_o rfl (Nat.lt_of_not_le g_10))) ⟨Nat.le_of_ble_eq_true rfl, Nat.le_of_ble_eq_true rfl⟩ rfl hl.1 (Nat.le_of_ble_eq_true rfl) rfl ⟨Nat.le_refl _, Nat.le_refl _⟩ dX6_copy_35 (fun H locs hP hD hS => ?_)
      have hP : va_P G vwCl (WX6_copy K x_a xA_rows rd_a v_a d_a xA_images ac_a er_a xA_hits xA_bodies x_ra x_rb x_begun x_latestFault x_latestFinding x_lane x_rsz x_item) H := Eq.mp (congrArg (fun w => va_P G vwCl w H) (wr_keep2 (pre := [(x_a, .inr (6, [.ref xA_rows, .ref rd_a, .ref v_a, .ref d_a, .ref xA_images, .ref ac_a, .ref er_a, .ref xA_hits, .ref xA_bodies, .int x_begun, .int x_latestFault, .int x_latestFinding])), aR K xA_rows 8 x_ra]) (K := K) (ra := x_ra) (rb := x_rb) (lane := x_lane) (rsz := x_rsz) (item := x_item) (len := 2) rfl (Nat.lt_of_not_le g_10))) hP
      have hD : va_D A (WX6_copy K x_a xA_rows rd_a v_a d_a xA_images ac_a er_a xA_hits xA_bodies x_ra x_rb x_begun x_latestFault x_latestFinding x_lane x_rsz x_item) := Eq.mp (congrArg (fun w => va_D A w) (wr_keep2 (pre := [(x_a, .inr (6, [.ref xA_rows, .ref rd_a, .ref v_a, .ref d_a, .ref xA_images, .ref ac_a, .ref er_a, .ref xA_hits, .ref xA_bodies, .int x_begun, .int x_latestFault, .int x_latestFinding])), aR K xA_rows 8 x_ra]) (K := K) (ra := x_ra) (rb := x_rb) (lane := x_lane) (rsz := x_rsz) (item := x_item) (len := 2) rfl (Nat.lt_of_not_le g_10))) hD
      refine lv_if_ne (tgt := 49) hx hb dX6_copy_38 (by decide) (fun c_11 => ?_) (fun c_11 => ?_)
      · rw [if_neg c_11] at hM
        exact wX6_copy_b49 C0 x_a xA_rows rd_a v_a d_a xA_images ac_a er_a xA_hits xA_bodies x_ra x_rb x_begun x_latestFault x_lane x_rsz p1 p2 p3 p4 p5 r o_x_latestFinding o_x_item kr  x_latestFinding x_item hM _ _ _ hP hD hS (lv_sub hl [2] rfl)
      · rw [if_pos c_11] at hM
        refine lv_aload hx hb dX6_copy_41 (lv_at hl 0 rfl) ?_
        obtain ⟨g_13, hM⟩ := ng hM
        obtain ⟨r_12, hC, hM⟩ := oe1 hM
        refine cV_i (As := []) (rest := []) C0 hP hD hS ([] ++ [2 + p3.toNatClampNeg, 2 + (8 + p3.toNatClampNeg)]) (kX4_isMissing l G K tt L la sa ln sy sn lt st (x_ra p3.toNatClampNeg) (x_rb p3.toNatClampNeg) (x_lane p3.toNatClampNeg) (x_rsz p3.toNatClampNeg) (x_item p3.toNatClampNeg) H.size r_12 hC) (co_dec (N := 8) (P := fun i => va_nd ([] ++ [2 + i, 2 + (8 + i)]) = true) (by decide) (Nat.lt_of_not_le g_13)) (wr_hC (len := 2) (wsS := []) rfl (Nat.lt_of_not_le g_13) rfl) rfl tb303 tb304 tb305 tb6 tb306 hdX4_isMissing (va_recv hK hP (ci := 4) (q0 := 2 + p3.toNatClampNeg) rfl (wr_o rfl (Nat.lt_of_not_le g_13))) ⟨Nat.le_of_ble_eq_true rfl, Nat.le_of_ble_eq_true rfl⟩ rfl hl.1 (Nat.le_of_ble_eq_true rfl) rfl ⟨Nat.le_refl _, Nat.le_refl _⟩ dX6_copy_43 (fun H locs hP hD hS => ?_)
        have hP : va_P G vwCl (WX6_copy K x_a xA_rows rd_a v_a d_a xA_images ac_a er_a xA_hits xA_bodies x_ra x_rb x_begun x_latestFault x_latestFinding x_lane x_rsz x_item) H := Eq.mp (congrArg (fun w => va_P G vwCl w H) (wr_keep2 (pre := [(x_a, .inr (6, [.ref xA_rows, .ref rd_a, .ref v_a, .ref d_a, .ref xA_images, .ref ac_a, .ref er_a, .ref xA_hits, .ref xA_bodies, .int x_begun, .int x_latestFault, .int x_latestFinding])), aR K xA_rows 8 x_ra]) (K := K) (ra := x_ra) (rb := x_rb) (lane := x_lane) (rsz := x_rsz) (item := x_item) (len := 2) rfl (Nat.lt_of_not_le g_13))) hP
        have hD : va_D A (WX6_copy K x_a xA_rows rd_a v_a d_a xA_images ac_a er_a xA_hits xA_bodies x_ra x_rb x_begun x_latestFault x_latestFinding x_lane x_rsz x_item) := Eq.mp (congrArg (fun w => va_D A w) (wr_keep2 (pre := [(x_a, .inr (6, [.ref xA_rows, .ref rd_a, .ref v_a, .ref d_a, .ref xA_images, .ref ac_a, .ref er_a, .ref xA_hits, .ref xA_bodies, .int x_begun, .int x_latestFault, .int x_latestFinding])), aR K xA_rows 8 x_ra]) (K := K) (ra := x_ra) (rb := x_rb) (lane := x_lane) (rsz := x_rsz) (item := x_item) (len := 2) rfl (Nat.lt_of_not_le g_13))) hD
        refine lv_if_eq (tgt := 55) hx hb dX6_copy_46 (by decide) (fun c_14 => ?_) (fun c_14 => ?_)
        · rw [if_pos c_14] at hM
          refine lv_aload hx hb dX6_copy_55 (lv_at hl 1 rfl) ?_
          obtain ⟨g_15, hM⟩ := ng hM
          refine va_get (D := G) (ci := 4) (v := .int (x_lane p1.toNatClampNeg)) (C := RX4) (T := TX4) (N := 3) hx hb hts inX4 hown hK hP (2 + p1.toNatClampNeg) (wr_o rfl (Nat.lt_of_not_le g_15)) rfl 1 (by decide) (hts _ tb156) (fun _ h9 => h9) rfl dX6_copy_57 ?_
          refine lv_aload hx hb dX6_copy_60 (lv_at hl 0 rfl) ?_
          obtain ⟨g_16, hM⟩ := ng hM
          refine va_get (D := G) (ci := 4) (v := .int (x_lane p3.toNatClampNeg)) (C := RX4) (T := TX4) (N := 3) hx hb hts inX4 hown hK hP (2 + p3.toNatClampNeg) (wr_o rfl (Nat.lt_of_not_le g_16)) rfl 1 (by decide) (hts _ tb156) (fun _ h9 => h9) rfl dX6_copy_62 ?_
          refine lv_icmp_eq (tgt := 74) hx hb dX6_copy_65 (by decide) (fun c_17 => ?_) (fun c_17 => ?_)
          · rw [if_pos c_17] at hM
            refine lv_aload hx hb dX6_copy_74 (lv_at hl 1 rfl) ?_
            refine lv_iload_n hx hb dX6_copy_76 rfl (lv_at hl 4 rfl) ?_
            refine lv_iload hx hb dX6_copy_77 (lv_at hl 7 rfl) ?_
            obtain ⟨g_19, hM⟩ := ng hM
            obtain ⟨r_18, hC, hM⟩ := oe1 hM
            refine cV_i (As := [.int p2, .int p5]) (rest := []) C0 hP hD hS ([] ++ [2 + p1.toNatClampNeg, 2 + (8 + p1.toNatClampNeg)]) (kX4_holds l G K tt L la sa ln sy sn lt st (x_ra p1.toNatClampNeg) (x_rb p1.toNatClampNeg) (x_lane p1.toNatClampNeg) (x_rsz p1.toNatClampNeg) (x_item p1.toNatClampNeg) p2 p5 H.size r_18 hC) (co_dec (N := 8) (P := fun i => va_nd ([] ++ [2 + i, 2 + (8 + i)]) = true) (by decide) (Nat.lt_of_not_le g_19)) (wr_hC (len := 2) (wsS := []) rfl (Nat.lt_of_not_le g_19) rfl) rfl tb307 tb308 tb309 tb6 tb310 hdX4_holds (va_recv hK hP (ci := 4) (q0 := 2 + p1.toNatClampNeg) rfl (wr_o rfl (Nat.lt_of_not_le g_19))) ⟨Nat.le_of_ble_eq_true rfl, Nat.le_of_ble_eq_true rfl⟩ rfl hl.1 (Nat.le_of_ble_eq_true rfl) rfl ⟨Nat.le_refl _, Nat.le_refl _⟩ dX6_copy_79 (fun H locs hP hD hS => ?_)
            have hP : va_P G vwCl (WX6_copy K x_a xA_rows rd_a v_a d_a xA_images ac_a er_a xA_hits xA_bodies x_ra x_rb x_begun x_latestFault x_latestFinding x_lane x_rsz x_item) H := Eq.mp (congrArg (fun w => va_P G vwCl w H) (wr_keep2 (pre := [(x_a, .inr (6, [.ref xA_rows, .ref rd_a, .ref v_a, .ref d_a, .ref xA_images, .ref ac_a, .ref er_a, .ref xA_hits, .ref xA_bodies, .int x_begun, .int x_latestFault, .int x_latestFinding])), aR K xA_rows 8 x_ra]) (K := K) (ra := x_ra) (rb := x_rb) (lane := x_lane) (rsz := x_rsz) (item := x_item) (len := 2) rfl (Nat.lt_of_not_le g_19))) hP
            have hD : va_D A (WX6_copy K x_a xA_rows rd_a v_a d_a xA_images ac_a er_a xA_hits xA_bodies x_ra x_rb x_begun x_latestFault x_latestFinding x_lane x_rsz x_item) := Eq.mp (congrArg (fun w => va_D A w) (wr_keep2 (pre := [(x_a, .inr (6, [.ref xA_rows, .ref rd_a, .ref v_a, .ref d_a, .ref xA_images, .ref ac_a, .ref er_a, .ref xA_hits, .ref xA_bodies, .int x_begun, .int x_latestFault, .int x_latestFinding])), aR K xA_rows 8 x_ra]) (K := K) (ra := x_ra) (rb := x_rb) (lane := x_lane) (rsz := x_rsz) (item := x_item) (len := 2) rfl (Nat.lt_of_not_le g_19))) hD
            refine lv_if_eq (tgt := 97) hx hb dX6_copy_82 (by decide) (fun c_20 => ?_) (fun c_20 => ?_)
            · rw [if_pos c_20] at hM
              exact wX6_copy_b97 C0 x_a xA_rows rd_a v_a d_a xA_images ac_a er_a xA_hits xA_bodies x_ra x_rb x_begun x_latestFault x_lane x_rsz p1 p2 p3 p4 p5 r o_x_latestFinding o_x_item kr  x_latestFinding x_item hM _ _ _ hP hD hS (lv_sub hl [2] rfl)
            · rw [if_neg c_20] at hM
              refine lv_aload hx hb dX6_copy_85 (lv_at hl 0 rfl) ?_
              refine lv_iload hx hb dX6_copy_87 (lv_at hl 6 rfl) ?_
              refine lv_iload hx hb dX6_copy_89 (lv_at hl 7 rfl) ?_
              obtain ⟨g_22, hM⟩ := ng hM
              obtain ⟨r_21, hC, hM⟩ := oe1 hM
              refine cV_i (As := [.int p4, .int p5]) (rest := []) C0 hP hD hS ([] ++ [2 + p3.toNatClampNeg, 2 + (8 + p3.toNatClampNeg)]) (kX4_holds l G K tt L la sa ln sy sn lt st (x_ra p3.toNatClampNeg) (x_rb p3.toNatClampNeg) (x_lane p3.toNatClampNeg) (x_rsz p3.toNatClampNeg) (x_item p3.toNatClampNeg) p4 p5 H.size r_21 hC) (co_dec (N := 8) (P := fun i => va_nd ([] ++ [2 + i, 2 + (8 + i)]) = true) (by decide) (Nat.lt_of_not_le g_22)) (wr_hC (len := 2) (wsS := []) rfl (Nat.lt_of_not_le g_22) rfl) rfl tb307 tb308 tb309 tb6 tb310 hdX4_holds (va_recv hK hP (ci := 4) (q0 := 2 + p3.toNatClampNeg) rfl (wr_o rfl (Nat.lt_of_not_le g_22))) ⟨Nat.le_of_ble_eq_true rfl, Nat.le_of_ble_eq_true rfl⟩ rfl hl.1 (Nat.le_of_ble_eq_true rfl) rfl ⟨Nat.le_refl _, Nat.le_refl _⟩ dX6_copy_91 (fun H locs hP hD hS => ?_)
              have hP : va_P G vwCl (WX6_copy K x_a xA_rows rd_a v_a d_a xA_images ac_a er_a xA_hits xA_bodies x_ra x_rb x_begun x_latestFault x_latestFinding x_lane x_rsz x_item) H := Eq.mp (congrArg (fun w => va_P G vwCl w H) (wr_keep2 (pre := [(x_a, .inr (6, [.ref xA_rows, .ref rd_a, .ref v_a, .ref d_a, .ref xA_images, .ref ac_a, .ref er_a, .ref xA_hits, .ref xA_bodies, .int x_begun, .int x_latestFault, .int x_latestFinding])), aR K xA_rows 8 x_ra]) (K := K) (ra := x_ra) (rb := x_rb) (lane := x_lane) (rsz := x_rsz) (item := x_item) (len := 2) rfl (Nat.lt_of_not_le g_22))) hP
              have hD : va_D A (WX6_copy K x_a xA_rows rd_a v_a d_a xA_images ac_a er_a xA_hits xA_bodies x_ra x_rb x_begun x_latestFault x_latestFinding x_lane x_rsz x_item) := Eq.mp (congrArg (fun w => va_D A w) (wr_keep2 (pre := [(x_a, .inr (6, [.ref xA_rows, .ref rd_a, .ref v_a, .ref d_a, .ref xA_images, .ref ac_a, .ref er_a, .ref xA_hits, .ref xA_bodies, .int x_begun, .int x_latestFault, .int x_latestFinding])), aR K xA_rows 8 x_ra]) (K := K) (ra := x_ra) (rb := x_rb) (lane := x_lane) (rsz := x_rsz) (item := x_item) (len := 2) rfl (Nat.lt_of_not_le g_22))) hD
              refine lv_if_ne (tgt := 103) hx hb dX6_copy_94 (by decide) (fun c_23 => ?_) (fun c_23 => ?_)
              · rw [if_neg c_23] at hM
                refine lv_aload_n hx hb dX6_copy_103 rfl (lv_at hl 2 rfl) ?_
                refine lv_iconst (v := 0) hx hb dX6_copy_104 (by decide) ?_
                refine va_put (D := G) (ci := 6) (v := .int (0 : Int32)) (ty := .int) (C := RX6) (T := TX6) (N := 12) hx hb hts inX6 tyX6 tyX6_ok nmX6 hown hK hP hD hS 0 rfl rfl 11 (by decide) (hts _ tb256) (fun _ h9 => h9) rfl (tyX6_ok 11 (by decide)) rfl rfl (Nat.le_of_ble_eq_true rfl) dX6_copy_105 (fun H locs hP hD hS => ?_)
                have hP : va_P G vwCl (WX6_copy K x_a xA_rows rd_a v_a d_a xA_images ac_a er_a xA_hits xA_bodies x_ra x_rb x_begun x_latestFault (0 : Int32) x_lane x_rsz x_item) H := hP
                have hD : va_D A (WX6_copy K x_a xA_rows rd_a v_a d_a xA_images ac_a er_a xA_hits xA_bodies x_ra x_rb x_begun x_latestFault (0 : Int32) x_lane x_rsz x_item) := hD
                refine lv_aload hx hb dX6_copy_108 (lv_at hl 1 rfl) ?_
                obtain ⟨g_24, hM⟩ := ng hM
                refine va_get (D := G) (ci := 4) (v := .ref (x_rb p1.toNatClampNeg)) (C := RX4) (T := TX4) (N := 3) hx hb hts inX4 hown hK hP (2 + p1.toNatClampNeg) (wr_o rfl (Nat.lt_of_not_le g_24)) rfl 0 (by decide) (hts _ tb154) (fun _ h9 => h9) rfl dX6_copy_110 ?_
                refine lv_iload_n hx hb dX6_copy_113 rfl (lv_at hl 4 rfl) ?_
                refine lv_aload hx hb dX6_copy_114 (lv_at hl 0 rfl) ?_
                obtain ⟨g_25, hM⟩ := ng hM
                refine va_get (D := G) (ci := 4) (v := .ref (x_rb p3.toNatClampNeg)) (C := RX4) (T := TX4) (N := 3) hx hb hts inX4 hown hK hP (2 + p3.toNatClampNeg) (wr_o rfl (Nat.lt_of_not_le g_25)) rfl 0 (by decide) (hts _ tb154) (fun _ h9 => h9) rfl dX6_copy_116 ?_
                refine lv_iload hx hb dX6_copy_119 (lv_at hl 6 rfl) ?_
                refine lv_iload hx hb dX6_copy_121 (lv_at hl 7 rfl) ?_
                obtain ⟨g_26, hM⟩ := ng hM
                obtain ⟨g_27, hM⟩ := ng hM
                obtain ⟨g_28, hM⟩ := ng hM
                obtain ⟨g_29, hM⟩ := ng hM
                obtain ⟨g_30, hM⟩ := ng hM
                obtain ⟨g_31, hM⟩ := ng hM
                obtain ⟨g_32, hM⟩ := ng hM
                refine va_copyi hx hb (hml.trans hl.1.symm) hown (hts _ tb319) (hts _ tb321) (hts _ tb320) (hts _ tb10) hK hP hD hS (2 + (8 + p1.toNatClampNeg)) (2 + (8 + p3.toNatClampNeg)) 0 0 (wr_i rfl (Nat.lt_of_not_le g_26)) (wr_i rfl (Nat.lt_of_not_le g_27)) rfl rfl rfl g_28 g_29 g_30 (Nat.le_of_not_lt g_31) (Nat.le_of_not_lt g_32) (fun _ _ => rfl) (Nat.le_of_ble_eq_true rfl) (by decide) dX6_copy_123 (fun H locs hP hD hS => ?_)
                have hP : va_P G vwCl (WX6_copy K x_a xA_rows rd_a v_a d_a xA_images ac_a er_a xA_hits xA_bodies x_ra x_rb x_begun x_latestFault (0 : Int32) x_lane x_rsz (va_up x_item p3.toNatClampNeg (va_cpy (x_item p1.toNatClampNeg) (x_item p3.toNatClampNeg) p2.toNatClampNeg p4.toNatClampNeg p5.toNatClampNeg))) H := Eq.mp (congrArg (fun w => va_P G vwCl w H) (wr_si (pre := [(x_a, .inr (6, [.ref xA_rows, .ref rd_a, .ref v_a, .ref d_a, .ref xA_images, .ref ac_a, .ref er_a, .ref xA_hits, .ref xA_bodies, .int x_begun, .int x_latestFault, .int (0 : Int32)])), aR K xA_rows 8 x_ra]) (K := K) (ra := x_ra) (rb := x_rb) (lane := x_lane) (rsz := x_rsz) (item := x_item) (len := 2) rfl (Nat.lt_of_not_le g_27) (va_cpy (x_item p1.toNatClampNeg) (x_item p3.toNatClampNeg) p2.toNatClampNeg p4.toNatClampNeg p5.toNatClampNeg))) hP
                have hD : va_D A (WX6_copy K x_a xA_rows rd_a v_a d_a xA_images ac_a er_a xA_hits xA_bodies x_ra x_rb x_begun x_latestFault (0 : Int32) x_lane x_rsz (va_up x_item p3.toNatClampNeg (va_cpy (x_item p1.toNatClampNeg) (x_item p3.toNatClampNeg) p2.toNatClampNeg p4.toNatClampNeg p5.toNatClampNeg))) := Eq.mp (congrArg (fun w => va_D A w) (wr_si (pre := [(x_a, .inr (6, [.ref xA_rows, .ref rd_a, .ref v_a, .ref d_a, .ref xA_images, .ref ac_a, .ref er_a, .ref xA_hits, .ref xA_bodies, .int x_begun, .int x_latestFault, .int (0 : Int32)])), aR K xA_rows 8 x_ra]) (K := K) (ra := x_ra) (rb := x_rb) (lane := x_lane) (rsz := x_rsz) (item := x_item) (len := 2) rfl (Nat.lt_of_not_le g_27) (va_cpy (x_item p1.toNatClampNeg) (x_item p3.toNatClampNeg) p2.toNatClampNeg p4.toNatClampNeg p5.toNatClampNeg))) hD
                refine lv_iload hx hb dX6_copy_126 (lv_at hl 7 rfl) ?_
                have t0 := Option.some.inj hM
                obtain ⟨q1, t1⟩ := Prod.mk.inj t0
                obtain ⟨q2, t2⟩ := Prod.mk.inj t1
                subst q1
                subst q2
                subst t2
                exact kr _ _ _ _ dX6_copy_128 hP hD hS
              · rw [if_pos c_23] at hM
                exact wX6_copy_b97 C0 x_a xA_rows rd_a v_a d_a xA_images ac_a er_a xA_hits xA_bodies x_ra x_rb x_begun x_latestFault x_lane x_rsz p1 p2 p3 p4 p5 r o_x_latestFinding o_x_item kr  x_latestFinding x_item hM _ _ _ hP hD hS (lv_sub hl [2] rfl)
          · rw [if_neg c_17] at hM
            refine lv_aload_n hx hb dX6_copy_68 rfl (lv_at hl 2 rfl) ?_
            refine lv_iconst (v := 5) hx hb dX6_copy_69 (by decide) ?_
            obtain ⟨r_33, u0_33, hC, hM⟩ := oe2 hM
            refine cV_i (As := [.int (5 : Int32)]) (rest := []) C0 hP hD hS [0] (kX6_found l G K tt L la sa ln sy sn lt st x_a xA_rows rd_a v_a d_a xA_images ac_a er_a xA_hits xA_bodies x_begun x_latestFault x_latestFinding (5 : Int32) H.size r_33 u0_33 hC) rfl rfl rfl tb290 tb292 tp0 tb1 tb293 hdX6_found (va_recv hK hP (ci := 6) (q0 := 0) rfl rfl) ⟨Nat.le_of_ble_eq_true rfl, Nat.le_of_ble_eq_true rfl⟩ rfl hl.1 (Nat.le_of_ble_eq_true rfl) rfl ⟨Nat.le_refl _, Nat.le_refl _⟩ dX6_copy_70 (fun H locs hP hD hS => ?_)
            have hP : va_P G vwCl (WX6_copy K x_a xA_rows rd_a v_a d_a xA_images ac_a er_a xA_hits xA_bodies x_ra x_rb x_begun x_latestFault u0_33 x_lane x_rsz x_item) H := hP
            have hD : va_D A (WX6_copy K x_a xA_rows rd_a v_a d_a xA_images ac_a er_a xA_hits xA_bodies x_ra x_rb x_begun x_latestFault u0_33 x_lane x_rsz x_item) := hD
            have t0 := Option.some.inj hM
            obtain ⟨q1, t1⟩ := Prod.mk.inj t0
            obtain ⟨q2, t2⟩ := Prod.mk.inj t1
            subst q1
            subst q2
            subst t2
            exact kr _ _ _ _ dX6_copy_73 hP hD hS
        · rw [if_neg c_14] at hM
          exact wX6_copy_b49 C0 x_a xA_rows rd_a v_a d_a xA_images ac_a er_a xA_hits xA_bodies x_ra x_rb x_begun x_latestFault x_lane x_rsz p1 p2 p3 p4 p5 r o_x_latestFinding o_x_item kr  x_latestFinding x_item hM _ _ _ hP hD hS (lv_sub hl [2] rfl)
    · rw [if_pos c_6] at hM
      refine lv_ldc (v := -1000001) hx hb hown (hts _ tb289) dX6_copy_14 ?_
      have t0 := Option.some.inj hM
      obtain ⟨q1, t1⟩ := Prod.mk.inj t0
      obtain ⟨q2, t2⟩ := Prod.mk.inj t1
      subst q1
      subst q2
      subst t2
      exact kr _ _ _ _ dX6_copy_16 hP hD hS
set_option maxHeartbeats 4000000 in
set_option maxRecDepth 100000 in
theorem kX6_copy (l : Launch) (G : va_G) (K : Nat → ClassId) (tt : Nat → Nat) (L : List Nat) (la : Nat → Nat) (sa : Nat → Nat) (ln : Nat → Int32) (sy : Nat → Int32) (sn : Nat → Int32) (lt : Nat → Nat → Int32) (st : Nat → Nat → Int32) (x_a xA_rows rd_a v_a d_a xA_images ac_a er_a xA_hits xA_bodies : Nat) (x_ra x_rb : Nat → Nat) (x_begun : Int32) (x_latestFault : Int32) (x_latestFinding : Int32) (x_lane : Nat → Int32) (x_rsz : Nat → Int32) (x_item : Nat → Nat → Int32) (p1 : Int32) (p2 : Int32) (p3 : Int32) (p4 : Int32) (p5 : Int32) (sz : Nat) (r : Int32) (o_x_latestFinding : Int32) (o_x_item : Nat → Nat → Int32) (hM : mX6_copy x_lane x_rsz x_latestFinding x_item p1 p2 p3 p4 p5 = some (r, o_x_latestFinding, o_x_item)) : Met l yX6_copy (mC yX6_copy cX6_copy 8 (some .int)) rmX6_copy (va_Pc [.ref x_a, .int p1, .int p2, .int p3, .int p4, .int p5] (PCe G K (EC G K tt L la sa ln sy sn lt st) (WX6_copy K x_a xA_rows rd_a v_a d_a xA_images ac_a er_a xA_hits xA_bodies x_ra x_rb x_begun x_latestFault x_latestFinding x_lane x_rsz x_item) sz)) (va_Qi (fun (x : Int32) (_ : Unit) => x = r) (fun _ t => va_P G vwCl (WX6_copy K x_a xA_rows rd_a v_a d_a xA_images ac_a er_a xA_hits xA_bodies x_ra x_rb x_begun x_latestFault o_x_latestFinding x_lane x_rsz o_x_item) t.heap) (va_A (WX6_copy K x_a xA_rows rd_a v_a d_a xA_images ac_a er_a xA_hits xA_bodies x_ra x_rb x_begun x_latestFault x_latestFinding x_lane x_rsz x_item) sz)) rmX6_copy.cells rmX6_copy.slots (va_A (WX6_copy K x_a xA_rows rd_a v_a d_a xA_images ac_a er_a xA_hits xA_bodies x_ra x_rb x_begun x_latestFault x_latestFinding x_lane x_rsz x_item) sz) := by
  refine Met.ofW (cc := cX6_copy) (maxL := 8) (ret := (some .int)) (by decide) rfl ?_
  intro p e s m args below meth c s₁ B hml hv
  obtain ⟨rfl, hsz, hP, hK, hD0, hE⟩ := hv
  have hx := B.exec
  have hb := B.bytes
  have hr := B.returns
  have hts0 := atoms_spec (ws := mC yX6_copy cX6_copy 8 (some .int)) B.pre
  have hts : ∀ w ∈ tbG, w.before _ s = true := fun w h => hts0 w (List.mem_cons_of_mem _ h)
  have hown : s.vm.findClass RX6 = some m.cls := findClass_of_methodNamed B.named
  subst hsz
  have hD := hD0.self (sz := s.heap.size)
  generalize hAe : va_A (WX6_copy K x_a xA_rows rd_a v_a d_a xA_images ac_a er_a xA_hits xA_bodies x_ra x_rb x_begun x_latestFault x_latestFinding x_lane x_rsz x_item) s.heap.size = A at hD hE ⊢
  have hA : ∀ q : Nat, s.heap.size ≤ q → A q := fun q h => by rw [← hAe]; exact Or.inr h
  have hS : va_S A s.heap s.heap [] := va_S.rf
  have hl := lv_entry ([.ref x_a, .int p1, .int p2, .int p3, .int p4, .int p5]) (n := 8) (Nat.le_of_ble_eq_true rfl)
  rw [lg_entry_eq]
  generalize (lg_sl ([.ref x_a, .int p1, .int p2, .int p3, .int p4, .int p5]) ++ List.replicate (8 - (lg_sl ([.ref x_a, .int p1, .int p2, .int p3, .int p4, .int p5])).length) Slot.unset).toArray = ls at hl ⊢
  have hl : lv_has ls 8 [(0, .ref x_a), (1, .int p1), (2, .int p2), (3, .int p3), (4, .int p4), (5, .int p5)] := hl
  exact wX6_copy_b0 ⟨hx, hb, hml, hown, hts, hK, hA, EC_ok _ _ _ _ _ _ _ _ _ _ _, hE⟩ x_a xA_rows rd_a v_a d_a xA_images ac_a er_a xA_hits xA_bodies x_ra x_rb x_begun x_latestFault x_lane x_rsz p1 p2 p3 p4 p5 r o_x_latestFinding o_x_item (fun H locs ls pc hdg hP hD hS => W.iret (v := r) hx hb hr (fun t ht hW => ⟨⟨r, (), rfl, rfl, (show va_P G vwCl _ t.heap by rw [ht]; exact hP)⟩, hS.F ht⟩) hS.2.2 hdg) x_latestFinding x_item  hM _ _ _ hP hD hS hl
def mX6_drop_b0 (x_rsz : Nat → Int32) (p1 : Int32)  (x_latestFinding : Int32) (x_lane : Nat → Int32) : Option (Int32 × (Int32) × (Nat → Int32)) := ob1 (mX6_isRow p1) (fun r_1 => (if r_1 = 0 then some ((-1000001 : Int32), x_latestFinding, x_lane) else if (p1 < 0 ∨ 8 ≤ p1.toNatClampNeg) then none else if (8 ≤ p1.toNatClampNeg) then none else ob1 (mX4_isMissing (x_lane p1.toNatClampNeg)) (fun r_4 => (if r_4 = 0 then if (8 ≤ p1.toNatClampNeg) then none else if (8 ≤ p1.toNatClampNeg) then none else some ((x_rsz p1.toNatClampNeg), (0 : Int32), (va_up x_lane p1.toNatClampNeg ((-1) : Int32))) else ob2 (mX6_found x_latestFinding (1 : Int32)) (fun r_9 u0_9 => some (r_9, u0_9, x_lane))))))
def mX6_drop (x_rsz : Nat → Int32) (x_latestFinding : Int32) (x_lane : Nat → Int32) (p1 : Int32) : Option (Int32 × (Int32) × (Nat → Int32)) := mX6_drop_b0 x_rsz p1 x_latestFinding x_lane 
abbrev WX6_drop (K : Nat → ClassId) (x_a xA_rows rd_a v_a d_a xA_images ac_a er_a xA_hits xA_bodies : Nat) (x_ra x_rb : Nat → Nat) (x_begun : Int32) (x_latestFault : Int32) (x_latestFinding : Int32) (x_lane : Nat → Int32) (x_rsz : Nat → Int32) (x_item : Nat → Nat → Int32) : va_W := ([(x_a, .inr (6, [.ref xA_rows, .ref rd_a, .ref v_a, .ref d_a, .ref xA_images, .ref ac_a, .ref er_a, .ref xA_hits, .ref xA_bodies, .int x_begun, .int x_latestFault, .int x_latestFinding])), aR K xA_rows 8 x_ra] ++ wrs K x_ra x_rb x_lane x_rsz x_item)
def rmX6_drop : Room := { frames := 1, cells := 0, slots := 0, locals := 21 }
theorem hdX6_drop : yX6_drop.cls = RX6 ∧ yX6_drop.cls ≠ "java/lang/invoke/MethodHandle" ∧ yX6_drop.cls ≠ "java/lang/invoke/VarHandle" ∧ (parseMethodDescriptor yX6_drop.desc).map (fun d => d.parameters.length) = some 1 := by decide +kernel
set_option maxHeartbeats 4000000 in
set_option maxRecDepth 100000 in
theorem wX6_drop_b0 {p : Program} {l : Launch} {e : Env} {s : State} {m : MethodId} {args : Array Value} {below : List Frame} {meth : Method} {c : Code} {Q : State → Prop} {G : va_G} {K : Nat → ClassId} {A : Nat → Prop} {tt : Nat → Nat} {L : List Nat} {la : Nat → Nat} {sa : Nat → Nat} {ln : Nat → Int32} {sy : Nat → Int32} {sn : Nat → Int32} {lt : Nat → Nat → Int32} {st : Nat → Nat → Int32} (C0 : CX p s m args c cX6_drop 3 RX6 G K (EC G K tt L la sa ln sy sn lt st) A) (x_a xA_rows rd_a v_a d_a xA_images ac_a er_a xA_hits xA_bodies : Nat) (x_ra x_rb : Nat → Nat) (x_begun : Int32) (x_latestFault : Int32) (x_rsz : Nat → Int32) (x_item : Nat → Nat → Int32) (p1 : Int32) (r : Int32) (o_x_latestFinding : Int32) (o_x_lane : Nat → Int32) (kr : ∀ (H : Heap) (locs : List Loc) (ls : Array Slot) (pc : Nat), decode cX6_drop pc = .ok (.ireturn, 1) → va_P G vwCl (WX6_drop K x_a xA_rows rd_a v_a d_a xA_images ac_a er_a xA_hits xA_bodies x_ra x_rb x_begun x_latestFault o_x_latestFinding o_x_lane x_rsz x_item) H → va_D A (WX6_drop K x_a xA_rows rd_a v_a d_a xA_images ac_a er_a xA_hits xA_bodies x_ra x_rb x_begun x_latestFault o_x_latestFinding o_x_lane x_rsz x_item) → va_S A s.heap H locs → W p l e rmX6_drop s m args below meth c H locs 0 0 Q (F0 m pc ls [.int r])) (x_latestFinding : Int32) (x_lane : Nat → Int32) (hM : mX6_drop_b0 x_rsz p1  x_latestFinding x_lane = some (r, o_x_latestFinding, o_x_lane)) : ∀ (H : Heap) (locs : List Loc) (ls : Array Slot), va_P G vwCl (WX6_drop K x_a xA_rows rd_a v_a d_a xA_images ac_a er_a xA_hits xA_bodies x_ra x_rb x_begun x_latestFault x_latestFinding x_lane x_rsz x_item) H → va_D A (WX6_drop K x_a xA_rows rd_a v_a d_a xA_images ac_a er_a xA_hits xA_bodies x_ra x_rb x_begun x_latestFault x_latestFinding x_lane x_rsz x_item) → va_S A s.heap H locs → lv_has ls 3 [(0, .ref x_a), (1, .int p1)] → W p l e rmX6_drop s m args below meth c H locs 0 0 Q (F0 m 0 ls []) := by
  obtain ⟨hx, hb, hml, hown, hts, hK, hA, hEo, hE⟩ := id C0
  intro H locs ls hP hD hS hl
  unfold mX6_drop_b0 at hM
  refine lv_iload_n hx hb dX6_drop_0 rfl (lv_at hl 1 rfl) ?_
  obtain ⟨r_1, hC, hM⟩ := oe1 hM
  refine cS_i (As := [.int p1]) (rest := []) C0 hP hD hS [] (kX6_isRow l G K tt L la sa ln sy sn lt st p1 H.size r_1 hC) rfl rfl rfl tb286 tb287 tb1 tb288 hdX6_isRow ⟨Nat.le_of_ble_eq_true rfl, Nat.le_of_ble_eq_true rfl⟩ rfl hl.1 (Nat.le_of_ble_eq_true rfl) rfl ⟨Nat.le_refl _, Nat.le_refl _⟩ dX6_drop_1 (fun H locs hP hD hS => ?_)
  have hP : va_P G vwCl (WX6_drop K x_a xA_rows rd_a v_a d_a xA_images ac_a er_a xA_hits xA_bodies x_ra x_rb x_begun x_latestFault x_latestFinding x_lane x_rsz x_item) H := hP
  have hD : va_D A (WX6_drop K x_a xA_rows rd_a v_a d_a xA_images ac_a er_a xA_hits xA_bodies x_ra x_rb x_begun x_latestFault x_latestFinding x_lane x_rsz x_item) := hD
  refine lv_if_ne (tgt := 10) hx hb dX6_drop_4 (by decide) (fun c_2 => ?_) (fun c_2 => ?_)
  · rw [if_neg c_2] at hM
    refine lv_aload_n hx hb dX6_drop_10 rfl (lv_at hl 0 rfl) ?_
    refine va_get (D := G) (ci := 6) (v := .ref xA_rows) (C := RX6) (T := TX6) (N := 12) hx hb hts inX6 hown hK hP 0 rfl rfl 0 (by decide) (hts _ tb245) (fun _ h9 => h9) rfl dX6_drop_11 ?_
    refine lv_iload_n hx hb dX6_drop_14 rfl (lv_at hl 1 rfl) ?_
    obtain ⟨g_3, hM⟩ := ng hM
    refine va_aldq hx hb hK hP 1 3 rfl rfl g_3 dX6_drop_15 ?_
    show W p l e rmX6_drop s m args below meth c H locs 0 0 Q (F0 m 16 ls [.ref (x_ra p1.toNatClampNeg)])
    refine lv_astore_n (lv' := [(2, .ref (x_ra p1.toNatClampNeg)), (0, .ref x_a), (1, .int p1)]) hx hb dX6_drop_16 rfl hl (by decide) rfl (fun ls hl => ?_)
    refine lv_aload_n hx hb dX6_drop_17 rfl (lv_at hl 0 rfl) ?_
    obtain ⟨g_5, hM⟩ := ng hM
    obtain ⟨r_4, hC, hM⟩ := oe1 hM
    refine cV_i (As := []) (rest := []) C0 hP hD hS ([] ++ [2 + p1.toNatClampNeg, 2 + (8 + p1.toNatClampNeg)]) (kX4_isMissing l G K tt L la sa ln sy sn lt st (x_ra p1.toNatClampNeg) (x_rb p1.toNatClampNeg) (x_lane p1.toNatClampNeg) (x_rsz p1.toNatClampNeg) (x_item p1.toNatClampNeg) H.size r_4 hC) (co_dec (N := 8) (P := fun i => va_nd ([] ++ [2 + i, 2 + (8 + i)]) = true) (by decide) (Nat.lt_of_not_le g_5)) (wr_hC (len := 2) (wsS := []) rfl (Nat.lt_of_not_le g_5) rfl) rfl tb303 tb304 tb305 tb6 tb306 hdX4_isMissing (va_recv hK hP (ci := 4) (q0 := 2 + p1.toNatClampNeg) rfl (wr_o rfl (Nat.lt_of_not_le g_5))) ⟨Nat.le_of_ble_eq_true rfl, Nat.le_of_ble_eq_true rfl⟩ rfl hl.1 (Nat.le_of_ble_eq_true rfl) rfl ⟨Nat.le_refl _, Nat.le_refl _⟩ dX6_drop_18 (fun H locs hP hD hS => ?_)
    have hP : va_P G vwCl (WX6_drop K x_a xA_rows rd_a v_a d_a xA_images ac_a er_a xA_hits xA_bodies x_ra x_rb x_begun x_latestFault x_latestFinding x_lane x_rsz x_item) H := Eq.mp (congrArg (fun w => va_P G vwCl w H) (wr_keep2 (pre := [(x_a, .inr (6, [.ref xA_rows, .ref rd_a, .ref v_a, .ref d_a, .ref xA_images, .ref ac_a, .ref er_a, .ref xA_hits, .ref xA_bodies, .int x_begun, .int x_latestFault, .int x_latestFinding])), aR K xA_rows 8 x_ra]) (K := K) (ra := x_ra) (rb := x_rb) (lane := x_lane) (rsz := x_rsz) (item := x_item) (len := 2) rfl (Nat.lt_of_not_le g_5))) hP
    have hD : va_D A (WX6_drop K x_a xA_rows rd_a v_a d_a xA_images ac_a er_a xA_hits xA_bodies x_ra x_rb x_begun x_latestFault x_latestFinding x_lane x_rsz x_item) := Eq.mp (congrArg (fun w => va_D A w) (wr_keep2 (pre := [(x_a, .inr (6, [.ref xA_rows, .ref rd_a, .ref v_a, .ref d_a, .ref xA_images, .ref ac_a, .ref er_a, .ref xA_hits, .ref xA_bodies, .int x_begun, .int x_latestFault, .int x_latestFinding])), aR K xA_rows 8 x_ra]) (K := K) (ra := x_ra) (rb := x_rb) (lane := x_lane) (rsz := x_rsz) (item := x_item) (len := 2) rfl (Nat.lt_of_not_le g_5))) hD
    refine lv_if_eq (tgt := 30) hx hb dX6_drop_21 (by decide) (fun c_6 => ?_) (fun c_6 => ?_)
    · rw [if_pos c_6] at hM
      refine lv_aload_n hx hb dX6_drop_30 rfl (lv_at hl 1 rfl) ?_
      refine lv_iconst (v := 0) hx hb dX6_drop_31 (by decide) ?_
      refine va_put (D := G) (ci := 6) (v := .int (0 : Int32)) (ty := .int) (C := RX6) (T := TX6) (N := 12) hx hb hts inX6 tyX6 tyX6_ok nmX6 hown hK hP hD hS 0 rfl rfl 11 (by decide) (hts _ tb256) (fun _ h9 => h9) rfl (tyX6_ok 11 (by decide)) rfl rfl (Nat.le_of_ble_eq_true rfl) dX6_drop_32 (fun H locs hP hD hS => ?_)
      have hP : va_P G vwCl (WX6_drop K x_a xA_rows rd_a v_a d_a xA_images ac_a er_a xA_hits xA_bodies x_ra x_rb x_begun x_latestFault (0 : Int32) x_lane x_rsz x_item) H := hP
      have hD : va_D A (WX6_drop K x_a xA_rows rd_a v_a d_a xA_images ac_a er_a xA_hits xA_bodies x_ra x_rb x_begun x_latestFault (0 : Int32) x_lane x_rsz x_item) := hD
      refine lv_aload_n hx hb dX6_drop_35 rfl (lv_at hl 0 rfl) ?_
      refine lv_iconst (v := (-1)) hx hb dX6_drop_36 (by decide) ?_
      obtain ⟨g_7, hM⟩ := ng hM
      refine va_put (D := G) (ci := 4) (v := .int ((-1) : Int32)) (ty := .int) (C := RX4) (T := TX4) (N := 3) hx hb hts inX4 tyX4 tyX4_ok nmX4 hown hK hP hD hS (2 + p1.toNatClampNeg) (wr_o rfl (Nat.lt_of_not_le g_7)) rfl 1 (by decide) (hts _ tb156) (fun _ h9 => h9) rfl (tyX4_ok 1 (by decide)) rfl rfl (Nat.le_of_ble_eq_true rfl) dX6_drop_37 (fun H locs hP hD hS => ?_)
      have hP : va_P G vwCl (WX6_drop K x_a xA_rows rd_a v_a d_a xA_images ac_a er_a xA_hits xA_bodies x_ra x_rb x_begun x_latestFault (0 : Int32) (va_up x_lane p1.toNatClampNeg ((-1) : Int32)) x_rsz x_item) H := Eq.mp (congrArg (fun w => va_P G vwCl w H) (wr_sl (pre := [(x_a, .inr (6, [.ref xA_rows, .ref rd_a, .ref v_a, .ref d_a, .ref xA_images, .ref ac_a, .ref er_a, .ref xA_hits, .ref xA_bodies, .int x_begun, .int x_latestFault, .int (0 : Int32)])), aR K xA_rows 8 x_ra]) (K := K) (ra := x_ra) (rb := x_rb) (lane := x_lane) (rsz := x_rsz) (item := x_item) (len := 2) rfl (Nat.lt_of_not_le g_7) ((-1) : Int32))) hP
      have hD : va_D A (WX6_drop K x_a xA_rows rd_a v_a d_a xA_images ac_a er_a xA_hits xA_bodies x_ra x_rb x_begun x_latestFault (0 : Int32) (va_up x_lane p1.toNatClampNeg ((-1) : Int32)) x_rsz x_item) := Eq.mp (congrArg (fun w => va_D A w) (wr_sl (pre := [(x_a, .inr (6, [.ref xA_rows, .ref rd_a, .ref v_a, .ref d_a, .ref xA_images, .ref ac_a, .ref er_a, .ref xA_hits, .ref xA_bodies, .int x_begun, .int x_latestFault, .int (0 : Int32)])), aR K xA_rows 8 x_ra]) (K := K) (ra := x_ra) (rb := x_rb) (lane := x_lane) (rsz := x_rsz) (item := x_item) (len := 2) rfl (Nat.lt_of_not_le g_7) ((-1) : Int32))) hD
      refine lv_aload_n hx hb dX6_drop_40 rfl (lv_at hl 0 rfl) ?_
      obtain ⟨g_8, hM⟩ := ng hM
      refine va_get (D := G) (ci := 4) (v := .int (x_rsz p1.toNatClampNeg)) (C := RX4) (T := TX4) (N := 3) hx hb hts inX4 hown hK hP (2 + p1.toNatClampNeg) (wr_o rfl (Nat.lt_of_not_le g_8)) rfl 2 (by decide) (hts _ tb158) (fun _ h9 => h9) rfl dX6_drop_41 ?_
      have t0 := Option.some.inj hM
      obtain ⟨q1, t1⟩ := Prod.mk.inj t0
      obtain ⟨q2, t2⟩ := Prod.mk.inj t1
      subst q1
      subst q2
      subst t2
      exact kr _ _ _ _ dX6_drop_44 hP hD hS
    · rw [if_neg c_6] at hM
      refine lv_aload_n hx hb dX6_drop_24 rfl (lv_at hl 1 rfl) ?_
      refine lv_iconst (v := 1) hx hb dX6_drop_25 (by decide) ?_
      obtain ⟨r_9, u0_9, hC, hM⟩ := oe2 hM
      refine cV_i (As := [.int (1 : Int32)]) (rest := []) C0 hP hD hS [0] (kX6_found l G K tt L la sa ln sy sn lt st x_a xA_rows rd_a v_a d_a xA_images ac_a er_a xA_hits xA_bodies x_begun x_latestFault x_latestFinding (1 : Int32) H.size r_9 u0_9 hC) rfl rfl rfl tb290 tb292 tp0 tb1 tb293 hdX6_found (va_recv hK hP (ci := 6) (q0 := 0) rfl rfl) ⟨Nat.le_of_ble_eq_true rfl, Nat.le_of_ble_eq_true rfl⟩ rfl hl.1 (Nat.le_of_ble_eq_true rfl) rfl ⟨Nat.le_refl _, Nat.le_refl _⟩ dX6_drop_26 (fun H locs hP hD hS => ?_)
      have hP : va_P G vwCl (WX6_drop K x_a xA_rows rd_a v_a d_a xA_images ac_a er_a xA_hits xA_bodies x_ra x_rb x_begun x_latestFault u0_9 x_lane x_rsz x_item) H := hP
      have hD : va_D A (WX6_drop K x_a xA_rows rd_a v_a d_a xA_images ac_a er_a xA_hits xA_bodies x_ra x_rb x_begun x_latestFault u0_9 x_lane x_rsz x_item) := hD
      have t0 := Option.some.inj hM
      obtain ⟨q1, t1⟩ := Prod.mk.inj t0
      obtain ⟨q2, t2⟩ := Prod.mk.inj t1
      subst q1
      subst q2
      subst t2
      exact kr _ _ _ _ dX6_drop_29 hP hD hS
  · rw [if_pos c_2] at hM
    refine lv_ldc (v := -1000001) hx hb hown (hts _ tb289) dX6_drop_7 ?_
    have t0 := Option.some.inj hM
    obtain ⟨q1, t1⟩ := Prod.mk.inj t0
    obtain ⟨q2, t2⟩ := Prod.mk.inj t1
    subst q1
    subst q2
    subst t2
    exact kr _ _ _ _ dX6_drop_9 hP hD hS
set_option maxHeartbeats 4000000 in
set_option maxRecDepth 100000 in
theorem kX6_drop (l : Launch) (G : va_G) (K : Nat → ClassId) (tt : Nat → Nat) (L : List Nat) (la : Nat → Nat) (sa : Nat → Nat) (ln : Nat → Int32) (sy : Nat → Int32) (sn : Nat → Int32) (lt : Nat → Nat → Int32) (st : Nat → Nat → Int32) (x_a xA_rows rd_a v_a d_a xA_images ac_a er_a xA_hits xA_bodies : Nat) (x_ra x_rb : Nat → Nat) (x_begun : Int32) (x_latestFault : Int32) (x_latestFinding : Int32) (x_lane : Nat → Int32) (x_rsz : Nat → Int32) (x_item : Nat → Nat → Int32) (p1 : Int32) (sz : Nat) (r : Int32) (o_x_latestFinding : Int32) (o_x_lane : Nat → Int32) (hM : mX6_drop x_rsz x_latestFinding x_lane p1 = some (r, o_x_latestFinding, o_x_lane)) : Met l yX6_drop (mC yX6_drop cX6_drop 3 (some .int)) rmX6_drop (va_Pc [.ref x_a, .int p1] (PCe G K (EC G K tt L la sa ln sy sn lt st) (WX6_drop K x_a xA_rows rd_a v_a d_a xA_images ac_a er_a xA_hits xA_bodies x_ra x_rb x_begun x_latestFault x_latestFinding x_lane x_rsz x_item) sz)) (va_Qi (fun (x : Int32) (_ : Unit) => x = r) (fun _ t => va_P G vwCl (WX6_drop K x_a xA_rows rd_a v_a d_a xA_images ac_a er_a xA_hits xA_bodies x_ra x_rb x_begun x_latestFault o_x_latestFinding o_x_lane x_rsz x_item) t.heap) (va_A (WX6_drop K x_a xA_rows rd_a v_a d_a xA_images ac_a er_a xA_hits xA_bodies x_ra x_rb x_begun x_latestFault x_latestFinding x_lane x_rsz x_item) sz)) rmX6_drop.cells rmX6_drop.slots (va_A (WX6_drop K x_a xA_rows rd_a v_a d_a xA_images ac_a er_a xA_hits xA_bodies x_ra x_rb x_begun x_latestFault x_latestFinding x_lane x_rsz x_item) sz) := by
  refine Met.ofW (cc := cX6_drop) (maxL := 3) (ret := (some .int)) (by decide) rfl ?_
  intro p e s m args below meth c s₁ B hml hv
  obtain ⟨rfl, hsz, hP, hK, hD0, hE⟩ := hv
  have hx := B.exec
  have hb := B.bytes
  have hr := B.returns
  have hts0 := atoms_spec (ws := mC yX6_drop cX6_drop 3 (some .int)) B.pre
  have hts : ∀ w ∈ tbG, w.before _ s = true := fun w h => hts0 w (List.mem_cons_of_mem _ h)
  have hown : s.vm.findClass RX6 = some m.cls := findClass_of_methodNamed B.named
  subst hsz
  have hD := hD0.self (sz := s.heap.size)
  generalize hAe : va_A (WX6_drop K x_a xA_rows rd_a v_a d_a xA_images ac_a er_a xA_hits xA_bodies x_ra x_rb x_begun x_latestFault x_latestFinding x_lane x_rsz x_item) s.heap.size = A at hD hE ⊢
  have hA : ∀ q : Nat, s.heap.size ≤ q → A q := fun q h => by rw [← hAe]; exact Or.inr h
  have hS : va_S A s.heap s.heap [] := va_S.rf
  have hl := lv_entry ([.ref x_a, .int p1]) (n := 3) (Nat.le_of_ble_eq_true rfl)
  rw [lg_entry_eq]
  generalize (lg_sl ([.ref x_a, .int p1]) ++ List.replicate (3 - (lg_sl ([.ref x_a, .int p1])).length) Slot.unset).toArray = ls at hl ⊢
  have hl : lv_has ls 3 [(0, .ref x_a), (1, .int p1)] := hl
  exact wX6_drop_b0 ⟨hx, hb, hml, hown, hts, hK, hA, EC_ok _ _ _ _ _ _ _ _ _ _ _, hE⟩ x_a xA_rows rd_a v_a d_a xA_images ac_a er_a xA_hits xA_bodies x_ra x_rb x_begun x_latestFault x_rsz x_item p1 r o_x_latestFinding o_x_lane (fun H locs ls pc hdg hP hD hS => W.iret (v := r) hx hb hr (fun t ht hW => ⟨⟨r, (), rfl, rfl, (show va_P G vwCl _ t.heap by rw [ht]; exact hP)⟩, hS.F ht⟩) hS.2.2 hdg) x_latestFinding x_lane  hM _ _ _ hP hD hS hl
