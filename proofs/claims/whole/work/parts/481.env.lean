theorem arr_of {s : State} {cA : ClassId} {ty : FieldType} {kA : Class} {comp : ClassId} (h2 : s.vm.classes[cA]? = some kA) (h3 : kA.kind = .array comp ty) : ArrOfT s cA ty := fun n z => ⟨fun k h => (by cases h), kA, h2, comp, h3⟩
set_option maxHeartbeats 4000000 in
set_option maxRecDepth 100000 in
theorem law_env {s : State} {b : Nat} (hts : ∀ w ∈ lw_tbl, w.before #[Value.ref b] s = true) (hgv : (Jvm.Cond.and given_1 narrow_1).before #[Value.ref b] s = true) {A : Nat → Prop} (hA : ∀ a : Nat, a < s.heap.size → ¬ A a) : ∃ (G : va_G) (K : Nat → ClassId) (tt : Nat → Nat), va_K G vwCl (TY K) s ∧ ST tt A s s.heap ∧ NW s ∧ va_AO RX4 s ∧ va_AO RX5 s ∧ va_AO RX2 s := by
  have htsG : ∀ w ∈ tbG, w.before #[Value.ref b] s = true := fun w h => hts w (tb_sub w h)
  have hs := flat_of_before _ hgv
  obtain ⟨c0, iS0, hKn0⟩ := u_known (C := RX0) (T := TX0) (N := 7) (n := 7) htsG inX0 (htsG _ tb216)
  obtain ⟨c1, iS1, hKn1⟩ := u_known (C := RX1) (T := TX1) (N := 14) (n := 14) htsG inX1 (htsG _ tb55)
  obtain ⟨c2, iS2, hKn2⟩ := u_known (C := RX2) (T := TX2) (N := 8) (n := 8) htsG inX2 (htsG _ tb166)
  obtain ⟨c3, iS3, hKn3⟩ := u_known (C := RX3) (T := TX3) (N := 6) (n := 6) htsG inX3 (htsG _ tb23)
  obtain ⟨c4, iS4, hKn4⟩ := u_known (C := RX4) (T := TX4) (N := 3) (n := 3) htsG inX4 (htsG _ tb148)
  obtain ⟨c5, iS5, hKn5⟩ := u_known (C := RX5) (T := TX5) (N := 5) (n := 5) htsG inX5 (htsG _ tb108)
  obtain ⟨c6, iS6, hKn6⟩ := u_known (C := RX6) (T := TX6) (N := 12) (n := 12) htsG inX6 (htsG _ tb13)
  obtain ⟨c7, iS7, hKn7⟩ := u_known (C := RX7) (T := TX7) (N := 33) (n := 33) htsG inX7 (htsG _ tb759)
  obtain ⟨cI, kI, pI, i1, i2, i3⟩ := Cond.arrayClass_spec (htsG _ tb51)
  obtain ⟨cZ, kZ, pZ, z1, z2, z3⟩ := Cond.arrayClass_spec (htsG _ tb864)
  obtain ⟨pS, cS, kS, S1, S2, S3, S4, S5⟩ := Cond.arrayOver_spec (n := RX5) (hts _ tb172)
  obtain ⟨pR, cR, kR, R1, R2, R3, R4, R5⟩ := Cond.arrayOver_spec (n := RX4) (hts _ tb21)
  obtain ⟨pP, cP, kP, P1, P2, P3, P4, P5⟩ := Cond.arrayOver_spec (n := RX2) (hts _ tb53)
  have l0 := va_eqt (hs (Cond.eq (.length (.static "FeetAndRhymes" "FOOT_SIZE" "[I")) (.int 4)) (by decide +kernel))
  have e0 : ∀ j : Nat, j < 4 → (Term.elem (.static "FeetAndRhymes" "FOOT_SIZE" "[I") (.int (Int32.ofNat j))).eval #[Value.ref b] s none [] s = some (.int (sT0 j)) := by
    intro j hj
    rcases (show j = 0 ∨ j = 1 ∨ j = 2 ∨ j = 3 by omega) with rfl | rfl | rfl | rfl
    · exact va_eqt (hs (Cond.eq (.elem (.static "FeetAndRhymes" "FOOT_SIZE" "[I") (.int 0)) (.int (2))) (by decide +kernel))
    · exact va_eqt (hs (Cond.eq (.elem (.static "FeetAndRhymes" "FOOT_SIZE" "[I") (.int 1)) (.int (2))) (by decide +kernel))
    · exact va_eqt (hs (Cond.eq (.elem (.static "FeetAndRhymes" "FOOT_SIZE" "[I") (.int 2)) (.int (3))) (by decide +kernel))
    · exact va_eqt (hs (Cond.eq (.elem (.static "FeetAndRhymes" "FOOT_SIZE" "[I") (.int 3)) (.int (3))) (by decide +kernel))
  obtain ⟨t0, ht0, hT0⟩ := va_Tof (N := 4) (f := fun j => .int (sT0 j)) (by decide) (hs (Cond.arrayOf (.static "FeetAndRhymes" "FOOT_SIZE" "[I") .int) (by decide +kernel)) l0 e0 hA
  have hZ0 := va_Zref (hts _ tb356) (htsG _ tb1) ht0 hA
  have l1 := va_eqt (hs (Cond.eq (.length (.static "FeetAndRhymes" "FOOT_HEAVY" "[I")) (.int 4)) (by decide +kernel))
  have e1 : ∀ j : Nat, j < 4 → (Term.elem (.static "FeetAndRhymes" "FOOT_HEAVY" "[I") (.int (Int32.ofNat j))).eval #[Value.ref b] s none [] s = some (.int (sT1 j)) := by
    intro j hj
    rcases (show j = 0 ∨ j = 1 ∨ j = 2 ∨ j = 3 by omega) with rfl | rfl | rfl | rfl
    · exact va_eqt (hs (Cond.eq (.elem (.static "FeetAndRhymes" "FOOT_HEAVY" "[I") (.int 0)) (.int (2))) (by decide +kernel))
    · exact va_eqt (hs (Cond.eq (.elem (.static "FeetAndRhymes" "FOOT_HEAVY" "[I") (.int 1)) (.int (1))) (by decide +kernel))
    · exact va_eqt (hs (Cond.eq (.elem (.static "FeetAndRhymes" "FOOT_HEAVY" "[I") (.int 2)) (.int (4))) (by decide +kernel))
    · exact va_eqt (hs (Cond.eq (.elem (.static "FeetAndRhymes" "FOOT_HEAVY" "[I") (.int 3)) (.int (1))) (by decide +kernel))
  obtain ⟨t1, ht1, hT1⟩ := va_Tof (N := 4) (f := fun j => .int (sT1 j)) (by decide) (hs (Cond.arrayOf (.static "FeetAndRhymes" "FOOT_HEAVY" "[I") .int) (by decide +kernel)) l1 e1 hA
  have hZ1 := va_Zref (hts _ tb577) (htsG _ tb1) ht1 hA
  have l2 := va_eqt (hs (Cond.eq (.length (.static "FeetAndRhymes" "FOOT_TURNED" "[I")) (.int 4)) (by decide +kernel))
  have e2 : ∀ j : Nat, j < 4 → (Term.elem (.static "FeetAndRhymes" "FOOT_TURNED" "[I") (.int (Int32.ofNat j))).eval #[Value.ref b] s none [] s = some (.int (sT2 j)) := by
    intro j hj
    rcases (show j = 0 ∨ j = 1 ∨ j = 2 ∨ j = 3 by omega) with rfl | rfl | rfl | rfl
    · exact va_eqt (hs (Cond.eq (.elem (.static "FeetAndRhymes" "FOOT_TURNED" "[I") (.int 0)) (.int (1))) (by decide +kernel))
    · exact va_eqt (hs (Cond.eq (.elem (.static "FeetAndRhymes" "FOOT_TURNED" "[I") (.int 1)) (.int (0))) (by decide +kernel))
    · exact va_eqt (hs (Cond.eq (.elem (.static "FeetAndRhymes" "FOOT_TURNED" "[I") (.int 2)) (.int (3))) (by decide +kernel))
    · exact va_eqt (hs (Cond.eq (.elem (.static "FeetAndRhymes" "FOOT_TURNED" "[I") (.int 3)) (.int (2))) (by decide +kernel))
  obtain ⟨t2, ht2, hT2⟩ := va_Tof (N := 4) (f := fun j => .int (sT2 j)) (by decide) (hs (Cond.arrayOf (.static "FeetAndRhymes" "FOOT_TURNED" "[I") .int) (by decide +kernel)) l2 e2 hA
  have hZ2 := va_Zref (hts _ tb580) (htsG _ tb1) ht2 hA
  have l3 := va_eqt (hs (Cond.eq (.length (.static "FeetAndRhymes" "FOOT_WEAK_END" "[I")) (.int 4)) (by decide +kernel))
  have e3 : ∀ j : Nat, j < 4 → (Term.elem (.static "FeetAndRhymes" "FOOT_WEAK_END" "[I") (.int (Int32.ofNat j))).eval #[Value.ref b] s none [] s = some (.int (sT3 j)) := by
    intro j hj
    rcases (show j = 0 ∨ j = 1 ∨ j = 2 ∨ j = 3 by omega) with rfl | rfl | rfl | rfl
    · exact va_eqt (hs (Cond.eq (.elem (.static "FeetAndRhymes" "FOOT_WEAK_END" "[I") (.int 0)) (.int (0))) (by decide +kernel))
    · exact va_eqt (hs (Cond.eq (.elem (.static "FeetAndRhymes" "FOOT_WEAK_END" "[I") (.int 1)) (.int (1))) (by decide +kernel))
    · exact va_eqt (hs (Cond.eq (.elem (.static "FeetAndRhymes" "FOOT_WEAK_END" "[I") (.int 2)) (.int (0))) (by decide +kernel))
    · exact va_eqt (hs (Cond.eq (.elem (.static "FeetAndRhymes" "FOOT_WEAK_END" "[I") (.int 3)) (.int (2))) (by decide +kernel))
  obtain ⟨t3, ht3, hT3⟩ := va_Tof (N := 4) (f := fun j => .int (sT3 j)) (by decide) (hs (Cond.arrayOf (.static "FeetAndRhymes" "FOOT_WEAK_END" "[I") .int) (by decide +kernel)) l3 e3 hA
  have hZ3 := va_Zref (hts _ tb592) (htsG _ tb1) ht3 hA
  have l4 := va_eqt (hs (Cond.eq (.length (.static "FeetAndRhymes" "KIND_ABOVE" "[I")) (.int 6)) (by decide +kernel))
  have e4 : ∀ j : Nat, j < 6 → (Term.elem (.static "FeetAndRhymes" "KIND_ABOVE" "[I") (.int (Int32.ofNat j))).eval #[Value.ref b] s none [] s = some (.int (sT4 j)) := by
    intro j hj
    rcases (show j = 0 ∨ j = 1 ∨ j = 2 ∨ j = 3 ∨ j = 4 ∨ j = 5 by omega) with rfl | rfl | rfl | rfl | rfl | rfl
    · exact va_eqt (hs (Cond.eq (.elem (.static "FeetAndRhymes" "KIND_ABOVE" "[I") (.int 0)) (.int (-1))) (by decide +kernel))
    · exact va_eqt (hs (Cond.eq (.elem (.static "FeetAndRhymes" "KIND_ABOVE" "[I") (.int 1)) (.int (0))) (by decide +kernel))
    · exact va_eqt (hs (Cond.eq (.elem (.static "FeetAndRhymes" "KIND_ABOVE" "[I") (.int 2)) (.int (1))) (by decide +kernel))
    · exact va_eqt (hs (Cond.eq (.elem (.static "FeetAndRhymes" "KIND_ABOVE" "[I") (.int 3)) (.int (1))) (by decide +kernel))
    · exact va_eqt (hs (Cond.eq (.elem (.static "FeetAndRhymes" "KIND_ABOVE" "[I") (.int 4)) (.int (0))) (by decide +kernel))
    · exact va_eqt (hs (Cond.eq (.elem (.static "FeetAndRhymes" "KIND_ABOVE" "[I") (.int 5)) (.int (4))) (by decide +kernel))
  obtain ⟨t4, ht4, hT4⟩ := va_Tof (N := 6) (f := fun j => .int (sT4 j)) (by decide) (hs (Cond.arrayOf (.static "FeetAndRhymes" "KIND_ABOVE" "[I") .int) (by decide +kernel)) l4 e4 hA
  have hZ4 := va_Zref (hts _ tb714) (htsG _ tb1) ht4 hA
  have l5 := va_eqt (hs (Cond.eq (.length (.static "FeetAndRhymes" "SIZE_BODIES" "[I")) (.int 6)) (by decide +kernel))
  have e5 : ∀ j : Nat, j < 6 → (Term.elem (.static "FeetAndRhymes" "SIZE_BODIES" "[I") (.int (Int32.ofNat j))).eval #[Value.ref b] s none [] s = some (.int (sT5 j)) := by
    intro j hj
    rcases (show j = 0 ∨ j = 1 ∨ j = 2 ∨ j = 3 ∨ j = 4 ∨ j = 5 by omega) with rfl | rfl | rfl | rfl | rfl | rfl
    · exact va_eqt (hs (Cond.eq (.elem (.static "FeetAndRhymes" "SIZE_BODIES" "[I") (.int 0)) (.int (10))) (by decide +kernel))
    · exact va_eqt (hs (Cond.eq (.elem (.static "FeetAndRhymes" "SIZE_BODIES" "[I") (.int 1)) (.int (11))) (by decide +kernel))
    · exact va_eqt (hs (Cond.eq (.elem (.static "FeetAndRhymes" "SIZE_BODIES" "[I") (.int 2)) (.int (12))) (by decide +kernel))
    · exact va_eqt (hs (Cond.eq (.elem (.static "FeetAndRhymes" "SIZE_BODIES" "[I") (.int 3)) (.int (11))) (by decide +kernel))
    · exact va_eqt (hs (Cond.eq (.elem (.static "FeetAndRhymes" "SIZE_BODIES" "[I") (.int 4)) (.int (13))) (by decide +kernel))
    · exact va_eqt (hs (Cond.eq (.elem (.static "FeetAndRhymes" "SIZE_BODIES" "[I") (.int 5)) (.int (14))) (by decide +kernel))
  obtain ⟨t5, ht5, hT5⟩ := va_Tof (N := 6) (f := fun j => .int (sT5 j)) (by decide) (hs (Cond.arrayOf (.static "FeetAndRhymes" "SIZE_BODIES" "[I") .int) (by decide +kernel)) l5 e5 hA
  have hZ5 := va_Zref (hts _ tb723) (htsG _ tb1) ht5 hA
  have l6 := va_eqt (hs (Cond.eq (.length (.static "FeetAndRhymes" "MARK_BODIES" "[I")) (.int 6)) (by decide +kernel))
  have e6 : ∀ j : Nat, j < 6 → (Term.elem (.static "FeetAndRhymes" "MARK_BODIES" "[I") (.int (Int32.ofNat j))).eval #[Value.ref b] s none [] s = some (.int (sT6 j)) := by
    intro j hj
    rcases (show j = 0 ∨ j = 1 ∨ j = 2 ∨ j = 3 ∨ j = 4 ∨ j = 5 by omega) with rfl | rfl | rfl | rfl | rfl | rfl
    · exact va_eqt (hs (Cond.eq (.elem (.static "FeetAndRhymes" "MARK_BODIES" "[I") (.int 0)) (.int (20))) (by decide +kernel))
    · exact va_eqt (hs (Cond.eq (.elem (.static "FeetAndRhymes" "MARK_BODIES" "[I") (.int 1)) (.int (21))) (by decide +kernel))
    · exact va_eqt (hs (Cond.eq (.elem (.static "FeetAndRhymes" "MARK_BODIES" "[I") (.int 2)) (.int (24))) (by decide +kernel))
    · exact va_eqt (hs (Cond.eq (.elem (.static "FeetAndRhymes" "MARK_BODIES" "[I") (.int 3)) (.int (22))) (by decide +kernel))
    · exact va_eqt (hs (Cond.eq (.elem (.static "FeetAndRhymes" "MARK_BODIES" "[I") (.int 4)) (.int (23))) (by decide +kernel))
    · exact va_eqt (hs (Cond.eq (.elem (.static "FeetAndRhymes" "MARK_BODIES" "[I") (.int 5)) (.int (23))) (by decide +kernel))
  obtain ⟨t6, ht6, hT6⟩ := va_Tof (N := 6) (f := fun j => .int (sT6 j)) (by decide) (hs (Cond.arrayOf (.static "FeetAndRhymes" "MARK_BODIES" "[I") .int) (by decide +kernel)) l6 e6 hA
  have hZ6 := va_Zref (hts _ tb725) (htsG _ tb1) ht6 hA
  have l7 := va_eqt (hs (Cond.eq (.length (.static "FeetAndRhymes" "SCHEME_NAMES" "[I")) (.int 5)) (by decide +kernel))
  have e7 : ∀ j : Nat, j < 5 → (Term.elem (.static "FeetAndRhymes" "SCHEME_NAMES" "[I") (.int (Int32.ofNat j))).eval #[Value.ref b] s none [] s = some (.int (sT7 j)) := by
    intro j hj
    rcases (show j = 0 ∨ j = 1 ∨ j = 2 ∨ j = 3 ∨ j = 4 by omega) with rfl | rfl | rfl | rfl | rfl
    · exact va_eqt (hs (Cond.eq (.elem (.static "FeetAndRhymes" "SCHEME_NAMES" "[I") (.int 0)) (.int (17))) (by decide +kernel))
    · exact va_eqt (hs (Cond.eq (.elem (.static "FeetAndRhymes" "SCHEME_NAMES" "[I") (.int 1)) (.int (257))) (by decide +kernel))
    · exact va_eqt (hs (Cond.eq (.elem (.static "FeetAndRhymes" "SCHEME_NAMES" "[I") (.int 2)) (.int (272))) (by decide +kernel))
    · exact va_eqt (hs (Cond.eq (.elem (.static "FeetAndRhymes" "SCHEME_NAMES" "[I") (.int 3)) (.int (0))) (by decide +kernel))
    · exact va_eqt (hs (Cond.eq (.elem (.static "FeetAndRhymes" "SCHEME_NAMES" "[I") (.int 4)) (.int (289))) (by decide +kernel))
  obtain ⟨t7, ht7, hT7⟩ := va_Tof (N := 5) (f := fun j => .int (sT7 j)) (by decide) (hs (Cond.arrayOf (.static "FeetAndRhymes" "SCHEME_NAMES" "[I") .int) (by decide +kernel)) l7 e7 hA
  have hZ7 := va_Zref (hts _ tb625) (htsG _ tb1) ht7 hA
  refine ⟨(fun k => if k = 0 then c0 else if k = 1 then c1 else if k = 2 then c2 else if k = 3 then c3 else if k = 4 then c4 else if k = 5 then c5 else if k = 6 then c6 else c7, fun k => if k = 0 then iS0 else if k = 1 then iS1 else if k = 2 then iS2 else if k = 3 then iS3 else if k = 4 then iS4 else if k = 5 then iS5 else if k = 6 then iS6 else iS7), fun k => if k = 0 then cI else if k = 1 then cZ else if k = 2 then cS else if k = 3 then cR else cP, fun k => if k = 0 then t0 else if k = 1 then t1 else if k = 2 then t2 else if k = 3 then t3 else if k = 4 then t4 else if k = 5 then t5 else if k = 6 then t6 else t7, ?_, ?_, ?_, ?_⟩
  · refine ⟨fun k q hq => ?_, fun k q hq => ?_⟩
    · match k, hq with
      | 0, hq => cases hq; exact hKn0
      | 1, hq => cases hq; exact hKn1
      | 2, hq => cases hq; exact hKn2
      | 3, hq => cases hq; exact hKn3
      | 4, hq => cases hq; exact hKn4
      | 5, hq => cases hq; exact hKn5
      | 6, hq => cases hq; exact hKn6
      | 7, hq => cases hq; exact hKn7
      | k + 8, hq => simp [vwCl] at hq
    · match k, hq with
      | 0, hq => cases hq; exact ⟨arr_of i2 i3, i1⟩
      | 1, hq => cases hq; exact ⟨arr_of z2 z3, z1⟩
      | 2, hq => cases hq; exact ⟨arr_of S3 S4, kS, pS, S3, S4, S1, S5⟩
      | 3, hq => cases hq; exact ⟨arr_of R3 R4, kR, pR, R3, R4, R1, R5⟩
      | 4, hq => cases hq; exact ⟨arr_of P3 P4, kP, pP, P3, P4, P1, P5⟩
      | k + 5, hq => simp at hq
  · exact ⟨⟨hZ0, hT0⟩, ⟨hZ1, hT1⟩, ⟨hZ2, hT2⟩, ⟨hZ3, hT3⟩, ⟨hZ4, hT4⟩, ⟨hZ5, hT5⟩, ⟨hZ6, hT6⟩, ⟨hZ7, hT7⟩⟩
  · exact ⟨va_Nw.of rfl (hts _ tb24), va_Nw.of rfl (hts _ tb56), va_Nw.of rfl (hts _ tb119), va_Nw.of rfl (hts _ tb149), va_Nw.of rfl (hts _ tb355), va_Nw.of rfl (hts _ tb382), va_Nw.of rfl (hts _ tb572), va_Nw.of rfl (hts _ tb576), va_Nw.of rfl (hts _ tb578), va_Nw.of rfl (hts _ tb579), va_Nw.of rfl (hts _ tb591)⟩
  · exact ⟨va_AO.of (hts _ tb21), va_AO.of (hts _ tb172), va_AO.of (hts _ tb53)⟩
