theorem vz_joinP {A0 : Nat → Prop} {G : va_G} {cl : List vw_C} {ws wc wr w1 PL PL' : va_W} {H H1 : Heap} (hP : va_P G cl (ws ++ PL) H) (hD : va_D A0 (ws ++ PL)) (isC isR : List Nat) (hC : isC.map (fun i => ws[i]?) = wc.map some) (hR : isR.map (fun i => ws[i]?) = wr.map some) (hnR : va_nd isR = true) (hdis : isR.all (fun i => !(isC.contains i)) = true) (hk : ∀ q : Nat, q < H.size → ¬ va_A (wc ++ PL) H.size q → H1[q]? = H[q]?) (hP1 : va_P G cl (w1 ++ PL') H1) (hD1 : va_D (va_A (wc ++ PL) H.size) (w1 ++ PL')) (hFc : ∀ q, va_A (wc ++ PL) H.size q → A0 q) : va_P G cl ((w1 ++ wr) ++ PL') H1 ∧ va_D A0 ((w1 ++ wr) ++ PL') := by
  have hatR : ∀ (j : Nat) (c : Nat × va_E), wr[j]? = some c → ∃ i, isR[j]? = some i ∧ ws[i]? = some c := by
    intro j c hj
    have e := congrArg (fun l => l[j]?) hR
    simp only [List.getElem?_map, hj, Option.map_some] at e
    cases hi : isR[j]? with
    | none => rw [hi] at e; cases e
    | some i => rw [hi] at e; exact ⟨i, rfl, Option.some.inj e⟩
  have hatC : ∀ (j : Nat) (c : Nat × va_E), wc[j]? = some c → ∃ i, isC[j]? = some i ∧ ws[i]? = some c := by
    intro j c hj
    have e := congrArg (fun l => l[j]?) hC
    simp only [List.getElem?_map, hj, Option.map_some] at e
    cases hi : isC[j]? with
    | none => rw [hi] at e; cases e
    | some i => rw [hi] at e; exact ⟨i, rfl, Option.some.inj e⟩
  have hrest : ∀ (j : Nat) (q : Nat × va_E), wr[j]? = some q → q.1 < H.size ∧ ¬ va_A (wc ++ PL) H.size q.1 := by
    intro j q hq
    obtain ⟨k, hkR, hks⟩ := hatR j q hq
    have hn : k ∉ isC := by
      have h := List.all_eq_true.mp hdis k (List.mem_of_getElem? hkR)
      intro hm
      rw [List.contains_iff_mem.mpr hm] at h
      simp at h
    have hq2 := ap_l (PL := PL) hks
    have hlt := (hP k q hq2).lt
    refine ⟨hlt, ?_⟩
    rintro (⟨k', e', hk'⟩ | hge)
    · by_cases hl : k' < wc.length
      · rw [List.getElem?_append_left hl] at hk'
        obtain ⟨i, hi, hi2⟩ := hatC k' _ hk'
        have := hD.1 i k (q.1, e') q (ap_l (PL := PL) hi2) hq2 rfl
        subst this
        exact hn (List.mem_of_getElem? hi)
      · rw [List.getElem?_append_right (Nat.le_of_not_lt hl)] at hk'
        have hi2 := ap_r (ws := ws) hk'
        have := hD.1 _ k (q.1, e') q hi2 hq2 rfl
        obtain ⟨hl2, -⟩ := List.getElem?_eq_some_iff.mp hks
        omega
    · omega
  have hPa : va_P G cl w1 H1 := fun k q hq => hP1 k q (ap_l hq)
  have hPr : va_P G cl wr H1 := fun j q hq => by
    obtain ⟨k, -, hks⟩ := hatR j q hq
    obtain ⟨ha, hb⟩ := hrest j q hq
    exact (hP k q (ap_l hks)).kept (hk q.1 ha hb)
  have hPp : va_P G cl PL' H1 := fun k q hq => hP1 _ q (ap_r (ws := w1) hq)
  refine ⟨(hPa.app hPr).app hPp, ?_⟩
  have hDa : va_D A0 w1 := ⟨fun i j p q hi hj h => hD1.1 i j p q (ap_l hi) (ap_l hj) h, fun k q hq => hFc _ (hD1.2 k q (ap_l hq))⟩
  have hws : va_D A0 ws := ⟨fun i j p q hi hj h => hD.1 i j p q (ap_l hi) (ap_l hj) h, fun k q hq => hD.2 k q (ap_l hq)⟩
  have hDr : va_D A0 wr := hws.sub isR hnR hR
  have hDp : va_D A0 PL' := by
    refine ⟨fun i j p q hi hj h => ?_, fun k q hq => hFc _ (hD1.2 _ q (ap_r (ws := w1) hq))⟩
    have := hD1.1 _ _ p q (ap_r (ws := w1) hi) (ap_r (ws := w1) hj) h
    omega
  have hab : va_D A0 (w1 ++ wr) := va_D.app hDa hDr (fun i j p q hi hj hpq => (hrest j q hj).2 (hpq ▸ hD1.2 i p (ap_l hi)))
  refine va_D.app hab hDp (fun i j p q hi hj hpq => ?_)
  by_cases hl : i < w1.length
  · rw [List.getElem?_append_left hl] at hi
    have := hD1.1 _ _ p q (ap_l (PL := PL') hi) (ap_r (ws := w1) hj) hpq
    omega
  · rw [List.getElem?_append_right (Nat.le_of_not_lt hl)] at hi
    exact (hrest _ p hi).2 (hpq ▸ hD1.2 _ q (ap_r (ws := w1) hj))
/-- a part of a world and its pool, taken out -/
theorem wc_mem {ws wc PL : va_W} {isC : List Nat} (hC : isC.map (fun i => ws[i]?) = wc.map some) : ∀ c ∈ wc ++ PL, c ∈ ws ++ PL := by
  intro c hc
  rcases List.mem_append.mp hc with h | h
  · obtain ⟨k, hk⟩ := List.getElem?_of_mem h
    have e := congrArg (fun l => l[k]?) hC
    simp only [List.getElem?_map, hk, Option.map_some] at e
    cases hj : isC[k]? with
    | none => rw [hj] at e; cases e
    | some j => rw [hj] at e; exact List.mem_append_left _ (List.mem_of_getElem? (Option.some.inj e))
  · exact List.mem_append_right _ h
theorem wc_free {A : Nat → Prop} {ws wc PL : va_W} {isC : List Nat} {H0 H : Heap} {locs : List Loc} (hD : va_D A (ws ++ PL)) (hS : va_S A H0 H locs) (hA : ∀ q, H0.size ≤ q → A q) (hC : isC.map (fun i => ws[i]?) = wc.map some) : ∀ q, va_A (wc ++ PL) H.size q → A q := by
  rintro q (⟨k, e, hk⟩ | hge)
  · obtain ⟨j, hj⟩ := List.getElem?_of_mem (wc_mem hC _ (List.mem_of_getElem? hk))
    exact hD.2 j _ hj
  · exact hA q (Nat.le_trans hS.1 hge)
theorem wc_D {A : Nat → Prop} {ws wc PL : va_W} {isC : List Nat} (hD : va_D A (ws ++ PL)) (hn : va_nd isC = true) (hC : isC.map (fun i => ws[i]?) = wc.map some) : va_D A (wc ++ PL) := by
  have hws : va_D A ws := ⟨fun i j p q hi hj h => hD.1 i j p q (ap_l hi) (ap_l hj) h, fun k q hq => hD.2 k q (ap_l hq)⟩
  have hpl : va_D A PL := ⟨fun i j p q hi hj h => by have := hD.1 _ _ p q (ap_r (ws := ws) hi) (ap_r (ws := ws) hj) h; omega, fun k q hq => hD.2 _ q (ap_r (ws := ws) hq)⟩
  refine va_D.app (hws.sub isC hn hC) hpl (fun i j p q hi hj hpq => ?_)
  have e := congrArg (fun l => l[i]?) hC
  simp only [List.getElem?_map, hi, Option.map_some] at e
  cases hj2 : isC[i]? with
  | none => rw [hj2] at e; cases e
  | some j2 =>
    rw [hj2] at e
    have e3 : ws[j2]? = some p := Option.some.inj e
    have := hD.1 _ _ p q (ap_l (PL := PL) e3) (ap_r (ws := ws) hj) hpq
    obtain ⟨hl2, -⟩ := List.getElem?_eq_some_iff.mp e3
    omega
theorem lV_i {p : Program} {l : Launch} {e : Env} {R : Room} {s : State} {m : MethodId} {args : Array Value} {below : List Frame} {meth : Method} {c : Code} {H : Heap} {locs : List Loc} {cells slots : Nat} {Q : State → Prop} {cc : ByteArray} {nL : Nat} {own : String} {G : va_G} {K : Nat → ClassId} {E : VE} {A : Nat → Prop} {E2 : VE} {ws wc wr w1 nw PL : va_W} {index n maxL pc : Nat} {y : MethodName} {bytes : ByteArray} {ret : Option FieldType} {rm : Room} {C : String} {b : Nat} {As rest st0 : List Value} {ls : Array Slot} {r : Int32} (C0 : CX p s m args c cc nL own G K E A) (hP : va_P G vwCl (ws ++ PL) H) (hD : va_D A (ws ++ PL)) (hS : va_S A s.heap H locs) (isC isR isN : List Nat) (hE2 : EnvOK E2) (hEn : ∀ U : State, U.heap = H → s.WarmedH U.vm → E2 (va_A wc H.size) U U.heap) (hM : Met l y (mC y bytes maxL ret) rm (va_Pc (.ref b :: As) (PCe G K E2 wc H.size)) (va_Qi (fun (x : Int32) (_ : Unit) => x = r) (fun _ t => va_P G vwCl w1 t.heap) (va_A wc H.size)) rm.cells rm.slots (va_A wc H.size)) (hn : va_nd isC = true) (hC : isC.map (fun i => ws[i]?) = wc.map some) (hw : w1.map (fun q => q.1) = wc.map (fun q => q.1)) (hnR : va_nd isR = true) (hR : isR.map (fun i => ws[i]?) = wr.map some) (hdis : isR.all (fun i => !(isC.contains i)) = true) (hnN : va_nd isN = true) (hN : isN.map (fun i => (w1 ++ wr)[i]?) = nw.map some) (t1 : Cond.methodLink own index y ∈ tbG) (t2 : Cond.instanceMethod y ∈ tbG) (t3 : Cond.selects C y y ∈ tbG) (t4 : Cond.initialized C ∈ tbG) (t5 : Cond.code y bytes maxL ret ∈ tbG) (hd : y.cls = C ∧ y.cls ≠ "java/lang/invoke/MethodHandle" ∧ y.cls ≠ "java/lang/invoke/VarHandle" ∧ (parseMethodDescriptor y.desc).map (fun d => d.parameters.length) = some n) (hrv : ∃ cellB : Cell, H[b]? = some cellB ∧ cellB.vm.isStatics = false ∧ s.vm.findClass C = some cellB.cls) (hR0 : rm.frames + 1 ≤ R.frames ∧ 8 + (maxL + 11) + rm.locals ≤ R.locals) (hlen : As.length = n) (hls : ls.size = nL) (hrm : (rest.map fun v => v.category).sum ≤ 8) (hst : st0 = As.reverse ++ .ref b :: rest) (hcl : cells + rm.cells ≤ R.cells ∧ slots + rm.slots ≤ R.slots) (hdg : decode cc pc = .ok (.invokevirtual index, 3)) (kk : ∀ (H1 : Heap) (locs1 : List Loc), va_P G vwCl (nw ++ PL) H1 → va_D A (nw ++ PL) → va_S A s.heap H1 locs1 → W p l e R s m args below meth c H1 locs1 (cells + rm.cells) (slots + rm.slots) Q (F0 m (pc + 3) ls (.int r :: rest))) : W p l e R s m args below meth c H locs cells slots Q (F0 m pc ls st0) := by
  obtain ⟨hx, hb, hml, hown, hts, hK, hA, hEo, hE⟩ := id C0
  have hFp := wc_free hD hS hA hC
  have hDc := wc_D hD hn hC
  have hPc : va_P G vwCl (wc ++ PL) H := va_P_mem hP (wc_mem hC)
  have hFc : ∀ q, va_A wc H.size q → A q := by
    rintro q (⟨k, e, hk⟩ | hge)
    · exact hFp q (Or.inl ⟨k, e, ap_l hk⟩)
    · exact hFp q (Or.inr hge)
  have hDw : va_D A wc := ⟨fun i j p q hi hj h => hDc.1 i j p q (ap_l hi) (ap_l hj) h, fun k q hq => hDc.2 k q (ap_l hq)⟩
  have hin : ∀ U : State, U.heap = H → s.WarmedH U.vm → va_Pc (.ref b :: As) (PCe G K E2 wc H.size) (.ref b :: As : List Value).toArray U := fun U hU hW => ⟨rfl, by rw [hU], by rw [hU]; exact fun k q hq => hPc k q (ap_l hq), va_K.moved hW.alike hK, hDw.weaken (fun _ _ _ _ => trivial), hEn U hU hW⟩
  refine va_calli (va_runV (As := As) (rest := rest) ⟨hx, hb, hml, hown, hts⟩ hM (cwV n hts (gV t1 t2 t3 t4 t5) rfl rfl rfl hd hR0) ⟨pce_blind hE2, hrv, hin⟩ rfl hlen hls hst (lv_room hrm) hdg hcl) hS (fun q _ h => hFc q h) hFc (fun x u t H1 locs1 ht hvm hw1 hB hz1 hk1 hS1 => ?_)
  subst hw1
  have hB2 : va_P G vwCl w1 H1 := by rw [← ht]; exact hB
  have hfar : ∀ (k : Nat) (q : Nat × va_E), PL[k]? = some q → q.1 < H.size ∧ ¬ va_A wc H.size q.1 := by
    intro k q hq
    have h2 := ap_r (ws := wc) hq
    have hlt := (hPc _ q h2).lt
    refine ⟨hlt, ?_⟩
    rintro (⟨k', e', hk'⟩ | hge)
    · have := hDc.1 k' _ (q.1, e') q (ap_l hk') h2 rfl
      obtain ⟨hl2, -⟩ := List.getElem?_eq_some_iff.mp hk'
      omega
    · omega
  have hPL1 : va_P G vwCl PL H1 := fun k q hq => (hPc _ q (ap_r (ws := wc) hq)).kept (hk1 q.1 (hfar k q hq).1 (hfar k q hq).2)
  have hD1 : va_D (va_A (wc ++ PL) H.size) (w1 ++ PL) := va_D_adr (ws := wc ++ PL) (by rw [List.map_append, List.map_append, hw]) hDc.self
  obtain ⟨hP3, hD3⟩ := vz_joinP (w1 := w1) (PL' := PL) hP hD isC isR hC hR hnR hdis (fun q h1 h2 => hk1 q h1 (fun h => h2 (by
    rcases h with ⟨k, e, hk⟩ | hge
    · exact Or.inl ⟨k, e, ap_l hk⟩
    · exact Or.inr hge))) (hB2.app hPL1) hD1 hFp
  exact kk H1 locs1 (hP3.part isN hN) (hD3.part isN hnN hN) hS1
theorem lV_l {p : Program} {l : Launch} {e : Env} {R : Room} {s : State} {m : MethodId} {args : Array Value} {below : List Frame} {meth : Method} {c : Code} {H : Heap} {locs : List Loc} {cells slots : Nat} {Q : State → Prop} {cc : ByteArray} {nL : Nat} {own : String} {G : va_G} {K : Nat → ClassId} {E : VE} {A : Nat → Prop} {E2 : VE} {ws wc wr w1 nw PL : va_W} {index n maxL pc : Nat} {y : MethodName} {bytes : ByteArray} {ret : Option FieldType} {rm : Room} {C : String} {b : Nat} {As rest st0 : List Value} {ls : Array Slot} {r : Int64} (C0 : CX p s m args c cc nL own G K E A) (hP : va_P G vwCl (ws ++ PL) H) (hD : va_D A (ws ++ PL)) (hS : va_S A s.heap H locs) (isC isR isN : List Nat) (hE2 : EnvOK E2) (hEn : ∀ U : State, U.heap = H → s.WarmedH U.vm → E2 (va_A wc H.size) U U.heap) (hM : Met l y (mC y bytes maxL ret) rm (va_Pc (.ref b :: As) (PCe G K E2 wc H.size)) (va_Ql (fun (x : Int64) (_ : Unit) => x = r) (fun _ t => va_P G vwCl w1 t.heap) (va_A wc H.size)) rm.cells rm.slots (va_A wc H.size)) (hn : va_nd isC = true) (hC : isC.map (fun i => ws[i]?) = wc.map some) (hw : w1.map (fun q => q.1) = wc.map (fun q => q.1)) (hnR : va_nd isR = true) (hR : isR.map (fun i => ws[i]?) = wr.map some) (hdis : isR.all (fun i => !(isC.contains i)) = true) (hnN : va_nd isN = true) (hN : isN.map (fun i => (w1 ++ wr)[i]?) = nw.map some) (t1 : Cond.methodLink own index y ∈ tbG) (t2 : Cond.instanceMethod y ∈ tbG) (t3 : Cond.selects C y y ∈ tbG) (t4 : Cond.initialized C ∈ tbG) (t5 : Cond.code y bytes maxL ret ∈ tbG) (hd : y.cls = C ∧ y.cls ≠ "java/lang/invoke/MethodHandle" ∧ y.cls ≠ "java/lang/invoke/VarHandle" ∧ (parseMethodDescriptor y.desc).map (fun d => d.parameters.length) = some n) (hrv : ∃ cellB : Cell, H[b]? = some cellB ∧ cellB.vm.isStatics = false ∧ s.vm.findClass C = some cellB.cls) (hR0 : rm.frames + 1 ≤ R.frames ∧ 8 + (maxL + 11) + rm.locals ≤ R.locals) (hlen : As.length = n) (hls : ls.size = nL) (hrm : (rest.map fun v => v.category).sum ≤ 8) (hst : st0 = As.reverse ++ .ref b :: rest) (hcl : cells + rm.cells ≤ R.cells ∧ slots + rm.slots ≤ R.slots) (hdg : decode cc pc = .ok (.invokevirtual index, 3)) (kk : ∀ (H1 : Heap) (locs1 : List Loc), va_P G vwCl (nw ++ PL) H1 → va_D A (nw ++ PL) → va_S A s.heap H1 locs1 → W p l e R s m args below meth c H1 locs1 (cells + rm.cells) (slots + rm.slots) Q (F0 m (pc + 3) ls (.long r :: rest))) : W p l e R s m args below meth c H locs cells slots Q (F0 m pc ls st0) := by
  obtain ⟨hx, hb, hml, hown, hts, hK, hA, hEo, hE⟩ := id C0
  have hFp := wc_free hD hS hA hC
  have hDc := wc_D hD hn hC
  have hPc : va_P G vwCl (wc ++ PL) H := va_P_mem hP (wc_mem hC)
  have hFc : ∀ q, va_A wc H.size q → A q := by
    rintro q (⟨k, e, hk⟩ | hge)
    · exact hFp q (Or.inl ⟨k, e, ap_l hk⟩)
    · exact hFp q (Or.inr hge)
  have hDw : va_D A wc := ⟨fun i j p q hi hj h => hDc.1 i j p q (ap_l hi) (ap_l hj) h, fun k q hq => hDc.2 k q (ap_l hq)⟩
  have hin : ∀ U : State, U.heap = H → s.WarmedH U.vm → va_Pc (.ref b :: As) (PCe G K E2 wc H.size) (.ref b :: As : List Value).toArray U := fun U hU hW => ⟨rfl, by rw [hU], by rw [hU]; exact fun k q hq => hPc k q (ap_l hq), va_K.moved hW.alike hK, hDw.weaken (fun _ _ _ _ => trivial), hEn U hU hW⟩
  refine va_calll (va_runV (As := As) (rest := rest) ⟨hx, hb, hml, hown, hts⟩ hM (cwV n hts (gV t1 t2 t3 t4 t5) rfl rfl rfl hd hR0) ⟨pce_blind hE2, hrv, hin⟩ rfl hlen hls hst (lv_room hrm) hdg hcl) hS (fun q _ h => hFc q h) hFc (fun x u t H1 locs1 ht hvm hw1 hB hz1 hk1 hS1 => ?_)
  subst hw1
  have hB2 : va_P G vwCl w1 H1 := by rw [← ht]; exact hB
  have hfar : ∀ (k : Nat) (q : Nat × va_E), PL[k]? = some q → q.1 < H.size ∧ ¬ va_A wc H.size q.1 := by
    intro k q hq
    have h2 := ap_r (ws := wc) hq
    have hlt := (hPc _ q h2).lt
    refine ⟨hlt, ?_⟩
    rintro (⟨k', e', hk'⟩ | hge)
    · have := hDc.1 k' _ (q.1, e') q (ap_l hk') h2 rfl
      obtain ⟨hl2, -⟩ := List.getElem?_eq_some_iff.mp hk'
      omega
    · omega
  have hPL1 : va_P G vwCl PL H1 := fun k q hq => (hPc _ q (ap_r (ws := wc) hq)).kept (hk1 q.1 (hfar k q hq).1 (hfar k q hq).2)
  have hD1 : va_D (va_A (wc ++ PL) H.size) (w1 ++ PL) := va_D_adr (ws := wc ++ PL) (by rw [List.map_append, List.map_append, hw]) hDc.self
  obtain ⟨hP3, hD3⟩ := vz_joinP (w1 := w1) (PL' := PL) hP hD isC isR hC hR hnR hdis (fun q h1 h2 => hk1 q h1 (fun h => h2 (by
    rcases h with ⟨k, e, hk⟩ | hge
    · exact Or.inl ⟨k, e, ap_l hk⟩
    · exact Or.inr hge))) (hB2.app hPL1) hD1 hFp
  exact kk H1 locs1 (hP3.part isN hN) (hD3.part isN hnN hN) hS1
theorem lP_i {p : Program} {l : Launch} {e : Env} {R : Room} {s : State} {m : MethodId} {args : Array Value} {below : List Frame} {meth : Method} {c : Code} {H : Heap} {locs : List Loc} {cells slots : Nat} {Q : State → Prop} {cc : ByteArray} {nL : Nat} {own : String} {G : va_G} {K : Nat → ClassId} {E : VE} {A : Nat → Prop} {E2 : VE} {T : Type} {Po : Int32 → T → Prop} {ws wc wr PL : va_W} {w1 nw : T → va_W} {Z : T → va_W → Prop} {index n maxL pc : Nat} {y : MethodName} {bytes : ByteArray} {ret : Option FieldType} {rm : Room} {C : String} {b : Nat} {As rest st0 : List Value} {ls : Array Slot} (C0 : CX p s m args c cc nL own G K E A) (hP : va_P G vwCl (ws ++ PL) H) (hD : va_D A (ws ++ PL)) (hS : va_S A s.heap H locs) (isC isR isN : List Nat) (hE2 : EnvOK E2) (hEn : (∀ q, va_A (wc ++ PL) H.size q → A q) → ∀ U : State, U.heap = H → s.WarmedH U.vm → E2 (va_A (wc ++ PL) H.size) U U.heap) (hM : Met l y (mC y bytes maxL ret) rm (va_Pc (.ref b :: As) (PCe G K E2 (wc ++ PL) H.size)) (va_Qi Po (fun u t => ∃ PL' : va_W, va_P G vwCl (w1 u ++ PL') t.heap ∧ va_D (va_A (wc ++ PL) H.size) (w1 u ++ PL') ∧ Z u PL') (va_A (wc ++ PL) H.size)) rm.cells rm.slots (va_A (wc ++ PL) H.size)) (hn : va_nd isC = true) (hC : isC.map (fun i => ws[i]?) = wc.map some) (hnR : va_nd isR = true) (hR : isR.map (fun i => ws[i]?) = wr.map some) (hdis : isR.all (fun i => !(isC.contains i)) = true) (hnN : va_nd isN = true) (hN : ∀ u, isN.map (fun i => (w1 u ++ wr)[i]?) = (nw u).map some) (t1 : Cond.methodLink own index y ∈ tbG) (t2 : Cond.instanceMethod y ∈ tbG) (t3 : Cond.selects C y y ∈ tbG) (t4 : Cond.initialized C ∈ tbG) (t5 : Cond.code y bytes maxL ret ∈ tbG) (hd : y.cls = C ∧ y.cls ≠ "java/lang/invoke/MethodHandle" ∧ y.cls ≠ "java/lang/invoke/VarHandle" ∧ (parseMethodDescriptor y.desc).map (fun d => d.parameters.length) = some n) (hrv : ∃ cellB : Cell, H[b]? = some cellB ∧ cellB.vm.isStatics = false ∧ s.vm.findClass C = some cellB.cls) (hR0 : rm.frames + 1 ≤ R.frames ∧ 8 + (maxL + 11) + rm.locals ≤ R.locals) (hlen : As.length = n) (hls : ls.size = nL) (hrm : (rest.map fun v => v.category).sum ≤ 8) (hst : st0 = As.reverse ++ .ref b :: rest) (hcl : cells + rm.cells ≤ R.cells ∧ slots + rm.slots ≤ R.slots) (hdg : decode cc pc = .ok (.invokevirtual index, 3)) (kk : ∀ (r : Int32) (u : T) (PL' : va_W) (H1 : Heap) (locs1 : List Loc), Po r u → Z u PL' → va_P G vwCl (nw u ++ PL') H1 → va_D A (nw u ++ PL') → va_S A s.heap H1 locs1 → W p l e R s m args below meth c H1 locs1 (cells + rm.cells) (slots + rm.slots) Q (F0 m (pc + 3) ls (.int r :: rest))) : W p l e R s m args below meth c H locs cells slots Q (F0 m pc ls st0) := by
  obtain ⟨hx, hb, hml, hown, hts, hK, hA, hEo, hE⟩ := id C0
  have hFc := wc_free hD hS hA hC
  have hDc := wc_D hD hn hC
  have hin : ∀ U : State, U.heap = H → s.WarmedH U.vm → va_Pc (.ref b :: As) (PCe G K E2 (wc ++ PL) H.size) (.ref b :: As : List Value).toArray U := fun U hU hW => ⟨rfl, by rw [hU], by rw [hU]; exact va_P_mem hP (wc_mem hC), va_K.moved hW.alike hK, hDc.weaken (fun _ _ _ _ => trivial), hEn hFc U hU hW⟩
  refine va_calli (va_runV (As := As) (rest := rest) ⟨hx, hb, hml, hown, hts⟩ hM (cwV n hts (gV t1 t2 t3 t4 t5) rfl rfl rfl hd hR0) ⟨pce_blind hE2, hrv, hin⟩ rfl hlen hls hst (lv_room hrm) hdg hcl) hS (fun q _ h => hFc q h) hFc (fun r u t H1 locs1 ht hvm hw1 hB hz1 hk1 hS1 => ?_)
  obtain ⟨PL2, hB1, hB2, hB3⟩ := hB
  rw [ht] at hB1
  obtain ⟨hP3, hD3⟩ := vz_joinP (w1 := w1 u) (PL' := PL2) hP hD isC isR hC hR hnR hdis hk1 hB1 hB2 hFc
  exact kk r u PL2 H1 locs1 hw1 hB3 (hP3.part isN (hN u)) (hD3.part isN hnN (hN u)) hS1
