/-! what makes cells: new cells behind a call, arrays of a known class, the environment at a later heap -/
theorem vz_backN {A0 : Nat → Prop} {G : va_G} {cl : List vw_C} {ws wc w1 wn : va_W} {H H1 : Heap} (hP : va_P G cl ws H) (hD : va_D A0 ws) (isC : List Nat) (hC : isC.map (fun i => ws[i]?) = wc.map some) (hk : ∀ q : Nat, q < H.size → ¬ va_A wc H.size q → H1[q]? = H[q]?) (hP1 : va_P G cl (w1 ++ wn) H1) (hD1 : va_D (va_A wc H.size) (w1 ++ wn)) (hw : w1.map (fun q => q.1) = wc.map (fun q => q.1)) (hFc : ∀ q, va_A wc H.size q → A0 q) : va_P G cl (vz_set ws isC w1 ++ wn) H1 ∧ va_D A0 (vz_set ws isC w1 ++ wn) := by
  have hPa : va_P G cl w1 H1 := fun k q hq => hP1 k q (by
    obtain ⟨hl, -⟩ := List.getElem?_eq_some_iff.mp hq
    rw [List.getElem?_append_left hl]; exact hq)
  have hPn : va_P G cl wn H1 := fun k q hq => hP1 (w1.length + k) q (by
    rw [List.getElem?_append_right (Nat.le_add_right _ _), Nat.add_sub_cancel_left]; exact hq)
  obtain ⟨b1, b2⟩ := vz_back hP hD isC hC hk hPa hw
  have hDn : va_D A0 wn := by
    refine ⟨fun i j p q hi hj hpq => ?_, fun k q hq => hFc _ (hD1.2 (w1.length + k) q (by rw [List.getElem?_append_right (Nat.le_add_right _ _), Nat.add_sub_cancel_left]; exact hq))⟩
    have := hD1.1 (w1.length + i) (w1.length + j) p q (by rw [List.getElem?_append_right (Nat.le_add_right _ _), Nat.add_sub_cancel_left]; exact hi) (by rw [List.getElem?_append_right (Nat.le_add_right _ _), Nat.add_sub_cancel_left]; exact hj) hpq
    omega
  refine ⟨b1.app hPn, va_D.app b2 hDn (fun i j p q hi hj hpq => ?_)⟩
  have hadr : (vz_set ws isC w1).map (fun q => q.1) = ws.map (fun q => q.1) := by
    refine vz_set_adr isC w1 ws (fun j i c hj hc => ?_)
    have e := congrArg (fun l => l[j]?) hw
    simp only [List.getElem?_map, hc, Option.map_some] at e
    have e2 := congrArg (fun l => l[j]?) hC
    simp only [List.getElem?_map, hj, Option.map_some] at e2
    cases hw0 : wc[j]? with
    | none => rw [hw0] at e; cases e
    | some c0 =>
      rw [hw0] at e e2
      have e3 : ws[i]? = some c0 := Option.some.inj e2
      rw [List.getElem?_map, e3]
      exact e.symm
  have hplt : p.1 < H.size := by
    have e := congrArg (fun l => l[i]?) hadr
    simp only [List.getElem?_map, hi, Option.map_some] at e
    cases hw0 : ws[i]? with
    | none => rw [hw0] at e; cases e
    | some c0 =>
      rw [hw0] at e
      have e4 : p.1 = c0.1 := Option.some.inj e
      rw [e4]
      exact (hP i c0 hw0).lt
  have hq := hD1.2 (w1.length + j) q (by rw [List.getElem?_append_right (Nat.le_add_right _ _), Nat.add_sub_cancel_left]; exact hj)
  rcases hq with ⟨k', e', hk'⟩ | hge
  · have e := congrArg (fun l => l[k']?) hw
    simp only [List.getElem?_map, hk', Option.map_some] at e
    cases hw0 : w1[k']? with
    | none => rw [hw0] at e; cases e
    | some c0 =>
      rw [hw0] at e
      have e4 : c0.1 = q.1 := Option.some.inj e
      obtain ⟨hl, -⟩ := List.getElem?_eq_some_iff.mp hw0
      have := hD1.1 k' (w1.length + j) c0 q (by rw [List.getElem?_append_left hl]; exact hw0) (by rw [List.getElem?_append_right (Nat.le_add_right _ _), Nat.add_sub_cancel_left]; exact hj) e4
      omega
  · omega
theorem vn_ci {G : va_G} {K : Nat → ClassId} {s : State} {cA : ClassId} (hK : va_K G vwCl (TY K) s) (hK2 : va_K G vwCl (TY K ++ [(cA, .int)]) s) : cA = K 0 := Option.some.inj ((hK2.2 5 _ rfl).2.symm.trans (hK.2 0 _ rfl).2)
theorem vn_cz {G : va_G} {K : Nat → ClassId} {s : State} {cA : ClassId} (hK : va_K G vwCl (TY K) s) (hK2 : va_K G vwCl (TY K ++ [(cA, .boolean)]) s) : cA = K 1 := Option.some.inj ((hK2.2 5 _ rfl).2.symm.trans (hK.2 1 _ rfl).2)
theorem vn_cq {G : va_G} {K : Nat → ClassId} {s : State} {cA : ClassId} {C : String} {t : Nat} (hK : va_K G vwCl (TY K) s) (ht : (TY K)[t]? = some (K t, .object C)) (hK2 : va_K G vwCl (TY K ++ [(cA, .object C)]) s) : cA = K t := by
  obtain ⟨kA, comp, -, -, -, h1⟩ := (hK2.2 5 _ rfl).2
  obtain ⟨kB, comp2, -, -, -, h2⟩ := (hK.2 t _ ht).2
  exact Option.some.inj (h1.symm.trans h2)
theorem vp_same {G : va_G} {cl : List vw_C} {a n : Nat} {cA : ClassId} {f g : Nat → Option Nat} {H : Heap} (h : ∀ j, j < n → f j = g j) (ha : va_at G cl (a, .inl (cA, n, .inr (.inr (.inr (.inr f))))) H) : va_at G cl (a, .inl (cA, n, .inr (.inr (.inr (.inr g))))) H := by
  have e : vp_cell cA (n, .inr (.inr (.inr (.inr f)))) = vp_cell cA (n, .inr (.inr (.inr (.inr g)))) := by
    show arrV cA n (fun j => va_rf (f j)) = arrV cA n (fun j => va_rf (g j))
    unfold arrV
    congr 1
    apply Array.ext
    · simp
    · intro i h1 h2
      simp only [Array.getElem_ofFn]
      rw [h i (by simpa using h1)]
  show H[a]? = some _
  rw [← e]
  exact ha
theorem vp_sameI {G : va_G} {cl : List vw_C} {a n : Nat} {cA : ClassId} {f g : Nat → Int32} {H : Heap} (h : ∀ j, j < n → f j = g j) (ha : va_at G cl (a, .inl (cA, n, .inl f)) H) : va_at G cl (a, .inl (cA, n, .inl g)) H := by
  have e : vp_cell cA (n, .inl f) = vp_cell cA (n, .inl g) := by
    show arrV cA n (fun j => .int (f j)) = arrV cA n (fun j => .int (g j))
    unfold arrV
    congr 1
    apply Array.ext
    · simp
    · intro i h1 h2
      simp only [Array.getElem_ofFn]
      rw [h i (by simpa using h1)]
  show H[a]? = some _
  rw [← e]
  exact ha
/-- one cell told otherwise -/
theorem va_P_tell {G : va_G} {cl : List vw_C} {ws : va_W} {H : Heap} (hP : va_P G cl ws H) (k : Nat) (c : Nat × va_E) (h : va_at G cl c H) : va_P G cl (ws.set k c) H := by
  intro j q hj
  by_cases hk : k = j
  · subst hk
    rw [List.getElem?_set] at hj
    simp only [if_pos rfl] at hj
    by_cases hl : k < ws.length
    · rw [if_pos hl] at hj
      cases hj
      exact h
    · rw [if_neg hl] at hj; cases hj
  · rw [List.getElem?_set_ne hk] at hj
    exact hP j q hj
def EK (G : va_G) (K : Nat → ClassId) (tt : Nat → Nat) (L : List Nat) (la sa : Nat → Nat) (ln sy sn : Nat → Int32) (lt st : Nat → Nat → Int32) : VE := fun A U H => EC G K tt L la sa ln sy sn lt st A U H ∧ va_AO RX4 U ∧ va_AO RX5 U ∧ va_AO RX2 U
theorem EK_ok (G : va_G) (K : Nat → ClassId) (tt : Nat → Nat) (L : List Nat) (la sa : Nat → Nat) (ln sy sn : Nat → Int32) (lt st : Nat → Nat → Int32) : EnvOK (EK G K tt L la sa ln sy sn lt st) := by
  refine ⟨fun A U g mk a h => ⟨(EC_ok G K tt L la sa ln sy sn lt st).1 A U g mk a h.1, h.2.1.moved (Vm.Alike.refl U.vm), h.2.2.1.moved (Vm.Alike.refl U.vm), h.2.2.2.moved (Vm.Alike.refl U.vm)⟩, fun A Ac s U H locs h hS hU hW hA => ⟨(EC_ok G K tt L la sa ln sy sn lt st).2 A Ac s U H locs h.1 hS hU hW hA, h.2.1.moved hW.alike, h.2.2.1.moved hW.alike, h.2.2.2.moved hW.alike⟩⟩

theorem nI_v {p : Program} {l : Launch} {e : Env} {R : Room} {s : State} {m : MethodId} {args : Array Value} {below : List Frame} {meth : Method} {c : Code} {H : Heap} {locs : List Loc} {cells slots : Nat} {Q : State → Prop} {cc : ByteArray} {nL : Nat} {own : String} {G : va_G} {K : Nat → ClassId} {E : VE} {A : Nat → Prop} {E2 : VE} {ws wc : va_W} {w1 wn : (Nat → Nat) → va_W} {index n maxL pc : Nat} {y : MethodName} {bytes : ByteArray} {rm : Room} {b : Nat} {As rest st0 : List Value} {ls : Array Slot} (C0 : CX p s m args c cc nL own G K E A) (hP : va_P G vwCl ws H) (hD : va_D A ws) (hS : va_S A s.heap H locs) (isC : List Nat) (hE2 : EnvOK E2) (hEn : ∀ U : State, U.heap = H → s.WarmedH U.vm → E2 (va_A wc H.size) U U.heap) (hM : Met l y (mC y bytes maxL none) rm (va_Pc (.ref b :: As) (PCe G K E2 wc H.size)) (va_Qv (fun (_ : Nat → Nat) => True) (fun u t => va_P G vwCl (w1 u ++ wn u) t.heap ∧ va_D (va_A wc H.size) (w1 u ++ wn u)) (va_A wc H.size)) rm.cells rm.slots (va_A wc H.size)) (hn : va_nd isC = true) (hC : isC.map (fun i => ws[i]?) = wc.map some) (hw : ∀ u, (w1 u).map (fun q => q.1) = wc.map (fun q => q.1)) (t1 : Cond.methodLink own index y ∈ tbG) (t2 : Cond.instanceMethod y ∈ tbG) (t4 : Cond.initialized y.cls ∈ tbG) (t5 : Cond.code y bytes maxL none ∈ tbG) (hy : y.name = "<init>") (hd : y.cls ≠ "java/lang/invoke/MethodHandle" ∧ y.cls ≠ "java/lang/invoke/VarHandle" ∧ (parseMethodDescriptor y.desc).map (fun d => d.parameters.length) = some n) (hR : rm.frames + 1 ≤ R.frames ∧ 8 + (maxL + 11) + rm.locals ≤ R.locals) (hlen : As.length = n) (hls : ls.size = nL) (hrm : (rest.map fun v => v.category).sum ≤ 8) (hst : st0 = As.reverse ++ .ref b :: rest) (hcl : cells + rm.cells ≤ R.cells ∧ slots + rm.slots ≤ R.slots) (hdg : decode cc pc = .ok (.invokespecial index, 3)) (kk : ∀ (u : Nat → Nat) (H1 : Heap) (locs1 : List Loc), va_P G vwCl (vz_set ws isC (w1 u) ++ wn u) H1 → va_D A (vz_set ws isC (w1 u) ++ wn u) → va_S A s.heap H1 locs1 → W p l e R s m args below meth c H1 locs1 (cells + rm.cells) (slots + rm.slots) Q (F0 m (pc + 3) ls rest)) : W p l e R s m args below meth c H locs cells slots Q (F0 m pc ls st0) := by
  obtain ⟨hx, hb, hml, hown, hts, hK, hA, hEo, hE⟩ := id C0
  have hFc := va_free (wc := wc) hD hS hA isC hC
  have hin : ∀ U : State, U.heap = H → s.WarmedH U.vm → va_Pc (.ref b :: As) (PCe G K E2 wc H.size) (.ref b :: As : List Value).toArray U := fun U hU hW => ⟨rfl, by rw [hU], by rw [hU]; exact hP.sub isC (vz_fm hC), va_K.moved hW.alike hK, (hD.sub isC hn hC).weaken (fun _ _ _ _ => trivial), hEn U hU hW⟩
  refine va_callv (va_runI (As := As) (rest := rest) ⟨hx, hb, hml, hown, hts⟩ hM (cwI n hts (mC_good t5) rfl rfl rfl (hts _ t4) (hts _ t1) (hts _ t2) hy hd hR) ⟨pce_blind hE2, hin⟩ rfl hlen hls hst (lv_room hrm) hdg hcl) hS (fun q _ h => hFc q h) hFc (fun u t H1 locs1 ht hvm hw1 hB hz1 hk1 hS1 => ?_)
  obtain ⟨hB1, hB2⟩ := hB
  rw [ht] at hB1
  obtain ⟨hP2, hD2⟩ := vz_backN hP hD isC hC hk1 hB1 hB2 (hw u) hFc
  exact kk u H1 locs1 hP2 hD2 hS1
theorem nJ_v {p : Program} {l : Launch} {e : Env} {R : Room} {s : State} {m : MethodId} {args : Array Value} {below : List Frame} {meth : Method} {c : Code} {H : Heap} {locs : List Loc} {cells slots : Nat} {Q : State → Prop} {cc : ByteArray} {nL : Nat} {own : String} {G : va_G} {K : Nat → ClassId} {E : VE} {A : Nat → Prop} {E2 : VE} {ws wc : va_W} {w1 wn : (Nat → Nat) → va_W} {index n maxL pc : Nat} {y : MethodName} {bytes : ByteArray} {rm : Room} {b : Nat} {host : String} {As rest st0 : List Value} {ls : Array Slot} (C0 : CX p s m args c cc nL own G K E A) (hP : va_P G vwCl ws H) (hD : va_D A ws) (hS : va_S A s.heap H locs) (isC : List Nat) (hE2 : EnvOK E2) (hEn : ∀ U : State, U.heap = H → s.WarmedH U.vm → E2 (va_A wc H.size) U U.heap) (hM : Met l y (mC y bytes maxL none) rm (va_Pc (.ref b :: As) (PCe G K E2 wc H.size)) (va_Qv (fun (_ : Nat → Nat) => True) (fun u t => va_P G vwCl (w1 u ++ wn u) t.heap ∧ va_D (va_A wc H.size) (w1 u ++ wn u)) (va_A wc H.size)) rm.cells rm.slots (va_A wc H.size)) (hn : va_nd isC = true) (hC : isC.map (fun i => ws[i]?) = wc.map some) (hw : ∀ u, (w1 u).map (fun q => q.1) = wc.map (fun q => q.1)) (t1 : va_Nw (.methodLinkNest own index y host) s) (t2 : Cond.instanceMethod y ∈ tbG) (t4 : Cond.initialized y.cls ∈ tbG) (t5 : Cond.code y bytes maxL none ∈ tbG) (hy : y.name = "<init>") (hd : y.cls ≠ "java/lang/invoke/MethodHandle" ∧ y.cls ≠ "java/lang/invoke/VarHandle" ∧ (parseMethodDescriptor y.desc).map (fun d => d.parameters.length) = some n) (hR : rm.frames + 1 ≤ R.frames ∧ 8 + (maxL + 11) + rm.locals ≤ R.locals) (hlen : As.length = n) (hls : ls.size = nL) (hrm : (rest.map fun v => v.category).sum ≤ 8) (hst : st0 = As.reverse ++ .ref b :: rest) (hcl : cells + rm.cells ≤ R.cells ∧ slots + rm.slots ≤ R.slots) (hdg : decode cc pc = .ok (.invokespecial index, 3)) (kk : ∀ (u : Nat → Nat) (H1 : Heap) (locs1 : List Loc), va_P G vwCl (vz_set ws isC (w1 u) ++ wn u) H1 → va_D A (vz_set ws isC (w1 u) ++ wn u) → va_S A s.heap H1 locs1 → W p l e R s m args below meth c H1 locs1 (cells + rm.cells) (slots + rm.slots) Q (F0 m (pc + 3) ls rest)) : W p l e R s m args below meth c H locs cells slots Q (F0 m pc ls st0) := by
  obtain ⟨hx, hb, hml, hown, hts, hK, hA, hEo, hE⟩ := id C0
  have hFc := va_free (wc := wc) hD hS hA isC hC
  have hin : ∀ U : State, U.heap = H → s.WarmedH U.vm → va_Pc (.ref b :: As) (PCe G K E2 wc H.size) (.ref b :: As : List Value).toArray U := fun U hU hW => ⟨rfl, by rw [hU], by rw [hU]; exact hP.sub isC (vz_fm hC), va_K.moved hW.alike hK, (hD.sub isC hn hC).weaken (fun _ _ _ _ => trivial), hEn U hU hW⟩
  refine va_callv (va_runIN (As := As) (rest := rest) ⟨hx, hb, hml, hown, hts⟩ hM ⟨va_cnB n hts (mC_good t5) rfl rfl rfl t1 (hts _ t4) hd hR, hy, hts _ t2⟩ ⟨pce_blind hE2, hin⟩ rfl hlen hls hst (lv_room hrm) hdg hcl) hS (fun q _ h => hFc q h) hFc (fun u t H1 locs1 ht hvm hw1 hB hz1 hk1 hS1 => ?_)
  obtain ⟨hB1, hB2⟩ := hB
  rw [ht] at hB1
  obtain ⟨hP2, hD2⟩ := vz_backN hP hD isC hC hk1 hB1 hB2 (hw u) hFc
  exact kk u H1 locs1 hP2 hD2 hS1
