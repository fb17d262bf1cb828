/-! methods that make spellings: the pool of spellings is the world's tail PL; what they answer is told as a weakest precondition -/
abbrev EZ (G : va_G) (K : Nat → ClassId) (tt : Nat → Nat) : VE := EC G K tt [] (fun _ => 0) (fun _ => 0) (fun _ => 0) (fun _ => 0) (fun _ => 0) (fun _ _ => 0) (fun _ _ => 0)
def POK (K : Nat → ClassId) (L : List Nat) (la sa : Nat → Nat) (ln sy sn : Nat → Int32) (lt st : Nat → Nat → Int32) (PL : va_W) : Prop := ∀ a ∈ L, (∃ k : Nat, PL[k]? = some (a, .inr (5, [.int (ln a), .ref (la a), .int (sy a), .ref (sa a), .int (sn a)]))) ∧ (∃ k : Nat, PL[k]? = some (la a, .inl (K 0, (ln a).toNatClampNeg, .inl (lt a)))) ∧ (∃ k : Nat, PL[k]? = some (sa a, .inl (K 0, 4, .inl (st a))))
theorem ap_r {ws PL : va_W} {k : Nat} {c : Nat × va_E} (h : PL[k]? = some c) : (ws ++ PL)[ws.length + k]? = some c := by
  rw [List.getElem?_append_right (Nat.le_add_right _ _), Nat.add_sub_cancel_left]; exact h
theorem ap_l {ws PL : va_W} {k : Nat} {c : Nat × va_E} (h : ws[k]? = some c) : (ws ++ PL)[k]? = some c := by
  obtain ⟨hl, -⟩ := List.getElem?_eq_some_iff.mp h
  rw [List.getElem?_append_left hl]; exact h
theorem va_P_mem {G : va_G} {cl : List vw_C} {ws ws' : va_W} {H : Heap} (h : va_P G cl ws H) (hm : ∀ c ∈ ws', c ∈ ws) : va_P G cl ws' H := by
  intro k q hk
  obtain ⟨j, hj⟩ := List.getElem?_of_mem (hm q (List.mem_of_getElem? hk))
  exact h j q hj
theorem va_D_iff {A : Nat → Prop} {ws : va_W} : va_D A ws ↔ (ws.map (fun q => q.1)).Nodup ∧ ∀ c ∈ ws, A c.1 := by
  constructor
  · intro h
    refine ⟨?_, fun c hc => ?_⟩
    · rw [List.nodup_iff_pairwise_ne, List.pairwise_iff_getElem]
      intro i j hi hj hij heq
      simp only [List.length_map] at hi hj
      simp only [List.getElem_map] at heq
      have := h.1 i j ws[i] ws[j] (List.getElem?_eq_getElem hi) (List.getElem?_eq_getElem hj) heq
      omega
    · obtain ⟨j, hj⟩ := List.getElem?_of_mem hc
      exact h.2 j c hj
  · intro h
    refine ⟨fun i j p q hi hj hpq => ?_, fun k q hk => h.2 q (List.mem_of_getElem? hk)⟩
    obtain ⟨li, ei⟩ := List.getElem?_eq_some_iff.mp hi
    obtain ⟨lj, ej⟩ := List.getElem?_eq_some_iff.mp hj
    have hi' : i < (ws.map (fun q => q.1)).length := by simpa using li
    have hj' : j < (ws.map (fun q => q.1)).length := by simpa using lj
    refine (List.getElem_inj (h₀ := hi') (h₁ := hj') h.1).mp ?_
    simp only [List.getElem_map, ei, ej, hpq]
theorem va_D_cnt {A : Nat → Prop} {ws ws' : va_W} (h : va_D A ws) (hm : ∀ c ∈ ws', c ∈ ws) (hc : ∀ a : Nat, (ws'.map (fun q => q.1)).count a ≤ (ws.map (fun q => q.1)).count a) : va_D A ws' := by
  rw [va_D_iff] at h ⊢
  refine ⟨?_, fun c hcm => h.2 c (hm c hcm)⟩
  rw [List.nodup_iff_count]
  exact fun a => Nat.le_trans (hc a) (List.nodup_iff_count.mp h.1 a)
/-- a new spelling comes into the pool -/
theorem sp_absorb {G : va_G} {K : Nat → ClassId} {A : Nat → Prop} {ws PL : va_W} {H : Heap} {L : List Nat} {la sa : Nat → Nat} {ln sy sn : Nat → Int32} {lt st : Nat → Nat → Int32} {q qa qs : Nat} {len syl snd : Int32} {let0 sta : Nat → Int32} (hP : va_P G vwCl (((q, .inr (5, [.int len, .ref qa, .int syl, .ref qs, .int snd])) :: (ws ++ PL)) ++ [(qs, .inl (K 0, 4, .inl sta)), (qa, .inl (K 0, len.toNatClampNeg, .inl let0))]) H) (hD : va_D A (((q, .inr (5, [.int len, .ref qa, .int syl, .ref qs, .int snd])) :: (ws ++ PL)) ++ [(qs, .inl (K 0, 4, .inl sta)), (qa, .inl (K 0, len.toNatClampNeg, .inl let0))])) (hPL : POK K L la sa ln sy sn lt st PL) : ∃ PL' : va_W, va_P G vwCl (ws ++ PL') H ∧ va_D A (ws ++ PL') ∧ POK K (L ++ [q]) (va_up la q qa) (va_up sa q qs) (va_up ln q len) (va_up sy q syl) (va_up sn q snd) (va_up lt q let0) (va_up st q sta) PL' ∧ ¬ q ∈ L := by
  have hq : ¬ q ∈ L := by
    intro hm
    obtain ⟨⟨k, hk⟩, -⟩ := hPL q hm
    have h1 : (((q, (.inr (5, [.int len, .ref qa, .int syl, .ref qs, .int snd]) : va_E)) :: (ws ++ PL)) ++ [(qs, .inl (K 0, 4, .inl sta)), (qa, .inl (K 0, len.toNatClampNeg, .inl let0))])[1 + (ws.length + k)]? = some (q, .inr (5, [.int (ln q), .ref (la q), .int (sy q), .ref (sa q), .int (sn q)])) := by
      apply ap_l
      rw [Nat.add_comm, List.getElem?_cons_succ]
      exact ap_r hk
    have := hD.1 0 (1 + (ws.length + k)) _ _ rfl h1 rfl
    omega
  refine ⟨PL ++ [(q, .inr (5, [.int len, .ref qa, .int syl, .ref qs, .int snd])), (qs, .inl (K 0, 4, .inl sta)), (qa, .inl (K 0, len.toNatClampNeg, .inl let0))], ?_, ?_, ?_, hq⟩
  · refine va_P_mem hP (fun c hc => ?_)
    simp only [List.mem_append, List.mem_cons, List.not_mem_nil, or_false] at hc ⊢
    rcases hc with h | h | h | h | h <;> simp [h]
  · refine va_D_cnt hD (fun c hc => ?_) (fun a => ?_)
    · simp only [List.mem_append, List.mem_cons, List.not_mem_nil, or_false] at hc ⊢
      rcases hc with h | h | h | h | h <;> simp [h]
    · simp only [List.map_append, List.map_cons, List.map_nil, List.count_append, List.count_cons, List.count_nil, List.cons_append]
      omega
  · intro a ha
    rcases List.mem_append.mp ha with h | h
    · have hne : a ≠ q := fun e => hq (e ▸ h)
      obtain ⟨⟨k1, h1⟩, ⟨k2, h2⟩, ⟨k3, h3⟩⟩ := hPL a h
      simp only [va_up_ne _ _ hne]
      exact ⟨⟨k1, ap_l h1⟩, ⟨k2, ap_l h2⟩, ⟨k3, ap_l h3⟩⟩
    · have e : a = q := by simpa using h
      subst e
      simp only [va_up_self]
      exact ⟨⟨PL.length + 0, ap_r rfl⟩, ⟨PL.length + 2, ap_r rfl⟩, ⟨PL.length + 1, ap_r rfl⟩⟩
/-- the class's environment with the pool as it is now -/
theorem ec_now {s : State} {H : Heap} {locs : List Loc} {G : va_G} {K : Nat → ClassId} {tt : Nat → Nat} {L0 L : List Nat} {la0 sa0 la sa : Nat → Nat} {ln0 sy0 sn0 ln sy sn : Nat → Int32} {lt0 st0 lt st : Nat → Nat → Int32} {A : Nat → Prop} {ws PL wc : va_W} (hE : EC G K tt L0 la0 sa0 ln0 sy0 sn0 lt0 st0 A s s.heap) (hA : ∀ q, s.heap.size ≤ q → A q) (hS : va_S A s.heap H locs) (hP : va_P G vwCl (ws ++ PL) H) (hD : va_D A (ws ++ PL)) (hPL : POK K L la sa ln sy sn lt st PL) (isC : List Nat) (hC : isC.map (fun i => (ws ++ PL)[i]?) = wc.map some) (hlt0 : isC.all (fun i => Nat.blt i ws.length) = true) : ∀ U : State, U.heap = H → s.WarmedH U.vm → EC G K tt L la sa ln sy sn lt st (va_A wc H.size) U U.heap := by
  intro U hU hW
  have hlt : ∀ i ∈ isC, i < ws.length := fun i hi => by
    have h := List.all_eq_true.mp hlt0 i hi
    exact Nat.le_of_ble_eq_true h
  have hFc := va_free (wc := wc) hD hS hA isC hC
  obtain ⟨-, -, hT, hN⟩ := (EC_ok G K tt L0 la0 sa0 ln0 sy0 sn0 lt0 st0).2 A (va_A wc H.size) s U H locs hE hS hU hW hFc
  have far : ∀ (k : Nat) (c : Nat × va_E), PL[k]? = some c → ¬ va_A wc H.size c.1 := by
    intro i c hi hq
    have hi2 := ap_r (ws := ws) hi
    rcases hq with ⟨k', e', hk'⟩ | hge
    · have e := congrArg (fun l => l[k']?) hC
      simp only [List.getElem?_map, hk', Option.map_some] at e
      cases hj : isC[k']? with
      | none => rw [hj] at e; cases e
      | some j =>
        rw [hj] at e
        have e3 : (ws ++ PL)[j]? = some (c.1, e') := Option.some.inj e
        have := hD.1 j (ws.length + i) (c.1, e') c e3 hi2 rfl
        have := hlt j (List.mem_of_getElem? hj)
        omega
    · have := (hP _ c hi2).lt
      omega
  refine ⟨fun a ha => ?_, fun a ha => ?_, hT, hN⟩
  · obtain ⟨⟨k1, h1⟩, ⟨k2, h2⟩, ⟨k3, h3⟩⟩ := hPL a ha
    rw [hU]
    intro k q hq
    match k, hq with
    | 0, hq => cases hq; exact hP _ _ (ap_r h1)
    | 1, hq => cases hq; exact hP _ _ (ap_r h2)
    | 2, hq => cases hq; exact hP _ _ (ap_r h3)
    | k + 3, hq => simp at hq
  · obtain ⟨⟨k1, h1⟩, ⟨k2, h2⟩, ⟨k3, h3⟩⟩ := hPL a ha
    exact ⟨far k1 _ h1, far k2 _ h2, far k3 _ h3⟩
/-- behind a call that may have made cells: the callee had a part of ours and the pool -/
theorem vz_backP {A0 : Nat → Prop} {G : va_G} {cl : List vw_C} {ws wc w1 PL PL' : va_W} {H H1 : Heap} (hP : va_P G cl (ws ++ PL) H) (hD : va_D A0 (ws ++ PL)) (isC : List Nat) (hC : isC.map (fun i => ws[i]?) = wc.map some) (hk : ∀ q : Nat, q < H.size → ¬ va_A (wc ++ PL) H.size q → H1[q]? = H[q]?) (hP1 : va_P G cl (w1 ++ PL') H1) (hD1 : va_D (va_A (wc ++ PL) H.size) (w1 ++ PL')) (hw : w1.map (fun q => q.1) = wc.map (fun q => q.1)) (hFc : ∀ q, va_A (wc ++ PL) H.size q → A0 q) : va_P G cl (vz_set ws isC w1 ++ PL') H1 ∧ va_D A0 (vz_set ws isC w1 ++ PL') := by
  have hlen : isC.length = w1.length := by
    have e1 := congrArg List.length hC
    have e2 := congrArg List.length hw
    simp only [List.length_map] at e1 e2
    omega
  have hat : ∀ (j i : Nat), isC[j]? = some i → ws[i]? = wc[j]? := by
    intro j i hj
    have e := congrArg (fun l => l[j]?) hC
    simp only [List.getElem?_map, hj, Option.map_some] at e
    cases hw0 : wc[j]? with
    | none => rw [hw0] at e; cases e
    | some c => rw [hw0] at e; exact Option.some.inj e
  have hin : ∀ (j : Nat) (c : Nat × va_E), wc[j]? = some c → ∃ i, isC[j]? = some i := by
    intro j c hj
    have e := congrArg (fun l => l[j]?) hC
    simp only [List.getElem?_map, hj, Option.map_some] at e
    cases hi : isC[j]? with
    | none => rw [hi] at e; cases e
    | some i => exact ⟨i, rfl⟩
  -- a cell of ours that the callee had not
  have hrest : ∀ (k : Nat) (q : Nat × va_E), k ∉ isC → ws[k]? = some q → q.1 < H.size ∧ ¬ va_A (wc ++ PL) H.size q.1 := by
    intro k q hn hq
    have hq2 := ap_l (PL := PL) hq
    have hlt := (hP k q hq2).lt
    refine ⟨hlt, ?_⟩
    rintro (⟨k', e', hk'⟩ | hge)
    · by_cases hl : k' < wc.length
      · rw [List.getElem?_append_left hl] at hk'
        obtain ⟨i, hi⟩ := hin k' _ hk'
        have hi2 := ap_l (PL := PL) ((hat k' i hi).trans hk')
        have := hD.1 i k (q.1, e') q hi2 hq2 rfl
        subst this
        exact hn (List.mem_of_getElem? hi)
      · rw [List.getElem?_append_right (Nat.le_of_not_lt hl)] at hk'
        have hi2 := ap_r (ws := ws) hk'
        have := hD.1 _ k (q.1, e') q hi2 hq2 rfl
        obtain ⟨hl2, -⟩ := List.getElem?_eq_some_iff.mp hq
        omega
    · omega
  have hadr : (vz_set ws isC w1).map (fun q => q.1) = ws.map (fun q => q.1) := by
    refine vz_set_adr isC w1 ws (fun j i c hj hc => ?_)
    have e := congrArg (fun l => l[j]?) hw
    simp only [List.getElem?_map, hc, Option.map_some] at e
    rw [List.getElem?_map, hat j i hj]
    exact e.symm
  refine ⟨?_, ?_⟩
  · intro k q hq
    by_cases hl : k < (vz_set ws isC w1).length
    · rw [List.getElem?_append_left hl] at hq
      rcases vz_set_get isC w1 ws k q hlen hq with ⟨j, -, h2⟩ | ⟨h1, h2⟩
      · exact hP1 j q (ap_l h2)
      · obtain ⟨ha, hb⟩ := hrest k q h1 h2
        exact (hP k q (ap_l h2)).kept (hk q.1 ha hb)
    · rw [List.getElem?_append_right (Nat.le_of_not_lt hl)] at hq
      exact hP1 _ q (ap_r hq)
  · have hDa : va_D A0 (vz_set ws isC w1) := va_D_adr hadr ⟨fun i j p q hi hj h => hD.1 i j p q (ap_l hi) (ap_l hj) h, fun k q hq => hD.2 k q (ap_l hq)⟩
    have hDp : va_D A0 PL' := by
      refine ⟨fun i j p q hi hj h => ?_, fun k q hq => hFc _ (hD1.2 _ q (ap_r (ws := w1) hq))⟩
      have := hD1.1 _ _ p q (ap_r (ws := w1) hi) (ap_r (ws := w1) hj) h
      omega
    refine va_D.app hDa hDp (fun i j p q hi hj hpq => ?_)
    rcases vz_set_get isC w1 ws i p hlen hi with ⟨j', -, h2⟩ | ⟨h1, h2⟩
    · have := hD1.1 _ _ p q (ap_l (PL := PL') h2) (ap_r (ws := w1) hj) hpq
      obtain ⟨hl2, -⟩ := List.getElem?_eq_some_iff.mp h2
      omega
    · obtain ⟨ha, hb⟩ := hrest i p h1 h2
      exact hb (hpq ▸ hD1.2 _ q (ap_r (ws := w1) hj))

theorem dV_i {p : Program} {l : Launch} {e : Env} {R : Room} {s : State} {m : MethodId} {args : Array Value} {below : List Frame} {meth : Method} {c : Code} {H : Heap} {locs : List Loc} {cells slots : Nat} {Q : State → Prop} {cc : ByteArray} {nL : Nat} {own : String} {G : va_G} {K : Nat → ClassId} {E : VE} {A : Nat → Prop} {E2 : VE} {ws wc w1 : va_W} {index n maxL pc : Nat} {y : MethodName} {bytes : ByteArray} {ret : Option FieldType} {rm : Room} {C : String} {b : Nat} {As rest st0 : List Value} {ls : Array Slot} {r : Int32} (C0 : CX p s m args c cc nL own G K E A) (hP : va_P G vwCl ws H) (hD : va_D A ws) (hS : va_S A s.heap H locs) (isC : List Nat) (hE2 : EnvOK E2) (hEn : ∀ U : State, U.heap = H → s.WarmedH U.vm → E2 (va_A wc H.size) U U.heap) (hM : Met l y (mC y bytes maxL ret) rm (va_Pc (.ref b :: As) (PCe G K E2 wc H.size)) (va_Qi (fun (x : Int32) (_ : Unit) => x = r) (fun _ t => va_P G vwCl w1 t.heap) (va_A wc H.size)) rm.cells rm.slots (va_A wc H.size)) (hn : va_nd isC = true) (hC : isC.map (fun i => ws[i]?) = wc.map some) (hw : w1.map (fun q => q.1) = wc.map (fun q => q.1)) (t1 : Cond.methodLink own index y ∈ tbG) (t2 : Cond.instanceMethod y ∈ tbG) (t3 : Cond.selects C y y ∈ tbG) (t4 : Cond.initialized C ∈ tbG) (t5 : Cond.code y bytes maxL ret ∈ tbG) (hd : y.cls = C ∧ y.cls ≠ "java/lang/invoke/MethodHandle" ∧ y.cls ≠ "java/lang/invoke/VarHandle" ∧ (parseMethodDescriptor y.desc).map (fun d => d.parameters.length) = some n) (hrv : ∃ cellB : Cell, H[b]? = some cellB ∧ cellB.vm.isStatics = false ∧ s.vm.findClass C = some cellB.cls) (hR : rm.frames + 1 ≤ R.frames ∧ 8 + (maxL + 11) + rm.locals ≤ R.locals) (hlen : As.length = n) (hls : ls.size = nL) (hrm : (rest.map fun v => v.category).sum ≤ 8) (hst : st0 = As.reverse ++ .ref b :: rest) (hcl : cells + rm.cells ≤ R.cells ∧ slots + rm.slots ≤ R.slots) (hdg : decode cc pc = .ok (.invokevirtual index, 3)) (kk : ∀ (H1 : Heap) (locs1 : List Loc), va_P G vwCl (vz_set ws isC w1) H1 → va_D A (vz_set ws isC w1) → va_S A s.heap H1 locs1 → W p l e R s m args below meth c H1 locs1 (cells + rm.cells) (slots + rm.slots) Q (F0 m (pc + 3) ls (.int r :: rest))) : W p l e R s m args below meth c H locs cells slots Q (F0 m pc ls st0) := by
  obtain ⟨hx, hb, hml, hown, hts, hK, hA, hEo, hE⟩ := id C0
  have hFc := va_free (wc := wc) hD hS hA isC hC
  have hin : ∀ U : State, U.heap = H → s.WarmedH U.vm → va_Pc (.ref b :: As) (PCe G K E2 wc H.size) (.ref b :: As : List Value).toArray U := fun U hU hW => ⟨rfl, by rw [hU], by rw [hU]; exact hP.sub isC (vz_fm hC), va_K.moved hW.alike hK, (hD.sub isC hn hC).weaken (fun _ _ _ _ => trivial), hEn U hU hW⟩
  refine va_calli (va_runV (As := As) (rest := rest) ⟨hx, hb, hml, hown, hts⟩ hM (cwV n hts (gV t1 t2 t3 t4 t5) rfl rfl rfl hd hR) ⟨pce_blind hE2, hrv, hin⟩ rfl hlen hls hst (lv_room hrm) hdg hcl) hS (fun q _ h => hFc q h) hFc (fun x u t H1 locs1 ht hvm hw1 hB hz1 hk1 hS1 => ?_)
  subst hw1
  have hB2 : va_P G vwCl w1 H1 := by rw [← ht]; exact hB
  obtain ⟨hP2, hD2⟩ := vz_back hP hD isC hC hk1 hB2 hw
  exact kk H1 locs1 hP2 hD2 hS1
theorem dV_v {p : Program} {l : Launch} {e : Env} {R : Room} {s : State} {m : MethodId} {args : Array Value} {below : List Frame} {meth : Method} {c : Code} {H : Heap} {locs : List Loc} {cells slots : Nat} {Q : State → Prop} {cc : ByteArray} {nL : Nat} {own : String} {G : va_G} {K : Nat → ClassId} {E : VE} {A : Nat → Prop} {E2 : VE} {ws wc w1 : va_W} {index n maxL pc : Nat} {y : MethodName} {bytes : ByteArray} {ret : Option FieldType} {rm : Room} {C : String} {b : Nat} {As rest st0 : List Value} {ls : Array Slot} (C0 : CX p s m args c cc nL own G K E A) (hP : va_P G vwCl ws H) (hD : va_D A ws) (hS : va_S A s.heap H locs) (isC : List Nat) (hE2 : EnvOK E2) (hEn : ∀ U : State, U.heap = H → s.WarmedH U.vm → E2 (va_A wc H.size) U U.heap) (hM : Met l y (mC y bytes maxL ret) rm (va_Pc (.ref b :: As) (PCe G K E2 wc H.size)) (va_Qv (fun (_ : Unit) => True) (fun _ t => va_P G vwCl w1 t.heap) (va_A wc H.size)) rm.cells rm.slots (va_A wc H.size)) (hn : va_nd isC = true) (hC : isC.map (fun i => ws[i]?) = wc.map some) (hw : w1.map (fun q => q.1) = wc.map (fun q => q.1)) (t1 : Cond.methodLink own index y ∈ tbG) (t2 : Cond.instanceMethod y ∈ tbG) (t3 : Cond.selects C y y ∈ tbG) (t4 : Cond.initialized C ∈ tbG) (t5 : Cond.code y bytes maxL ret ∈ tbG) (hd : y.cls = C ∧ y.cls ≠ "java/lang/invoke/MethodHandle" ∧ y.cls ≠ "java/lang/invoke/VarHandle" ∧ (parseMethodDescriptor y.desc).map (fun d => d.parameters.length) = some n) (hrv : ∃ cellB : Cell, H[b]? = some cellB ∧ cellB.vm.isStatics = false ∧ s.vm.findClass C = some cellB.cls) (hR : rm.frames + 1 ≤ R.frames ∧ 8 + (maxL + 11) + rm.locals ≤ R.locals) (hlen : As.length = n) (hls : ls.size = nL) (hrm : (rest.map fun v => v.category).sum ≤ 8) (hst : st0 = As.reverse ++ .ref b :: rest) (hcl : cells + rm.cells ≤ R.cells ∧ slots + rm.slots ≤ R.slots) (hdg : decode cc pc = .ok (.invokevirtual index, 3)) (kk : ∀ (H1 : Heap) (locs1 : List Loc), va_P G vwCl (vz_set ws isC w1) H1 → va_D A (vz_set ws isC w1) → va_S A s.heap H1 locs1 → W p l e R s m args below meth c H1 locs1 (cells + rm.cells) (slots + rm.slots) Q (F0 m (pc + 3) ls (rest))) : W p l e R s m args below meth c H locs cells slots Q (F0 m pc ls st0) := by
  obtain ⟨hx, hb, hml, hown, hts, hK, hA, hEo, hE⟩ := id C0
  have hFc := va_free (wc := wc) hD hS hA isC hC
  have hin : ∀ U : State, U.heap = H → s.WarmedH U.vm → va_Pc (.ref b :: As) (PCe G K E2 wc H.size) (.ref b :: As : List Value).toArray U := fun U hU hW => ⟨rfl, by rw [hU], by rw [hU]; exact hP.sub isC (vz_fm hC), va_K.moved hW.alike hK, (hD.sub isC hn hC).weaken (fun _ _ _ _ => trivial), hEn U hU hW⟩
  refine va_callv (va_runV (As := As) (rest := rest) ⟨hx, hb, hml, hown, hts⟩ hM (cwV n hts (gV t1 t2 t3 t4 t5) rfl rfl rfl hd hR) ⟨pce_blind hE2, hrv, hin⟩ rfl hlen hls hst (lv_room hrm) hdg hcl) hS (fun q _ h => hFc q h) hFc (fun u t H1 locs1 ht hvm hw1 hB hz1 hk1 hS1 => ?_)
  have hB2 : va_P G vwCl w1 H1 := by rw [← ht]; exact hB
  obtain ⟨hP2, hD2⟩ := vz_back hP hD isC hC hk1 hB2 hw
  exact kk H1 locs1 hP2 hD2 hS1
theorem dS_i {p : Program} {l : Launch} {e : Env} {R : Room} {s : State} {m : MethodId} {args : Array Value} {below : List Frame} {meth : Method} {c : Code} {H : Heap} {locs : List Loc} {cells slots : Nat} {Q : State → Prop} {cc : ByteArray} {nL : Nat} {own : String} {G : va_G} {K : Nat → ClassId} {E : VE} {A : Nat → Prop} {E2 : VE} {ws wc w1 : va_W} {index n maxL pc : Nat} {y : MethodName} {bytes : ByteArray} {ret : Option FieldType} {rm : Room} {As rest st0 : List Value} {ls : Array Slot} {r : Int32} (C0 : CX p s m args c cc nL own G K E A) (hP : va_P G vwCl ws H) (hD : va_D A ws) (hS : va_S A s.heap H locs) (isC : List Nat) (hE2 : EnvOK E2) (hEn : ∀ U : State, U.heap = H → s.WarmedH U.vm → E2 (va_A wc H.size) U U.heap) (hM : Met l y (mC y bytes maxL ret) rm (va_Pc As (PCe G K E2 wc H.size)) (va_Qi (fun (x : Int32) (_ : Unit) => x = r) (fun _ t => va_P G vwCl w1 t.heap) (va_A wc H.size)) rm.cells rm.slots (va_A wc H.size)) (hn : va_nd isC = true) (hC : isC.map (fun i => ws[i]?) = wc.map some) (hw : w1.map (fun q => q.1) = wc.map (fun q => q.1)) (t1 : Cond.methodLink own index y ∈ tbG) (t2 : Cond.static y ∈ tbG) (t4 : Cond.initialized y.cls ∈ tbG) (t5 : Cond.code y bytes maxL ret ∈ tbG) (hd : y.cls ≠ "java/lang/invoke/MethodHandle" ∧ y.cls ≠ "java/lang/invoke/VarHandle" ∧ (parseMethodDescriptor y.desc).map (fun d => d.parameters.length) = some n) (hR : rm.frames + 1 ≤ R.frames ∧ 8 + (maxL + 11) + rm.locals ≤ R.locals) (hlen : As.length = n) (hls : ls.size = nL) (hrm : (rest.map fun v => v.category).sum ≤ 8) (hst : st0 = As.reverse ++ rest) (hcl : cells + rm.cells ≤ R.cells ∧ slots + rm.slots ≤ R.slots) (hdg : decode cc pc = .ok (.invokestatic index, 3)) (kk : ∀ (H1 : Heap) (locs1 : List Loc), va_P G vwCl (vz_set ws isC w1) H1 → va_D A (vz_set ws isC w1) → va_S A s.heap H1 locs1 → W p l e R s m args below meth c H1 locs1 (cells + rm.cells) (slots + rm.slots) Q (F0 m (pc + 3) ls (.int r :: rest))) : W p l e R s m args below meth c H locs cells slots Q (F0 m pc ls st0) := by
  obtain ⟨hx, hb, hml, hown, hts, hK, hA, hEo, hE⟩ := id C0
  have hFc := va_free (wc := wc) hD hS hA isC hC
  have hin : ∀ U : State, U.heap = H → s.WarmedH U.vm → va_Pc As (PCe G K E2 wc H.size) As.toArray U := fun U hU hW => ⟨rfl, by rw [hU], by rw [hU]; exact hP.sub isC (vz_fm hC), va_K.moved hW.alike hK, (hD.sub isC hn hC).weaken (fun _ _ _ _ => trivial), hEn U hU hW⟩
  refine va_calli (va_runS (As := As) (rest := rest) ⟨hx, hb, hml, hown, hts⟩ hM (va_cwS n hts (gS t1 t2 t4 t5) rfl rfl rfl hd hR) ⟨pce_blind hE2, hin⟩ rfl hlen hls hst (lv_room hrm) hdg hcl) hS (fun q _ h => hFc q h) hFc (fun x u t H1 locs1 ht hvm hw1 hB hz1 hk1 hS1 => ?_)
  subst hw1
  have hB2 : va_P G vwCl w1 H1 := by rw [← ht]; exact hB
  obtain ⟨hP2, hD2⟩ := vz_back hP hD isC hC hk1 hB2 hw
  exact kk H1 locs1 hP2 hD2 hS1
theorem dS_v {p : Program} {l : Launch} {e : Env} {R : Room} {s : State} {m : MethodId} {args : Array Value} {below : List Frame} {meth : Method} {c : Code} {H : Heap} {locs : List Loc} {cells slots : Nat} {Q : State → Prop} {cc : ByteArray} {nL : Nat} {own : String} {G : va_G} {K : Nat → ClassId} {E : VE} {A : Nat → Prop} {E2 : VE} {ws wc w1 : va_W} {index n maxL pc : Nat} {y : MethodName} {bytes : ByteArray} {ret : Option FieldType} {rm : Room} {As rest st0 : List Value} {ls : Array Slot} (C0 : CX p s m args c cc nL own G K E A) (hP : va_P G vwCl ws H) (hD : va_D A ws) (hS : va_S A s.heap H locs) (isC : List Nat) (hE2 : EnvOK E2) (hEn : ∀ U : State, U.heap = H → s.WarmedH U.vm → E2 (va_A wc H.size) U U.heap) (hM : Met l y (mC y bytes maxL ret) rm (va_Pc As (PCe G K E2 wc H.size)) (va_Qv (fun (_ : Unit) => True) (fun _ t => va_P G vwCl w1 t.heap) (va_A wc H.size)) rm.cells rm.slots (va_A wc H.size)) (hn : va_nd isC = true) (hC : isC.map (fun i => ws[i]?) = wc.map some) (hw : w1.map (fun q => q.1) = wc.map (fun q => q.1)) (t1 : Cond.methodLink own index y ∈ tbG) (t2 : Cond.static y ∈ tbG) (t4 : Cond.initialized y.cls ∈ tbG) (t5 : Cond.code y bytes maxL ret ∈ tbG) (hd : y.cls ≠ "java/lang/invoke/MethodHandle" ∧ y.cls ≠ "java/lang/invoke/VarHandle" ∧ (parseMethodDescriptor y.desc).map (fun d => d.parameters.length) = some n) (hR : rm.frames + 1 ≤ R.frames ∧ 8 + (maxL + 11) + rm.locals ≤ R.locals) (hlen : As.length = n) (hls : ls.size = nL) (hrm : (rest.map fun v => v.category).sum ≤ 8) (hst : st0 = As.reverse ++ rest) (hcl : cells + rm.cells ≤ R.cells ∧ slots + rm.slots ≤ R.slots) (hdg : decode cc pc = .ok (.invokestatic index, 3)) (kk : ∀ (H1 : Heap) (locs1 : List Loc), va_P G vwCl (vz_set ws isC w1) H1 → va_D A (vz_set ws isC w1) → va_S A s.heap H1 locs1 → W p l e R s m args below meth c H1 locs1 (cells + rm.cells) (slots + rm.slots) Q (F0 m (pc + 3) ls (rest))) : W p l e R s m args below meth c H locs cells slots Q (F0 m pc ls st0) := by
  obtain ⟨hx, hb, hml, hown, hts, hK, hA, hEo, hE⟩ := id C0
  have hFc := va_free (wc := wc) hD hS hA isC hC
  have hin : ∀ U : State, U.heap = H → s.WarmedH U.vm → va_Pc As (PCe G K E2 wc H.size) As.toArray U := fun U hU hW => ⟨rfl, by rw [hU], by rw [hU]; exact hP.sub isC (vz_fm hC), va_K.moved hW.alike hK, (hD.sub isC hn hC).weaken (fun _ _ _ _ => trivial), hEn U hU hW⟩
  refine va_callv (va_runS (As := As) (rest := rest) ⟨hx, hb, hml, hown, hts⟩ hM (va_cwS n hts (gS t1 t2 t4 t5) rfl rfl rfl hd hR) ⟨pce_blind hE2, hin⟩ rfl hlen hls hst (lv_room hrm) hdg hcl) hS (fun q _ h => hFc q h) hFc (fun u t H1 locs1 ht hvm hw1 hB hz1 hk1 hS1 => ?_)
  have hB2 : va_P G vwCl w1 H1 := by rw [← ht]; exact hB
  obtain ⟨hP2, hD2⟩ := vz_back hP hD isC hC hk1 hB2 hw
  exact kk H1 locs1 hP2 hD2 hS1
theorem dN_i {p : Program} {l : Launch} {e : Env} {R : Room} {s : State} {m : MethodId} {args : Array Value} {below : List Frame} {meth : Method} {c : Code} {H : Heap} {locs : List Loc} {cells slots : Nat} {Q : State → Prop} {cc : ByteArray} {nL : Nat} {own : String} {G : va_G} {K : Nat → ClassId} {E : VE} {A : Nat → Prop} {E2 : VE} {ws wc w1 : va_W} {index n maxL pc : Nat} {y : MethodName} {bytes : ByteArray} {ret : Option FieldType} {rm : Room} {host : String} {As rest st0 : List Value} {ls : Array Slot} {r : Int32} (C0 : CX p s m args c cc nL own G K E A) (hP : va_P G vwCl ws H) (hD : va_D A ws) (hS : va_S A s.heap H locs) (isC : List Nat) (hE2 : EnvOK E2) (hEn : ∀ U : State, U.heap = H → s.WarmedH U.vm → E2 (va_A wc H.size) U U.heap) (hM : Met l y (mC y bytes maxL ret) rm (va_Pc As (PCe G K E2 wc H.size)) (va_Qi (fun (x : Int32) (_ : Unit) => x = r) (fun _ t => va_P G vwCl w1 t.heap) (va_A wc H.size)) rm.cells rm.slots (va_A wc H.size)) (hn : va_nd isC = true) (hC : isC.map (fun i => ws[i]?) = wc.map some) (hw : w1.map (fun q => q.1) = wc.map (fun q => q.1)) (t1 : va_Nw (.methodLinkNest own index y host) s) (t2 : Cond.static y ∈ tbG) (t4 : Cond.initialized y.cls ∈ tbG) (t5 : Cond.code y bytes maxL ret ∈ tbG) (hd : y.cls ≠ "java/lang/invoke/MethodHandle" ∧ y.cls ≠ "java/lang/invoke/VarHandle" ∧ (parseMethodDescriptor y.desc).map (fun d => d.parameters.length) = some n) (hR : rm.frames + 1 ≤ R.frames ∧ 8 + (maxL + 11) + rm.locals ≤ R.locals) (hlen : As.length = n) (hls : ls.size = nL) (hrm : (rest.map fun v => v.category).sum ≤ 8) (hst : st0 = As.reverse ++ rest) (hcl : cells + rm.cells ≤ R.cells ∧ slots + rm.slots ≤ R.slots) (hdg : decode cc pc = .ok (.invokestatic index, 3)) (kk : ∀ (H1 : Heap) (locs1 : List Loc), va_P G vwCl (vz_set ws isC w1) H1 → va_D A (vz_set ws isC w1) → va_S A s.heap H1 locs1 → W p l e R s m args below meth c H1 locs1 (cells + rm.cells) (slots + rm.slots) Q (F0 m (pc + 3) ls (.int r :: rest))) : W p l e R s m args below meth c H locs cells slots Q (F0 m pc ls st0) := by
  obtain ⟨hx, hb, hml, hown, hts, hK, hA, hEo, hE⟩ := id C0
  have hFc := va_free (wc := wc) hD hS hA isC hC
  have hin : ∀ U : State, U.heap = H → s.WarmedH U.vm → va_Pc As (PCe G K E2 wc H.size) As.toArray U := fun U hU hW => ⟨rfl, by rw [hU], by rw [hU]; exact hP.sub isC (vz_fm hC), va_K.moved hW.alike hK, (hD.sub isC hn hC).weaken (fun _ _ _ _ => trivial), hEn U hU hW⟩
  refine va_calli (va_runSN (As := As) (rest := rest) ⟨hx, hb, hml, hown, hts⟩ hM ⟨va_cnB n hts (mC_good t5) rfl rfl rfl t1 (hts _ t4) hd hR, hts _ t2, trivial⟩ ⟨pce_blind hE2, hin⟩ rfl hlen hls hst (lv_room hrm) hdg hcl) hS (fun q _ h => hFc q h) hFc (fun x u t H1 locs1 ht hvm hw1 hB hz1 hk1 hS1 => ?_)
  subst hw1
  have hB2 : va_P G vwCl w1 H1 := by rw [← ht]; exact hB
  obtain ⟨hP2, hD2⟩ := vz_back hP hD isC hC hk1 hB2 hw
  exact kk H1 locs1 hP2 hD2 hS1
theorem dN_v {p : Program} {l : Launch} {e : Env} {R : Room} {s : State} {m : MethodId} {args : Array Value} {below : List Frame} {meth : Method} {c : Code} {H : Heap} {locs : List Loc} {cells slots : Nat} {Q : State → Prop} {cc : ByteArray} {nL : Nat} {own : String} {G : va_G} {K : Nat → ClassId} {E : VE} {A : Nat → Prop} {E2 : VE} {ws wc w1 : va_W} {index n maxL pc : Nat} {y : MethodName} {bytes : ByteArray} {ret : Option FieldType} {rm : Room} {host : String} {As rest st0 : List Value} {ls : Array Slot} (C0 : CX p s m args c cc nL own G K E A) (hP : va_P G vwCl ws H) (hD : va_D A ws) (hS : va_S A s.heap H locs) (isC : List Nat) (hE2 : EnvOK E2) (hEn : ∀ U : State, U.heap = H → s.WarmedH U.vm → E2 (va_A wc H.size) U U.heap) (hM : Met l y (mC y bytes maxL ret) rm (va_Pc As (PCe G K E2 wc H.size)) (va_Qv (fun (_ : Unit) => True) (fun _ t => va_P G vwCl w1 t.heap) (va_A wc H.size)) rm.cells rm.slots (va_A wc H.size)) (hn : va_nd isC = true) (hC : isC.map (fun i => ws[i]?) = wc.map some) (hw : w1.map (fun q => q.1) = wc.map (fun q => q.1)) (t1 : va_Nw (.methodLinkNest own index y host) s) (t2 : Cond.static y ∈ tbG) (t4 : Cond.initialized y.cls ∈ tbG) (t5 : Cond.code y bytes maxL ret ∈ tbG) (hd : y.cls ≠ "java/lang/invoke/MethodHandle" ∧ y.cls ≠ "java/lang/invoke/VarHandle" ∧ (parseMethodDescriptor y.desc).map (fun d => d.parameters.length) = some n) (hR : rm.frames + 1 ≤ R.frames ∧ 8 + (maxL + 11) + rm.locals ≤ R.locals) (hlen : As.length = n) (hls : ls.size = nL) (hrm : (rest.map fun v => v.category).sum ≤ 8) (hst : st0 = As.reverse ++ rest) (hcl : cells + rm.cells ≤ R.cells ∧ slots + rm.slots ≤ R.slots) (hdg : decode cc pc = .ok (.invokestatic index, 3)) (kk : ∀ (H1 : Heap) (locs1 : List Loc), va_P G vwCl (vz_set ws isC w1) H1 → va_D A (vz_set ws isC w1) → va_S A s.heap H1 locs1 → W p l e R s m args below meth c H1 locs1 (cells + rm.cells) (slots + rm.slots) Q (F0 m (pc + 3) ls (rest))) : W p l e R s m args below meth c H locs cells slots Q (F0 m pc ls st0) := by
  obtain ⟨hx, hb, hml, hown, hts, hK, hA, hEo, hE⟩ := id C0
  have hFc := va_free (wc := wc) hD hS hA isC hC
  have hin : ∀ U : State, U.heap = H → s.WarmedH U.vm → va_Pc As (PCe G K E2 wc H.size) As.toArray U := fun U hU hW => ⟨rfl, by rw [hU], by rw [hU]; exact hP.sub isC (vz_fm hC), va_K.moved hW.alike hK, (hD.sub isC hn hC).weaken (fun _ _ _ _ => trivial), hEn U hU hW⟩
  refine va_callv (va_runSN (As := As) (rest := rest) ⟨hx, hb, hml, hown, hts⟩ hM ⟨va_cnB n hts (mC_good t5) rfl rfl rfl t1 (hts _ t4) hd hR, hts _ t2, trivial⟩ ⟨pce_blind hE2, hin⟩ rfl hlen hls hst (lv_room hrm) hdg hcl) hS (fun q _ h => hFc q h) hFc (fun u t H1 locs1 ht hvm hw1 hB hz1 hk1 hS1 => ?_)
  have hB2 : va_P G vwCl w1 H1 := by rw [← ht]; exact hB
  obtain ⟨hP2, hD2⟩ := vz_back hP hD isC hC hk1 hB2 hw
  exact kk H1 locs1 hP2 hD2 hS1
theorem eV_i {p : Program} {l : Launch} {e : Env} {R : Room} {s : State} {m : MethodId} {args : Array Value} {below : List Frame} {meth : Method} {c : Code} {H : Heap} {locs : List Loc} {cells slots : Nat} {Q : State → Prop} {cc : ByteArray} {nL : Nat} {own : String} {G : va_G} {K : Nat → ClassId} {E : VE} {A : Nat → Prop} {E2 : VE} {T : Type} {Po : Int32 → T → Prop} {ws wc PL : va_W} {w1 : T → va_W} {Z : T → va_W → Prop} {index n maxL pc : Nat} {y : MethodName} {bytes : ByteArray} {ret : Option FieldType} {rm : Room} {C : String} {b : Nat} {As rest st0 : List Value} {ls : Array Slot} (C0 : CX p s m args c cc nL own G K E A) (hP : va_P G vwCl (ws ++ PL) H) (hD : va_D A (ws ++ PL)) (hS : va_S A s.heap H locs) (isC : List Nat) (hE2 : EnvOK E2) (hEn : (∀ q, va_A (wc ++ PL) H.size q → A q) → ∀ U : State, U.heap = H → s.WarmedH U.vm → E2 (va_A (wc ++ PL) H.size) U U.heap) (hM : Met l y (mC y bytes maxL ret) rm (va_Pc (.ref b :: As) (PCe G K E2 (wc ++ PL) H.size)) (va_Qi Po (fun u t => ∃ PL' : va_W, va_P G vwCl (w1 u ++ PL') t.heap ∧ va_D (va_A (wc ++ PL) H.size) (w1 u ++ PL') ∧ Z u PL') (va_A (wc ++ PL) H.size)) rm.cells rm.slots (va_A (wc ++ PL) H.size)) (hn : va_nd isC = true) (hC : isC.map (fun i => ws[i]?) = wc.map some) (hw : ∀ u, (w1 u).map (fun q => q.1) = wc.map (fun q => q.1)) (t1 : Cond.methodLink own index y ∈ tbG) (t2 : Cond.instanceMethod y ∈ tbG) (t3 : Cond.selects C y y ∈ tbG) (t4 : Cond.initialized C ∈ tbG) (t5 : Cond.code y bytes maxL ret ∈ tbG) (hd : y.cls = C ∧ y.cls ≠ "java/lang/invoke/MethodHandle" ∧ y.cls ≠ "java/lang/invoke/VarHandle" ∧ (parseMethodDescriptor y.desc).map (fun d => d.parameters.length) = some n) (hrv : ∃ cellB : Cell, H[b]? = some cellB ∧ cellB.vm.isStatics = false ∧ s.vm.findClass C = some cellB.cls) (hR : rm.frames + 1 ≤ R.frames ∧ 8 + (maxL + 11) + rm.locals ≤ R.locals) (hlen : As.length = n) (hls : ls.size = nL) (hrm : (rest.map fun v => v.category).sum ≤ 8) (hst : st0 = As.reverse ++ .ref b :: rest) (hcl : cells + rm.cells ≤ R.cells ∧ slots + rm.slots ≤ R.slots) (hdg : decode cc pc = .ok (.invokevirtual index, 3)) (kk : ∀ (r : Int32) (u : T) (PL' : va_W) (H1 : Heap) (locs1 : List Loc), Po r u → Z u PL' → va_P G vwCl (vz_set ws isC (w1 u) ++ PL') H1 → va_D A (vz_set ws isC (w1 u) ++ PL') → va_S A s.heap H1 locs1 → W p l e R s m args below meth c H1 locs1 (cells + rm.cells) (slots + rm.slots) Q (F0 m (pc + 3) ls (.int r :: rest))) : W p l e R s m args below meth c H locs cells slots Q (F0 m pc ls st0) := by
  obtain ⟨hx, hb, hml, hown, hts, hK, hA, hEo, hE⟩ := id C0
  have hmem : ∀ c ∈ wc ++ PL, c ∈ ws ++ PL := by
    intro c hc
    rcases List.mem_append.mp hc with h | h
    · obtain ⟨k, hk⟩ := List.getElem?_of_mem h
      have e := congrArg (fun l => l[k]?) hC
      simp only [List.getElem?_map, hk, Option.map_some] at e
      cases hj : isC[k]? with
      | none => rw [hj] at e; cases e
      | some j => rw [hj] at e; exact List.mem_append_left _ (List.mem_of_getElem? (Option.some.inj e))
    · exact List.mem_append_right _ h
  have hFc : ∀ q, va_A (wc ++ PL) H.size q → A q := by
    rintro q (⟨k, e, hk⟩ | hge)
    · obtain ⟨j, hj⟩ := List.getElem?_of_mem (hmem _ (List.mem_of_getElem? hk))
      exact hD.2 j _ hj
    · exact hA q (Nat.le_trans hS.1 hge)
  have hDc : va_D A (wc ++ PL) := by
    have hws : va_D A ws := ⟨fun i j p q hi hj h => hD.1 i j p q (ap_l hi) (ap_l hj) h, fun k q hq => hD.2 k q (ap_l hq)⟩
    have hpl : va_D A PL := ⟨fun i j p q hi hj h => by have := hD.1 _ _ p q (ap_r (ws := ws) hi) (ap_r (ws := ws) hj) h; omega, fun k q hq => hD.2 _ q (ap_r (ws := ws) hq)⟩
    refine va_D.app (hws.sub isC hn hC) hpl (fun i j p q hi hj hpq => ?_)
    have e := congrArg (fun l => l[i]?) hC
    simp only [List.getElem?_map, hi, Option.map_some] at e
    cases hj2 : isC[i]? with
    | none => rw [hj2] at e; cases e
    | some j2 =>
      rw [hj2] at e
      have e3 : ws[j2]? = some p := Option.some.inj e
      have := hD.1 _ _ p q (ap_l (PL := PL) e3) (ap_r (ws := ws) hj) hpq
      obtain ⟨hl2, -⟩ := List.getElem?_eq_some_iff.mp e3
      omega
  have hin : ∀ U : State, U.heap = H → s.WarmedH U.vm → va_Pc (.ref b :: As) (PCe G K E2 (wc ++ PL) H.size) (.ref b :: As : List Value).toArray U := fun U hU hW => ⟨rfl, by rw [hU], by rw [hU]; exact va_P_mem hP hmem, va_K.moved hW.alike hK, hDc.weaken (fun _ _ _ _ => trivial), hEn hFc U hU hW⟩
  refine va_calli (va_runV (As := As) (rest := rest) ⟨hx, hb, hml, hown, hts⟩ hM (cwV n hts (gV t1 t2 t3 t4 t5) rfl rfl rfl hd hR) ⟨pce_blind hE2, hrv, hin⟩ rfl hlen hls hst (lv_room hrm) hdg hcl) hS (fun q _ h => hFc q h) hFc (fun r u t H1 locs1 ht hvm hw1 hB hz1 hk1 hS1 => ?_)
  obtain ⟨PL2, hB1, hB2, hB3⟩ := hB
  rw [ht] at hB1
  obtain ⟨hP2, hD2⟩ := vz_backP hP hD isC hC hk1 hB1 hB2 (hw u) hFc
  exact kk r u PL2 H1 locs1 hw1 hB3 hP2 hD2 hS1
theorem eV_v {p : Program} {l : Launch} {e : Env} {R : Room} {s : State} {m : MethodId} {args : Array Value} {below : List Frame} {meth : Method} {c : Code} {H : Heap} {locs : List Loc} {cells slots : Nat} {Q : State → Prop} {cc : ByteArray} {nL : Nat} {own : String} {G : va_G} {K : Nat → ClassId} {E : VE} {A : Nat → Prop} {E2 : VE} {T : Type} {Po : T → Prop} {ws wc PL : va_W} {w1 : T → va_W} {Z : T → va_W → Prop} {index n maxL pc : Nat} {y : MethodName} {bytes : ByteArray} {ret : Option FieldType} {rm : Room} {C : String} {b : Nat} {As rest st0 : List Value} {ls : Array Slot} (C0 : CX p s m args c cc nL own G K E A) (hP : va_P G vwCl (ws ++ PL) H) (hD : va_D A (ws ++ PL)) (hS : va_S A s.heap H locs) (isC : List Nat) (hE2 : EnvOK E2) (hEn : (∀ q, va_A (wc ++ PL) H.size q → A q) → ∀ U : State, U.heap = H → s.WarmedH U.vm → E2 (va_A (wc ++ PL) H.size) U U.heap) (hM : Met l y (mC y bytes maxL ret) rm (va_Pc (.ref b :: As) (PCe G K E2 (wc ++ PL) H.size)) (va_Qv Po (fun u t => ∃ PL' : va_W, va_P G vwCl (w1 u ++ PL') t.heap ∧ va_D (va_A (wc ++ PL) H.size) (w1 u ++ PL') ∧ Z u PL') (va_A (wc ++ PL) H.size)) rm.cells rm.slots (va_A (wc ++ PL) H.size)) (hn : va_nd isC = true) (hC : isC.map (fun i => ws[i]?) = wc.map some) (hw : ∀ u, (w1 u).map (fun q => q.1) = wc.map (fun q => q.1)) (t1 : Cond.methodLink own index y ∈ tbG) (t2 : Cond.instanceMethod y ∈ tbG) (t3 : Cond.selects C y y ∈ tbG) (t4 : Cond.initialized C ∈ tbG) (t5 : Cond.code y bytes maxL ret ∈ tbG) (hd : y.cls = C ∧ y.cls ≠ "java/lang/invoke/MethodHandle" ∧ y.cls ≠ "java/lang/invoke/VarHandle" ∧ (parseMethodDescriptor y.desc).map (fun d => d.parameters.length) = some n) (hrv : ∃ cellB : Cell, H[b]? = some cellB ∧ cellB.vm.isStatics = false ∧ s.vm.findClass C = some cellB.cls) (hR : rm.frames + 1 ≤ R.frames ∧ 8 + (maxL + 11) + rm.locals ≤ R.locals) (hlen : As.length = n) (hls : ls.size = nL) (hrm : (rest.map fun v => v.category).sum ≤ 8) (hst : st0 = As.reverse ++ .ref b :: rest) (hcl : cells + rm.cells ≤ R.cells ∧ slots + rm.slots ≤ R.slots) (hdg : decode cc pc = .ok (.invokevirtual index, 3)) (kk : ∀ (u : T) (PL' : va_W) (H1 : Heap) (locs1 : List Loc), Po u → Z u PL' → va_P G vwCl (vz_set ws isC (w1 u) ++ PL') H1 → va_D A (vz_set ws isC (w1 u) ++ PL') → va_S A s.heap H1 locs1 → W p l e R s m args below meth c H1 locs1 (cells + rm.cells) (slots + rm.slots) Q (F0 m (pc + 3) ls (rest))) : W p l e R s m args below meth c H locs cells slots Q (F0 m pc ls st0) := by
  obtain ⟨hx, hb, hml, hown, hts, hK, hA, hEo, hE⟩ := id C0
  have hmem : ∀ c ∈ wc ++ PL, c ∈ ws ++ PL := by
    intro c hc
    rcases List.mem_append.mp hc with h | h
    · obtain ⟨k, hk⟩ := List.getElem?_of_mem h
      have e := congrArg (fun l => l[k]?) hC
      simp only [List.getElem?_map, hk, Option.map_some] at e
      cases hj : isC[k]? with
      | none => rw [hj] at e; cases e
      | some j => rw [hj] at e; exact List.mem_append_left _ (List.mem_of_getElem? (Option.some.inj e))
    · exact List.mem_append_right _ h
  have hFc : ∀ q, va_A (wc ++ PL) H.size q → A q := by
    rintro q (⟨k, e, hk⟩ | hge)
    · obtain ⟨j, hj⟩ := List.getElem?_of_mem (hmem _ (List.mem_of_getElem? hk))
      exact hD.2 j _ hj
    · exact hA q (Nat.le_trans hS.1 hge)
  have hDc : va_D A (wc ++ PL) := by
    have hws : va_D A ws := ⟨fun i j p q hi hj h => hD.1 i j p q (ap_l hi) (ap_l hj) h, fun k q hq => hD.2 k q (ap_l hq)⟩
    have hpl : va_D A PL := ⟨fun i j p q hi hj h => by have := hD.1 _ _ p q (ap_r (ws := ws) hi) (ap_r (ws := ws) hj) h; omega, fun k q hq => hD.2 _ q (ap_r (ws := ws) hq)⟩
    refine va_D.app (hws.sub isC hn hC) hpl (fun i j p q hi hj hpq => ?_)
    have e := congrArg (fun l => l[i]?) hC
    simp only [List.getElem?_map, hi, Option.map_some] at e
    cases hj2 : isC[i]? with
    | none => rw [hj2] at e; cases e
    | some j2 =>
      rw [hj2] at e
      have e3 : ws[j2]? = some p := Option.some.inj e
      have := hD.1 _ _ p q (ap_l (PL := PL) e3) (ap_r (ws := ws) hj) hpq
      obtain ⟨hl2, -⟩ := List.getElem?_eq_some_iff.mp e3
      omega
  have hin : ∀ U : State, U.heap = H → s.WarmedH U.vm → va_Pc (.ref b :: As) (PCe G K E2 (wc ++ PL) H.size) (.ref b :: As : List Value).toArray U := fun U hU hW => ⟨rfl, by rw [hU], by rw [hU]; exact va_P_mem hP hmem, va_K.moved hW.alike hK, hDc.weaken (fun _ _ _ _ => trivial), hEn hFc U hU hW⟩
  refine va_callv (va_runV (As := As) (rest := rest) ⟨hx, hb, hml, hown, hts⟩ hM (cwV n hts (gV t1 t2 t3 t4 t5) rfl rfl rfl hd hR) ⟨pce_blind hE2, hrv, hin⟩ rfl hlen hls hst (lv_room hrm) hdg hcl) hS (fun q _ h => hFc q h) hFc (fun u t H1 locs1 ht hvm hw1 hB hz1 hk1 hS1 => ?_)
  obtain ⟨PL2, hB1, hB2, hB3⟩ := hB
  rw [ht] at hB1
  obtain ⟨hP2, hD2⟩ := vz_backP hP hD isC hC hk1 hB1 hB2 (hw u) hFc
  exact kk u PL2 H1 locs1 hw1 hB3 hP2 hD2 hS1
