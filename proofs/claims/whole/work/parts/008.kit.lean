/-! base rows of this claim: the environment, a world put back in place behind a call, one row a call -/
abbrev TY (K : Nat → ClassId) : List (ClassId × FieldType) := [(K 0, .int), (K 1, .boolean), (K 2, .object RX5), (K 3, .object RX4), (K 4, .object RX2)]
abbrev VE : Type := (Nat → Prop) → State → Heap → Prop
def FU : Nat := 1000000
theorem ng {α : Type} {c : Prop} [Decidable c] {x : Option α} {y : α} (h : (if c then none else x) = some y) : ¬ c ∧ x = some y := by
  by_cases hc : c
  · rw [if_pos hc] at h; cases h
  · rw [if_neg hc] at h; exact ⟨hc, h⟩
def vz_set : va_W → List Nat → va_W → va_W
  | ws, i :: is, c :: cs => vz_set (ws.set i c) is cs
  | ws, _, _ => ws
theorem va_D_adr {A : Nat → Prop} {ws ws' : va_W} (h : ws'.map (fun q => q.1) = ws.map (fun q => q.1)) (hD : va_D A ws) : va_D A ws' := by
  have key : ∀ (k : Nat) (q : Nat × va_E), ws'[k]? = some q → ∃ q0 : Nat × va_E, ws[k]? = some q0 ∧ q0.1 = q.1 := by
    intro k q hk
    have e := congrArg (fun l => l[k]?) h
    simp only [List.getElem?_map, hk, Option.map_some] at e
    cases hw : ws[k]? with
    | none => rw [hw] at e; cases e
    | some q0 => rw [hw] at e; exact ⟨q0, rfl, (Option.some.inj e).symm⟩
  refine ⟨fun i j p q hi hj hpq => ?_, fun k q hk => ?_⟩
  · obtain ⟨p0, h1, h2⟩ := key i p hi
    obtain ⟨q0, h3, h4⟩ := key j q hj
    exact hD.1 i j p0 q0 h1 h3 (by rw [h2, h4, hpq])
  · obtain ⟨q0, h1, h2⟩ := key k q hk
    rw [← h2]
    exact hD.2 k q0 h1
theorem vz_set_adr : ∀ (isC : List Nat) (w1 ws : va_W), (∀ (j i : Nat) (c : Nat × va_E), isC[j]? = some i → w1[j]? = some c → (ws.map (fun q => q.1))[i]? = some c.1) → (vz_set ws isC w1).map (fun q => q.1) = ws.map (fun q => q.1)
  | [], _, ws, _ => by simp [vz_set]
  | _ :: _, [], ws, _ => by simp [vz_set]
  | i :: is, c :: cs, ws, h => by
    have h0 : (ws.set i c).map (fun q => q.1) = ws.map (fun q => q.1) := by
      rw [List.map_set]
      have e := h 0 i c rfl rfl
      apply List.ext_getElem?
      intro k
      by_cases hk : i = k
      · subst hk
        obtain ⟨hl, -⟩ := List.getElem?_eq_some_iff.mp e
        rw [List.getElem?_set, if_pos rfl, if_pos hl, e]
      · rw [List.getElem?_set_ne hk]
    rw [vz_set, vz_set_adr is cs (ws.set i c) (fun j a b ha hb => by rw [h0]; exact h (j + 1) a b ha hb), h0]
theorem vz_set_get : ∀ (isC : List Nat) (w1 ws : va_W) (k : Nat) (q : Nat × va_E), isC.length = w1.length → (vz_set ws isC w1)[k]? = some q → (∃ j : Nat, isC[j]? = some k ∧ w1[j]? = some q) ∨ (k ∉ isC ∧ ws[k]? = some q)
  | [], _, ws, k, q, _, h => by
    rw [vz_set] at h
    · exact Or.inr ⟨by simp, h⟩
    · intro _ _ _ _ hh; cases hh
  | _ :: _, [], ws, k, q, hl, h => by simp at hl
  | i :: is, c :: cs, ws, k, q, hl, h => by
    rw [vz_set] at h
    rcases vz_set_get is cs (ws.set i c) k q (by simpa using hl) h with ⟨j, h1, h2⟩ | ⟨h1, h2⟩
    · exact Or.inl ⟨j + 1, h1, h2⟩
    · by_cases hk : i = k
      · subst hk
        rw [List.getElem?_set] at h2
        simp only [if_pos rfl] at h2
        by_cases hl : i < ws.length
        · rw [if_pos hl] at h2
          exact Or.inl ⟨0, rfl, by rw [← h2]; rfl⟩
        · rw [if_neg hl] at h2; cases h2
      · rw [List.getElem?_set_ne hk] at h2
        refine Or.inr ⟨fun hm => ?_, h2⟩
        rcases List.mem_cons.mp hm with e | e
        · exact hk e.symm
        · exact h1 e
theorem vz_back {A0 : Nat → Prop} {G : va_G} {cl : List vw_C} {ws wc w1 : va_W} {H H1 : Heap} (hP : va_P G cl ws H) (hD : va_D A0 ws) (isC : List Nat) (hC : isC.map (fun i => ws[i]?) = wc.map some) (hk : ∀ q : Nat, q < H.size → ¬ va_A wc H.size q → H1[q]? = H[q]?) (hP1 : va_P G cl w1 H1) (hw : w1.map (fun q => q.1) = wc.map (fun q => q.1)) : va_P G cl (vz_set ws isC w1) H1 ∧ va_D A0 (vz_set ws isC w1) := by
  have hlen : isC.length = w1.length := by
    have e1 := congrArg List.length hC
    have e2 := congrArg List.length hw
    simp only [List.length_map] at e1 e2
    omega
  have hat : ∀ (j i : Nat), isC[j]? = some i → ws[i]? = wc[j]? := by
    intro j i hj
    have e := congrArg (fun l => l[j]?) hC
    simp only [List.getElem?_map, hj, Option.map_some] at e
    cases hw0 : wc[j]? with
    | none => rw [hw0] at e; cases e
    | some c => rw [hw0] at e; exact Option.some.inj e
  have hin : ∀ (j : Nat) (c : Nat × va_E), wc[j]? = some c → ∃ i, isC[j]? = some i := by
    intro j c hj
    have e := congrArg (fun l => l[j]?) hC
    simp only [List.getElem?_map, hj, Option.map_some] at e
    cases hi : isC[j]? with
    | none => rw [hi] at e; cases e
    | some i => exact ⟨i, rfl⟩
  refine ⟨fun k q hq => ?_, va_D_adr (vz_set_adr isC w1 ws (fun j i c hj hc => ?_)) hD⟩
  · rcases vz_set_get isC w1 ws k q hlen hq with ⟨j, -, h2⟩ | ⟨h1, h2⟩
    · exact hP1 j q h2
    · have h0 := hP k q h2
      refine h0.kept (hk q.1 h0.lt ?_)
      rintro (⟨k', e', hk'⟩ | hge)
      · obtain ⟨i, hi⟩ := hin k' _ hk'
        have hi2 := (hat k' i hi).trans hk'
        have := hD.1 i k (q.1, e') q hi2 h2 rfl
        subst this
        exact h1 (List.mem_of_getElem? hi)
      · exact absurd h0.lt (Nat.not_lt.mpr hge)
  · have e := congrArg (fun l => l[j]?) hw
    simp only [List.getElem?_map, hc, Option.map_some] at e
    rw [List.getElem?_map, hat j i hj]
    exact e.symm
/-- what a method may lean on beside its own cells, and what it hands on to those that it calls -/
def EnvOK (E : VE) : Prop :=
  (∀ (A : Nat → Prop) (U : State) (g : JFrame) (mk : MethodId) (a : Array Value), E A U U.heap → E A (U.calling g mk a) (U.calling g mk a).heap) ∧
  (∀ (A Ac : Nat → Prop) (s U : State) (H : Heap) (locs : List Loc), E A s s.heap → va_S A s.heap H locs → U.heap = H → s.WarmedH U.vm → (∀ q, Ac q → A q) → E Ac U U.heap)
def PCe (G : va_G) (K : Nat → ClassId) (E : VE) (ws : va_W) (sz : Nat) (U : State) : Prop := U.heap.size = sz ∧ va_P G vwCl ws U.heap ∧ va_K G vwCl (TY K) U ∧ va_D (fun _ => True) ws ∧ E (va_A ws sz) U U.heap
theorem pce_blind {G : va_G} {K : Nat → ClassId} {E : VE} {ws : va_W} {sz : Nat} {av : List Value} (hE : EnvOK E) : FrameBlind (va_Pc av (PCe G K E ws sz)) := by
  intro a U g mk q
  obtain ⟨q0, q1, qP, qK, qD, qE⟩ := q
  exact ⟨q0, q1, qP, va_K.moved (u := U) (U := U.calling g mk a) (Vm.Alike.refl U.vm) qK, qD, hE.1 _ U g mk a qE⟩
/-- what holds all along a method's walk -/
def CX (p : Program) (s : State) (m : MethodId) (args : Array Value) (c : Code) (cc : ByteArray) (nL : Nat) (own : String) (G : va_G) (K : Nat → ClassId) (E : VE) (A : Nat → Prop) : Prop :=
  p.tables.exec = Jvm.exec ∧ c.code = cc ∧ c.maxLocals = nL ∧ s.vm.findClass own = some m.cls ∧ (∀ w ∈ tbG, w.before args s = true) ∧ va_K G vwCl (TY K) s ∧ (∀ q, s.heap.size ≤ q → A q) ∧ EnvOK E ∧ E A s s.heap
theorem pce_enter {p : Program} {s : State} {m : MethodId} {args : Array Value} {c : Code} {cc : ByteArray} {nL : Nat} {own : String} {G : va_G} {K : Nat → ClassId} {E : VE} {A : Nat → Prop} (C0 : CX p s m args c cc nL own G K E A) {ws wc : va_W} {H : Heap} {locs : List Loc} (hP : va_P G vwCl ws H) (hD : va_D A ws) (hS : va_S A s.heap H locs) (isC : List Nat) (hn : va_nd isC = true) (hC : isC.map (fun i => ws[i]?) = wc.map some) (av : List Value) : ∀ U : State, U.heap = H → s.WarmedH U.vm → va_Pc av (PCe G K E wc H.size) av.toArray U := by
  obtain ⟨hx, hb, hml, hown, hts, hK, hA, hEo, hE⟩ := C0
  intro U hU hW
  have hFc := va_free (wc := wc) hD hS hA isC hC
  have hPc : va_P G vwCl wc H := hP.sub isC (by
    have e : isC.filterMap (fun i => ws[i]?) = (isC.map (fun i => ws[i]?)).filterMap id := by rw [List.filterMap_map]; rfl
    rw [e, hC, List.filterMap_map]
    simp)
  exact ⟨rfl, by rw [hU], by rw [hU]; exact hPc, va_K.moved hW.alike hK, (hD.sub isC hn hC).weaken (fun _ _ _ _ => trivial), hEo.2 A (va_A wc H.size) s U H locs hE hS hU hW hFc⟩
abbrev mC (y : MethodName) (bytes : ByteArray) (maxL : Nat) (ret : Option FieldType) : List Cond := .code y bytes maxL ret :: tbG
theorem mC_good {y : MethodName} {bytes : ByteArray} {maxL : Nat} {ret : Option FieldType} (t5 : Cond.code y bytes maxL ret ∈ tbG) : GoodIn tbG (mC y bytes maxL ret) := by
  intro w hw
  rcases List.mem_cons.mp hw with rfl | h
  · exact ⟨t5, tb_good _ t5⟩
  · exact ⟨h, tb_good _ h⟩
theorem gV {own C : String} {index maxL : Nat} {y : MethodName} {bytes : ByteArray} {ret : Option FieldType} (t1 : Cond.methodLink own index y ∈ tbG) (t2 : Cond.instanceMethod y ∈ tbG) (t3 : Cond.selects C y y ∈ tbG) (t4 : Cond.initialized C ∈ tbG) (t5 : Cond.code y bytes maxL ret ∈ tbG) : GoodIn tbG (wsV own index C y (mC y bytes maxL ret)) := by
  intro w hw
  unfold wsV at hw
  rcases List.mem_append.mp hw with h | h
  · simp only [List.mem_cons, List.not_mem_nil, or_false] at h
    rcases h with rfl | rfl | rfl | rfl
    · exact ⟨t1, tb_good _ t1⟩
    · exact ⟨t2, tb_good _ t2⟩
    · exact ⟨t3, tb_good _ t3⟩
    · exact ⟨t4, tb_good _ t4⟩
  · exact mC_good t5 w h
theorem gS {own : String} {index maxL : Nat} {y : MethodName} {bytes : ByteArray} {ret : Option FieldType} (t1 : Cond.methodLink own index y ∈ tbG) (t2 : Cond.static y ∈ tbG) (t4 : Cond.initialized y.cls ∈ tbG) (t5 : Cond.code y bytes maxL ret ∈ tbG) : GoodIn tbG (va_wsS own index y (mC y bytes maxL ret)) := by
  intro w hw
  unfold va_wsS at hw
  rcases List.mem_append.mp hw with h | h
  · simp only [List.mem_cons, List.not_mem_nil, or_false] at h
    rcases h with rfl | rfl | rfl
    · exact ⟨t1, tb_good _ t1⟩
    · exact ⟨t2, tb_good _ t2⟩
    · exact ⟨t4, tb_good _ t4⟩
  · exact mC_good t5 w h
def ob1 {A0 γ : Type} (o : Option (A0)) (f : A0 → Option γ) : Option γ := match o with | none => none | some v => f v
theorem oe1 {A0 γ : Type} {o : Option (A0)} {f : A0 → Option γ} {y : γ} (h : ob1 o f = some y) : ∃ (a0 : A0), o = some a0 ∧ f a0 = some y := by
  cases o with
  | none => cases h
  | some v => exact ⟨v, rfl, h⟩
theorem os1 {A0 γ : Type} {a0 : A0} {f : A0 → Option γ} : ob1 (some a0) f = f a0 := rfl
def ob2 {A0 A1 γ : Type} (o : Option (A0 × A1)) (f : A0 → A1 → Option γ) : Option γ := match o with | none => none | some v => f v.1 v.2
theorem oe2 {A0 A1 γ : Type} {o : Option (A0 × A1)} {f : A0 → A1 → Option γ} {y : γ} (h : ob2 o f = some y) : ∃ (a0 : A0) (a1 : A1), o = some (a0, a1) ∧ f a0 a1 = some y := by
  cases o with
  | none => cases h
  | some v => exact ⟨v.1, v.2, rfl, h⟩
theorem os2 {A0 A1 γ : Type} {a0 : A0} {a1 : A1} {f : A0 → A1 → Option γ} : ob2 (some (a0, a1)) f = f a0 a1 := rfl
def ob3 {A0 A1 A2 γ : Type} (o : Option (A0 × A1 × A2)) (f : A0 → A1 → A2 → Option γ) : Option γ := match o with | none => none | some v => f v.1 v.2.1 v.2.2
theorem oe3 {A0 A1 A2 γ : Type} {o : Option (A0 × A1 × A2)} {f : A0 → A1 → A2 → Option γ} {y : γ} (h : ob3 o f = some y) : ∃ (a0 : A0) (a1 : A1) (a2 : A2), o = some (a0, a1, a2) ∧ f a0 a1 a2 = some y := by
  cases o with
  | none => cases h
  | some v => exact ⟨v.1, v.2.1, v.2.2, rfl, h⟩
theorem os3 {A0 A1 A2 γ : Type} {a0 : A0} {a1 : A1} {a2 : A2} {f : A0 → A1 → A2 → Option γ} : ob3 (some (a0, a1, a2)) f = f a0 a1 a2 := rfl
def ob4 {A0 A1 A2 A3 γ : Type} (o : Option (A0 × A1 × A2 × A3)) (f : A0 → A1 → A2 → A3 → Option γ) : Option γ := match o with | none => none | some v => f v.1 v.2.1 v.2.2.1 v.2.2.2
theorem oe4 {A0 A1 A2 A3 γ : Type} {o : Option (A0 × A1 × A2 × A3)} {f : A0 → A1 → A2 → A3 → Option γ} {y : γ} (h : ob4 o f = some y) : ∃ (a0 : A0) (a1 : A1) (a2 : A2) (a3 : A3), o = some (a0, a1, a2, a3) ∧ f a0 a1 a2 a3 = some y := by
  cases o with
  | none => cases h
  | some v => exact ⟨v.1, v.2.1, v.2.2.1, v.2.2.2, rfl, h⟩
theorem os4 {A0 A1 A2 A3 γ : Type} {a0 : A0} {a1 : A1} {a2 : A2} {a3 : A3} {f : A0 → A1 → A2 → A3 → Option γ} : ob4 (some (a0, a1, a2, a3)) f = f a0 a1 a2 a3 := rfl
def ob5 {A0 A1 A2 A3 A4 γ : Type} (o : Option (A0 × A1 × A2 × A3 × A4)) (f : A0 → A1 → A2 → A3 → A4 → Option γ) : Option γ := match o with | none => none | some v => f v.1 v.2.1 v.2.2.1 v.2.2.2.1 v.2.2.2.2
theorem oe5 {A0 A1 A2 A3 A4 γ : Type} {o : Option (A0 × A1 × A2 × A3 × A4)} {f : A0 → A1 → A2 → A3 → A4 → Option γ} {y : γ} (h : ob5 o f = some y) : ∃ (a0 : A0) (a1 : A1) (a2 : A2) (a3 : A3) (a4 : A4), o = some (a0, a1, a2, a3, a4) ∧ f a0 a1 a2 a3 a4 = some y := by
  cases o with
  | none => cases h
  | some v => exact ⟨v.1, v.2.1, v.2.2.1, v.2.2.2.1, v.2.2.2.2, rfl, h⟩
theorem os5 {A0 A1 A2 A3 A4 γ : Type} {a0 : A0} {a1 : A1} {a2 : A2} {a3 : A3} {a4 : A4} {f : A0 → A1 → A2 → A3 → A4 → Option γ} : ob5 (some (a0, a1, a2, a3, a4)) f = f a0 a1 a2 a3 a4 := rfl
def ob6 {A0 A1 A2 A3 A4 A5 γ : Type} (o : Option (A0 × A1 × A2 × A3 × A4 × A5)) (f : A0 → A1 → A2 → A3 → A4 → A5 → Option γ) : Option γ := match o with | none => none | some v => f v.1 v.2.1 v.2.2.1 v.2.2.2.1 v.2.2.2.2.1 v.2.2.2.2.2
theorem oe6 {A0 A1 A2 A3 A4 A5 γ : Type} {o : Option (A0 × A1 × A2 × A3 × A4 × A5)} {f : A0 → A1 → A2 → A3 → A4 → A5 → Option γ} {y : γ} (h : ob6 o f = some y) : ∃ (a0 : A0) (a1 : A1) (a2 : A2) (a3 : A3) (a4 : A4) (a5 : A5), o = some (a0, a1, a2, a3, a4, a5) ∧ f a0 a1 a2 a3 a4 a5 = some y := by
  cases o with
  | none => cases h
  | some v => exact ⟨v.1, v.2.1, v.2.2.1, v.2.2.2.1, v.2.2.2.2.1, v.2.2.2.2.2, rfl, h⟩
theorem os6 {A0 A1 A2 A3 A4 A5 γ : Type} {a0 : A0} {a1 : A1} {a2 : A2} {a3 : A3} {a4 : A4} {a5 : A5} {f : A0 → A1 → A2 → A3 → A4 → A5 → Option γ} : ob6 (some (a0, a1, a2, a3, a4, a5)) f = f a0 a1 a2 a3 a4 a5 := rfl
def ob7 {A0 A1 A2 A3 A4 A5 A6 γ : Type} (o : Option (A0 × A1 × A2 × A3 × A4 × A5 × A6)) (f : A0 → A1 → A2 → A3 → A4 → A5 → A6 → Option γ) : Option γ := match o with | none => none | some v => f v.1 v.2.1 v.2.2.1 v.2.2.2.1 v.2.2.2.2.1 v.2.2.2.2.2.1 v.2.2.2.2.2.2
theorem oe7 {A0 A1 A2 A3 A4 A5 A6 γ : Type} {o : Option (A0 × A1 × A2 × A3 × A4 × A5 × A6)} {f : A0 → A1 → A2 → A3 → A4 → A5 → A6 → Option γ} {y : γ} (h : ob7 o f = some y) : ∃ (a0 : A0) (a1 : A1) (a2 : A2) (a3 : A3) (a4 : A4) (a5 : A5) (a6 : A6), o = some (a0, a1, a2, a3, a4, a5, a6) ∧ f a0 a1 a2 a3 a4 a5 a6 = some y := by
  cases o with
  | none => cases h
  | some v => exact ⟨v.1, v.2.1, v.2.2.1, v.2.2.2.1, v.2.2.2.2.1, v.2.2.2.2.2.1, v.2.2.2.2.2.2, rfl, h⟩
theorem os7 {A0 A1 A2 A3 A4 A5 A6 γ : Type} {a0 : A0} {a1 : A1} {a2 : A2} {a3 : A3} {a4 : A4} {a5 : A5} {a6 : A6} {f : A0 → A1 → A2 → A3 → A4 → A5 → A6 → Option γ} : ob7 (some (a0, a1, a2, a3, a4, a5, a6)) f = f a0 a1 a2 a3 a4 a5 a6 := rfl
def ob8 {A0 A1 A2 A3 A4 A5 A6 A7 γ : Type} (o : Option (A0 × A1 × A2 × A3 × A4 × A5 × A6 × A7)) (f : A0 → A1 → A2 → A3 → A4 → A5 → A6 → A7 → Option γ) : Option γ := match o with | none => none | some v => f v.1 v.2.1 v.2.2.1 v.2.2.2.1 v.2.2.2.2.1 v.2.2.2.2.2.1 v.2.2.2.2.2.2.1 v.2.2.2.2.2.2.2
theorem oe8 {A0 A1 A2 A3 A4 A5 A6 A7 γ : Type} {o : Option (A0 × A1 × A2 × A3 × A4 × A5 × A6 × A7)} {f : A0 → A1 → A2 → A3 → A4 → A5 → A6 → A7 → Option γ} {y : γ} (h : ob8 o f = some y) : ∃ (a0 : A0) (a1 : A1) (a2 : A2) (a3 : A3) (a4 : A4) (a5 : A5) (a6 : A6) (a7 : A7), o = some (a0, a1, a2, a3, a4, a5, a6, a7) ∧ f a0 a1 a2 a3 a4 a5 a6 a7 = some y := by
  cases o with
  | none => cases h
  | some v => exact ⟨v.1, v.2.1, v.2.2.1, v.2.2.2.1, v.2.2.2.2.1, v.2.2.2.2.2.1, v.2.2.2.2.2.2.1, v.2.2.2.2.2.2.2, rfl, h⟩
theorem os8 {A0 A1 A2 A3 A4 A5 A6 A7 γ : Type} {a0 : A0} {a1 : A1} {a2 : A2} {a3 : A3} {a4 : A4} {a5 : A5} {a6 : A6} {a7 : A7} {f : A0 → A1 → A2 → A3 → A4 → A5 → A6 → A7 → Option γ} : ob8 (some (a0, a1, a2, a3, a4, a5, a6, a7)) f = f a0 a1 a2 a3 a4 a5 a6 a7 := rfl
def ob9 {A0 A1 A2 A3 A4 A5 A6 A7 A8 γ : Type} (o : Option (A0 × A1 × A2 × A3 × A4 × A5 × A6 × A7 × A8)) (f : A0 → A1 → A2 → A3 → A4 → A5 → A6 → A7 → A8 → Option γ) : Option γ := match o with | none => none | some v => f v.1 v.2.1 v.2.2.1 v.2.2.2.1 v.2.2.2.2.1 v.2.2.2.2.2.1 v.2.2.2.2.2.2.1 v.2.2.2.2.2.2.2.1 v.2.2.2.2.2.2.2.2
theorem oe9 {A0 A1 A2 A3 A4 A5 A6 A7 A8 γ : Type} {o : Option (A0 × A1 × A2 × A3 × A4 × A5 × A6 × A7 × A8)} {f : A0 → A1 → A2 → A3 → A4 → A5 → A6 → A7 → A8 → Option γ} {y : γ} (h : ob9 o f = some y) : ∃ (a0 : A0) (a1 : A1) (a2 : A2) (a3 : A3) (a4 : A4) (a5 : A5) (a6 : A6) (a7 : A7) (a8 : A8), o = some (a0, a1, a2, a3, a4, a5, a6, a7, a8) ∧ f a0 a1 a2 a3 a4 a5 a6 a7 a8 = some y := by
  cases o with
  | none => cases h
  | some v => exact ⟨v.1, v.2.1, v.2.2.1, v.2.2.2.1, v.2.2.2.2.1, v.2.2.2.2.2.1, v.2.2.2.2.2.2.1, v.2.2.2.2.2.2.2.1, v.2.2.2.2.2.2.2.2, rfl, h⟩
theorem os9 {A0 A1 A2 A3 A4 A5 A6 A7 A8 γ : Type} {a0 : A0} {a1 : A1} {a2 : A2} {a3 : A3} {a4 : A4} {a5 : A5} {a6 : A6} {a7 : A7} {a8 : A8} {f : A0 → A1 → A2 → A3 → A4 → A5 → A6 → A7 → A8 → Option γ} : ob9 (some (a0, a1, a2, a3, a4, a5, a6, a7, a8)) f = f a0 a1 a2 a3 a4 a5 a6 a7 a8 := rfl
def ob10 {A0 A1 A2 A3 A4 A5 A6 A7 A8 A9 γ : Type} (o : Option (A0 × A1 × A2 × A3 × A4 × A5 × A6 × A7 × A8 × A9)) (f : A0 → A1 → A2 → A3 → A4 → A5 → A6 → A7 → A8 → A9 → Option γ) : Option γ := match o with | none => none | some v => f v.1 v.2.1 v.2.2.1 v.2.2.2.1 v.2.2.2.2.1 v.2.2.2.2.2.1 v.2.2.2.2.2.2.1 v.2.2.2.2.2.2.2.1 v.2.2.2.2.2.2.2.2.1 v.2.2.2.2.2.2.2.2.2
theorem oe10 {A0 A1 A2 A3 A4 A5 A6 A7 A8 A9 γ : Type} {o : Option (A0 × A1 × A2 × A3 × A4 × A5 × A6 × A7 × A8 × A9)} {f : A0 → A1 → A2 → A3 → A4 → A5 → A6 → A7 → A8 → A9 → Option γ} {y : γ} (h : ob10 o f = some y) : ∃ (a0 : A0) (a1 : A1) (a2 : A2) (a3 : A3) (a4 : A4) (a5 : A5) (a6 : A6) (a7 : A7) (a8 : A8) (a9 : A9), o = some (a0, a1, a2, a3, a4, a5, a6, a7, a8, a9) ∧ f a0 a1 a2 a3 a4 a5 a6 a7 a8 a9 = some y := by
  cases o with
  | none => cases h
  | some v => exact ⟨v.1, v.2.1, v.2.2.1, v.2.2.2.1, v.2.2.2.2.1, v.2.2.2.2.2.1, v.2.2.2.2.2.2.1, v.2.2.2.2.2.2.2.1, v.2.2.2.2.2.2.2.2.1, v.2.2.2.2.2.2.2.2.2, rfl, h⟩
theorem os10 {A0 A1 A2 A3 A4 A5 A6 A7 A8 A9 γ : Type} {a0 : A0} {a1 : A1} {a2 : A2} {a3 : A3} {a4 : A4} {a5 : A5} {a6 : A6} {a7 : A7} {a8 : A8} {a9 : A9} {f : A0 → A1 → A2 → A3 → A4 → A5 → A6 → A7 → A8 → A9 → Option γ} : ob10 (some (a0, a1, a2, a3, a4, a5, a6, a7, a8, a9)) f = f a0 a1 a2 a3 a4 a5 a6 a7 a8 a9 := rfl
def ob11 {A0 A1 A2 A3 A4 A5 A6 A7 A8 A9 A10 γ : Type} (o : Option (A0 × A1 × A2 × A3 × A4 × A5 × A6 × A7 × A8 × A9 × A10)) (f : A0 → A1 → A2 → A3 → A4 → A5 → A6 → A7 → A8 → A9 → A10 → Option γ) : Option γ := match o with | none => none | some v => f v.1 v.2.1 v.2.2.1 v.2.2.2.1 v.2.2.2.2.1 v.2.2.2.2.2.1 v.2.2.2.2.2.2.1 v.2.2.2.2.2.2.2.1 v.2.2.2.2.2.2.2.2.1 v.2.2.2.2.2.2.2.2.2.1 v.2.2.2.2.2.2.2.2.2.2
theorem oe11 {A0 A1 A2 A3 A4 A5 A6 A7 A8 A9 A10 γ : Type} {o : Option (A0 × A1 × A2 × A3 × A4 × A5 × A6 × A7 × A8 × A9 × A10)} {f : A0 → A1 → A2 → A3 → A4 → A5 → A6 → A7 → A8 → A9 → A10 → Option γ} {y : γ} (h : ob11 o f = some y) : ∃ (a0 : A0) (a1 : A1) (a2 : A2) (a3 : A3) (a4 : A4) (a5 : A5) (a6 : A6) (a7 : A7) (a8 : A8) (a9 : A9) (a10 : A10), o = some (a0, a1, a2, a3, a4, a5, a6, a7, a8, a9, a10) ∧ f a0 a1 a2 a3 a4 a5 a6 a7 a8 a9 a10 = some y := by
  cases o with
  | none => cases h
  | some v => exact ⟨v.1, v.2.1, v.2.2.1, v.2.2.2.1, v.2.2.2.2.1, v.2.2.2.2.2.1, v.2.2.2.2.2.2.1, v.2.2.2.2.2.2.2.1, v.2.2.2.2.2.2.2.2.1, v.2.2.2.2.2.2.2.2.2.1, v.2.2.2.2.2.2.2.2.2.2, rfl, h⟩
theorem os11 {A0 A1 A2 A3 A4 A5 A6 A7 A8 A9 A10 γ : Type} {a0 : A0} {a1 : A1} {a2 : A2} {a3 : A3} {a4 : A4} {a5 : A5} {a6 : A6} {a7 : A7} {a8 : A8} {a9 : A9} {a10 : A10} {f : A0 → A1 → A2 → A3 → A4 → A5 → A6 → A7 → A8 → A9 → A10 → Option γ} : ob11 (some (a0, a1, a2, a3, a4, a5, a6, a7, a8, a9, a10)) f = f a0 a1 a2 a3 a4 a5 a6 a7 a8 a9 a10 := rfl
def ob12 {A0 A1 A2 A3 A4 A5 A6 A7 A8 A9 A10 A11 γ : Type} (o : Option (A0 × A1 × A2 × A3 × A4 × A5 × A6 × A7 × A8 × A9 × A10 × A11)) (f : A0 → A1 → A2 → A3 → A4 → A5 → A6 → A7 → A8 → A9 → A10 → A11 → Option γ) : Option γ := match o with | none => none | some v => f v.1 v.2.1 v.2.2.1 v.2.2.2.1 v.2.2.2.2.1 v.2.2.2.2.2.1 v.2.2.2.2.2.2.1 v.2.2.2.2.2.2.2.1 v.2.2.2.2.2.2.2.2.1 v.2.2.2.2.2.2.2.2.2.1 v.2.2.2.2.2.2.2.2.2.2.1 v.2.2.2.2.2.2.2.2.2.2.2
theorem oe12 {A0 A1 A2 A3 A4 A5 A6 A7 A8 A9 A10 A11 γ : Type} {o : Option (A0 × A1 × A2 × A3 × A4 × A5 × A6 × A7 × A8 × A9 × A10 × A11)} {f : A0 → A1 → A2 → A3 → A4 → A5 → A6 → A7 → A8 → A9 → A10 → A11 → Option γ} {y : γ} (h : ob12 o f = some y) : ∃ (a0 : A0) (a1 : A1) (a2 : A2) (a3 : A3) (a4 : A4) (a5 : A5) (a6 : A6) (a7 : A7) (a8 : A8) (a9 : A9) (a10 : A10) (a11 : A11), o = some (a0, a1, a2, a3, a4, a5, a6, a7, a8, a9, a10, a11) ∧ f a0 a1 a2 a3 a4 a5 a6 a7 a8 a9 a10 a11 = some y := by
  cases o with
  | none => cases h
  | some v => exact ⟨v.1, v.2.1, v.2.2.1, v.2.2.2.1, v.2.2.2.2.1, v.2.2.2.2.2.1, v.2.2.2.2.2.2.1, v.2.2.2.2.2.2.2.1, v.2.2.2.2.2.2.2.2.1, v.2.2.2.2.2.2.2.2.2.1, v.2.2.2.2.2.2.2.2.2.2.1, v.2.2.2.2.2.2.2.2.2.2.2, rfl, h⟩
theorem os12 {A0 A1 A2 A3 A4 A5 A6 A7 A8 A9 A10 A11 γ : Type} {a0 : A0} {a1 : A1} {a2 : A2} {a3 : A3} {a4 : A4} {a5 : A5} {a6 : A6} {a7 : A7} {a8 : A8} {a9 : A9} {a10 : A10} {a11 : A11} {f : A0 → A1 → A2 → A3 → A4 → A5 → A6 → A7 → A8 → A9 → A10 → A11 → Option γ} : ob12 (some (a0, a1, a2, a3, a4, a5, a6, a7, a8, a9, a10, a11)) f = f a0 a1 a2 a3 a4 a5 a6 a7 a8 a9 a10 a11 := rfl
def ob13 {A0 A1 A2 A3 A4 A5 A6 A7 A8 A9 A10 A11 A12 γ : Type} (o : Option (A0 × A1 × A2 × A3 × A4 × A5 × A6 × A7 × A8 × A9 × A10 × A11 × A12)) (f : A0 → A1 → A2 → A3 → A4 → A5 → A6 → A7 → A8 → A9 → A10 → A11 → A12 → Option γ) : Option γ := match o with | none => none | some v => f v.1 v.2.1 v.2.2.1 v.2.2.2.1 v.2.2.2.2.1 v.2.2.2.2.2.1 v.2.2.2.2.2.2.1 v.2.2.2.2.2.2.2.1 v.2.2.2.2.2.2.2.2.1 v.2.2.2.2.2.2.2.2.2.1 v.2.2.2.2.2.2.2.2.2.2.1 v.2.2.2.2.2.2.2.2.2.2.2.1 v.2.2.2.2.2.2.2.2.2.2.2.2
theorem oe13 {A0 A1 A2 A3 A4 A5 A6 A7 A8 A9 A10 A11 A12 γ : Type} {o : Option (A0 × A1 × A2 × A3 × A4 × A5 × A6 × A7 × A8 × A9 × A10 × A11 × A12)} {f : A0 → A1 → A2 → A3 → A4 → A5 → A6 → A7 → A8 → A9 → A10 → A11 → A12 → Option γ} {y : γ} (h : ob13 o f = some y) : ∃ (a0 : A0) (a1 : A1) (a2 : A2) (a3 : A3) (a4 : A4) (a5 : A5) (a6 : A6) (a7 : A7) (a8 : A8) (a9 : A9) (a10 : A10) (a11 : A11) (a12 : A12), o = some (a0, a1, a2, a3, a4, a5, a6, a7, a8, a9, a10, a11, a12) ∧ f a0 a1 a2 a3 a4 a5 a6 a7 a8 a9 a10 a11 a12 = some y := by
  cases o with
  | none => cases h
  | some v => exact ⟨v.1, v.2.1, v.2.2.1, v.2.2.2.1, v.2.2.2.2.1, v.2.2.2.2.2.1, v.2.2.2.2.2.2.1, v.2.2.2.2.2.2.2.1, v.2.2.2.2.2.2.2.2.1, v.2.2.2.2.2.2.2.2.2.1, v.2.2.2.2.2.2.2.2.2.2.1, v.2.2.2.2.2.2.2.2.2.2.2.1, v.2.2.2.2.2.2.2.2.2.2.2.2, rfl, h⟩
theorem os13 {A0 A1 A2 A3 A4 A5 A6 A7 A8 A9 A10 A11 A12 γ : Type} {a0 : A0} {a1 : A1} {a2 : A2} {a3 : A3} {a4 : A4} {a5 : A5} {a6 : A6} {a7 : A7} {a8 : A8} {a9 : A9} {a10 : A10} {a11 : A11} {a12 : A12} {f : A0 → A1 → A2 → A3 → A4 → A5 → A6 → A7 → A8 → A9 → A10 → A11 → A12 → Option γ} : ob13 (some (a0, a1, a2, a3, a4, a5, a6, a7, a8, a9, a10, a11, a12)) f = f a0 a1 a2 a3 a4 a5 a6 a7 a8 a9 a10 a11 a12 := rfl
def ob14 {A0 A1 A2 A3 A4 A5 A6 A7 A8 A9 A10 A11 A12 A13 γ : Type} (o : Option (A0 × A1 × A2 × A3 × A4 × A5 × A6 × A7 × A8 × A9 × A10 × A11 × A12 × A13)) (f : A0 → A1 → A2 → A3 → A4 → A5 → A6 → A7 → A8 → A9 → A10 → A11 → A12 → A13 → Option γ) : Option γ := match o with | none => none | some v => f v.1 v.2.1 v.2.2.1 v.2.2.2.1 v.2.2.2.2.1 v.2.2.2.2.2.1 v.2.2.2.2.2.2.1 v.2.2.2.2.2.2.2.1 v.2.2.2.2.2.2.2.2.1 v.2.2.2.2.2.2.2.2.2.1 v.2.2.2.2.2.2.2.2.2.2.1 v.2.2.2.2.2.2.2.2.2.2.2.1 v.2.2.2.2.2.2.2.2.2.2.2.2.1 v.2.2.2.2.2.2.2.2.2.2.2.2.2
theorem oe14 {A0 A1 A2 A3 A4 A5 A6 A7 A8 A9 A10 A11 A12 A13 γ : Type} {o : Option (A0 × A1 × A2 × A3 × A4 × A5 × A6 × A7 × A8 × A9 × A10 × A11 × A12 × A13)} {f : A0 → A1 → A2 → A3 → A4 → A5 → A6 → A7 → A8 → A9 → A10 → A11 → A12 → A13 → Option γ} {y : γ} (h : ob14 o f = some y) : ∃ (a0 : A0) (a1 : A1) (a2 : A2) (a3 : A3) (a4 : A4) (a5 : A5) (a6 : A6) (a7 : A7) (a8 : A8) (a9 : A9) (a10 : A10) (a11 : A11) (a12 : A12) (a13 : A13), o = some (a0, a1, a2, a3, a4, a5, a6, a7, a8, a9, a10, a11, a12, a13) ∧ f a0 a1 a2 a3 a4 a5 a6 a7 a8 a9 a10 a11 a12 a13 = some y := by
  cases o with
  | none => cases h
  | some v => exact ⟨v.1, v.2.1, v.2.2.1, v.2.2.2.1, v.2.2.2.2.1, v.2.2.2.2.2.1, v.2.2.2.2.2.2.1, v.2.2.2.2.2.2.2.1, v.2.2.2.2.2.2.2.2.1, v.2.2.2.2.2.2.2.2.2.1, v.2.2.2.2.2.2.2.2.2.2.1, v.2.2.2.2.2.2.2.2.2.2.2.1, v.2.2.2.2.2.2.2.2.2.2.2.2.1, v.2.2.2.2.2.2.2.2.2.2.2.2.2, rfl, h⟩
theorem os14 {A0 A1 A2 A3 A4 A5 A6 A7 A8 A9 A10 A11 A12 A13 γ : Type} {a0 : A0} {a1 : A1} {a2 : A2} {a3 : A3} {a4 : A4} {a5 : A5} {a6 : A6} {a7 : A7} {a8 : A8} {a9 : A9} {a10 : A10} {a11 : A11} {a12 : A12} {a13 : A13} {f : A0 → A1 → A2 → A3 → A4 → A5 → A6 → A7 → A8 → A9 → A10 → A11 → A12 → A13 → Option γ} : ob14 (some (a0, a1, a2, a3, a4, a5, a6, a7, a8, a9, a10, a11, a12, a13)) f = f a0 a1 a2 a3 a4 a5 a6 a7 a8 a9 a10 a11 a12 a13 := rfl
def ob15 {A0 A1 A2 A3 A4 A5 A6 A7 A8 A9 A10 A11 A12 A13 A14 γ : Type} (o : Option (A0 × A1 × A2 × A3 × A4 × A5 × A6 × A7 × A8 × A9 × A10 × A11 × A12 × A13 × A14)) (f : A0 → A1 → A2 → A3 → A4 → A5 → A6 → A7 → A8 → A9 → A10 → A11 → A12 → A13 → A14 → Option γ) : Option γ := match o with | none => none | some v => f v.1 v.2.1 v.2.2.1 v.2.2.2.1 v.2.2.2.2.1 v.2.2.2.2.2.1 v.2.2.2.2.2.2.1 v.2.2.2.2.2.2.2.1 v.2.2.2.2.2.2.2.2.1 v.2.2.2.2.2.2.2.2.2.1 v.2.2.2.2.2.2.2.2.2.2.1 v.2.2.2.2.2.2.2.2.2.2.2.1 v.2.2.2.2.2.2.2.2.2.2.2.2.1 v.2.2.2.2.2.2.2.2.2.2.2.2.2.1 v.2.2.2.2.2.2.2.2.2.2.2.2.2.2
theorem oe15 {A0 A1 A2 A3 A4 A5 A6 A7 A8 A9 A10 A11 A12 A13 A14 γ : Type} {o : Option (A0 × A1 × A2 × A3 × A4 × A5 × A6 × A7 × A8 × A9 × A10 × A11 × A12 × A13 × A14)} {f : A0 → A1 → A2 → A3 → A4 → A5 → A6 → A7 → A8 → A9 → A10 → A11 → A12 → A13 → A14 → Option γ} {y : γ} (h : ob15 o f = some y) : ∃ (a0 : A0) (a1 : A1) (a2 : A2) (a3 : A3) (a4 : A4) (a5 : A5) (a6 : A6) (a7 : A7) (a8 : A8) (a9 : A9) (a10 : A10) (a11 : A11) (a12 : A12) (a13 : A13) (a14 : A14), o = some (a0, a1, a2, a3, a4, a5, a6, a7, a8, a9, a10, a11, a12, a13, a14) ∧ f a0 a1 a2 a3 a4 a5 a6 a7 a8 a9 a10 a11 a12 a13 a14 = some y := by
  cases o with
  | none => cases h
  | some v => exact ⟨v.1, v.2.1, v.2.2.1, v.2.2.2.1, v.2.2.2.2.1, v.2.2.2.2.2.1, v.2.2.2.2.2.2.1, v.2.2.2.2.2.2.2.1, v.2.2.2.2.2.2.2.2.1, v.2.2.2.2.2.2.2.2.2.1, v.2.2.2.2.2.2.2.2.2.2.1, v.2.2.2.2.2.2.2.2.2.2.2.1, v.2.2.2.2.2.2.2.2.2.2.2.2.1, v.2.2.2.2.2.2.2.2.2.2.2.2.2.1, v.2.2.2.2.2.2.2.2.2.2.2.2.2.2, rfl, h⟩
theorem os15 {A0 A1 A2 A3 A4 A5 A6 A7 A8 A9 A10 A11 A12 A13 A14 γ : Type} {a0 : A0} {a1 : A1} {a2 : A2} {a3 : A3} {a4 : A4} {a5 : A5} {a6 : A6} {a7 : A7} {a8 : A8} {a9 : A9} {a10 : A10} {a11 : A11} {a12 : A12} {a13 : A13} {a14 : A14} {f : A0 → A1 → A2 → A3 → A4 → A5 → A6 → A7 → A8 → A9 → A10 → A11 → A12 → A13 → A14 → Option γ} : ob15 (some (a0, a1, a2, a3, a4, a5, a6, a7, a8, a9, a10, a11, a12, a13, a14)) f = f a0 a1 a2 a3 a4 a5 a6 a7 a8 a9 a10 a11 a12 a13 a14 := rfl
def ob16 {A0 A1 A2 A3 A4 A5 A6 A7 A8 A9 A10 A11 A12 A13 A14 A15 γ : Type} (o : Option (A0 × A1 × A2 × A3 × A4 × A5 × A6 × A7 × A8 × A9 × A10 × A11 × A12 × A13 × A14 × A15)) (f : A0 → A1 → A2 → A3 → A4 → A5 → A6 → A7 → A8 → A9 → A10 → A11 → A12 → A13 → A14 → A15 → Option γ) : Option γ := match o with | none => none | some v => f v.1 v.2.1 v.2.2.1 v.2.2.2.1 v.2.2.2.2.1 v.2.2.2.2.2.1 v.2.2.2.2.2.2.1 v.2.2.2.2.2.2.2.1 v.2.2.2.2.2.2.2.2.1 v.2.2.2.2.2.2.2.2.2.1 v.2.2.2.2.2.2.2.2.2.2.1 v.2.2.2.2.2.2.2.2.2.2.2.1 v.2.2.2.2.2.2.2.2.2.2.2.2.1 v.2.2.2.2.2.2.2.2.2.2.2.2.2.1 v.2.2.2.2.2.2.2.2.2.2.2.2.2.2.1 v.2.2.2.2.2.2.2.2.2.2.2.2.2.2.2
theorem oe16 {A0 A1 A2 A3 A4 A5 A6 A7 A8 A9 A10 A11 A12 A13 A14 A15 γ : Type} {o : Option (A0 × A1 × A2 × A3 × A4 × A5 × A6 × A7 × A8 × A9 × A10 × A11 × A12 × A13 × A14 × A15)} {f : A0 → A1 → A2 → A3 → A4 → A5 → A6 → A7 → A8 → A9 → A10 → A11 → A12 → A13 → A14 → A15 → Option γ} {y : γ} (h : ob16 o f = some y) : ∃ (a0 : A0) (a1 : A1) (a2 : A2) (a3 : A3) (a4 : A4) (a5 : A5) (a6 : A6) (a7 : A7) (a8 : A8) (a9 : A9) (a10 : A10) (a11 : A11) (a12 : A12) (a13 : A13) (a14 : A14) (a15 : A15), o = some (a0, a1, a2, a3, a4, a5, a6, a7, a8, a9, a10, a11, a12, a13, a14, a15) ∧ f a0 a1 a2 a3 a4 a5 a6 a7 a8 a9 a10 a11 a12 a13 a14 a15 = some y := by
  cases o with
  | none => cases h
  | some v => exact ⟨v.1, v.2.1, v.2.2.1, v.2.2.2.1, v.2.2.2.2.1, v.2.2.2.2.2.1, v.2.2.2.2.2.2.1, v.2.2.2.2.2.2.2.1, v.2.2.2.2.2.2.2.2.1, v.2.2.2.2.2.2.2.2.2.1, v.2.2.2.2.2.2.2.2.2.2.1, v.2.2.2.2.2.2.2.2.2.2.2.1, v.2.2.2.2.2.2.2.2.2.2.2.2.1, v.2.2.2.2.2.2.2.2.2.2.2.2.2.1, v.2.2.2.2.2.2.2.2.2.2.2.2.2.2.1, v.2.2.2.2.2.2.2.2.2.2.2.2.2.2.2, rfl, h⟩
theorem os16 {A0 A1 A2 A3 A4 A5 A6 A7 A8 A9 A10 A11 A12 A13 A14 A15 γ : Type} {a0 : A0} {a1 : A1} {a2 : A2} {a3 : A3} {a4 : A4} {a5 : A5} {a6 : A6} {a7 : A7} {a8 : A8} {a9 : A9} {a10 : A10} {a11 : A11} {a12 : A12} {a13 : A13} {a14 : A14} {a15 : A15} {f : A0 → A1 → A2 → A3 → A4 → A5 → A6 → A7 → A8 → A9 → A10 → A11 → A12 → A13 → A14 → A15 → Option γ} : ob16 (some (a0, a1, a2, a3, a4, a5, a6, a7, a8, a9, a10, a11, a12, a13, a14, a15)) f = f a0 a1 a2 a3 a4 a5 a6 a7 a8 a9 a10 a11 a12 a13 a14 a15 := rfl
def ob17 {A0 A1 A2 A3 A4 A5 A6 A7 A8 A9 A10 A11 A12 A13 A14 A15 A16 γ : Type} (o : Option (A0 × A1 × A2 × A3 × A4 × A5 × A6 × A7 × A8 × A9 × A10 × A11 × A12 × A13 × A14 × A15 × A16)) (f : A0 → A1 → A2 → A3 → A4 → A5 → A6 → A7 → A8 → A9 → A10 → A11 → A12 → A13 → A14 → A15 → A16 → Option γ) : Option γ := match o with | none => none | some v => f v.1 v.2.1 v.2.2.1 v.2.2.2.1 v.2.2.2.2.1 v.2.2.2.2.2.1 v.2.2.2.2.2.2.1 v.2.2.2.2.2.2.2.1 v.2.2.2.2.2.2.2.2.1 v.2.2.2.2.2.2.2.2.2.1 v.2.2.2.2.2.2.2.2.2.2.1 v.2.2.2.2.2.2.2.2.2.2.2.1 v.2.2.2.2.2.2.2.2.2.2.2.2.1 v.2.2.2.2.2.2.2.2.2.2.2.2.2.1 v.2.2.2.2.2.2.2.2.2.2.2.2.2.2.1 v.2.2.2.2.2.2.2.2.2.2.2.2.2.2.2.1 v.2.2.2.2.2.2.2.2.2.2.2.2.2.2.2.2
theorem oe17 {A0 A1 A2 A3 A4 A5 A6 A7 A8 A9 A10 A11 A12 A13 A14 A15 A16 γ : Type} {o : Option (A0 × A1 × A2 × A3 × A4 × A5 × A6 × A7 × A8 × A9 × A10 × A11 × A12 × A13 × A14 × A15 × A16)} {f : A0 → A1 → A2 → A3 → A4 → A5 → A6 → A7 → A8 → A9 → A10 → A11 → A12 → A13 → A14 → A15 → A16 → Option γ} {y : γ} (h : ob17 o f = some y) : ∃ (a0 : A0) (a1 : A1) (a2 : A2) (a3 : A3) (a4 : A4) (a5 : A5) (a6 : A6) (a7 : A7) (a8 : A8) (a9 : A9) (a10 : A10) (a11 : A11) (a12 : A12) (a13 : A13) (a14 : A14) (a15 : A15) (a16 : A16), o = some (a0, a1, a2, a3, a4, a5, a6, a7, a8, a9, a10, a11, a12, a13, a14, a15, a16) ∧ f a0 a1 a2 a3 a4 a5 a6 a7 a8 a9 a10 a11 a12 a13 a14 a15 a16 = some y := by
  cases o with
  | none => cases h
  | some v => exact ⟨v.1, v.2.1, v.2.2.1, v.2.2.2.1, v.2.2.2.2.1, v.2.2.2.2.2.1, v.2.2.2.2.2.2.1, v.2.2.2.2.2.2.2.1, v.2.2.2.2.2.2.2.2.1, v.2.2.2.2.2.2.2.2.2.1, v.2.2.2.2.2.2.2.2.2.2.1, v.2.2.2.2.2.2.2.2.2.2.2.1, v.2.2.2.2.2.2.2.2.2.2.2.2.1, v.2.2.2.2.2.2.2.2.2.2.2.2.2.1, v.2.2.2.2.2.2.2.2.2.2.2.2.2.2.1, v.2.2.2.2.2.2.2.2.2.2.2.2.2.2.2.1, v.2.2.2.2.2.2.2.2.2.2.2.2.2.2.2.2, rfl, h⟩
theorem os17 {A0 A1 A2 A3 A4 A5 A6 A7 A8 A9 A10 A11 A12 A13 A14 A15 A16 γ : Type} {a0 : A0} {a1 : A1} {a2 : A2} {a3 : A3} {a4 : A4} {a5 : A5} {a6 : A6} {a7 : A7} {a8 : A8} {a9 : A9} {a10 : A10} {a11 : A11} {a12 : A12} {a13 : A13} {a14 : A14} {a15 : A15} {a16 : A16} {f : A0 → A1 → A2 → A3 → A4 → A5 → A6 → A7 → A8 → A9 → A10 → A11 → A12 → A13 → A14 → A15 → A16 → Option γ} : ob17 (some (a0, a1, a2, a3, a4, a5, a6, a7, a8, a9, a10, a11, a12, a13, a14, a15, a16)) f = f a0 a1 a2 a3 a4 a5 a6 a7 a8 a9 a10 a11 a12 a13 a14 a15 a16 := rfl
def ob18 {A0 A1 A2 A3 A4 A5 A6 A7 A8 A9 A10 A11 A12 A13 A14 A15 A16 A17 γ : Type} (o : Option (A0 × A1 × A2 × A3 × A4 × A5 × A6 × A7 × A8 × A9 × A10 × A11 × A12 × A13 × A14 × A15 × A16 × A17)) (f : A0 → A1 → A2 → A3 → A4 → A5 → A6 → A7 → A8 → A9 → A10 → A11 → A12 → A13 → A14 → A15 → A16 → A17 → Option γ) : Option γ := match o with | none => none | some v => f v.1 v.2.1 v.2.2.1 v.2.2.2.1 v.2.2.2.2.1 v.2.2.2.2.2.1 v.2.2.2.2.2.2.1 v.2.2.2.2.2.2.2.1 v.2.2.2.2.2.2.2.2.1 v.2.2.2.2.2.2.2.2.2.1 v.2.2.2.2.2.2.2.2.2.2.1 v.2.2.2.2.2.2.2.2.2.2.2.1 v.2.2.2.2.2.2.2.2.2.2.2.2.1 v.2.2.2.2.2.2.2.2.2.2.2.2.2.1 v.2.2.2.2.2.2.2.2.2.2.2.2.2.2.1 v.2.2.2.2.2.2.2.2.2.2.2.2.2.2.2.1 v.2.2.2.2.2.2.2.2.2.2.2.2.2.2.2.2.1 v.2.2.2.2.2.2.2.2.2.2.2.2.2.2.2.2.2
theorem oe18 {A0 A1 A2 A3 A4 A5 A6 A7 A8 A9 A10 A11 A12 A13 A14 A15 A16 A17 γ : Type} {o : Option (A0 × A1 × A2 × A3 × A4 × A5 × A6 × A7 × A8 × A9 × A10 × A11 × A12 × A13 × A14 × A15 × A16 × A17)} {f : A0 → A1 → A2 → A3 → A4 → A5 → A6 → A7 → A8 → A9 → A10 → A11 → A12 → A13 → A14 → A15 → A16 → A17 → Option γ} {y : γ} (h : ob18 o f = some y) : ∃ (a0 : A0) (a1 : A1) (a2 : A2) (a3 : A3) (a4 : A4) (a5 : A5) (a6 : A6) (a7 : A7) (a8 : A8) (a9 : A9) (a10 : A10) (a11 : A11) (a12 : A12) (a13 : A13) (a14 : A14) (a15 : A15) (a16 : A16) (a17 : A17), o = some (a0, a1, a2, a3, a4, a5, a6, a7, a8, a9, a10, a11, a12, a13, a14, a15, a16, a17) ∧ f a0 a1 a2 a3 a4 a5 a6 a7 a8 a9 a10 a11 a12 a13 a14 a15 a16 a17 = some y := by
  cases o with
  | none => cases h
  | some v => exact ⟨v.1, v.2.1, v.2.2.1, v.2.2.2.1, v.2.2.2.2.1, v.2.2.2.2.2.1, v.2.2.2.2.2.2.1, v.2.2.2.2.2.2.2.1, v.2.2.2.2.2.2.2.2.1, v.2.2.2.2.2.2.2.2.2.1, v.2.2.2.2.2.2.2.2.2.2.1, v.2.2.2.2.2.2.2.2.2.2.2.1, v.2.2.2.2.2.2.2.2.2.2.2.2.1, v.2.2.2.2.2.2.2.2.2.2.2.2.2.1, v.2.2.2.2.2.2.2.2.2.2.2.2.2.2.1, v.2.2.2.2.2.2.2.2.2.2.2.2.2.2.2.1, v.2.2.2.2.2.2.2.2.2.2.2.2.2.2.2.2.1, v.2.2.2.2.2.2.2.2.2.2.2.2.2.2.2.2.2, rfl, h⟩
theorem os18 {A0 A1 A2 A3 A4 A5 A6 A7 A8 A9 A10 A11 A12 A13 A14 A15 A16 A17 γ : Type} {a0 : A0} {a1 : A1} {a2 : A2} {a3 : A3} {a4 : A4} {a5 : A5} {a6 : A6} {a7 : A7} {a8 : A8} {a9 : A9} {a10 : A10} {a11 : A11} {a12 : A12} {a13 : A13} {a14 : A14} {a15 : A15} {a16 : A16} {a17 : A17} {f : A0 → A1 → A2 → A3 → A4 → A5 → A6 → A7 → A8 → A9 → A10 → A11 → A12 → A13 → A14 → A15 → A16 → A17 → Option γ} : ob18 (some (a0, a1, a2, a3, a4, a5, a6, a7, a8, a9, a10, a11, a12, a13, a14, a15, a16, a17)) f = f a0 a1 a2 a3 a4 a5 a6 a7 a8 a9 a10 a11 a12 a13 a14 a15 a16 a17 := rfl
def ob19 {A0 A1 A2 A3 A4 A5 A6 A7 A8 A9 A10 A11 A12 A13 A14 A15 A16 A17 A18 γ : Type} (o : Option (A0 × A1 × A2 × A3 × A4 × A5 × A6 × A7 × A8 × A9 × A10 × A11 × A12 × A13 × A14 × A15 × A16 × A17 × A18)) (f : A0 → A1 → A2 → A3 → A4 → A5 → A6 → A7 → A8 → A9 → A10 → A11 → A12 → A13 → A14 → A15 → A16 → A17 → A18 → Option γ) : Option γ := match o with | none => none | some v => f v.1 v.2.1 v.2.2.1 v.2.2.2.1 v.2.2.2.2.1 v.2.2.2.2.2.1 v.2.2.2.2.2.2.1 v.2.2.2.2.2.2.2.1 v.2.2.2.2.2.2.2.2.1 v.2.2.2.2.2.2.2.2.2.1 v.2.2.2.2.2.2.2.2.2.2.1 v.2.2.2.2.2.2.2.2.2.2.2.1 v.2.2.2.2.2.2.2.2.2.2.2.2.1 v.2.2.2.2.2.2.2.2.2.2.2.2.2.1 v.2.2.2.2.2.2.2.2.2.2.2.2.2.2.1 v.2.2.2.2.2.2.2.2.2.2.2.2.2.2.2.1 v.2.2.2.2.2.2.2.2.2.2.2.2.2.2.2.2.1 v.2.2.2.2.2.2.2.2.2.2.2.2.2.2.2.2.2.1 v.2.2.2.2.2.2.2.2.2.2.2.2.2.2.2.2.2.2
theorem oe19 {A0 A1 A2 A3 A4 A5 A6 A7 A8 A9 A10 A11 A12 A13 A14 A15 A16 A17 A18 γ : Type} {o : Option (A0 × A1 × A2 × A3 × A4 × A5 × A6 × A7 × A8 × A9 × A10 × A11 × A12 × A13 × A14 × A15 × A16 × A17 × A18)} {f : A0 → A1 → A2 → A3 → A4 → A5 → A6 → A7 → A8 → A9 → A10 → A11 → A12 → A13 → A14 → A15 → A16 → A17 → A18 → Option γ} {y : γ} (h : ob19 o f = some y) : ∃ (a0 : A0) (a1 : A1) (a2 : A2) (a3 : A3) (a4 : A4) (a5 : A5) (a6 : A6) (a7 : A7) (a8 : A8) (a9 : A9) (a10 : A10) (a11 : A11) (a12 : A12) (a13 : A13) (a14 : A14) (a15 : A15) (a16 : A16) (a17 : A17) (a18 : A18), o = some (a0, a1, a2, a3, a4, a5, a6, a7, a8, a9, a10, a11, a12, a13, a14, a15, a16, a17, a18) ∧ f a0 a1 a2 a3 a4 a5 a6 a7 a8 a9 a10 a11 a12 a13 a14 a15 a16 a17 a18 = some y := by
  cases o with
  | none => cases h
  | some v => exact ⟨v.1, v.2.1, v.2.2.1, v.2.2.2.1, v.2.2.2.2.1, v.2.2.2.2.2.1, v.2.2.2.2.2.2.1, v.2.2.2.2.2.2.2.1, v.2.2.2.2.2.2.2.2.1, v.2.2.2.2.2.2.2.2.2.1, v.2.2.2.2.2.2.2.2.2.2.1, v.2.2.2.2.2.2.2.2.2.2.2.1, v.2.2.2.2.2.2.2.2.2.2.2.2.1, v.2.2.2.2.2.2.2.2.2.2.2.2.2.1, v.2.2.2.2.2.2.2.2.2.2.2.2.2.2.1, v.2.2.2.2.2.2.2.2.2.2.2.2.2.2.2.1, v.2.2.2.2.2.2.2.2.2.2.2.2.2.2.2.2.1, v.2.2.2.2.2.2.2.2.2.2.2.2.2.2.2.2.2.1, v.2.2.2.2.2.2.2.2.2.2.2.2.2.2.2.2.2.2, rfl, h⟩
theorem os19 {A0 A1 A2 A3 A4 A5 A6 A7 A8 A9 A10 A11 A12 A13 A14 A15 A16 A17 A18 γ : Type} {a0 : A0} {a1 : A1} {a2 : A2} {a3 : A3} {a4 : A4} {a5 : A5} {a6 : A6} {a7 : A7} {a8 : A8} {a9 : A9} {a10 : A10} {a11 : A11} {a12 : A12} {a13 : A13} {a14 : A14} {a15 : A15} {a16 : A16} {a17 : A17} {a18 : A18} {f : A0 → A1 → A2 → A3 → A4 → A5 → A6 → A7 → A8 → A9 → A10 → A11 → A12 → A13 → A14 → A15 → A16 → A17 → A18 → Option γ} : ob19 (some (a0, a1, a2, a3, a4, a5, a6, a7, a8, a9, a10, a11, a12, a13, a14, a15, a16, a17, a18)) f = f a0 a1 a2 a3 a4 a5 a6 a7 a8 a9 a10 a11 a12 a13 a14 a15 a16 a17 a18 := rfl
def ob20 {A0 A1 A2 A3 A4 A5 A6 A7 A8 A9 A10 A11 A12 A13 A14 A15 A16 A17 A18 A19 γ : Type} (o : Option (A0 × A1 × A2 × A3 × A4 × A5 × A6 × A7 × A8 × A9 × A10 × A11 × A12 × A13 × A14 × A15 × A16 × A17 × A18 × A19)) (f : A0 → A1 → A2 → A3 → A4 → A5 → A6 → A7 → A8 → A9 → A10 → A11 → A12 → A13 → A14 → A15 → A16 → A17 → A18 → A19 → Option γ) : Option γ := match o with | none => none | some v => f v.1 v.2.1 v.2.2.1 v.2.2.2.1 v.2.2.2.2.1 v.2.2.2.2.2.1 v.2.2.2.2.2.2.1 v.2.2.2.2.2.2.2.1 v.2.2.2.2.2.2.2.2.1 v.2.2.2.2.2.2.2.2.2.1 v.2.2.2.2.2.2.2.2.2.2.1 v.2.2.2.2.2.2.2.2.2.2.2.1 v.2.2.2.2.2.2.2.2.2.2.2.2.1 v.2.2.2.2.2.2.2.2.2.2.2.2.2.1 v.2.2.2.2.2.2.2.2.2.2.2.2.2.2.1 v.2.2.2.2.2.2.2.2.2.2.2.2.2.2.2.1 v.2.2.2.2.2.2.2.2.2.2.2.2.2.2.2.2.1 v.2.2.2.2.2.2.2.2.2.2.2.2.2.2.2.2.2.1 v.2.2.2.2.2.2.2.2.2.2.2.2.2.2.2.2.2.2.1 v.2.2.2.2.2.2.2.2.2.2.2.2.2.2.2.2.2.2.2
theorem oe20 {A0 A1 A2 A3 A4 A5 A6 A7 A8 A9 A10 A11 A12 A13 A14 A15 A16 A17 A18 A19 γ : Type} {o : Option (A0 × A1 × A2 × A3 × A4 × A5 × A6 × A7 × A8 × A9 × A10 × A11 × A12 × A13 × A14 × A15 × A16 × A17 × A18 × A19)} {f : A0 → A1 → A2 → A3 → A4 → A5 → A6 → A7 → A8 → A9 → A10 → A11 → A12 → A13 → A14 → A15 → A16 → A17 → A18 → A19 → Option γ} {y : γ} (h : ob20 o f = some y) : ∃ (a0 : A0) (a1 : A1) (a2 : A2) (a3 : A3) (a4 : A4) (a5 : A5) (a6 : A6) (a7 : A7) (a8 : A8) (a9 : A9) (a10 : A10) (a11 : A11) (a12 : A12) (a13 : A13) (a14 : A14) (a15 : A15) (a16 : A16) (a17 : A17) (a18 : A18) (a19 : A19), o = some (a0, a1, a2, a3, a4, a5, a6, a7, a8, a9, a10, a11, a12, a13, a14, a15, a16, a17, a18, a19) ∧ f a0 a1 a2 a3 a4 a5 a6 a7 a8 a9 a10 a11 a12 a13 a14 a15 a16 a17 a18 a19 = some y := by
  cases o with
  | none => cases h
  | some v => exact ⟨v.1, v.2.1, v.2.2.1, v.2.2.2.1, v.2.2.2.2.1, v.2.2.2.2.2.1, v.2.2.2.2.2.2.1, v.2.2.2.2.2.2.2.1, v.2.2.2.2.2.2.2.2.1, v.2.2.2.2.2.2.2.2.2.1, v.2.2.2.2.2.2.2.2.2.2.1, v.2.2.2.2.2.2.2.2.2.2.2.1, v.2.2.2.2.2.2.2.2.2.2.2.2.1, v.2.2.2.2.2.2.2.2.2.2.2.2.2.1, v.2.2.2.2.2.2.2.2.2.2.2.2.2.2.1, v.2.2.2.2.2.2.2.2.2.2.2.2.2.2.2.1, v.2.2.2.2.2.2.2.2.2.2.2.2.2.2.2.2.1, v.2.2.2.2.2.2.2.2.2.2.2.2.2.2.2.2.2.1, v.2.2.2.2.2.2.2.2.2.2.2.2.2.2.2.2.2.2.1, v.2.2.2.2.2.2.2.2.2.2.2.2.2.2.2.2.2.2.2, rfl, h⟩
theorem os20 {A0 A1 A2 A3 A4 A5 A6 A7 A8 A9 A10 A11 A12 A13 A14 A15 A16 A17 A18 A19 γ : Type} {a0 : A0} {a1 : A1} {a2 : A2} {a3 : A3} {a4 : A4} {a5 : A5} {a6 : A6} {a7 : A7} {a8 : A8} {a9 : A9} {a10 : A10} {a11 : A11} {a12 : A12} {a13 : A13} {a14 : A14} {a15 : A15} {a16 : A16} {a17 : A17} {a18 : A18} {a19 : A19} {f : A0 → A1 → A2 → A3 → A4 → A5 → A6 → A7 → A8 → A9 → A10 → A11 → A12 → A13 → A14 → A15 → A16 → A17 → A18 → A19 → Option γ} : ob20 (some (a0, a1, a2, a3, a4, a5, a6, a7, a8, a9, a10, a11, a12, a13, a14, a15, a16, a17, a18, a19)) f = f a0 a1 a2 a3 a4 a5 a6 a7 a8 a9 a10 a11 a12 a13 a14 a15 a16 a17 a18 a19 := rfl
def ob21 {A0 A1 A2 A3 A4 A5 A6 A7 A8 A9 A10 A11 A12 A13 A14 A15 A16 A17 A18 A19 A20 γ : Type} (o : Option (A0 × A1 × A2 × A3 × A4 × A5 × A6 × A7 × A8 × A9 × A10 × A11 × A12 × A13 × A14 × A15 × A16 × A17 × A18 × A19 × A20)) (f : A0 → A1 → A2 → A3 → A4 → A5 → A6 → A7 → A8 → A9 → A10 → A11 → A12 → A13 → A14 → A15 → A16 → A17 → A18 → A19 → A20 → Option γ) : Option γ := match o with | none => none | some v => f v.1 v.2.1 v.2.2.1 v.2.2.2.1 v.2.2.2.2.1 v.2.2.2.2.2.1 v.2.2.2.2.2.2.1 v.2.2.2.2.2.2.2.1 v.2.2.2.2.2.2.2.2.1 v.2.2.2.2.2.2.2.2.2.1 v.2.2.2.2.2.2.2.2.2.2.1 v.2.2.2.2.2.2.2.2.2.2.2.1 v.2.2.2.2.2.2.2.2.2.2.2.2.1 v.2.2.2.2.2.2.2.2.2.2.2.2.2.1 v.2.2.2.2.2.2.2.2.2.2.2.2.2.2.1 v.2.2.2.2.2.2.2.2.2.2.2.2.2.2.2.1 v.2.2.2.2.2.2.2.2.2.2.2.2.2.2.2.2.1 v.2.2.2.2.2.2.2.2.2.2.2.2.2.2.2.2.2.1 v.2.2.2.2.2.2.2.2.2.2.2.2.2.2.2.2.2.2.1 v.2.2.2.2.2.2.2.2.2.2.2.2.2.2.2.2.2.2.2.1 v.2.2.2.2.2.2.2.2.2.2.2.2.2.2.2.2.2.2.2.2
theorem oe21 {A0 A1 A2 A3 A4 A5 A6 A7 A8 A9 A10 A11 A12 A13 A14 A15 A16 A17 A18 A19 A20 γ : Type} {o : Option (A0 × A1 × A2 × A3 × A4 × A5 × A6 × A7 × A8 × A9 × A10 × A11 × A12 × A13 × A14 × A15 × A16 × A17 × A18 × A19 × A20)} {f : A0 → A1 → A2 → A3 → A4 → A5 → A6 → A7 → A8 → A9 → A10 → A11 → A12 → A13 → A14 → A15 → A16 → A17 → A18 → A19 → A20 → Option γ} {y : γ} (h : ob21 o f = some y) : ∃ (a0 : A0) (a1 : A1) (a2 : A2) (a3 : A3) (a4 : A4) (a5 : A5) (a6 : A6) (a7 : A7) (a8 : A8) (a9 : A9) (a10 : A10) (a11 : A11) (a12 : A12) (a13 : A13) (a14 : A14) (a15 : A15) (a16 : A16) (a17 : A17) (a18 : A18) (a19 : A19) (a20 : A20), o = some (a0, a1, a2, a3, a4, a5, a6, a7, a8, a9, a10, a11, a12, a13, a14, a15, a16, a17, a18, a19, a20) ∧ f a0 a1 a2 a3 a4 a5 a6 a7 a8 a9 a10 a11 a12 a13 a14 a15 a16 a17 a18 a19 a20 = some y := by
  cases o with
  | none => cases h
  | some v => exact ⟨v.1, v.2.1, v.2.2.1, v.2.2.2.1, v.2.2.2.2.1, v.2.2.2.2.2.1, v.2.2.2.2.2.2.1, v.2.2.2.2.2.2.2.1, v.2.2.2.2.2.2.2.2.1, v.2.2.2.2.2.2.2.2.2.1, v.2.2.2.2.2.2.2.2.2.2.1, v.2.2.2.2.2.2.2.2.2.2.2.1, v.2.2.2.2.2.2.2.2.2.2.2.2.1, v.2.2.2.2.2.2.2.2.2.2.2.2.2.1, v.2.2.2.2.2.2.2.2.2.2.2.2.2.2.1, v.2.2.2.2.2.2.2.2.2.2.2.2.2.2.2.1, v.2.2.2.2.2.2.2.2.2.2.2.2.2.2.2.2.1, v.2.2.2.2.2.2.2.2.2.2.2.2.2.2.2.2.2.1, v.2.2.2.2.2.2.2.2.2.2.2.2.2.2.2.2.2.2.1, v.2.2.2.2.2.2.2.2.2.2.2.2.2.2.2.2.2.2.2.1, v.2.2.2.2.2.2.2.2.2.2.2.2.2.2.2.2.2.2.2.2, rfl, h⟩
theorem os21 {A0 A1 A2 A3 A4 A5 A6 A7 A8 A9 A10 A11 A12 A13 A14 A15 A16 A17 A18 A19 A20 γ : Type} {a0 : A0} {a1 : A1} {a2 : A2} {a3 : A3} {a4 : A4} {a5 : A5} {a6 : A6} {a7 : A7} {a8 : A8} {a9 : A9} {a10 : A10} {a11 : A11} {a12 : A12} {a13 : A13} {a14 : A14} {a15 : A15} {a16 : A16} {a17 : A17} {a18 : A18} {a19 : A19} {a20 : A20} {f : A0 → A1 → A2 → A3 → A4 → A5 → A6 → A7 → A8 → A9 → A10 → A11 → A12 → A13 → A14 → A15 → A16 → A17 → A18 → A19 → A20 → Option γ} : ob21 (some (a0, a1, a2, a3, a4, a5, a6, a7, a8, a9, a10, a11, a12, a13, a14, a15, a16, a17, a18, a19, a20)) f = f a0 a1 a2 a3 a4 a5 a6 a7 a8 a9 a10 a11 a12 a13 a14 a15 a16 a17 a18 a19 a20 := rfl
def ob22 {A0 A1 A2 A3 A4 A5 A6 A7 A8 A9 A10 A11 A12 A13 A14 A15 A16 A17 A18 A19 A20 A21 γ : Type} (o : Option (A0 × A1 × A2 × A3 × A4 × A5 × A6 × A7 × A8 × A9 × A10 × A11 × A12 × A13 × A14 × A15 × A16 × A17 × A18 × A19 × A20 × A21)) (f : A0 → A1 → A2 → A3 → A4 → A5 → A6 → A7 → A8 → A9 → A10 → A11 → A12 → A13 → A14 → A15 → A16 → A17 → A18 → A19 → A20 → A21 → Option γ) : Option γ := match o with | none => none | some v => f v.1 v.2.1 v.2.2.1 v.2.2.2.1 v.2.2.2.2.1 v.2.2.2.2.2.1 v.2.2.2.2.2.2.1 v.2.2.2.2.2.2.2.1 v.2.2.2.2.2.2.2.2.1 v.2.2.2.2.2.2.2.2.2.1 v.2.2.2.2.2.2.2.2.2.2.1 v.2.2.2.2.2.2.2.2.2.2.2.1 v.2.2.2.2.2.2.2.2.2.2.2.2.1 v.2.2.2.2.2.2.2.2.2.2.2.2.2.1 v.2.2.2.2.2.2.2.2.2.2.2.2.2.2.1 v.2.2.2.2.2.2.2.2.2.2.2.2.2.2.2.1 v.2.2.2.2.2.2.2.2.2.2.2.2.2.2.2.2.1 v.2.2.2.2.2.2.2.2.2.2.2.2.2.2.2.2.2.1 v.2.2.2.2.2.2.2.2.2.2.2.2.2.2.2.2.2.2.1 v.2.2.2.2.2.2.2.2.2.2.2.2.2.2.2.2.2.2.2.1 v.2.2.2.2.2.2.2.2.2.2.2.2.2.2.2.2.2.2.2.2.1 v.2.2.2.2.2.2.2.2.2.2.2.2.2.2.2.2.2.2.2.2.2
theorem oe22 {A0 A1 A2 A3 A4 A5 A6 A7 A8 A9 A10 A11 A12 A13 A14 A15 A16 A17 A18 A19 A20 A21 γ : Type} {o : Option (A0 × A1 × A2 × A3 × A4 × A5 × A6 × A7 × A8 × A9 × A10 × A11 × A12 × A13 × A14 × A15 × A16 × A17 × A18 × A19 × A20 × A21)} {f : A0 → A1 → A2 → A3 → A4 → A5 → A6 → A7 → A8 → A9 → A10 → A11 → A12 → A13 → A14 → A15 → A16 → A17 → A18 → A19 → A20 → A21 → Option γ} {y : γ} (h : ob22 o f = some y) : ∃ (a0 : A0) (a1 : A1) (a2 : A2) (a3 : A3) (a4 : A4) (a5 : A5) (a6 : A6) (a7 : A7) (a8 : A8) (a9 : A9) (a10 : A10) (a11 : A11) (a12 : A12) (a13 : A13) (a14 : A14) (a15 : A15) (a16 : A16) (a17 : A17) (a18 : A18) (a19 : A19) (a20 : A20) (a21 : A21), o = some (a0, a1, a2, a3, a4, a5, a6, a7, a8, a9, a10, a11, a12, a13, a14, a15, a16, a17, a18, a19, a20, a21) ∧ f a0 a1 a2 a3 a4 a5 a6 a7 a8 a9 a10 a11 a12 a13 a14 a15 a16 a17 a18 a19 a20 a21 = some y := by
  cases o with
  | none => cases h
  | some v => exact ⟨v.1, v.2.1, v.2.2.1, v.2.2.2.1, v.2.2.2.2.1, v.2.2.2.2.2.1, v.2.2.2.2.2.2.1, v.2.2.2.2.2.2.2.1, v.2.2.2.2.2.2.2.2.1, v.2.2.2.2.2.2.2.2.2.1, v.2.2.2.2.2.2.2.2.2.2.1, v.2.2.2.2.2.2.2.2.2.2.2.1, v.2.2.2.2.2.2.2.2.2.2.2.2.1, v.2.2.2.2.2.2.2.2.2.2.2.2.2.1, v.2.2.2.2.2.2.2.2.2.2.2.2.2.2.1, v.2.2.2.2.2.2.2.2.2.2.2.2.2.2.2.1, v.2.2.2.2.2.2.2.2.2.2.2.2.2.2.2.2.1, v.2.2.2.2.2.2.2.2.2.2.2.2.2.2.2.2.2.1, v.2.2.2.2.2.2.2.2.2.2.2.2.2.2.2.2.2.2.1, v.2.2.2.2.2.2.2.2.2.2.2.2.2.2.2.2.2.2.2.1, v.2.2.2.2.2.2.2.2.2.2.2.2.2.2.2.2.2.2.2.2.1, v.2.2.2.2.2.2.2.2.2.2.2.2.2.2.2.2.2.2.2.2.2, rfl, h⟩
theorem os22 {A0 A1 A2 A3 A4 A5 A6 A7 A8 A9 A10 A11 A12 A13 A14 A15 A16 A17 A18 A19 A20 A21 γ : Type} {a0 : A0} {a1 : A1} {a2 : A2} {a3 : A3} {a4 : A4} {a5 : A5} {a6 : A6} {a7 : A7} {a8 : A8} {a9 : A9} {a10 : A10} {a11 : A11} {a12 : A12} {a13 : A13} {a14 : A14} {a15 : A15} {a16 : A16} {a17 : A17} {a18 : A18} {a19 : A19} {a20 : A20} {a21 : A21} {f : A0 → A1 → A2 → A3 → A4 → A5 → A6 → A7 → A8 → A9 → A10 → A11 → A12 → A13 → A14 → A15 → A16 → A17 → A18 → A19 → A20 → A21 → Option γ} : ob22 (some (a0, a1, a2, a3, a4, a5, a6, a7, a8, a9, a10, a11, a12, a13, a14, a15, a16, a17, a18, a19, a20, a21)) f = f a0 a1 a2 a3 a4 a5 a6 a7 a8 a9 a10 a11 a12 a13 a14 a15 a16 a17 a18 a19 a20 a21 := rfl
def ob23 {A0 A1 A2 A3 A4 A5 A6 A7 A8 A9 A10 A11 A12 A13 A14 A15 A16 A17 A18 A19 A20 A21 A22 γ : Type} (o : Option (A0 × A1 × A2 × A3 × A4 × A5 × A6 × A7 × A8 × A9 × A10 × A11 × A12 × A13 × A14 × A15 × A16 × A17 × A18 × A19 × A20 × A21 × A22)) (f : A0 → A1 → A2 → A3 → A4 → A5 → A6 → A7 → A8 → A9 → A10 → A11 → A12 → A13 → A14 → A15 → A16 → A17 → A18 → A19 → A20 → A21 → A22 → Option γ) : Option γ := match o with | none => none | some v => f v.1 v.2.1 v.2.2.1 v.2.2.2.1 v.2.2.2.2.1 v.2.2.2.2.2.1 v.2.2.2.2.2.2.1 v.2.2.2.2.2.2.2.1 v.2.2.2.2.2.2.2.2.1 v.2.2.2.2.2.2.2.2.2.1 v.2.2.2.2.2.2.2.2.2.2.1 v.2.2.2.2.2.2.2.2.2.2.2.1 v.2.2.2.2.2.2.2.2.2.2.2.2.1 v.2.2.2.2.2.2.2.2.2.2.2.2.2.1 v.2.2.2.2.2.2.2.2.2.2.2.2.2.2.1 v.2.2.2.2.2.2.2.2.2.2.2.2.2.2.2.1 v.2.2.2.2.2.2.2.2.2.2.2.2.2.2.2.2.1 v.2.2.2.2.2.2.2.2.2.2.2.2.2.2.2.2.2.1 v.2.2.2.2.2.2.2.2.2.2.2.2.2.2.2.2.2.2.1 v.2.2.2.2.2.2.2.2.2.2.2.2.2.2.2.2.2.2.2.1 v.2.2.2.2.2.2.2.2.2.2.2.2.2.2.2.2.2.2.2.2.1 v.2.2.2.2.2.2.2.2.2.2.2.2.2.2.2.2.2.2.2.2.2.1 v.2.2.2.2.2.2.2.2.2.2.2.2.2.2.2.2.2.2.2.2.2.2
theorem oe23 {A0 A1 A2 A3 A4 A5 A6 A7 A8 A9 A10 A11 A12 A13 A14 A15 A16 A17 A18 A19 A20 A21 A22 γ : Type} {o : Option (A0 × A1 × A2 × A3 × A4 × A5 × A6 × A7 × A8 × A9 × A10 × A11 × A12 × A13 × A14 × A15 × A16 × A17 × A18 × A19 × A20 × A21 × A22)} {f : A0 → A1 → A2 → A3 → A4 → A5 → A6 → A7 → A8 → A9 → A10 → A11 → A12 → A13 → A14 → A15 → A16 → A17 → A18 → A19 → A20 → A21 → A22 → Option γ} {y : γ} (h : ob23 o f = some y) : ∃ (a0 : A0) (a1 : A1) (a2 : A2) (a3 : A3) (a4 : A4) (a5 : A5) (a6 : A6) (a7 : A7) (a8 : A8) (a9 : A9) (a10 : A10) (a11 : A11) (a12 : A12) (a13 : A13) (a14 : A14) (a15 : A15) (a16 : A16) (a17 : A17) (a18 : A18) (a19 : A19) (a20 : A20) (a21 : A21) (a22 : A22), o = some (a0, a1, a2, a3, a4, a5, a6, a7, a8, a9, a10, a11, a12, a13, a14, a15, a16, a17, a18, a19, a20, a21, a22) ∧ f a0 a1 a2 a3 a4 a5 a6 a7 a8 a9 a10 a11 a12 a13 a14 a15 a16 a17 a18 a19 a20 a21 a22 = some y := by
  cases o with
  | none => cases h
  | some v => exact ⟨v.1, v.2.1, v.2.2.1, v.2.2.2.1, v.2.2.2.2.1, v.2.2.2.2.2.1, v.2.2.2.2.2.2.1, v.2.2.2.2.2.2.2.1, v.2.2.2.2.2.2.2.2.1, v.2.2.2.2.2.2.2.2.2.1, v.2.2.2.2.2.2.2.2.2.2.1, v.2.2.2.2.2.2.2.2.2.2.2.1, v.2.2.2.2.2.2.2.2.2.2.2.2.1, v.2.2.2.2.2.2.2.2.2.2.2.2.2.1, v.2.2.2.2.2.2.2.2.2.2.2.2.2.2.1, v.2.2.2.2.2.2.2.2.2.2.2.2.2.2.2.1, v.2.2.2.2.2.2.2.2.2.2.2.2.2.2.2.2.1, v.2.2.2.2.2.2.2.2.2.2.2.2.2.2.2.2.2.1, v.2.2.2.2.2.2.2.2.2.2.2.2.2.2.2.2.2.2.1, v.2.2.2.2.2.2.2.2.2.2.2.2.2.2.2.2.2.2.2.1, v.2.2.2.2.2.2.2.2.2.2.2.2.2.2.2.2.2.2.2.2.1, v.2.2.2.2.2.2.2.2.2.2.2.2.2.2.2.2.2.2.2.2.2.1, v.2.2.2.2.2.2.2.2.2.2.2.2.2.2.2.2.2.2.2.2.2.2, rfl, h⟩
theorem os23 {A0 A1 A2 A3 A4 A5 A6 A7 A8 A9 A10 A11 A12 A13 A14 A15 A16 A17 A18 A19 A20 A21 A22 γ : Type} {a0 : A0} {a1 : A1} {a2 : A2} {a3 : A3} {a4 : A4} {a5 : A5} {a6 : A6} {a7 : A7} {a8 : A8} {a9 : A9} {a10 : A10} {a11 : A11} {a12 : A12} {a13 : A13} {a14 : A14} {a15 : A15} {a16 : A16} {a17 : A17} {a18 : A18} {a19 : A19} {a20 : A20} {a21 : A21} {a22 : A22} {f : A0 → A1 → A2 → A3 → A4 → A5 → A6 → A7 → A8 → A9 → A10 → A11 → A12 → A13 → A14 → A15 → A16 → A17 → A18 → A19 → A20 → A21 → A22 → Option γ} : ob23 (some (a0, a1, a2, a3, a4, a5, a6, a7, a8, a9, a10, a11, a12, a13, a14, a15, a16, a17, a18, a19, a20, a21, a22)) f = f a0 a1 a2 a3 a4 a5 a6 a7 a8 a9 a10 a11 a12 a13 a14 a15 a16 a17 a18 a19 a20 a21 a22 := rfl
def ob24 {A0 A1 A2 A3 A4 A5 A6 A7 A8 A9 A10 A11 A12 A13 A14 A15 A16 A17 A18 A19 A20 A21 A22 A23 γ : Type} (o : Option (A0 × A1 × A2 × A3 × A4 × A5 × A6 × A7 × A8 × A9 × A10 × A11 × A12 × A13 × A14 × A15 × A16 × A17 × A18 × A19 × A20 × A21 × A22 × A23)) (f : A0 → A1 → A2 → A3 → A4 → A5 → A6 → A7 → A8 → A9 → A10 → A11 → A12 → A13 → A14 → A15 → A16 → A17 → A18 → A19 → A20 → A21 → A22 → A23 → Option γ) : Option γ := match o with | none => none | some v => f v.1 v.2.1 v.2.2.1 v.2.2.2.1 v.2.2.2.2.1 v.2.2.2.2.2.1 v.2.2.2.2.2.2.1 v.2.2.2.2.2.2.2.1 v.2.2.2.2.2.2.2.2.1 v.2.2.2.2.2.2.2.2.2.1 v.2.2.2.2.2.2.2.2.2.2.1 v.2.2.2.2.2.2.2.2.2.2.2.1 v.2.2.2.2.2.2.2.2.2.2.2.2.1 v.2.2.2.2.2.2.2.2.2.2.2.2.2.1 v.2.2.2.2.2.2.2.2.2.2.2.2.2.2.1 v.2.2.2.2.2.2.2.2.2.2.2.2.2.2.2.1 v.2.2.2.2.2.2.2.2.2.2.2.2.2.2.2.2.1 v.2.2.2.2.2.2.2.2.2.2.2.2.2.2.2.2.2.1 v.2.2.2.2.2.2.2.2.2.2.2.2.2.2.2.2.2.2.1 v.2.2.2.2.2.2.2.2.2.2.2.2.2.2.2.2.2.2.2.1 v.2.2.2.2.2.2.2.2.2.2.2.2.2.2.2.2.2.2.2.2.1 v.2.2.2.2.2.2.2.2.2.2.2.2.2.2.2.2.2.2.2.2.2.1 v.2.2.2.2.2.2.2.2.2.2.2.2.2.2.2.2.2.2.2.2.2.2.1 v.2.2.2.2.2.2.2.2.2.2.2.2.2.2.2.2.2.2.2.2.2.2.2
theorem oe24 {A0 A1 A2 A3 A4 A5 A6 A7 A8 A9 A10 A11 A12 A13 A14 A15 A16 A17 A18 A19 A20 A21 A22 A23 γ : Type} {o : Option (A0 × A1 × A2 × A3 × A4 × A5 × A6 × A7 × A8 × A9 × A10 × A11 × A12 × A13 × A14 × A15 × A16 × A17 × A18 × A19 × A20 × A21 × A22 × A23)} {f : A0 → A1 → A2 → A3 → A4 → A5 → A6 → A7 → A8 → A9 → A10 → A11 → A12 → A13 → A14 → A15 → A16 → A17 → A18 → A19 → A20 → A21 → A22 → A23 → Option γ} {y : γ} (h : ob24 o f = some y) : ∃ (a0 : A0) (a1 : A1) (a2 : A2) (a3 : A3) (a4 : A4) (a5 : A5) (a6 : A6) (a7 : A7) (a8 : A8) (a9 : A9) (a10 : A10) (a11 : A11) (a12 : A12) (a13 : A13) (a14 : A14) (a15 : A15) (a16 : A16) (a17 : A17) (a18 : A18) (a19 : A19) (a20 : A20) (a21 : A21) (a22 : A22) (a23 : A23), o = some (a0, a1, a2, a3, a4, a5, a6, a7, a8, a9, a10, a11, a12, a13, a14, a15, a16, a17, a18, a19, a20, a21, a22, a23) ∧ f a0 a1 a2 a3 a4 a5 a6 a7 a8 a9 a10 a11 a12 a13 a14 a15 a16 a17 a18 a19 a20 a21 a22 a23 = some y := by
  cases o with
  | none => cases h
  | some v => exact ⟨v.1, v.2.1, v.2.2.1, v.2.2.2.1, v.2.2.2.2.1, v.2.2.2.2.2.1, v.2.2.2.2.2.2.1, v.2.2.2.2.2.2.2.1, v.2.2.2.2.2.2.2.2.1, v.2.2.2.2.2.2.2.2.2.1, v.2.2.2.2.2.2.2.2.2.2.1, v.2.2.2.2.2.2.2.2.2.2.2.1, v.2.2.2.2.2.2.2.2.2.2.2.2.1, v.2.2.2.2.2.2.2.2.2.2.2.2.2.1, v.2.2.2.2.2.2.2.2.2.2.2.2.2.2.1, v.2.2.2.2.2.2.2.2.2.2.2.2.2.2.2.1, v.2.2.2.2.2.2.2.2.2.2.2.2.2.2.2.2.1, v.2.2.2.2.2.2.2.2.2.2.2.2.2.2.2.2.2.1, v.2.2.2.2.2.2.2.2.2.2.2.2.2.2.2.2.2.2.1, v.2.2.2.2.2.2.2.2.2.2.2.2.2.2.2.2.2.2.2.1, v.2.2.2.2.2.2.2.2.2.2.2.2.2.2.2.2.2.2.2.2.1, v.2.2.2.2.2.2.2.2.2.2.2.2.2.2.2.2.2.2.2.2.2.1, v.2.2.2.2.2.2.2.2.2.2.2.2.2.2.2.2.2.2.2.2.2.2.1, v.2.2.2.2.2.2.2.2.2.2.2.2.2.2.2.2.2.2.2.2.2.2.2, rfl, h⟩
theorem os24 {A0 A1 A2 A3 A4 A5 A6 A7 A8 A9 A10 A11 A12 A13 A14 A15 A16 A17 A18 A19 A20 A21 A22 A23 γ : Type} {a0 : A0} {a1 : A1} {a2 : A2} {a3 : A3} {a4 : A4} {a5 : A5} {a6 : A6} {a7 : A7} {a8 : A8} {a9 : A9} {a10 : A10} {a11 : A11} {a12 : A12} {a13 : A13} {a14 : A14} {a15 : A15} {a16 : A16} {a17 : A17} {a18 : A18} {a19 : A19} {a20 : A20} {a21 : A21} {a22 : A22} {a23 : A23} {f : A0 → A1 → A2 → A3 → A4 → A5 → A6 → A7 → A8 → A9 → A10 → A11 → A12 → A13 → A14 → A15 → A16 → A17 → A18 → A19 → A20 → A21 → A22 → A23 → Option γ} : ob24 (some (a0, a1, a2, a3, a4, a5, a6, a7, a8, a9, a10, a11, a12, a13, a14, a15, a16, a17, a18, a19, a20, a21, a22, a23)) f = f a0 a1 a2 a3 a4 a5 a6 a7 a8 a9 a10 a11 a12 a13 a14 a15 a16 a17 a18 a19 a20 a21 a22 a23 := rfl
theorem vz_fm {ws wc : va_W} {isC : List Nat} (hC : isC.map (fun i => ws[i]?) = wc.map some) : isC.filterMap (fun i => ws[i]?) = wc := by
  have e : isC.filterMap (fun i => ws[i]?) = (isC.map (fun i => ws[i]?)).filterMap id := by rw [List.filterMap_map]; rfl
  rw [e, hC, List.filterMap_map]
  simp
theorem cV_i {p : Program} {l : Launch} {e : Env} {R : Room} {s : State} {m : MethodId} {args : Array Value} {below : List Frame} {meth : Method} {c : Code} {H : Heap} {locs : List Loc} {cells slots : Nat} {Q : State → Prop} {cc : ByteArray} {nL : Nat} {own : String} {G : va_G} {K : Nat → ClassId} {E : VE} {A : Nat → Prop} {ws wc w1 : va_W} {index n maxL pc : Nat} {y : MethodName} {bytes : ByteArray} {ret : Option FieldType} {rm : Room} {C : String} {b : Nat} {As rest st0 : List Value} {ls : Array Slot} {r : Int32} (C0 : CX p s m args c cc nL own G K E A) (hP : va_P G vwCl ws H) (hD : va_D A ws) (hS : va_S A s.heap H locs) (isC : List Nat) (hM : Met l y (mC y bytes maxL ret) rm (va_Pc (.ref b :: As) (PCe G K E wc H.size)) (va_Qi (fun (x : Int32) (_ : Unit) => x = r) (fun _ t => va_P G vwCl w1 t.heap) (va_A wc H.size)) rm.cells rm.slots (va_A wc H.size)) (hn : va_nd isC = true) (hC : isC.map (fun i => ws[i]?) = wc.map some) (hw : w1.map (fun q => q.1) = wc.map (fun q => q.1)) (t1 : Cond.methodLink own index y ∈ tbG) (t2 : Cond.instanceMethod y ∈ tbG) (t3 : Cond.selects C y y ∈ tbG) (t4 : Cond.initialized C ∈ tbG) (t5 : Cond.code y bytes maxL ret ∈ tbG) (hd : y.cls = C ∧ y.cls ≠ "java/lang/invoke/MethodHandle" ∧ y.cls ≠ "java/lang/invoke/VarHandle" ∧ (parseMethodDescriptor y.desc).map (fun d => d.parameters.length) = some n) (hrv : ∃ cellB : Cell, H[b]? = some cellB ∧ cellB.vm.isStatics = false ∧ s.vm.findClass C = some cellB.cls) (hR : rm.frames + 1 ≤ R.frames ∧ 8 + (maxL + 11) + rm.locals ≤ R.locals) (hlen : As.length = n) (hls : ls.size = nL) (hrm : (rest.map fun v => v.category).sum ≤ 8) (hst : st0 = As.reverse ++ .ref b :: rest) (hcl : cells + rm.cells ≤ R.cells ∧ slots + rm.slots ≤ R.slots) (hdg : decode cc pc = .ok (.invokevirtual index, 3)) (kk : ∀ (H1 : Heap) (locs1 : List Loc), va_P G vwCl (vz_set ws isC w1) H1 → va_D A (vz_set ws isC w1) → va_S A s.heap H1 locs1 → W p l e R s m args below meth c H1 locs1 (cells + rm.cells) (slots + rm.slots) Q (F0 m (pc + 3) ls (.int r :: rest))) : W p l e R s m args below meth c H locs cells slots Q (F0 m pc ls st0) := by
  obtain ⟨hx, hb, hml, hown, hts, hK, hA, hEo, hE⟩ := id C0
  have hFc := va_free (wc := wc) hD hS hA isC hC
  refine va_calli (va_runV (As := As) (rest := rest) ⟨hx, hb, hml, hown, hts⟩ hM (cwV n hts (gV t1 t2 t3 t4 t5) rfl rfl rfl hd hR) ⟨pce_blind hEo, hrv, pce_enter C0 hP hD hS isC hn hC _⟩ rfl hlen hls hst (lv_room hrm) hdg hcl) hS (fun q _ h => hFc q h) hFc (fun x u t H1 locs1 ht hvm hw1 hB hz1 hk1 hS1 => ?_)
  subst hw1
  have hB2 : va_P G vwCl w1 H1 := by rw [← ht]; exact hB
  obtain ⟨hP2, hD2⟩ := vz_back hP hD isC hC hk1 hB2 hw
  exact kk H1 locs1 hP2 hD2 hS1
theorem cV_l {p : Program} {l : Launch} {e : Env} {R : Room} {s : State} {m : MethodId} {args : Array Value} {below : List Frame} {meth : Method} {c : Code} {H : Heap} {locs : List Loc} {cells slots : Nat} {Q : State → Prop} {cc : ByteArray} {nL : Nat} {own : String} {G : va_G} {K : Nat → ClassId} {E : VE} {A : Nat → Prop} {ws wc w1 : va_W} {index n maxL pc : Nat} {y : MethodName} {bytes : ByteArray} {ret : Option FieldType} {rm : Room} {C : String} {b : Nat} {As rest st0 : List Value} {ls : Array Slot} {r : Int64} (C0 : CX p s m args c cc nL own G K E A) (hP : va_P G vwCl ws H) (hD : va_D A ws) (hS : va_S A s.heap H locs) (isC : List Nat) (hM : Met l y (mC y bytes maxL ret) rm (va_Pc (.ref b :: As) (PCe G K E wc H.size)) (va_Ql (fun (x : Int64) (_ : Unit) => x = r) (fun _ t => va_P G vwCl w1 t.heap) (va_A wc H.size)) rm.cells rm.slots (va_A wc H.size)) (hn : va_nd isC = true) (hC : isC.map (fun i => ws[i]?) = wc.map some) (hw : w1.map (fun q => q.1) = wc.map (fun q => q.1)) (t1 : Cond.methodLink own index y ∈ tbG) (t2 : Cond.instanceMethod y ∈ tbG) (t3 : Cond.selects C y y ∈ tbG) (t4 : Cond.initialized C ∈ tbG) (t5 : Cond.code y bytes maxL ret ∈ tbG) (hd : y.cls = C ∧ y.cls ≠ "java/lang/invoke/MethodHandle" ∧ y.cls ≠ "java/lang/invoke/VarHandle" ∧ (parseMethodDescriptor y.desc).map (fun d => d.parameters.length) = some n) (hrv : ∃ cellB : Cell, H[b]? = some cellB ∧ cellB.vm.isStatics = false ∧ s.vm.findClass C = some cellB.cls) (hR : rm.frames + 1 ≤ R.frames ∧ 8 + (maxL + 11) + rm.locals ≤ R.locals) (hlen : As.length = n) (hls : ls.size = nL) (hrm : (rest.map fun v => v.category).sum ≤ 8) (hst : st0 = As.reverse ++ .ref b :: rest) (hcl : cells + rm.cells ≤ R.cells ∧ slots + rm.slots ≤ R.slots) (hdg : decode cc pc = .ok (.invokevirtual index, 3)) (kk : ∀ (H1 : Heap) (locs1 : List Loc), va_P G vwCl (vz_set ws isC w1) H1 → va_D A (vz_set ws isC w1) → va_S A s.heap H1 locs1 → W p l e R s m args below meth c H1 locs1 (cells + rm.cells) (slots + rm.slots) Q (F0 m (pc + 3) ls (.long r :: rest))) : W p l e R s m args below meth c H locs cells slots Q (F0 m pc ls st0) := by
  obtain ⟨hx, hb, hml, hown, hts, hK, hA, hEo, hE⟩ := id C0
  have hFc := va_free (wc := wc) hD hS hA isC hC
  refine va_calll (va_runV (As := As) (rest := rest) ⟨hx, hb, hml, hown, hts⟩ hM (cwV n hts (gV t1 t2 t3 t4 t5) rfl rfl rfl hd hR) ⟨pce_blind hEo, hrv, pce_enter C0 hP hD hS isC hn hC _⟩ rfl hlen hls hst (lv_room hrm) hdg hcl) hS (fun q _ h => hFc q h) hFc (fun x u t H1 locs1 ht hvm hw1 hB hz1 hk1 hS1 => ?_)
  subst hw1
  have hB2 : va_P G vwCl w1 H1 := by rw [← ht]; exact hB
  obtain ⟨hP2, hD2⟩ := vz_back hP hD isC hC hk1 hB2 hw
  exact kk H1 locs1 hP2 hD2 hS1
theorem cV_v {p : Program} {l : Launch} {e : Env} {R : Room} {s : State} {m : MethodId} {args : Array Value} {below : List Frame} {meth : Method} {c : Code} {H : Heap} {locs : List Loc} {cells slots : Nat} {Q : State → Prop} {cc : ByteArray} {nL : Nat} {own : String} {G : va_G} {K : Nat → ClassId} {E : VE} {A : Nat → Prop} {ws wc w1 : va_W} {index n maxL pc : Nat} {y : MethodName} {bytes : ByteArray} {ret : Option FieldType} {rm : Room} {C : String} {b : Nat} {As rest st0 : List Value} {ls : Array Slot} (C0 : CX p s m args c cc nL own G K E A) (hP : va_P G vwCl ws H) (hD : va_D A ws) (hS : va_S A s.heap H locs) (isC : List Nat) (hM : Met l y (mC y bytes maxL ret) rm (va_Pc (.ref b :: As) (PCe G K E wc H.size)) (va_Qv (fun (_ : Unit) => True) (fun _ t => va_P G vwCl w1 t.heap) (va_A wc H.size)) rm.cells rm.slots (va_A wc H.size)) (hn : va_nd isC = true) (hC : isC.map (fun i => ws[i]?) = wc.map some) (hw : w1.map (fun q => q.1) = wc.map (fun q => q.1)) (t1 : Cond.methodLink own index y ∈ tbG) (t2 : Cond.instanceMethod y ∈ tbG) (t3 : Cond.selects C y y ∈ tbG) (t4 : Cond.initialized C ∈ tbG) (t5 : Cond.code y bytes maxL ret ∈ tbG) (hd : y.cls = C ∧ y.cls ≠ "java/lang/invoke/MethodHandle" ∧ y.cls ≠ "java/lang/invoke/VarHandle" ∧ (parseMethodDescriptor y.desc).map (fun d => d.parameters.length) = some n) (hrv : ∃ cellB : Cell, H[b]? = some cellB ∧ cellB.vm.isStatics = false ∧ s.vm.findClass C = some cellB.cls) (hR : rm.frames + 1 ≤ R.frames ∧ 8 + (maxL + 11) + rm.locals ≤ R.locals) (hlen : As.length = n) (hls : ls.size = nL) (hrm : (rest.map fun v => v.category).sum ≤ 8) (hst : st0 = As.reverse ++ .ref b :: rest) (hcl : cells + rm.cells ≤ R.cells ∧ slots + rm.slots ≤ R.slots) (hdg : decode cc pc = .ok (.invokevirtual index, 3)) (kk : ∀ (H1 : Heap) (locs1 : List Loc), va_P G vwCl (vz_set ws isC w1) H1 → va_D A (vz_set ws isC w1) → va_S A s.heap H1 locs1 → W p l e R s m args below meth c H1 locs1 (cells + rm.cells) (slots + rm.slots) Q (F0 m (pc + 3) ls (rest))) : W p l e R s m args below meth c H locs cells slots Q (F0 m pc ls st0) := by
  obtain ⟨hx, hb, hml, hown, hts, hK, hA, hEo, hE⟩ := id C0
  have hFc := va_free (wc := wc) hD hS hA isC hC
  refine va_callv (va_runV (As := As) (rest := rest) ⟨hx, hb, hml, hown, hts⟩ hM (cwV n hts (gV t1 t2 t3 t4 t5) rfl rfl rfl hd hR) ⟨pce_blind hEo, hrv, pce_enter C0 hP hD hS isC hn hC _⟩ rfl hlen hls hst (lv_room hrm) hdg hcl) hS (fun q _ h => hFc q h) hFc (fun u t H1 locs1 ht hvm hw1 hB hz1 hk1 hS1 => ?_)
  have hB2 : va_P G vwCl w1 H1 := by rw [← ht]; exact hB
  obtain ⟨hP2, hD2⟩ := vz_back hP hD isC hC hk1 hB2 hw
  exact kk H1 locs1 hP2 hD2 hS1
theorem cS_i {p : Program} {l : Launch} {e : Env} {R : Room} {s : State} {m : MethodId} {args : Array Value} {below : List Frame} {meth : Method} {c : Code} {H : Heap} {locs : List Loc} {cells slots : Nat} {Q : State → Prop} {cc : ByteArray} {nL : Nat} {own : String} {G : va_G} {K : Nat → ClassId} {E : VE} {A : Nat → Prop} {ws wc w1 : va_W} {index n maxL pc : Nat} {y : MethodName} {bytes : ByteArray} {ret : Option FieldType} {rm : Room} {As rest st0 : List Value} {ls : Array Slot} {r : Int32} (C0 : CX p s m args c cc nL own G K E A) (hP : va_P G vwCl ws H) (hD : va_D A ws) (hS : va_S A s.heap H locs) (isC : List Nat) (hM : Met l y (mC y bytes maxL ret) rm (va_Pc As (PCe G K E wc H.size)) (va_Qi (fun (x : Int32) (_ : Unit) => x = r) (fun _ t => va_P G vwCl w1 t.heap) (va_A wc H.size)) rm.cells rm.slots (va_A wc H.size)) (hn : va_nd isC = true) (hC : isC.map (fun i => ws[i]?) = wc.map some) (hw : w1.map (fun q => q.1) = wc.map (fun q => q.1)) (t1 : Cond.methodLink own index y ∈ tbG) (t2 : Cond.static y ∈ tbG) (t4 : Cond.initialized y.cls ∈ tbG) (t5 : Cond.code y bytes maxL ret ∈ tbG) (hd : y.cls ≠ "java/lang/invoke/MethodHandle" ∧ y.cls ≠ "java/lang/invoke/VarHandle" ∧ (parseMethodDescriptor y.desc).map (fun d => d.parameters.length) = some n) (hR : rm.frames + 1 ≤ R.frames ∧ 8 + (maxL + 11) + rm.locals ≤ R.locals) (hlen : As.length = n) (hls : ls.size = nL) (hrm : (rest.map fun v => v.category).sum ≤ 8) (hst : st0 = As.reverse ++ rest) (hcl : cells + rm.cells ≤ R.cells ∧ slots + rm.slots ≤ R.slots) (hdg : decode cc pc = .ok (.invokestatic index, 3)) (kk : ∀ (H1 : Heap) (locs1 : List Loc), va_P G vwCl (vz_set ws isC w1) H1 → va_D A (vz_set ws isC w1) → va_S A s.heap H1 locs1 → W p l e R s m args below meth c H1 locs1 (cells + rm.cells) (slots + rm.slots) Q (F0 m (pc + 3) ls (.int r :: rest))) : W p l e R s m args below meth c H locs cells slots Q (F0 m pc ls st0) := by
  obtain ⟨hx, hb, hml, hown, hts, hK, hA, hEo, hE⟩ := id C0
  have hFc := va_free (wc := wc) hD hS hA isC hC
  refine va_calli (va_runS (As := As) (rest := rest) ⟨hx, hb, hml, hown, hts⟩ hM (va_cwS n hts (gS t1 t2 t4 t5) rfl rfl rfl hd hR) ⟨pce_blind hEo, pce_enter C0 hP hD hS isC hn hC _⟩ rfl hlen hls hst (lv_room hrm) hdg hcl) hS (fun q _ h => hFc q h) hFc (fun x u t H1 locs1 ht hvm hw1 hB hz1 hk1 hS1 => ?_)
  subst hw1
  have hB2 : va_P G vwCl w1 H1 := by rw [← ht]; exact hB
  obtain ⟨hP2, hD2⟩ := vz_back hP hD isC hC hk1 hB2 hw
  exact kk H1 locs1 hP2 hD2 hS1
theorem cS_l {p : Program} {l : Launch} {e : Env} {R : Room} {s : State} {m : MethodId} {args : Array Value} {below : List Frame} {meth : Method} {c : Code} {H : Heap} {locs : List Loc} {cells slots : Nat} {Q : State → Prop} {cc : ByteArray} {nL : Nat} {own : String} {G : va_G} {K : Nat → ClassId} {E : VE} {A : Nat → Prop} {ws wc w1 : va_W} {index n maxL pc : Nat} {y : MethodName} {bytes : ByteArray} {ret : Option FieldType} {rm : Room} {As rest st0 : List Value} {ls : Array Slot} {r : Int64} (C0 : CX p s m args c cc nL own G K E A) (hP : va_P G vwCl ws H) (hD : va_D A ws) (hS : va_S A s.heap H locs) (isC : List Nat) (hM : Met l y (mC y bytes maxL ret) rm (va_Pc As (PCe G K E wc H.size)) (va_Ql (fun (x : Int64) (_ : Unit) => x = r) (fun _ t => va_P G vwCl w1 t.heap) (va_A wc H.size)) rm.cells rm.slots (va_A wc H.size)) (hn : va_nd isC = true) (hC : isC.map (fun i => ws[i]?) = wc.map some) (hw : w1.map (fun q => q.1) = wc.map (fun q => q.1)) (t1 : Cond.methodLink own index y ∈ tbG) (t2 : Cond.static y ∈ tbG) (t4 : Cond.initialized y.cls ∈ tbG) (t5 : Cond.code y bytes maxL ret ∈ tbG) (hd : y.cls ≠ "java/lang/invoke/MethodHandle" ∧ y.cls ≠ "java/lang/invoke/VarHandle" ∧ (parseMethodDescriptor y.desc).map (fun d => d.parameters.length) = some n) (hR : rm.frames + 1 ≤ R.frames ∧ 8 + (maxL + 11) + rm.locals ≤ R.locals) (hlen : As.length = n) (hls : ls.size = nL) (hrm : (rest.map fun v => v.category).sum ≤ 8) (hst : st0 = As.reverse ++ rest) (hcl : cells + rm.cells ≤ R.cells ∧ slots + rm.slots ≤ R.slots) (hdg : decode cc pc = .ok (.invokestatic index, 3)) (kk : ∀ (H1 : Heap) (locs1 : List Loc), va_P G vwCl (vz_set ws isC w1) H1 → va_D A (vz_set ws isC w1) → va_S A s.heap H1 locs1 → W p l e R s m args below meth c H1 locs1 (cells + rm.cells) (slots + rm.slots) Q (F0 m (pc + 3) ls (.long r :: rest))) : W p l e R s m args below meth c H locs cells slots Q (F0 m pc ls st0) := by
  obtain ⟨hx, hb, hml, hown, hts, hK, hA, hEo, hE⟩ := id C0
  have hFc := va_free (wc := wc) hD hS hA isC hC
  refine va_calll (va_runS (As := As) (rest := rest) ⟨hx, hb, hml, hown, hts⟩ hM (va_cwS n hts (gS t1 t2 t4 t5) rfl rfl rfl hd hR) ⟨pce_blind hEo, pce_enter C0 hP hD hS isC hn hC _⟩ rfl hlen hls hst (lv_room hrm) hdg hcl) hS (fun q _ h => hFc q h) hFc (fun x u t H1 locs1 ht hvm hw1 hB hz1 hk1 hS1 => ?_)
  subst hw1
  have hB2 : va_P G vwCl w1 H1 := by rw [← ht]; exact hB
  obtain ⟨hP2, hD2⟩ := vz_back hP hD isC hC hk1 hB2 hw
  exact kk H1 locs1 hP2 hD2 hS1
theorem cS_v {p : Program} {l : Launch} {e : Env} {R : Room} {s : State} {m : MethodId} {args : Array Value} {below : List Frame} {meth : Method} {c : Code} {H : Heap} {locs : List Loc} {cells slots : Nat} {Q : State → Prop} {cc : ByteArray} {nL : Nat} {own : String} {G : va_G} {K : Nat → ClassId} {E : VE} {A : Nat → Prop} {ws wc w1 : va_W} {index n maxL pc : Nat} {y : MethodName} {bytes : ByteArray} {ret : Option FieldType} {rm : Room} {As rest st0 : List Value} {ls : Array Slot} (C0 : CX p s m args c cc nL own G K E A) (hP : va_P G vwCl ws H) (hD : va_D A ws) (hS : va_S A s.heap H locs) (isC : List Nat) (hM : Met l y (mC y bytes maxL ret) rm (va_Pc As (PCe G K E wc H.size)) (va_Qv (fun (_ : Unit) => True) (fun _ t => va_P G vwCl w1 t.heap) (va_A wc H.size)) rm.cells rm.slots (va_A wc H.size)) (hn : va_nd isC = true) (hC : isC.map (fun i => ws[i]?) = wc.map some) (hw : w1.map (fun q => q.1) = wc.map (fun q => q.1)) (t1 : Cond.methodLink own index y ∈ tbG) (t2 : Cond.static y ∈ tbG) (t4 : Cond.initialized y.cls ∈ tbG) (t5 : Cond.code y bytes maxL ret ∈ tbG) (hd : y.cls ≠ "java/lang/invoke/MethodHandle" ∧ y.cls ≠ "java/lang/invoke/VarHandle" ∧ (parseMethodDescriptor y.desc).map (fun d => d.parameters.length) = some n) (hR : rm.frames + 1 ≤ R.frames ∧ 8 + (maxL + 11) + rm.locals ≤ R.locals) (hlen : As.length = n) (hls : ls.size = nL) (hrm : (rest.map fun v => v.category).sum ≤ 8) (hst : st0 = As.reverse ++ rest) (hcl : cells + rm.cells ≤ R.cells ∧ slots + rm.slots ≤ R.slots) (hdg : decode cc pc = .ok (.invokestatic index, 3)) (kk : ∀ (H1 : Heap) (locs1 : List Loc), va_P G vwCl (vz_set ws isC w1) H1 → va_D A (vz_set ws isC w1) → va_S A s.heap H1 locs1 → W p l e R s m args below meth c H1 locs1 (cells + rm.cells) (slots + rm.slots) Q (F0 m (pc + 3) ls (rest))) : W p l e R s m args below meth c H locs cells slots Q (F0 m pc ls st0) := by
  obtain ⟨hx, hb, hml, hown, hts, hK, hA, hEo, hE⟩ := id C0
  have hFc := va_free (wc := wc) hD hS hA isC hC
  refine va_callv (va_runS (As := As) (rest := rest) ⟨hx, hb, hml, hown, hts⟩ hM (va_cwS n hts (gS t1 t2 t4 t5) rfl rfl rfl hd hR) ⟨pce_blind hEo, pce_enter C0 hP hD hS isC hn hC _⟩ rfl hlen hls hst (lv_room hrm) hdg hcl) hS (fun q _ h => hFc q h) hFc (fun u t H1 locs1 ht hvm hw1 hB hz1 hk1 hS1 => ?_)
  have hB2 : va_P G vwCl w1 H1 := by rw [← ht]; exact hB
  obtain ⟨hP2, hD2⟩ := vz_back hP hD isC hC hk1 hB2 hw
  exact kk H1 locs1 hP2 hD2 hS1
theorem cN_i {p : Program} {l : Launch} {e : Env} {R : Room} {s : State} {m : MethodId} {args : Array Value} {below : List Frame} {meth : Method} {c : Code} {H : Heap} {locs : List Loc} {cells slots : Nat} {Q : State → Prop} {cc : ByteArray} {nL : Nat} {own : String} {G : va_G} {K : Nat → ClassId} {E : VE} {A : Nat → Prop} {ws wc w1 : va_W} {index n maxL pc : Nat} {y : MethodName} {bytes : ByteArray} {ret : Option FieldType} {rm : Room} {host : String} {As rest st0 : List Value} {ls : Array Slot} {r : Int32} (C0 : CX p s m args c cc nL own G K E A) (hP : va_P G vwCl ws H) (hD : va_D A ws) (hS : va_S A s.heap H locs) (isC : List Nat) (hM : Met l y (mC y bytes maxL ret) rm (va_Pc As (PCe G K E wc H.size)) (va_Qi (fun (x : Int32) (_ : Unit) => x = r) (fun _ t => va_P G vwCl w1 t.heap) (va_A wc H.size)) rm.cells rm.slots (va_A wc H.size)) (hn : va_nd isC = true) (hC : isC.map (fun i => ws[i]?) = wc.map some) (hw : w1.map (fun q => q.1) = wc.map (fun q => q.1)) (t1 : va_Nw (.methodLinkNest own index y host) s) (t2 : Cond.static y ∈ tbG) (t4 : Cond.initialized y.cls ∈ tbG) (t5 : Cond.code y bytes maxL ret ∈ tbG) (hd : y.cls ≠ "java/lang/invoke/MethodHandle" ∧ y.cls ≠ "java/lang/invoke/VarHandle" ∧ (parseMethodDescriptor y.desc).map (fun d => d.parameters.length) = some n) (hR : rm.frames + 1 ≤ R.frames ∧ 8 + (maxL + 11) + rm.locals ≤ R.locals) (hlen : As.length = n) (hls : ls.size = nL) (hrm : (rest.map fun v => v.category).sum ≤ 8) (hst : st0 = As.reverse ++ rest) (hcl : cells + rm.cells ≤ R.cells ∧ slots + rm.slots ≤ R.slots) (hdg : decode cc pc = .ok (.invokestatic index, 3)) (kk : ∀ (H1 : Heap) (locs1 : List Loc), va_P G vwCl (vz_set ws isC w1) H1 → va_D A (vz_set ws isC w1) → va_S A s.heap H1 locs1 → W p l e R s m args below meth c H1 locs1 (cells + rm.cells) (slots + rm.slots) Q (F0 m (pc + 3) ls (.int r :: rest))) : W p l e R s m args below meth c H locs cells slots Q (F0 m pc ls st0) := by
  obtain ⟨hx, hb, hml, hown, hts, hK, hA, hEo, hE⟩ := id C0
  have hFc := va_free (wc := wc) hD hS hA isC hC
  refine va_calli (va_runSN (As := As) (rest := rest) ⟨hx, hb, hml, hown, hts⟩ hM ⟨va_cnB n hts (mC_good t5) rfl rfl rfl t1 (hts _ t4) hd hR, hts _ t2, trivial⟩ ⟨pce_blind hEo, pce_enter C0 hP hD hS isC hn hC _⟩ rfl hlen hls hst (lv_room hrm) hdg hcl) hS (fun q _ h => hFc q h) hFc (fun x u t H1 locs1 ht hvm hw1 hB hz1 hk1 hS1 => ?_)
  subst hw1
  have hB2 : va_P G vwCl w1 H1 := by rw [← ht]; exact hB
  obtain ⟨hP2, hD2⟩ := vz_back hP hD isC hC hk1 hB2 hw
  exact kk H1 locs1 hP2 hD2 hS1
theorem cN_l {p : Program} {l : Launch} {e : Env} {R : Room} {s : State} {m : MethodId} {args : Array Value} {below : List Frame} {meth : Method} {c : Code} {H : Heap} {locs : List Loc} {cells slots : Nat} {Q : State → Prop} {cc : ByteArray} {nL : Nat} {own : String} {G : va_G} {K : Nat → ClassId} {E : VE} {A : Nat → Prop} {ws wc w1 : va_W} {index n maxL pc : Nat} {y : MethodName} {bytes : ByteArray} {ret : Option FieldType} {rm : Room} {host : String} {As rest st0 : List Value} {ls : Array Slot} {r : Int64} (C0 : CX p s m args c cc nL own G K E A) (hP : va_P G vwCl ws H) (hD : va_D A ws) (hS : va_S A s.heap H locs) (isC : List Nat) (hM : Met l y (mC y bytes maxL ret) rm (va_Pc As (PCe G K E wc H.size)) (va_Ql (fun (x : Int64) (_ : Unit) => x = r) (fun _ t => va_P G vwCl w1 t.heap) (va_A wc H.size)) rm.cells rm.slots (va_A wc H.size)) (hn : va_nd isC = true) (hC : isC.map (fun i => ws[i]?) = wc.map some) (hw : w1.map (fun q => q.1) = wc.map (fun q => q.1)) (t1 : va_Nw (.methodLinkNest own index y host) s) (t2 : Cond.static y ∈ tbG) (t4 : Cond.initialized y.cls ∈ tbG) (t5 : Cond.code y bytes maxL ret ∈ tbG) (hd : y.cls ≠ "java/lang/invoke/MethodHandle" ∧ y.cls ≠ "java/lang/invoke/VarHandle" ∧ (parseMethodDescriptor y.desc).map (fun d => d.parameters.length) = some n) (hR : rm.frames + 1 ≤ R.frames ∧ 8 + (maxL + 11) + rm.locals ≤ R.locals) (hlen : As.length = n) (hls : ls.size = nL) (hrm : (rest.map fun v => v.category).sum ≤ 8) (hst : st0 = As.reverse ++ rest) (hcl : cells + rm.cells ≤ R.cells ∧ slots + rm.slots ≤ R.slots) (hdg : decode cc pc = .ok (.invokestatic index, 3)) (kk : ∀ (H1 : Heap) (locs1 : List Loc), va_P G vwCl (vz_set ws isC w1) H1 → va_D A (vz_set ws isC w1) → va_S A s.heap H1 locs1 → W p l e R s m args below meth c H1 locs1 (cells + rm.cells) (slots + rm.slots) Q (F0 m (pc + 3) ls (.long r :: rest))) : W p l e R s m args below meth c H locs cells slots Q (F0 m pc ls st0) := by
  obtain ⟨hx, hb, hml, hown, hts, hK, hA, hEo, hE⟩ := id C0
  have hFc := va_free (wc := wc) hD hS hA isC hC
  refine va_calll (va_runSN (As := As) (rest := rest) ⟨hx, hb, hml, hown, hts⟩ hM ⟨va_cnB n hts (mC_good t5) rfl rfl rfl t1 (hts _ t4) hd hR, hts _ t2, trivial⟩ ⟨pce_blind hEo, pce_enter C0 hP hD hS isC hn hC _⟩ rfl hlen hls hst (lv_room hrm) hdg hcl) hS (fun q _ h => hFc q h) hFc (fun x u t H1 locs1 ht hvm hw1 hB hz1 hk1 hS1 => ?_)
  subst hw1
  have hB2 : va_P G vwCl w1 H1 := by rw [← ht]; exact hB
  obtain ⟨hP2, hD2⟩ := vz_back hP hD isC hC hk1 hB2 hw
  exact kk H1 locs1 hP2 hD2 hS1
theorem cN_v {p : Program} {l : Launch} {e : Env} {R : Room} {s : State} {m : MethodId} {args : Array Value} {below : List Frame} {meth : Method} {c : Code} {H : Heap} {locs : List Loc} {cells slots : Nat} {Q : State → Prop} {cc : ByteArray} {nL : Nat} {own : String} {G : va_G} {K : Nat → ClassId} {E : VE} {A : Nat → Prop} {ws wc w1 : va_W} {index n maxL pc : Nat} {y : MethodName} {bytes : ByteArray} {ret : Option FieldType} {rm : Room} {host : String} {As rest st0 : List Value} {ls : Array Slot} (C0 : CX p s m args c cc nL own G K E A) (hP : va_P G vwCl ws H) (hD : va_D A ws) (hS : va_S A s.heap H locs) (isC : List Nat) (hM : Met l y (mC y bytes maxL ret) rm (va_Pc As (PCe G K E wc H.size)) (va_Qv (fun (_ : Unit) => True) (fun _ t => va_P G vwCl w1 t.heap) (va_A wc H.size)) rm.cells rm.slots (va_A wc H.size)) (hn : va_nd isC = true) (hC : isC.map (fun i => ws[i]?) = wc.map some) (hw : w1.map (fun q => q.1) = wc.map (fun q => q.1)) (t1 : va_Nw (.methodLinkNest own index y host) s) (t2 : Cond.static y ∈ tbG) (t4 : Cond.initialized y.cls ∈ tbG) (t5 : Cond.code y bytes maxL ret ∈ tbG) (hd : y.cls ≠ "java/lang/invoke/MethodHandle" ∧ y.cls ≠ "java/lang/invoke/VarHandle" ∧ (parseMethodDescriptor y.desc).map (fun d => d.parameters.length) = some n) (hR : rm.frames + 1 ≤ R.frames ∧ 8 + (maxL + 11) + rm.locals ≤ R.locals) (hlen : As.length = n) (hls : ls.size = nL) (hrm : (rest.map fun v => v.category).sum ≤ 8) (hst : st0 = As.reverse ++ rest) (hcl : cells + rm.cells ≤ R.cells ∧ slots + rm.slots ≤ R.slots) (hdg : decode cc pc = .ok (.invokestatic index, 3)) (kk : ∀ (H1 : Heap) (locs1 : List Loc), va_P G vwCl (vz_set ws isC w1) H1 → va_D A (vz_set ws isC w1) → va_S A s.heap H1 locs1 → W p l e R s m args below meth c H1 locs1 (cells + rm.cells) (slots + rm.slots) Q (F0 m (pc + 3) ls (rest))) : W p l e R s m args below meth c H locs cells slots Q (F0 m pc ls st0) := by
  obtain ⟨hx, hb, hml, hown, hts, hK, hA, hEo, hE⟩ := id C0
  have hFc := va_free (wc := wc) hD hS hA isC hC
  refine va_callv (va_runSN (As := As) (rest := rest) ⟨hx, hb, hml, hown, hts⟩ hM ⟨va_cnB n hts (mC_good t5) rfl rfl rfl t1 (hts _ t4) hd hR, hts _ t2, trivial⟩ ⟨pce_blind hEo, pce_enter C0 hP hD hS isC hn hC _⟩ rfl hlen hls hst (lv_room hrm) hdg hcl) hS (fun q _ h => hFc q h) hFc (fun u t H1 locs1 ht hvm hw1 hB hz1 hk1 hS1 => ?_)
  have hB2 : va_P G vwCl w1 H1 := by rw [← ht]; exact hB
  obtain ⟨hP2, hD2⟩ := vz_back hP hD isC hC hk1 hB2 hw
  exact kk H1 locs1 hP2 hD2 hS1
/-! the class's environment: spellings (never changed once they are made), the static tables, the words on nest mates -/
def SP (G : va_G) (K : Nat → ClassId) (L : List Nat) (la sa : Nat → Nat) (ln sy sn : Nat → Int32) (lt st : Nat → Nat → Int32) (H : Heap) : Prop := ∀ a ∈ L, va_P G vwCl [(a, .inr (5, [.int (ln a), .ref (la a), .int (sy a), .ref (sa a), .int (sn a)])), (la a, .inl (K 0, (ln a).toNatClampNeg, .inl (lt a))), (sa a, .inl (K 0, 4, .inl (st a)))] H
def SPD (A : Nat → Prop) (L : List Nat) (la sa : Nat → Nat) : Prop := ∀ a ∈ L, ¬ A a ∧ ¬ A (la a) ∧ ¬ A (sa a)
def sT0 : Nat → Int32 := fun j => ([2, 2, 3, 3] : List Int32).getD j 0
def sT1 : Nat → Int32 := fun j => ([2, 1, 4, 1] : List Int32).getD j 0
def sT2 : Nat → Int32 := fun j => ([1, 0, 3, 2] : List Int32).getD j 0
def sT3 : Nat → Int32 := fun j => ([0, 1, 0, 2] : List Int32).getD j 0
def sT4 : Nat → Int32 := fun j => ([-1, 0, 1, 1, 0, 4] : List Int32).getD j 0
def sT5 : Nat → Int32 := fun j => ([10, 11, 12, 11, 13, 14] : List Int32).getD j 0
def sT6 : Nat → Int32 := fun j => ([20, 21, 24, 22, 23, 23] : List Int32).getD j 0
def sT7 : Nat → Int32 := fun j => ([17, 257, 272, 0, 289] : List Int32).getD j 0
def ST (tt : Nat → Nat) (A : Nat → Prop) (U : State) (H : Heap) : Prop := (va_Z RX6 "FOOT_SIZE" "[I" (.ref (tt 0)) A U H ∧ va_T .int (tt 0) 4 (fun j => .int (sT0 j)) A U H) ∧ (va_Z RX6 "FOOT_HEAVY" "[I" (.ref (tt 1)) A U H ∧ va_T .int (tt 1) 4 (fun j => .int (sT1 j)) A U H) ∧ (va_Z RX6 "FOOT_TURNED" "[I" (.ref (tt 2)) A U H ∧ va_T .int (tt 2) 4 (fun j => .int (sT2 j)) A U H) ∧ (va_Z RX6 "FOOT_WEAK_END" "[I" (.ref (tt 3)) A U H ∧ va_T .int (tt 3) 4 (fun j => .int (sT3 j)) A U H) ∧ (va_Z RX6 "KIND_ABOVE" "[I" (.ref (tt 4)) A U H ∧ va_T .int (tt 4) 6 (fun j => .int (sT4 j)) A U H) ∧ (va_Z RX6 "SIZE_BODIES" "[I" (.ref (tt 5)) A U H ∧ va_T .int (tt 5) 6 (fun j => .int (sT5 j)) A U H) ∧ (va_Z RX6 "MARK_BODIES" "[I" (.ref (tt 6)) A U H ∧ va_T .int (tt 6) 6 (fun j => .int (sT6 j)) A U H) ∧ (va_Z RX6 "SCHEME_NAMES" "[I" (.ref (tt 7)) A U H ∧ va_T .int (tt 7) 5 (fun j => .int (sT7 j)) A U H)
def NW (U : State) : Prop := va_Nw (Cond.methodLinkNest "FeetAndRhymes" (17 : Nat) ({ cls := "FeetAndRhymes$Reader", name := "<init>", desc := "()V" } : MethodName) "FeetAndRhymes") U ∧ va_Nw (Cond.methodLinkNest "FeetAndRhymes" (30 : Nat) ({ cls := "FeetAndRhymes$Ear", name := "<init>", desc := "()V" } : MethodName) "FeetAndRhymes") U ∧ va_Nw (Cond.methodLinkNest "FeetAndRhymes$Spelling" (31 : Nat) ({ cls := "FeetAndRhymes", name := "isVowel", desc := "(I)Z" } : MethodName) "FeetAndRhymes") U ∧ va_Nw (Cond.methodLinkNest "FeetAndRhymes" (47 : Nat) ({ cls := "FeetAndRhymes$Row", name := "<init>", desc := "()V" } : MethodName) "FeetAndRhymes") U ∧ va_Nw (Cond.fieldLinkNest "FeetAndRhymes$Reader" (62 : Nat) "FeetAndRhymes" "FOOT_SIZE" "[I" "FeetAndRhymes") U ∧ va_Nw (Cond.methodLinkNest "FeetAndRhymes$Reader" (85 : Nat) ({ cls := "FeetAndRhymes", name := "hasVowel", desc := "([II)Z" } : MethodName) "FeetAndRhymes") U ∧ va_Nw (Cond.methodLinkNest "FeetAndRhymes$Ear" (90 : Nat) ({ cls := "FeetAndRhymes", name := "isMetre", desc := "(II)Z" } : MethodName) "FeetAndRhymes") U ∧ va_Nw (Cond.fieldLinkNest "FeetAndRhymes$Ear" (105 : Nat) "FeetAndRhymes" "FOOT_HEAVY" "[I" "FeetAndRhymes") U ∧ va_Nw (Cond.fieldLinkNest "FeetAndRhymes$Ear" (108 : Nat) "FeetAndRhymes" "FOOT_SIZE" "[I" "FeetAndRhymes") U ∧ va_Nw (Cond.fieldLinkNest "FeetAndRhymes$Ear" (98 : Nat) "FeetAndRhymes" "FOOT_TURNED" "[I" "FeetAndRhymes") U ∧ va_Nw (Cond.fieldLinkNest "FeetAndRhymes$Ear" (116 : Nat) "FeetAndRhymes" "FOOT_WEAK_END" "[I" "FeetAndRhymes") U
def EC (G : va_G) (K : Nat → ClassId) (tt : Nat → Nat) (L : List Nat) (la sa : Nat → Nat) (ln sy sn : Nat → Int32) (lt st : Nat → Nat → Int32) : VE := fun A U H => SP G K L la sa ln sy sn lt st H ∧ SPD A L la sa ∧ ST tt A U H ∧ NW U
theorem ST.go {tt : Nat → Nat} {A Ac : Nat → Prop} {u U : State} {H H1 : Heap} (h : ST tt A u H) (hk : ∀ a : Nat, a < H.size → ¬ A a → H1[a]? = H[a]?) (hvm : u.vm.Alike U.vm) (hA : ∀ q, Ac q → A q) : ST tt Ac U H1 := by
  obtain ⟨⟨z0, t0⟩, ⟨z1, t1⟩, ⟨z2, t2⟩, ⟨z3, t3⟩, ⟨z4, t4⟩, ⟨z5, t5⟩, ⟨z6, t6⟩, ⟨z7, t7⟩⟩ := h
  exact ⟨⟨((z0.kept hk).narrow hA).moved hvm, ((t0.kept hk).narrow hA).moved hvm⟩, ⟨((z1.kept hk).narrow hA).moved hvm, ((t1.kept hk).narrow hA).moved hvm⟩, ⟨((z2.kept hk).narrow hA).moved hvm, ((t2.kept hk).narrow hA).moved hvm⟩, ⟨((z3.kept hk).narrow hA).moved hvm, ((t3.kept hk).narrow hA).moved hvm⟩, ⟨((z4.kept hk).narrow hA).moved hvm, ((t4.kept hk).narrow hA).moved hvm⟩, ⟨((z5.kept hk).narrow hA).moved hvm, ((t5.kept hk).narrow hA).moved hvm⟩, ⟨((z6.kept hk).narrow hA).moved hvm, ((t6.kept hk).narrow hA).moved hvm⟩, ⟨((z7.kept hk).narrow hA).moved hvm, ((t7.kept hk).narrow hA).moved hvm⟩⟩
theorem SP.kept {G : va_G} {K : Nat → ClassId} {L : List Nat} {la sa : Nat → Nat} {ln sy sn : Nat → Int32} {lt st : Nat → Nat → Int32} {A : Nat → Prop} {H H1 : Heap} (h : SP G K L la sa ln sy sn lt st H) (hd : SPD A L la sa) (hk : ∀ a : Nat, a < H.size → ¬ A a → H1[a]? = H[a]?) : SP G K L la sa ln sy sn lt st H1 := by
  intro a ha
  have h0 := h a ha
  have hd0 := hd a ha
  refine h0.kept (fun k q hq => ?_)
  have hlt := (h0 k q hq).lt
  match k, hq with
  | 0, hq => cases hq; exact hk _ hlt hd0.1
  | 1, hq => cases hq; exact hk _ hlt hd0.2.1
  | 2, hq => cases hq; exact hk _ hlt hd0.2.2
  | k + 3, hq => simp at hq
theorem NW.same {u U : State} (h : u.vm = U.vm) (hN : NW u) : NW U := by
  obtain ⟨n0, n1, n2, n3, n4, n5, n6, n7, n8, n9, n10⟩ := hN
  exact ⟨n0.same rfl h, n1.same rfl h, n2.same rfl h, n3.same rfl h, n4.same rfl h, n5.same rfl h, n6.same rfl h, n7.same rfl h, n8.same rfl h, n9.same rfl h, n10.same rfl h⟩
theorem NW.warm {s U : State} (hW : s.WarmedH U.vm) (hN : NW s) : NW U := by
  obtain ⟨n0, n1, n2, n3, n4, n5, n6, n7, n8, n9, n10⟩ := hN
  exact ⟨n0.warmM hW, n1.warmM hW, n2.warmM hW, n3.warmM hW, n4.warmF hW, n5.warmM hW, n6.warmM hW, n7.warmF hW, n8.warmF hW, n9.warmF hW, n10.warmF hW⟩
theorem EC_ok (G : va_G) (K : Nat → ClassId) (tt : Nat → Nat) (L : List Nat) (la sa : Nat → Nat) (ln sy sn : Nat → Int32) (lt st : Nat → Nat → Int32) : EnvOK (EC G K tt L la sa ln sy sn lt st) := by
  refine ⟨fun A U g mk a h => ?_, fun A Ac s U H locs h hS hU hW hA => ?_⟩
  · obtain ⟨h1, h2, h3, h4⟩ := h
    exact ⟨h1, h2, h3.go (fun _ _ _ => rfl) (Vm.Alike.refl U.vm) (fun _ h => h), h4.same rfl⟩
  · obtain ⟨h1, h2, h3, h4⟩ := h
    have hk : ∀ a : Nat, a < s.heap.size → ¬ A a → U.heap[a]? = s.heap[a]? := by rw [hU]; exact hS.2.1
    exact ⟨h1.kept h2 hk, fun a ha => ⟨fun q => (h2 a ha).1 (hA _ q), fun q => (h2 a ha).2.1 (hA _ q), fun q => (h2 a ha).2.2 (hA _ q)⟩, h3.go hk hW.alike hA, h4.warm hW⟩
def E0 : VE := fun _ _ _ => True
theorem E0_ok : EnvOK E0 := ⟨fun _ _ _ _ _ _ => trivial, fun _ _ _ _ _ _ _ _ _ _ _ => trivial⟩
/-- a spelling, where the walk stands -/
theorem sp_at {G : va_G} {K : Nat → ClassId} {tt : Nat → Nat} {L : List Nat} {la sa : Nat → Nat} {ln sy sn : Nat → Int32} {lt st : Nat → Nat → Int32} {A : Nat → Prop} {s : State} {H : Heap} {locs : List Loc} (hE : EC G K tt L la sa ln sy sn lt st A s s.heap) (hS : va_S A s.heap H locs) {a : Nat} (ha : a ∈ L) : va_P G vwCl [(a, .inr (5, [.int (ln a), .ref (la a), .int (sy a), .ref (sa a), .int (sn a)])), (la a, .inl (K 0, (ln a).toNatClampNeg, .inl (lt a))), (sa a, .inl (K 0, 4, .inl (st a)))] H := (hE.1.kept hE.2.1 hS.2.1) a ha

def im2 (a b : Nat) : Nat → Nat := fun j => if j = 0 then a else b
abbrev aI (K : Nat → ClassId) (a n : Nat) (f : Nat → Int32) : Nat × va_E := (a, .inl (K 0, n, .inl f))
abbrev aZ (K : Nat → ClassId) (a n : Nat) (f : Nat → Int32) : Nat × va_E := (a, .inl (K 1, n, .inl f))
abbrev aS (K : Nat → ClassId) (a n : Nat) (f : Nat → Nat) : Nat × va_E := (a, .inl (K 2, n, .inr (.inr (.inr (.inr (fun j => some (f j)))))))
abbrev aR (K : Nat → ClassId) (a n : Nat) (f : Nat → Nat) : Nat × va_E := (a, .inl (K 3, n, .inr (.inr (.inr (.inr (fun j => some (f j)))))))
abbrev aP (K : Nat → ClassId) (a n : Nat) (f : Nat → Nat) : Nat × va_E := (a, .inl (K 4, n, .inr (.inr (.inr (.inr (fun j => some (f j)))))))
theorem va_up_some {f : Nat → Nat} {i v : Nat} : va_up (fun j => some (f j)) i (some v) = fun j => some (va_up f i v j) := by
  funext j
  unfold va_up
  by_cases h : j = i <;> simp [h]
theorem nar_b {r : Int32} (h : r = 0 ∨ r = 1) : narrow .boolean (.int r) = .int r := by
  rcases h with rfl | rfl <;> rfl
theorem sp_any {s : State} {H : Heap} {G : va_G} {tys : List (ClassId × FieldType)} {ws : va_W} {a : Nat} {fs : List Value} (hK : va_K G vwCl tys s) (hP : va_P G vwCl ((a, .inr (5, fs)) :: ws) H) : va_Any RX5 s H a :=
  va_rAny (q0 := 0) (ci := 5) (fs := fs) (r := (RX5, TX5, 5)) hK hP rfl rfl (fun comp c0 h1 h2 => by
    have e : comp = c0 := Option.some.inj (h1.symm.trans h2)
    subst e
    have h3 := (hK.1 5 (RX5, TX5, 5) rfl).2
    have e2 : comp = G.1 5 := Option.some.inj (h1.symm.trans h3.1)
    subst e2
    exact va_assign h3)
theorem sZ0 {tt : Nat → Nat} {A : Nat → Prop} {U : State} {H : Heap} (h : ST tt A U H) : va_Z RX6 "FOOT_SIZE" "[I" (.ref (tt 0)) A U H := (h.1).1
theorem sV0 {tt : Nat → Nat} {A : Nat → Prop} {U : State} {H : Heap} (h : ST tt A U H) : va_T .int (tt 0) 4 (fun j => .int (sT0 j)) A U H := (h.1).2
theorem sZ1 {tt : Nat → Nat} {A : Nat → Prop} {U : State} {H : Heap} (h : ST tt A U H) : va_Z RX6 "FOOT_HEAVY" "[I" (.ref (tt 1)) A U H := (h.2.1).1
theorem sV1 {tt : Nat → Nat} {A : Nat → Prop} {U : State} {H : Heap} (h : ST tt A U H) : va_T .int (tt 1) 4 (fun j => .int (sT1 j)) A U H := (h.2.1).2
theorem sZ2 {tt : Nat → Nat} {A : Nat → Prop} {U : State} {H : Heap} (h : ST tt A U H) : va_Z RX6 "FOOT_TURNED" "[I" (.ref (tt 2)) A U H := (h.2.2.1).1
theorem sV2 {tt : Nat → Nat} {A : Nat → Prop} {U : State} {H : Heap} (h : ST tt A U H) : va_T .int (tt 2) 4 (fun j => .int (sT2 j)) A U H := (h.2.2.1).2
theorem sZ3 {tt : Nat → Nat} {A : Nat → Prop} {U : State} {H : Heap} (h : ST tt A U H) : va_Z RX6 "FOOT_WEAK_END" "[I" (.ref (tt 3)) A U H := (h.2.2.2.1).1
theorem sV3 {tt : Nat → Nat} {A : Nat → Prop} {U : State} {H : Heap} (h : ST tt A U H) : va_T .int (tt 3) 4 (fun j => .int (sT3 j)) A U H := (h.2.2.2.1).2
theorem sZ4 {tt : Nat → Nat} {A : Nat → Prop} {U : State} {H : Heap} (h : ST tt A U H) : va_Z RX6 "KIND_ABOVE" "[I" (.ref (tt 4)) A U H := (h.2.2.2.2.1).1
theorem sV4 {tt : Nat → Nat} {A : Nat → Prop} {U : State} {H : Heap} (h : ST tt A U H) : va_T .int (tt 4) 6 (fun j => .int (sT4 j)) A U H := (h.2.2.2.2.1).2
theorem sZ5 {tt : Nat → Nat} {A : Nat → Prop} {U : State} {H : Heap} (h : ST tt A U H) : va_Z RX6 "SIZE_BODIES" "[I" (.ref (tt 5)) A U H := (h.2.2.2.2.2.1).1
theorem sV5 {tt : Nat → Nat} {A : Nat → Prop} {U : State} {H : Heap} (h : ST tt A U H) : va_T .int (tt 5) 6 (fun j => .int (sT5 j)) A U H := (h.2.2.2.2.2.1).2
theorem sZ6 {tt : Nat → Nat} {A : Nat → Prop} {U : State} {H : Heap} (h : ST tt A U H) : va_Z RX6 "MARK_BODIES" "[I" (.ref (tt 6)) A U H := (h.2.2.2.2.2.2.1).1
theorem sV6 {tt : Nat → Nat} {A : Nat → Prop} {U : State} {H : Heap} (h : ST tt A U H) : va_T .int (tt 6) 6 (fun j => .int (sT6 j)) A U H := (h.2.2.2.2.2.2.1).2
theorem sZ7 {tt : Nat → Nat} {A : Nat → Prop} {U : State} {H : Heap} (h : ST tt A U H) : va_Z RX6 "SCHEME_NAMES" "[I" (.ref (tt 7)) A U H := (h.2.2.2.2.2.2.2).1
theorem sV7 {tt : Nat → Nat} {A : Nat → Prop} {U : State} {H : Heap} (h : ST tt A U H) : va_T .int (tt 7) 5 (fun j => .int (sT7 j)) A U H := (h.2.2.2.2.2.2.2).2
theorem nw24 {U : State} (h : NW U) : va_Nw (Cond.methodLinkNest "FeetAndRhymes" (17 : Nat) ({ cls := "FeetAndRhymes$Reader", name := "<init>", desc := "()V" } : MethodName) "FeetAndRhymes") U := h.1
theorem nw56 {U : State} (h : NW U) : va_Nw (Cond.methodLinkNest "FeetAndRhymes" (30 : Nat) ({ cls := "FeetAndRhymes$Ear", name := "<init>", desc := "()V" } : MethodName) "FeetAndRhymes") U := h.2.1
theorem nw119 {U : State} (h : NW U) : va_Nw (Cond.methodLinkNest "FeetAndRhymes$Spelling" (31 : Nat) ({ cls := "FeetAndRhymes", name := "isVowel", desc := "(I)Z" } : MethodName) "FeetAndRhymes") U := h.2.2.1
theorem nw149 {U : State} (h : NW U) : va_Nw (Cond.methodLinkNest "FeetAndRhymes" (47 : Nat) ({ cls := "FeetAndRhymes$Row", name := "<init>", desc := "()V" } : MethodName) "FeetAndRhymes") U := h.2.2.2.1
theorem nw355 {U : State} (h : NW U) : va_Nw (Cond.fieldLinkNest "FeetAndRhymes$Reader" (62 : Nat) "FeetAndRhymes" "FOOT_SIZE" "[I" "FeetAndRhymes") U := h.2.2.2.2.1
theorem nw382 {U : State} (h : NW U) : va_Nw (Cond.methodLinkNest "FeetAndRhymes$Reader" (85 : Nat) ({ cls := "FeetAndRhymes", name := "hasVowel", desc := "([II)Z" } : MethodName) "FeetAndRhymes") U := h.2.2.2.2.2.1
theorem nw572 {U : State} (h : NW U) : va_Nw (Cond.methodLinkNest "FeetAndRhymes$Ear" (90 : Nat) ({ cls := "FeetAndRhymes", name := "isMetre", desc := "(II)Z" } : MethodName) "FeetAndRhymes") U := h.2.2.2.2.2.2.1
theorem nw576 {U : State} (h : NW U) : va_Nw (Cond.fieldLinkNest "FeetAndRhymes$Ear" (105 : Nat) "FeetAndRhymes" "FOOT_HEAVY" "[I" "FeetAndRhymes") U := h.2.2.2.2.2.2.2.1
theorem nw578 {U : State} (h : NW U) : va_Nw (Cond.fieldLinkNest "FeetAndRhymes$Ear" (108 : Nat) "FeetAndRhymes" "FOOT_SIZE" "[I" "FeetAndRhymes") U := h.2.2.2.2.2.2.2.2.1
theorem nw579 {U : State} (h : NW U) : va_Nw (Cond.fieldLinkNest "FeetAndRhymes$Ear" (98 : Nat) "FeetAndRhymes" "FOOT_TURNED" "[I" "FeetAndRhymes") U := h.2.2.2.2.2.2.2.2.2.1
theorem nw591 {U : State} (h : NW U) : va_Nw (Cond.fieldLinkNest "FeetAndRhymes$Ear" (116 : Nat) "FeetAndRhymes" "FOOT_WEAK_END" "[I" "FeetAndRhymes") U := h.2.2.2.2.2.2.2.2.2.2
