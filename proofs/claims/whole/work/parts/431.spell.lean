def spl_len (n1 : Nat) (p2 : Int32) : Int32 := (if (0 : Int32) < (if (nI n1) < (if (8 : Int32) < p2 then (8 : Int32) else p2) then (nI n1) else (if (8 : Int32) < p2 then (8 : Int32) else p2)) then (if (nI n1) < (if (8 : Int32) < p2 then (8 : Int32) else p2) then (nI n1) else (if (8 : Int32) < p2 then (8 : Int32) else p2)) else (0 : Int32))
theorem spl_ok (n1 : Nat) (p2 : Int32) : ¬ spl_len n1 p2 < 0 ∧ (spl_len n1 p2).toNatClampNeg ≤ 8 := by
  have h8 : (8 : Int32).toInt = 8 := rfl
  have h0 : (0 : Int32).toInt = 0 := rfl
  have key : 0 ≤ (spl_len n1 p2).toInt ∧ (spl_len n1 p2).toInt ≤ 8 := by
    unfold spl_len
    generalize nI n1 = a
    by_cases c1 : (8 : Int32) < p2
    · rw [if_pos c1]
      by_cases c2 : a < 8
      · rw [if_pos c2]
        by_cases c3 : (0 : Int32) < a
        · rw [if_pos c3]; rw [Int32.lt_iff_toInt_lt] at c2 c3; omega
        · rw [if_neg c3]; omega
      · rw [if_neg c2, if_pos (by decide)]; omega
    · rw [if_neg c1]
      by_cases c2 : a < p2
      · rw [if_pos c2]
        by_cases c3 : (0 : Int32) < a
        · rw [if_pos c3]; rw [Int32.lt_iff_toInt_lt] at c1 c2 c3; omega
        · rw [if_neg c3]; omega
      · rw [if_neg c2]
        by_cases c3 : (0 : Int32) < p2
        · rw [if_pos c3]; rw [Int32.lt_iff_toInt_lt] at c1 c3; omega
        · rw [if_neg c3]; omega
  refine ⟨fun h => ?_, ?_⟩
  · rw [Int32.lt_iff_toInt_lt] at h; omega
  · show (spl_len n1 p2).toInt.toNat ≤ 8
    omega
def mX5_init_b173 (sl_length : Int32) (n1 : Nat) (ar1 : Nat → Int32) (n9 : Nat) (p2 : Int32)  (sl_syllables : Int32) (sl_sounding : Int32) (sl_starts : Nat → Int32) (sl_letters : Nat → Int32) (x5 : Int32) (s1 : Int32) : Option ((Int32) × (Int32) × (Nat → Int32) × (Nat → Int32)) := (if x5 = 0 then some (s1, sl_length, sl_starts, sl_letters) else some (s1, (sl_length - (1 : Int32)), sl_starts, sl_letters))
def mX5_init_b158 (sl_length : Int32) (n1 : Nat) (ar1 : Nat → Int32) (n9 : Nat) (p2 : Int32)  (sl_syllables : Int32) (sl_sounding : Int32) (sl_starts : Nat → Int32) (sl_letters : Nat → Int32) (x3 : Int32) (s0 : Int32) : Option ((Int32) × (Int32) × (Nat → Int32) × (Nat → Int32)) := (if s0 = 0 then mX5_init_b173 sl_length n1 ar1 n9 p2  sl_syllables sl_sounding sl_starts sl_letters s0 x3 else mX5_init_b173 sl_length n1 ar1 n9 p2  sl_syllables sl_sounding sl_starts sl_letters s0 (x3 - (1 : Int32)))
def mX5_init_b157 (sl_length : Int32) (n1 : Nat) (ar1 : Nat → Int32) (n9 : Nat) (p2 : Int32)  (sl_syllables : Int32) (sl_sounding : Int32) (sl_starts : Nat → Int32) (sl_letters : Nat → Int32) (x3 : Int32) : Option ((Int32) × (Int32) × (Nat → Int32) × (Nat → Int32)) := mX5_init_b158 sl_length n1 ar1 n9 p2  sl_syllables sl_sounding sl_starts sl_letters x3 (0 : Int32)
def mX5_init_b48 (sl_length : Int32) (n1 : Nat) (ar1 : Nat → Int32) (n9 : Nat) (p2 : Int32)  : Nat → Int32 → Int32 → (Nat → Int32) → (Nat → Int32) → Int32 → Int32 → Int32 → Option ((Int32) × (Int32) × (Nat → Int32) × (Nat → Int32))
  | 0, _, _, _, _, _, _, _ => none
  | n + 1, sl_syllables, sl_sounding, sl_starts, sl_letters, x3, x4, x5 => (if sl_length ≤ x5 then (if x3 ≤ (1 : Int32) then mX5_init_b157 sl_length n1 ar1 n9 p2  sl_syllables sl_sounding sl_starts sl_letters x3 else if ((sl_length - (1 : Int32)) < 0 ∨ n9 ≤ (sl_length - (1 : Int32)).toNatClampNeg) then none else (if (sl_letters (sl_length - (1 : Int32)).toNatClampNeg) = (4 : Int32) then if ((x3 - (1 : Int32)) < 0 ∨ 4 ≤ (x3 - (1 : Int32)).toNatClampNeg) then none else (if (sl_starts (x3 - (1 : Int32)).toNatClampNeg) = (sl_length - (1 : Int32)) then mX5_init_b158 sl_length n1 ar1 n9 p2  sl_syllables sl_sounding sl_starts sl_letters x3 (1 : Int32) else mX5_init_b157 sl_length n1 ar1 n9 p2  sl_syllables sl_sounding sl_starts sl_letters x3) else mX5_init_b157 sl_length n1 ar1 n9 p2  sl_syllables sl_sounding sl_starts sl_letters x3)) else if (x5 < 0 ∨ n1 ≤ x5.toNatClampNeg) then none else if (x5 < 0 ∨ n9 ≤ x5.toNatClampNeg) then none else if (x5 < 0 ∨ n9 ≤ x5.toNatClampNeg) then none else ob1 (mX6_isVowel ((upd sl_letters x5.toNatClampNeg (ar1 x5.toNatClampNeg)) x5.toNatClampNeg)) (fun r_12 => (if r_12 = 0 then mX5_init_b48 sl_length n1 ar1 n9 p2  n sl_syllables sl_sounding sl_starts (upd sl_letters x5.toNatClampNeg (ar1 x5.toNatClampNeg)) x3 r_12 (x5 + 1) else (if x4 = 0 then (if (4 : Int32) ≤ x3 then mX5_init_b48 sl_length n1 ar1 n9 p2  n sl_syllables sl_sounding sl_starts (upd sl_letters x5.toNatClampNeg (ar1 x5.toNatClampNeg)) x3 r_12 (x5 + 1) else if (x3 < 0 ∨ 4 ≤ x3.toNatClampNeg) then none else mX5_init_b48 sl_length n1 ar1 n9 p2  n sl_syllables sl_sounding (upd sl_starts x3.toNatClampNeg x5) (upd sl_letters x5.toNatClampNeg (ar1 x5.toNatClampNeg)) (x3 + 1) r_12 (x5 + 1)) else mX5_init_b48 sl_length n1 ar1 n9 p2  n sl_syllables sl_sounding sl_starts (upd sl_letters x5.toNatClampNeg (ar1 x5.toNatClampNeg)) x3 r_12 (x5 + 1)))))
def mX5_init_b40 (sl_length : Int32) (n1 : Nat) (ar1 : Nat → Int32) (n9 : Nat) (p2 : Int32)  (sl_syllables : Int32) (sl_sounding : Int32) (sl_starts : Nat → Int32) (sl_letters : Nat → Int32) : Option ((Int32) × (Int32) × (Nat → Int32) × (Nat → Int32)) := mX5_init_b48 sl_length n1 ar1 n9 p2  FU sl_syllables sl_sounding sl_starts sl_letters (0 : Int32) (0 : Int32) (0 : Int32)
abbrev WX5_init (K : Nat → ClassId) (sl_a slA_letters slA_starts arA1 : Nat) (sl_length : Int32) (sl_syllables : Int32) (sl_sounding : Int32) (n1 : Nat) (ar1 : Nat → Int32) (sl_starts : Nat → Int32) (n9 : Nat) (sl_letters : Nat → Int32) : va_W := [(sl_a, .inr (5, [.int sl_length, .ref slA_letters, .int sl_syllables, .ref slA_starts, .int sl_sounding])), aI K arA1 n1 ar1, aI K slA_starts 4 sl_starts, aI K slA_letters n9 sl_letters]
def rmX5_init : Room := { frames := 1, cells := 2, slots := 12, locals := 30 }
theorem hdX5_init : yX5_init.cls = RX5 ∧ yX5_init.cls ≠ "java/lang/invoke/MethodHandle" ∧ yX5_init.cls ≠ "java/lang/invoke/VarHandle" ∧ (parseMethodDescriptor yX5_init.desc).map (fun d => d.parameters.length) = some 2 := by decide +kernel
set_option maxHeartbeats 4000000 in
set_option maxRecDepth 100000 in
theorem wX5_init_b173 {p : Program} {l : Launch} {e : Env} {s : State} {m : MethodId} {args : Array Value} {below : List Frame} {meth : Method} {c : Code} {Q : State → Prop} {G : va_G} {K : Nat → ClassId} {A : Nat → Prop} {tt : Nat → Nat} {L : List Nat} {la : Nat → Nat} {sa : Nat → Nat} {ln : Nat → Int32} {sy : Nat → Int32} {sn : Nat → Int32} {lt : Nat → Nat → Int32} {st : Nat → Nat → Int32} (C0 : CX p s m args c cX5_init 7 RX5 G K (EC G K tt L la sa ln sy sn lt st) A) (sl_a slA_letters slA_starts arA1 : Nat) (sl_length : Int32) (n1 : Nat) (ar1 : Nat → Int32) (n9 : Nat) (p2 : Int32) (hin : meth.name = "<init>") (o_sl_syllables : Int32) (o_sl_sounding : Int32) (o_sl_starts : Nat → Int32) (o_sl_letters : Nat → Int32) (kr : ∀ (H : Heap) (locs : List Loc) (ls : Array Slot) (pc : Nat), decode cX5_init pc = .ok (.return_, 1) → va_P G vwCl (WX5_init K sl_a slA_letters slA_starts arA1 sl_length o_sl_syllables o_sl_sounding n1 ar1 o_sl_starts n9 o_sl_letters) H → va_D A (WX5_init K sl_a slA_letters slA_starts arA1 sl_length o_sl_syllables o_sl_sounding n1 ar1 o_sl_starts n9 o_sl_letters) → va_S A s.heap H locs → W p l e rmX5_init s m args below meth c H locs 2 12 Q (F0 m pc ls [])) (sl_syllables : Int32) (sl_sounding : Int32) (sl_starts : Nat → Int32) (sl_letters : Nat → Int32) (x5 : Int32) (s1 : Int32) (hM : mX5_init_b173 sl_length n1 ar1 n9 p2  sl_syllables sl_sounding sl_starts sl_letters x5 s1 = some (o_sl_syllables, o_sl_sounding, o_sl_starts, o_sl_letters)) : ∀ (H : Heap) (locs : List Loc) (ls : Array Slot), va_P G vwCl (WX5_init K sl_a slA_letters slA_starts arA1 sl_length sl_syllables sl_sounding n1 ar1 sl_starts n9 sl_letters) H → va_D A (WX5_init K sl_a slA_letters slA_starts arA1 sl_length sl_syllables sl_sounding n1 ar1 sl_starts n9 sl_letters) → va_S A s.heap H locs → lv_has ls 7 [(0, .ref sl_a), (5, .int x5)] → W p l e rmX5_init s m args below meth c H locs 2 12 Q (F0 m 173 ls [.int s1, .ref sl_a]) := by
  obtain ⟨hx, hb, hml, hown, hts, hK, hA, hEo, hE⟩ := id C0
  intro H locs ls hP hD hS hl
  unfold mX5_init_b173 at hM
  refine va_putF (D := G) (ci := 5) (v := .int s1) (ty := .int) (C := RX5) (T := TX5) (N := 5) hx hb hts inX5 tyX5 tyX5_ok nmX5 hown hK hP hD hS 0 rfl rfl 2 (by decide) (hts _ tb129) (fun _ h9 => h9) rfl hin rfl (tyX5_ok 2 (by decide)) rfl rfl (Nat.le_of_ble_eq_true rfl) dX5_init_173 (fun H locs hP hD hS => ?_)
  have hP : va_P G vwCl (WX5_init K sl_a slA_letters slA_starts arA1 sl_length s1 sl_sounding n1 ar1 sl_starts n9 sl_letters) H := hP
  have hD : va_D A (WX5_init K sl_a slA_letters slA_starts arA1 sl_length s1 sl_sounding n1 ar1 sl_starts n9 sl_letters) := hD
  refine lv_aload_n hx hb dX5_init_176 rfl (lv_at hl 0 rfl) ?_
  refine lv_iload hx hb dX5_init_177 (lv_at hl 1 rfl) ?_
  refine lv_if_eq (tgt := 191) hx hb dX5_init_179 (by decide) (fun c_1 => ?_) (fun c_1 => ?_)
  · rw [if_pos c_1] at hM
    refine lv_aload_n hx hb dX5_init_191 rfl (lv_at hl 0 rfl) ?_
    refine va_get (D := G) (ci := 5) (v := .int sl_length) (C := RX5) (T := TX5) (N := 5) hx hb hts inX5 hown hK hP 0 rfl rfl 0 (by decide) (hts _ tb123) (fun _ h9 => h9) rfl dX5_init_192 ?_
    refine va_putF (D := G) (ci := 5) (v := .int sl_length) (ty := .int) (C := RX5) (T := TX5) (N := 5) hx hb hts inX5 tyX5 tyX5_ok nmX5 hown hK hP hD hS 0 rfl rfl 4 (by decide) (hts _ tb135) (fun _ h9 => h9) rfl hin rfl (tyX5_ok 4 (by decide)) rfl rfl (Nat.le_of_ble_eq_true rfl) dX5_init_195 (fun H locs hP hD hS => ?_)
    have hP : va_P G vwCl (WX5_init K sl_a slA_letters slA_starts arA1 sl_length s1 sl_length n1 ar1 sl_starts n9 sl_letters) H := hP
    have hD : va_D A (WX5_init K sl_a slA_letters slA_starts arA1 sl_length s1 sl_length n1 ar1 sl_starts n9 sl_letters) := hD
    have t0 := Option.some.inj hM
    obtain ⟨q1, t1⟩ := Prod.mk.inj t0
    obtain ⟨q2, t2⟩ := Prod.mk.inj t1
    obtain ⟨q3, t3⟩ := Prod.mk.inj t2
    subst q1
    subst q2
    subst q3
    subst t3
    exact kr _ _ _ _ dX5_init_198 hP hD hS
  · rw [if_neg c_1] at hM
    refine lv_aload_n hx hb dX5_init_182 rfl (lv_at hl 0 rfl) ?_
    refine va_get (D := G) (ci := 5) (v := .int sl_length) (C := RX5) (T := TX5) (N := 5) hx hb hts inX5 hown hK hP 0 rfl rfl 0 (by decide) (hts _ tb123) (fun _ h9 => h9) rfl dX5_init_183 ?_
    refine lv_iconst (v := 1) hx hb dX5_init_186 (by decide) ?_
    refine lv_isub hx hb dX5_init_187 ?_
    refine lv_goto (tgt := 195) hx hb dX5_init_188 (by decide) ?_
    refine va_putF (D := G) (ci := 5) (v := .int (sl_length - (1 : Int32))) (ty := .int) (C := RX5) (T := TX5) (N := 5) hx hb hts inX5 tyX5 tyX5_ok nmX5 hown hK hP hD hS 0 rfl rfl 4 (by decide) (hts _ tb135) (fun _ h9 => h9) rfl hin rfl (tyX5_ok 4 (by decide)) rfl rfl (Nat.le_of_ble_eq_true rfl) dX5_init_195 (fun H locs hP hD hS => ?_)
    have hP : va_P G vwCl (WX5_init K sl_a slA_letters slA_starts arA1 sl_length s1 (sl_length - (1 : Int32)) n1 ar1 sl_starts n9 sl_letters) H := hP
    have hD : va_D A (WX5_init K sl_a slA_letters slA_starts arA1 sl_length s1 (sl_length - (1 : Int32)) n1 ar1 sl_starts n9 sl_letters) := hD
    have t0 := Option.some.inj hM
    obtain ⟨q1, t1⟩ := Prod.mk.inj t0
    obtain ⟨q2, t2⟩ := Prod.mk.inj t1
    obtain ⟨q3, t3⟩ := Prod.mk.inj t2
    subst q1
    subst q2
    subst q3
    subst t3
    exact kr _ _ _ _ dX5_init_198 hP hD hS
set_option maxHeartbeats 4000000 in
set_option maxRecDepth 100000 in
theorem wX5_init_b158 {p : Program} {l : Launch} {e : Env} {s : State} {m : MethodId} {args : Array Value} {below : List Frame} {meth : Method} {c : Code} {Q : State → Prop} {G : va_G} {K : Nat → ClassId} {A : Nat → Prop} {tt : Nat → Nat} {L : List Nat} {la : Nat → Nat} {sa : Nat → Nat} {ln : Nat → Int32} {sy : Nat → Int32} {sn : Nat → Int32} {lt : Nat → Nat → Int32} {st : Nat → Nat → Int32} (C0 : CX p s m args c cX5_init 7 RX5 G K (EC G K tt L la sa ln sy sn lt st) A) (sl_a slA_letters slA_starts arA1 : Nat) (sl_length : Int32) (n1 : Nat) (ar1 : Nat → Int32) (n9 : Nat) (p2 : Int32) (hin : meth.name = "<init>") (o_sl_syllables : Int32) (o_sl_sounding : Int32) (o_sl_starts : Nat → Int32) (o_sl_letters : Nat → Int32) (kr : ∀ (H : Heap) (locs : List Loc) (ls : Array Slot) (pc : Nat), decode cX5_init pc = .ok (.return_, 1) → va_P G vwCl (WX5_init K sl_a slA_letters slA_starts arA1 sl_length o_sl_syllables o_sl_sounding n1 ar1 o_sl_starts n9 o_sl_letters) H → va_D A (WX5_init K sl_a slA_letters slA_starts arA1 sl_length o_sl_syllables o_sl_sounding n1 ar1 o_sl_starts n9 o_sl_letters) → va_S A s.heap H locs → W p l e rmX5_init s m args below meth c H locs 2 12 Q (F0 m pc ls [])) (sl_syllables : Int32) (sl_sounding : Int32) (sl_starts : Nat → Int32) (sl_letters : Nat → Int32) (x3 : Int32) (s0 : Int32) (hM : mX5_init_b158 sl_length n1 ar1 n9 p2  sl_syllables sl_sounding sl_starts sl_letters x3 s0 = some (o_sl_syllables, o_sl_sounding, o_sl_starts, o_sl_letters)) : ∀ (H : Heap) (locs : List Loc) (ls : Array Slot), va_P G vwCl (WX5_init K sl_a slA_letters slA_starts arA1 sl_length sl_syllables sl_sounding n1 ar1 sl_starts n9 sl_letters) H → va_D A (WX5_init K sl_a slA_letters slA_starts arA1 sl_length sl_syllables sl_sounding n1 ar1 sl_starts n9 sl_letters) → va_S A s.heap H locs → lv_has ls 7 [(0, .ref sl_a), (3, .int x3)] → W p l e rmX5_init s m args below meth c H locs 2 12 Q (F0 m 158 ls [.int s0]) := by
  obtain ⟨hx, hb, hml, hown, hts, hK, hA, hEo, hE⟩ := id C0
  intro H locs ls hP hD hS hl
  unfold mX5_init_b158 at hM
  refine lv_istore (lv' := [(5, .int s0), (0, .ref sl_a), (3, .int x3)]) hx hb dX5_init_158 hl (by decide) rfl (fun ls hl => ?_)
  refine lv_aload_n hx hb dX5_init_160 rfl (lv_at hl 1 rfl) ?_
  refine lv_iload hx hb dX5_init_161 (lv_at hl 0 rfl) ?_
  refine lv_if_eq (tgt := 172) hx hb dX5_init_163 (by decide) (fun c_2 => ?_) (fun c_2 => ?_)
  · rw [if_pos c_2] at hM
    refine lv_iload_n hx hb dX5_init_172 rfl (lv_at hl 2 rfl) ?_
    exact wX5_init_b173 C0 sl_a slA_letters slA_starts arA1 sl_length n1 ar1 n9 p2 hin o_sl_syllables o_sl_sounding o_sl_starts o_sl_letters kr  sl_syllables sl_sounding sl_starts sl_letters s0 x3 hM _ _ _ hP hD hS (lv_sub hl [1, 0] rfl)
  · rw [if_neg c_2] at hM
    refine lv_iload_n hx hb dX5_init_166 rfl (lv_at hl 2 rfl) ?_
    refine lv_iconst (v := 1) hx hb dX5_init_167 (by decide) ?_
    refine lv_isub hx hb dX5_init_168 ?_
    refine lv_goto (tgt := 173) hx hb dX5_init_169 (by decide) ?_
    exact wX5_init_b173 C0 sl_a slA_letters slA_starts arA1 sl_length n1 ar1 n9 p2 hin o_sl_syllables o_sl_sounding o_sl_starts o_sl_letters kr  sl_syllables sl_sounding sl_starts sl_letters s0 (x3 - (1 : Int32)) hM _ _ _ hP hD hS (lv_sub hl [1, 0] rfl)
set_option maxHeartbeats 4000000 in
set_option maxRecDepth 100000 in
theorem wX5_init_b157 {p : Program} {l : Launch} {e : Env} {s : State} {m : MethodId} {args : Array Value} {below : List Frame} {meth : Method} {c : Code} {Q : State → Prop} {G : va_G} {K : Nat → ClassId} {A : Nat → Prop} {tt : Nat → Nat} {L : List Nat} {la : Nat → Nat} {sa : Nat → Nat} {ln : Nat → Int32} {sy : Nat → Int32} {sn : Nat → Int32} {lt : Nat → Nat → Int32} {st : Nat → Nat → Int32} (C0 : CX p s m args c cX5_init 7 RX5 G K (EC G K tt L la sa ln sy sn lt st) A) (sl_a slA_letters slA_starts arA1 : Nat) (sl_length : Int32) (n1 : Nat) (ar1 : Nat → Int32) (n9 : Nat) (p2 : Int32) (hin : meth.name = "<init>") (o_sl_syllables : Int32) (o_sl_sounding : Int32) (o_sl_starts : Nat → Int32) (o_sl_letters : Nat → Int32) (kr : ∀ (H : Heap) (locs : List Loc) (ls : Array Slot) (pc : Nat), decode cX5_init pc = .ok (.return_, 1) → va_P G vwCl (WX5_init K sl_a slA_letters slA_starts arA1 sl_length o_sl_syllables o_sl_sounding n1 ar1 o_sl_starts n9 o_sl_letters) H → va_D A (WX5_init K sl_a slA_letters slA_starts arA1 sl_length o_sl_syllables o_sl_sounding n1 ar1 o_sl_starts n9 o_sl_letters) → va_S A s.heap H locs → W p l e rmX5_init s m args below meth c H locs 2 12 Q (F0 m pc ls [])) (sl_syllables : Int32) (sl_sounding : Int32) (sl_starts : Nat → Int32) (sl_letters : Nat → Int32) (x3 : Int32) (hM : mX5_init_b157 sl_length n1 ar1 n9 p2  sl_syllables sl_sounding sl_starts sl_letters x3 = some (o_sl_syllables, o_sl_sounding, o_sl_starts, o_sl_letters)) : ∀ (H : Heap) (locs : List Loc) (ls : Array Slot), va_P G vwCl (WX5_init K sl_a slA_letters slA_starts arA1 sl_length sl_syllables sl_sounding n1 ar1 sl_starts n9 sl_letters) H → va_D A (WX5_init K sl_a slA_letters slA_starts arA1 sl_length sl_syllables sl_sounding n1 ar1 sl_starts n9 sl_letters) → va_S A s.heap H locs → lv_has ls 7 [(0, .ref sl_a), (3, .int x3)] → W p l e rmX5_init s m args below meth c H locs 2 12 Q (F0 m 157 ls []) := by
  obtain ⟨hx, hb, hml, hown, hts, hK, hA, hEo, hE⟩ := id C0
  intro H locs ls hP hD hS hl
  unfold mX5_init_b157 at hM
  refine lv_iconst (v := 0) hx hb dX5_init_157 (by decide) ?_
  exact wX5_init_b158 C0 sl_a slA_letters slA_starts arA1 sl_length n1 ar1 n9 p2 hin o_sl_syllables o_sl_sounding o_sl_starts o_sl_letters kr  sl_syllables sl_sounding sl_starts sl_letters x3 (0 : Int32) hM _ _ _ hP hD hS (lv_sub hl [0, 1] rfl)
set_option maxHeartbeats 4000000 in
set_option maxRecDepth 100000 in
theorem wX5_init_b48 {p : Program} {l : Launch} {e : Env} {s : State} {m : MethodId} {args : Array Value} {below : List Frame} {meth : Method} {c : Code} {Q : State → Prop} {G : va_G} {K : Nat → ClassId} {A : Nat → Prop} {tt : Nat → Nat} {L : List Nat} {la : Nat → Nat} {sa : Nat → Nat} {ln : Nat → Int32} {sy : Nat → Int32} {sn : Nat → Int32} {lt : Nat → Nat → Int32} {st : Nat → Nat → Int32} (C0 : CX p s m args c cX5_init 7 RX5 G K (EC G K tt L la sa ln sy sn lt st) A) (sl_a slA_letters slA_starts arA1 : Nat) (sl_length : Int32) (n1 : Nat) (ar1 : Nat → Int32) (n9 : Nat) (p2 : Int32) (hin : meth.name = "<init>") (o_sl_syllables : Int32) (o_sl_sounding : Int32) (o_sl_starts : Nat → Int32) (o_sl_letters : Nat → Int32) (kr : ∀ (H : Heap) (locs : List Loc) (ls : Array Slot) (pc : Nat), decode cX5_init pc = .ok (.return_, 1) → va_P G vwCl (WX5_init K sl_a slA_letters slA_starts arA1 sl_length o_sl_syllables o_sl_sounding n1 ar1 o_sl_starts n9 o_sl_letters) H → va_D A (WX5_init K sl_a slA_letters slA_starts arA1 sl_length o_sl_syllables o_sl_sounding n1 ar1 o_sl_starts n9 o_sl_letters) → va_S A s.heap H locs → W p l e rmX5_init s m args below meth c H locs 2 12 Q (F0 m pc ls [])) (n : Nat) : ∀ (sl_syllables : Int32) (sl_sounding : Int32) (sl_starts : Nat → Int32) (sl_letters : Nat → Int32) (x3 : Int32) (x4 : Int32) (x5 : Int32), mX5_init_b48 sl_length n1 ar1 n9 p2  n sl_syllables sl_sounding sl_starts sl_letters x3 x4 x5 = some (o_sl_syllables, o_sl_sounding, o_sl_starts, o_sl_letters) → ∀ (H : Heap) (locs : List Loc) (ls : Array Slot), va_P G vwCl (WX5_init K sl_a slA_letters slA_starts arA1 sl_length sl_syllables sl_sounding n1 ar1 sl_starts n9 sl_letters) H → va_D A (WX5_init K sl_a slA_letters slA_starts arA1 sl_length sl_syllables sl_sounding n1 ar1 sl_starts n9 sl_letters) → va_S A s.heap H locs → lv_has ls 7 [(0, .ref sl_a), (1, .ref arA1), (3, .int x3), (4, .int x4), (5, .int x5)] → W p l e rmX5_init s m args below meth c H locs 2 12 Q (F0 m 48 ls []) := by
  obtain ⟨hx, hb, hml, hown, hts, hK, hA, hEo, hE⟩ := id C0
  induction n with
  | zero =>
    intro sl_syllables sl_sounding sl_starts sl_letters x3 x4 x5 hM
    cases hM
  | succ n ih =>
    intro sl_syllables sl_sounding sl_starts sl_letters x3 x4 x5 hM H locs ls hP hD hS hl
    rw [mX5_init_b48] at hM
    refine lv_iload hx hb dX5_init_48 (lv_at hl 4 rfl) ?_
    refine lv_aload_n hx hb dX5_init_50 rfl (lv_at hl 0 rfl) ?_
    refine va_get (D := G) (ci := 5) (v := .int sl_length) (C := RX5) (T := TX5) (N := 5) hx hb hts inX5 hown hK hP 0 rfl rfl 0 (by decide) (hts _ tb123) (fun _ h9 => h9) rfl dX5_init_51 ?_
    refine lv_icmp_ge (tgt := 116) hx hb dX5_init_54 (by decide) (fun c_3 => ?_) (fun c_3 => ?_)
    · rw [if_pos c_3] at hM
      refine lv_iload_n hx hb dX5_init_116 rfl (lv_at hl 2 rfl) ?_
      refine lv_iconst (v := 1) hx hb dX5_init_117 (by decide) ?_
      refine lv_icmp_le (tgt := 157) hx hb dX5_init_118 (by decide) (fun c_4 => ?_) (fun c_4 => ?_)
      · rw [if_pos c_4] at hM
        exact wX5_init_b157 C0 sl_a slA_letters slA_starts arA1 sl_length n1 ar1 n9 p2 hin o_sl_syllables o_sl_sounding o_sl_starts o_sl_letters kr  sl_syllables sl_sounding sl_starts sl_letters x3 hM _ _ _ hP hD hS (lv_sub hl [0, 2] rfl)
      · rw [if_neg c_4] at hM
        refine lv_aload_n hx hb dX5_init_121 rfl (lv_at hl 0 rfl) ?_
        refine va_get (D := G) (ci := 5) (v := .ref slA_letters) (C := RX5) (T := TX5) (N := 5) hx hb hts inX5 hown hK hP 0 rfl rfl 1 (by decide) (hts _ tb126) (fun _ h9 => h9) rfl dX5_init_122 ?_
        refine lv_aload_n hx hb dX5_init_125 rfl (lv_at hl 0 rfl) ?_
        refine va_get (D := G) (ci := 5) (v := .int sl_length) (C := RX5) (T := TX5) (N := 5) hx hb hts inX5 hown hK hP 0 rfl rfl 0 (by decide) (hts _ tb123) (fun _ h9 => h9) rfl dX5_init_126 ?_
        refine lv_iconst (v := 1) hx hb dX5_init_129 (by decide) ?_
        refine lv_isub hx hb dX5_init_130 ?_
        obtain ⟨g_5, hM⟩ := ng hM
        refine va_iald hx hb hK hP 3 0 rfl rfl g_5 dX5_init_131 ?_
        refine lv_iconst (v := 4) hx hb dX5_init_132 (by decide) ?_
        refine lv_icmp_ne (tgt := 157) hx hb dX5_init_133 (by decide) (fun c_6 => ?_) (fun c_6 => ?_)
        · rw [if_neg c_6] at hM
          exact wX5_init_b157 C0 sl_a slA_letters slA_starts arA1 sl_length n1 ar1 n9 p2 hin o_sl_syllables o_sl_sounding o_sl_starts o_sl_letters kr  sl_syllables sl_sounding sl_starts sl_letters x3 hM _ _ _ hP hD hS (lv_sub hl [0, 2] rfl)
        · rw [if_pos c_6] at hM
          refine lv_aload_n hx hb dX5_init_136 rfl (lv_at hl 0 rfl) ?_
          refine va_get (D := G) (ci := 5) (v := .ref slA_starts) (C := RX5) (T := TX5) (N := 5) hx hb hts inX5 hown hK hP 0 rfl rfl 3 (by decide) (hts _ tb133) (fun _ h9 => h9) rfl dX5_init_137 ?_
          refine lv_iload_n hx hb dX5_init_140 rfl (lv_at hl 2 rfl) ?_
          refine lv_iconst (v := 1) hx hb dX5_init_141 (by decide) ?_
          refine lv_isub hx hb dX5_init_142 ?_
          obtain ⟨g_7, hM⟩ := ng hM
          refine va_iald hx hb hK hP 2 0 rfl rfl g_7 dX5_init_143 ?_
          refine lv_aload_n hx hb dX5_init_144 rfl (lv_at hl 0 rfl) ?_
          refine va_get (D := G) (ci := 5) (v := .int sl_length) (C := RX5) (T := TX5) (N := 5) hx hb hts inX5 hown hK hP 0 rfl rfl 0 (by decide) (hts _ tb123) (fun _ h9 => h9) rfl dX5_init_145 ?_
          refine lv_iconst (v := 1) hx hb dX5_init_148 (by decide) ?_
          refine lv_isub hx hb dX5_init_149 ?_
          refine lv_icmp_ne (tgt := 157) hx hb dX5_init_150 (by decide) (fun c_8 => ?_) (fun c_8 => ?_)
          · rw [if_neg c_8] at hM
            exact wX5_init_b157 C0 sl_a slA_letters slA_starts arA1 sl_length n1 ar1 n9 p2 hin o_sl_syllables o_sl_sounding o_sl_starts o_sl_letters kr  sl_syllables sl_sounding sl_starts sl_letters x3 hM _ _ _ hP hD hS (lv_sub hl [0, 2] rfl)
          · rw [if_pos c_8] at hM
            refine lv_iconst (v := 1) hx hb dX5_init_153 (by decide) ?_
            refine lv_goto (tgt := 158) hx hb dX5_init_154 (by decide) ?_
            exact wX5_init_b158 C0 sl_a slA_letters slA_starts arA1 sl_length n1 ar1 n9 p2 hin o_sl_syllables o_sl_sounding o_sl_starts o_sl_letters kr  sl_syllables sl_sounding sl_starts sl_letters x3 (1 : Int32) hM _ _ _ hP hD hS (lv_sub hl [0, 2] rfl)
    · rw [if_neg c_3] at hM
      refine lv_aload_n hx hb dX5_init_57 rfl (lv_at hl 0 rfl) ?_
      refine va_get (D := G) (ci := 5) (v := .ref slA_letters) (C := RX5) (T := TX5) (N := 5) hx hb hts inX5 hown hK hP 0 rfl rfl 1 (by decide) (hts _ tb126) (fun _ h9 => h9) rfl dX5_init_58 ?_
      refine lv_iload hx hb dX5_init_61 (lv_at hl 4 rfl) ?_
      refine lv_aload_n hx hb dX5_init_63 rfl (lv_at hl 1 rfl) ?_
      refine lv_iload hx hb dX5_init_64 (lv_at hl 4 rfl) ?_
      obtain ⟨g_9, hM⟩ := ng hM
      refine va_iald hx hb hK hP 1 0 rfl rfl g_9 dX5_init_66 ?_
      obtain ⟨g_10, hM⟩ := ng hM
      refine va_iast hx hb hK hP hD hS 3 0 rfl rfl g_10 dX5_init_67 (fun H locs hP hD hS => ?_)
      have hP : va_P G vwCl (WX5_init K sl_a slA_letters slA_starts arA1 sl_length sl_syllables sl_sounding n1 ar1 sl_starts n9 (upd sl_letters x5.toNatClampNeg (ar1 x5.toNatClampNeg))) H := hP
      have hD : va_D A (WX5_init K sl_a slA_letters slA_starts arA1 sl_length sl_syllables sl_sounding n1 ar1 sl_starts n9 (upd sl_letters x5.toNatClampNeg (ar1 x5.toNatClampNeg))) := hD
      refine lv_aload_n hx hb dX5_init_68 rfl (lv_at hl 0 rfl) ?_
      refine va_get (D := G) (ci := 5) (v := .ref slA_letters) (C := RX5) (T := TX5) (N := 5) hx hb hts inX5 hown hK hP 0 rfl rfl 1 (by decide) (hts _ tb126) (fun _ h9 => h9) rfl dX5_init_69 ?_
      refine lv_iload hx hb dX5_init_72 (lv_at hl 4 rfl) ?_
      obtain ⟨g_11, hM⟩ := ng hM
      refine va_iald hx hb hK hP 3 0 rfl rfl g_11 dX5_init_74 ?_
      obtain ⟨r_12, hC, hM⟩ := oe1 hM
      refine cN_i (As := [.int ((upd sl_letters x5.toNatClampNeg (ar1 x5.toNatClampNeg)) x5.toNatClampNeg)]) (rest := []) C0 hP hD hS [] (kX6_isVowel l G K tt L la sa ln sy sn lt st ((upd sl_letters x5.toNatClampNeg (ar1 x5.toNatClampNeg)) x5.toNatClampNeg) H.size r_12 hC) rfl rfl rfl (nw119 hE.2.2.2) tb120 tb1 tb121 hdX6_isVowel ⟨Nat.le_of_ble_eq_true rfl, Nat.le_of_ble_eq_true rfl⟩ rfl hl.1 (Nat.le_of_ble_eq_true rfl) rfl ⟨Nat.le_refl _, Nat.le_refl _⟩ dX5_init_75 (fun H locs hP hD hS => ?_)
      have hP : va_P G vwCl (WX5_init K sl_a slA_letters slA_starts arA1 sl_length sl_syllables sl_sounding n1 ar1 sl_starts n9 (upd sl_letters x5.toNatClampNeg (ar1 x5.toNatClampNeg))) H := hP
      have hD : va_D A (WX5_init K sl_a slA_letters slA_starts arA1 sl_length sl_syllables sl_sounding n1 ar1 sl_starts n9 (upd sl_letters x5.toNatClampNeg (ar1 x5.toNatClampNeg))) := hD
      refine lv_istore (lv' := [(6, .int r_12), (0, .ref sl_a), (1, .ref arA1), (3, .int x3), (4, .int x4), (5, .int x5)]) hx hb dX5_init_78 hl (by decide) rfl (fun ls hl => ?_)
      refine lv_iload hx hb dX5_init_80 (lv_at hl 0 rfl) ?_
      refine lv_if_eq (tgt := 106) hx hb dX5_init_82 (by decide) (fun c_13 => ?_) (fun c_13 => ?_)
      · rw [if_pos c_13] at hM
        refine lv_iload hx hb dX5_init_106 (lv_at hl 0 rfl) ?_
        refine lv_istore (lv' := [(4, .int r_12), (6, .int r_12), (0, .ref sl_a), (1, .ref arA1), (3, .int x3), (5, .int x5)]) hx hb dX5_init_108 hl (by decide) rfl (fun ls hl => ?_)
        refine lv_iinc (v := (x5 + 1)) (lv' := [(5, .int (x5 + 1)), (4, .int r_12), (6, .int r_12), (0, .ref sl_a), (1, .ref arA1), (3, .int x3)]) hx hb dX5_init_110 hl (k := 5) rfl rfl (by decide) rfl (fun ls hl => ?_)
        refine lv_goto (tgt := 48) hx hb dX5_init_113 (by decide) ?_
        exact ih sl_syllables sl_sounding sl_starts (upd sl_letters x5.toNatClampNeg (ar1 x5.toNatClampNeg)) x3 r_12 (x5 + 1) hM _ _ _ hP hD hS (lv_sub hl [3, 4, 5, 1, 0] rfl)
      · rw [if_neg c_13] at hM
        refine lv_iload hx hb dX5_init_85 (lv_at hl 4 rfl) ?_
        refine lv_if_ne (tgt := 106) hx hb dX5_init_87 (by decide) (fun c_14 => ?_) (fun c_14 => ?_)
        · rw [if_neg c_14] at hM
          refine lv_iload hx hb dX5_init_106 (lv_at hl 0 rfl) ?_
          refine lv_istore (lv' := [(4, .int r_12), (6, .int r_12), (0, .ref sl_a), (1, .ref arA1), (3, .int x3), (5, .int x5)]) hx hb dX5_init_108 hl (by decide) rfl (fun ls hl => ?_)
          refine lv_iinc (v := (x5 + 1)) (lv' := [(5, .int (x5 + 1)), (4, .int r_12), (6, .int r_12), (0, .ref sl_a), (1, .ref arA1), (3, .int x3)]) hx hb dX5_init_110 hl (k := 5) rfl rfl (by decide) rfl (fun ls hl => ?_)
          refine lv_goto (tgt := 48) hx hb dX5_init_113 (by decide) ?_
          exact ih sl_syllables sl_sounding sl_starts (upd sl_letters x5.toNatClampNeg (ar1 x5.toNatClampNeg)) x3 r_12 (x5 + 1) hM _ _ _ hP hD hS (lv_sub hl [3, 4, 5, 1, 0] rfl)
        · rw [if_pos c_14] at hM
          refine lv_iload_n hx hb dX5_init_90 rfl (lv_at hl 3 rfl) ?_
          refine lv_iconst (v := 4) hx hb dX5_init_91 (by decide) ?_
          refine lv_icmp_ge (tgt := 106) hx hb dX5_init_92 (by decide) (fun c_15 => ?_) (fun c_15 => ?_)
          · rw [if_pos c_15] at hM
            refine lv_iload hx hb dX5_init_106 (lv_at hl 0 rfl) ?_
            refine lv_istore (lv' := [(4, .int r_12), (6, .int r_12), (0, .ref sl_a), (1, .ref arA1), (3, .int x3), (5, .int x5)]) hx hb dX5_init_108 hl (by decide) rfl (fun ls hl => ?_)
            refine lv_iinc (v := (x5 + 1)) (lv' := [(5, .int (x5 + 1)), (4, .int r_12), (6, .int r_12), (0, .ref sl_a), (1, .ref arA1), (3, .int x3)]) hx hb dX5_init_110 hl (k := 5) rfl rfl (by decide) rfl (fun ls hl => ?_)
            refine lv_goto (tgt := 48) hx hb dX5_init_113 (by decide) ?_
            exact ih sl_syllables sl_sounding sl_starts (upd sl_letters x5.toNatClampNeg (ar1 x5.toNatClampNeg)) x3 r_12 (x5 + 1) hM _ _ _ hP hD hS (lv_sub hl [3, 4, 5, 1, 0] rfl)
          · rw [if_neg c_15] at hM
            refine lv_aload_n hx hb dX5_init_95 rfl (lv_at hl 1 rfl) ?_
            refine va_get (D := G) (ci := 5) (v := .ref slA_starts) (C := RX5) (T := TX5) (N := 5) hx hb hts inX5 hown hK hP 0 rfl rfl 3 (by decide) (hts _ tb133) (fun _ h9 => h9) rfl dX5_init_96 ?_
            refine lv_iload_n hx hb dX5_init_99 rfl (lv_at hl 3 rfl) ?_
            refine lv_iload hx hb dX5_init_100 (lv_at hl 5 rfl) ?_
            obtain ⟨g_16, hM⟩ := ng hM
            refine va_iast hx hb hK hP hD hS 2 0 rfl rfl g_16 dX5_init_102 (fun H locs hP hD hS => ?_)
            have hP : va_P G vwCl (WX5_init K sl_a slA_letters slA_starts arA1 sl_length sl_syllables sl_sounding n1 ar1 (upd sl_starts x3.toNatClampNeg x5) n9 (upd sl_letters x5.toNatClampNeg (ar1 x5.toNatClampNeg))) H := hP
            have hD : va_D A (WX5_init K sl_a slA_letters slA_starts arA1 sl_length sl_syllables sl_sounding n1 ar1 (upd sl_starts x3.toNatClampNeg x5) n9 (upd sl_letters x5.toNatClampNeg (ar1 x5.toNatClampNeg))) := hD
            refine lv_iinc (v := (x3 + 1)) (lv' := [(3, .int (x3 + 1)), (6, .int r_12), (0, .ref sl_a), (1, .ref arA1), (4, .int x4), (5, .int x5)]) hx hb dX5_init_103 hl (k := 3) rfl rfl (by decide) rfl (fun ls hl => ?_)
            refine lv_iload hx hb dX5_init_106 (lv_at hl 1 rfl) ?_
            refine lv_istore (lv' := [(4, .int r_12), (3, .int (x3 + 1)), (6, .int r_12), (0, .ref sl_a), (1, .ref arA1), (5, .int x5)]) hx hb dX5_init_108 hl (by decide) rfl (fun ls hl => ?_)
            refine lv_iinc (v := (x5 + 1)) (lv' := [(5, .int (x5 + 1)), (4, .int r_12), (3, .int (x3 + 1)), (6, .int r_12), (0, .ref sl_a), (1, .ref arA1)]) hx hb dX5_init_110 hl (k := 5) rfl rfl (by decide) rfl (fun ls hl => ?_)
            refine lv_goto (tgt := 48) hx hb dX5_init_113 (by decide) ?_
            exact ih sl_syllables sl_sounding (upd sl_starts x3.toNatClampNeg x5) (upd sl_letters x5.toNatClampNeg (ar1 x5.toNatClampNeg)) (x3 + 1) r_12 (x5 + 1) hM _ _ _ hP hD hS (lv_sub hl [4, 5, 2, 1, 0] rfl)
set_option maxHeartbeats 4000000 in
set_option maxRecDepth 100000 in
theorem wX5_init_b40 {p : Program} {l : Launch} {e : Env} {s : State} {m : MethodId} {args : Array Value} {below : List Frame} {meth : Method} {c : Code} {Q : State → Prop} {G : va_G} {K : Nat → ClassId} {A : Nat → Prop} {tt : Nat → Nat} {L : List Nat} {la : Nat → Nat} {sa : Nat → Nat} {ln : Nat → Int32} {sy : Nat → Int32} {sn : Nat → Int32} {lt : Nat → Nat → Int32} {st : Nat → Nat → Int32} (C0 : CX p s m args c cX5_init 7 RX5 G K (EC G K tt L la sa ln sy sn lt st) A) (sl_a slA_letters slA_starts arA1 : Nat) (sl_length : Int32) (n1 : Nat) (ar1 : Nat → Int32) (n9 : Nat) (p2 : Int32) (hin : meth.name = "<init>") (o_sl_syllables : Int32) (o_sl_sounding : Int32) (o_sl_starts : Nat → Int32) (o_sl_letters : Nat → Int32) (kr : ∀ (H : Heap) (locs : List Loc) (ls : Array Slot) (pc : Nat), decode cX5_init pc = .ok (.return_, 1) → va_P G vwCl (WX5_init K sl_a slA_letters slA_starts arA1 sl_length o_sl_syllables o_sl_sounding n1 ar1 o_sl_starts n9 o_sl_letters) H → va_D A (WX5_init K sl_a slA_letters slA_starts arA1 sl_length o_sl_syllables o_sl_sounding n1 ar1 o_sl_starts n9 o_sl_letters) → va_S A s.heap H locs → W p l e rmX5_init s m args below meth c H locs 2 12 Q (F0 m pc ls [])) (sl_syllables : Int32) (sl_sounding : Int32) (sl_starts : Nat → Int32) (sl_letters : Nat → Int32) (hM : mX5_init_b40 sl_length n1 ar1 n9 p2  sl_syllables sl_sounding sl_starts sl_letters = some (o_sl_syllables, o_sl_sounding, o_sl_starts, o_sl_letters)) : ∀ (H : Heap) (locs : List Loc) (ls : Array Slot), va_P G vwCl (WX5_init K sl_a slA_letters slA_starts arA1 sl_length sl_syllables sl_sounding n1 ar1 sl_starts n9 sl_letters) H → va_D A (WX5_init K sl_a slA_letters slA_starts arA1 sl_length sl_syllables sl_sounding n1 ar1 sl_starts n9 sl_letters) → va_S A s.heap H locs → lv_has ls 7 [(0, .ref sl_a), (1, .ref arA1), (2, .int p2)] → W p l e rmX5_init s m args below meth c H locs 2 12 Q (F0 m 40 ls []) := by
  obtain ⟨hx, hb, hml, hown, hts, hK, hA, hEo, hE⟩ := id C0
  intro H locs ls hP hD hS hl
  unfold mX5_init_b40 at hM
  refine lv_iconst (v := 0) hx hb dX5_init_40 (by decide) ?_
  refine lv_istore_n (lv' := [(3, .int (0 : Int32)), (0, .ref sl_a), (1, .ref arA1), (2, .int p2)]) hx hb dX5_init_41 rfl hl (by decide) rfl (fun ls hl => ?_)
  refine lv_iconst (v := 0) hx hb dX5_init_42 (by decide) ?_
  refine lv_istore (lv' := [(4, .int (0 : Int32)), (3, .int (0 : Int32)), (0, .ref sl_a), (1, .ref arA1), (2, .int p2)]) hx hb dX5_init_43 hl (by decide) rfl (fun ls hl => ?_)
  refine lv_iconst (v := 0) hx hb dX5_init_45 (by decide) ?_
  refine lv_istore (lv' := [(5, .int (0 : Int32)), (4, .int (0 : Int32)), (3, .int (0 : Int32)), (0, .ref sl_a), (1, .ref arA1), (2, .int p2)]) hx hb dX5_init_46 hl (by decide) rfl (fun ls hl => ?_)
  exact wX5_init_b48 C0 sl_a slA_letters slA_starts arA1 sl_length n1 ar1 n9 p2 hin o_sl_syllables o_sl_sounding o_sl_starts o_sl_letters kr  FU sl_syllables sl_sounding sl_starts sl_letters (0 : Int32) (0 : Int32) (0 : Int32) hM _ _ _ hP hD hS (lv_sub hl [3, 4, 2, 1, 0] rfl)
set_option maxHeartbeats 40000000 in
set_option maxRecDepth 100000 in
theorem kX5_init (l : Launch) (G : va_G) (K : Nat → ClassId) (tt : Nat → Nat) (L : List Nat) (la : Nat → Nat) (sa : Nat → Nat) (ln : Nat → Int32) (sy : Nat → Int32) (sn : Nat → Int32) (lt : Nat → Nat → Int32) (st : Nat → Nat → Int32) (sl_a arA1 : Nat) (n1 : Nat) (ar1 : Nat → Int32) (p2 : Int32) (sz : Nat) (o_sl_syllables o_sl_sounding : Int32) (o_sl_starts o_sl_letters : Nat → Int32) (hM : mX5_init_b40 (spl_len n1 p2) n1 ar1 (spl_len n1 p2).toNatClampNeg p2 0 0 (fun _ => 0) (fun _ => 0) = some (o_sl_syllables, o_sl_sounding, o_sl_starts, o_sl_letters)) : Met l yX5_init (mC yX5_init cX5_init 7 none) rmX5_init (va_Pc [.ref sl_a, .ref arA1, .int p2] (PCe G K (EC G K tt L la sa ln sy sn lt st) [(sl_a, .inr (5, [.int 0, .null, .int 0, .null, .int 0])), aI K arA1 n1 ar1] sz)) (va_Qv (fun (_ : Nat → Nat) => True) (fun u t => va_P G vwCl ([(sl_a, .inr (5, [.int (spl_len n1 p2), .ref (u 1), .int o_sl_syllables, .ref (u 0), .int o_sl_sounding])), aI K arA1 n1 ar1] ++ [aI K (u 0) 4 o_sl_starts, aI K (u 1) (spl_len n1 p2).toNatClampNeg o_sl_letters]) t.heap ∧ va_D (va_A [(sl_a, .inr (5, [.int 0, .null, .int 0, .null, .int 0])), aI K arA1 n1 ar1] sz) ([(sl_a, .inr (5, [.int (spl_len n1 p2), .ref (u 1), .int o_sl_syllables, .ref (u 0), .int o_sl_sounding])), aI K arA1 n1 ar1] ++ [aI K (u 0) 4 o_sl_starts, aI K (u 1) (spl_len n1 p2).toNatClampNeg o_sl_letters])) (va_A [(sl_a, .inr (5, [.int 0, .null, .int 0, .null, .int 0])), aI K arA1 n1 ar1] sz)) rmX5_init.cells rmX5_init.slots (va_A [(sl_a, .inr (5, [.int 0, .null, .int 0, .null, .int 0])), aI K arA1 n1 ar1] sz) := by
  refine Met.ofW (cc := cX5_init) (maxL := 7) (ret := none) (by decide) rfl ?_
  intro p e s m args below meth c s₁ B hml hv
  obtain ⟨rfl, hsz, hP, hK, hD0, hE⟩ := hv
  have hx := B.exec
  have hb := B.bytes
  have hr := B.returns
  have hts0 := atoms_spec (ws := mC yX5_init cX5_init 7 none) B.pre
  have hts : ∀ w ∈ tbG, w.before _ s = true := fun w h => hts0 w (List.mem_cons_of_mem _ h)
  have hown : s.vm.findClass RX5 = some m.cls := findClass_of_methodNamed B.named
  have hin : meth.name = "<init>" := (name_of_methodNamed B.named B.method).1
  subst hsz
  have hD := hD0.self (sz := s.heap.size)
  generalize hAe : va_A [(sl_a, .inr (5, [.int 0, .null, .int 0, .null, .int 0])), aI K arA1 n1 ar1] s.heap.size = A at hD hE ⊢
  have hA : ∀ q : Nat, s.heap.size ≤ q → A q := fun q h => by rw [← hAe]; exact Or.inr h
  have hS : va_S A s.heap s.heap [] := va_S.rf
  have hl := lv_entry ([.ref sl_a, .ref arA1, .int p2]) (n := 7) (Nat.le_of_ble_eq_true rfl)
  rw [lg_entry_eq]
  generalize (lg_sl ([.ref sl_a, .ref arA1, .int p2]) ++ List.replicate (7 - (lg_sl ([.ref sl_a, .ref arA1, .int p2])).length) Slot.unset).toArray = ls at hl ⊢
  have hl : lv_has ls 7 [(0, .ref sl_a), (1, .ref arA1), (2, .int p2)] := hl
  have C0 : CX p s m _ c cX5_init 7 RX5 G K (EC G K tt L la sa ln sy sn lt st) A := ⟨hx, hb, hml, hown, hts, hK, hA, EC_ok _ _ _ _ _ _ _ _ _ _ _, hE⟩
  refine lv_aload_n hx hb dX5_init_0 rfl (lv_at hl 0 rfl) ?_
  refine W.objInit hx hb hown (hts _ tb112) (hts _ tb18) (hts _ tb19) rfl (by rw [hml]; exact hl.1) rfl dX5_init_1 (Nat.le_of_ble_eq_true rfl) (Nat.le_of_ble_eq_true rfl) ?_
  refine W.eq (g2 := F0 m 4 ls []) rfl ?_
  refine lv_aload_n hx hb dX5_init_4 rfl (lv_at hl 0 rfl) ?_
  refine lv_iconst (v := 4) hx hb dX5_init_5 (by decide) ?_
  refine va_newa (atype := .int) (ty := .int) (a0 := (4, .inl (fun _ => 0))) (N' := 4) hx hb (hts _ tb51) rfl hK hP hD hS hA (fun _ => rfl) (by decide) (by decide) (by decide) (Nat.le_of_ble_eq_true rfl) (Nat.le_of_ble_eq_true rfl) dX5_init_6 (fun q1 cA H hK2 hP hD hS => ?_)
  have eA := vn_ci hK hK2
  subst eA
  have hP : va_P G vwCl [(sl_a, .inr (5, [.int 0, .null, .int 0, .null, .int 0])), aI K arA1 n1 ar1, aI K q1 4 (fun _ => 0)] H := hP
  have hD : va_D A [(sl_a, .inr (5, [.int 0, .null, .int 0, .null, .int 0])), aI K arA1 n1 ar1, aI K q1 4 (fun _ => 0)] := hD
  refine va_putF (D := G) (ci := 5) (v := .ref q1) (ty := tyX5 3) (C := RX5) (T := TX5) (N := 5) hx hb hts inX5 tyX5 tyX5_ok nmX5 hown hK hP hD hS 0 rfl rfl 3 (by decide) (hts _ tb133) (fun _ h9 => h9) rfl hin rfl (tyX5_ok 3 (by decide)) rfl rfl (Nat.le_of_ble_eq_true rfl) dX5_init_8 (fun H locs hP hD hS => ?_)
  have hP : va_P G vwCl [(sl_a, .inr (5, [.int 0, .null, .int 0, .ref q1, .int 0])), aI K arA1 n1 ar1, aI K q1 4 (fun _ => 0)] H := hP
  have hD : va_D A [(sl_a, .inr (5, [.int 0, .null, .int 0, .ref q1, .int 0])), aI K arA1 n1 ar1, aI K q1 4 (fun _ => 0)] := hD
  refine lv_aload_n hx hb dX5_init_11 rfl (lv_at hl 0 rfl) ?_
  refine lv_iconst (v := 0) hx hb dX5_init_12 (by decide) ?_
  refine lv_iload_n hx hb dX5_init_13 rfl (lv_at hl 2 rfl) ?_
  refine lv_bipush (v := 8) hx hb dX5_init_14 (by decide) ?_
  refine va_mmin hx hb (hml.trans hl.1.symm) hown (hts _ tb113) (hts _ tb114) (hts _ tb5) (hts _ tb115) (Nat.le_of_ble_eq_true rfl) (Nat.le_of_ble_eq_true rfl) (Nat.le_of_ble_eq_true rfl) (Nat.le_of_ble_eq_true rfl) dX5_init_16 ?_
  refine lv_aload_n hx hb dX5_init_19 rfl (lv_at hl 1 rfl) ?_
  refine va_alen hx hb hK hP 1 0 rfl rfl (v := nI n1) rfl dX5_init_20 ?_
  refine va_mmin hx hb (hml.trans hl.1.symm) hown (hts _ tb113) (hts _ tb114) (hts _ tb5) (hts _ tb115) (Nat.le_of_ble_eq_true rfl) (Nat.le_of_ble_eq_true rfl) (Nat.le_of_ble_eq_true rfl) (Nat.le_of_ble_eq_true rfl) dX5_init_21 ?_
  refine va_mmax hx hb (hml.trans hl.1.symm) hown (hts _ tb116) (hts _ tb117) (hts _ tb5) (hts _ tb118) (Nat.le_of_ble_eq_true rfl) (Nat.le_of_ble_eq_true rfl) (Nat.le_of_ble_eq_true rfl) (Nat.le_of_ble_eq_true rfl) dX5_init_24 ?_
  refine lv_topi (fun len elen => ?_)
  have elen : len = spl_len n1 p2 := elen
  have hlen0 : ¬ len < 0 := by rw [elen]; exact (spl_ok n1 p2).1
  have hlen8 : len.toNatClampNeg ≤ 8 := by rw [elen]; exact (spl_ok n1 p2).2
  refine va_putF (D := G) (ci := 5) (v := .int len) (ty := tyX5 0) (C := RX5) (T := TX5) (N := 5) hx hb hts inX5 tyX5 tyX5_ok nmX5 hown hK hP hD hS 0 rfl rfl 0 (by decide) (hts _ tb123) (fun _ h9 => h9) rfl hin rfl (tyX5_ok 0 (by decide)) rfl rfl (Nat.le_of_ble_eq_true rfl) dX5_init_27 (fun H locs hP hD hS => ?_)
  have hP : va_P G vwCl [(sl_a, .inr (5, [.int len, .null, .int 0, .ref q1, .int 0])), aI K arA1 n1 ar1, aI K q1 4 (fun _ => 0)] H := hP
  have hD : va_D A [(sl_a, .inr (5, [.int len, .null, .int 0, .ref q1, .int 0])), aI K arA1 n1 ar1, aI K q1 4 (fun _ => 0)] := hD
  refine lv_aload_n hx hb dX5_init_30 rfl (lv_at hl 0 rfl) ?_
  refine lv_aload_n hx hb dX5_init_31 rfl (lv_at hl 0 rfl) ?_
  refine va_get (D := G) (ci := 5) (v := .int len) (C := RX5) (T := TX5) (N := 5) hx hb hts inX5 hown hK hP 0 rfl rfl 0 (by decide) (hts _ tb123) (fun _ h9 => h9) rfl dX5_init_32 ?_
  refine va_newa (atype := .int) (ty := .int) (a0 := (len.toNatClampNeg, .inl (fun _ => 0))) (N' := len.toNatClampNeg) hx hb (hts _ tb51) rfl hK hP hD hS hA (fun _ => rfl) hlen0 rfl (by have := hlen8; show _ * 4 ≤ _; omega) (Nat.le_of_ble_eq_true rfl) (by have := hlen8; show _ + _ ≤ 12; omega) dX5_init_35 (fun q2 cA H hK2 hP hD hS => ?_)
  have eA := vn_ci hK hK2
  subst eA
  have hP : va_P G vwCl [(sl_a, .inr (5, [.int len, .null, .int 0, .ref q1, .int 0])), aI K arA1 n1 ar1, aI K q1 4 (fun _ => 0), aI K q2 len.toNatClampNeg (fun _ => 0)] H := hP
  have hD : va_D A [(sl_a, .inr (5, [.int len, .null, .int 0, .ref q1, .int 0])), aI K arA1 n1 ar1, aI K q1 4 (fun _ => 0), aI K q2 len.toNatClampNeg (fun _ => 0)] := hD
  refine W.widen (k := 2) (n := 12) (by omega) (by have := hlen8; omega) ?_
  refine va_putF (D := G) (ci := 5) (v := .ref q2) (ty := tyX5 1) (C := RX5) (T := TX5) (N := 5) hx hb hts inX5 tyX5 tyX5_ok nmX5 hown hK hP hD hS 0 rfl rfl 1 (by decide) (hts _ tb126) (fun _ h9 => h9) rfl hin rfl (tyX5_ok 1 (by decide)) rfl rfl (Nat.le_of_ble_eq_true rfl) dX5_init_37 (fun H locs hP hD hS => ?_)
  have hP : va_P G vwCl [(sl_a, .inr (5, [.int len, .ref q2, .int 0, .ref q1, .int 0])), aI K arA1 n1 ar1, aI K q1 4 (fun _ => 0), aI K q2 len.toNatClampNeg (fun _ => 0)] H := hP
  have hD : va_D A [(sl_a, .inr (5, [.int len, .ref q2, .int 0, .ref q1, .int 0])), aI K arA1 n1 ar1, aI K q1 4 (fun _ => 0), aI K q2 len.toNatClampNeg (fun _ => 0)] := hD
  subst elen
  exact wX5_init_b40 C0 sl_a q2 q1 arA1 (spl_len n1 p2) n1 ar1 (spl_len n1 p2).toNatClampNeg p2 hin o_sl_syllables o_sl_sounding o_sl_starts o_sl_letters (fun H locs ls pc hdg hP hD hS => W.vret hx hb hr (fun t ht hW => ⟨⟨(fun j => ([q1, q2] : List Nat).getD j 0), rfl, trivial, (show va_P G vwCl _ t.heap by rw [ht]; exact hP), hD⟩, hS.F ht⟩) hS.2.2 hdg) 0 0 (fun _ => 0) (fun _ => 0) hM _ _ _ hP hD hS hl
