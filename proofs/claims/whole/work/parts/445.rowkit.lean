theorem wy_o {pre X : va_W} {K : Nat → ClassId} {ra rb : Nat → Nat} {lane rsz : Nat → Int32} {item : Nat → Nat → Int32} {len i : Nat} (hl : pre.length = len) (hi : i < 8) : ((pre ++ wrs K ra rb lane rsz item) ++ X)[len + i]? = some (ra i, .inr (4, [.ref (rb i), .int (lane i), .int (rsz i)])) := ap_l (wr_o hl hi)
theorem wy_i {pre X : va_W} {K : Nat → ClassId} {ra rb : Nat → Nat} {lane rsz : Nat → Int32} {item : Nat → Nat → Int32} {len i : Nat} (hl : pre.length = len) (hi : i < 8) : ((pre ++ wrs K ra rb lane rsz item) ++ X)[len + (8 + i)]? = some (aI K (rb i) 40 (item i)) := ap_l (wr_i hl hi)
theorem wy_hC {pre X : va_W} {K : Nat → ClassId} {ra rb : Nat → Nat} {lane rsz : Nat → Int32} {item : Nat → Nat → Int32} {len i : Nat} (hl : pre.length = len) (hi : i < 8) {sp : List Nat} {wsS : va_W} (h : sp.map (fun k => ((pre ++ wrs K ra rb lane rsz item) ++ X)[k]?) = wsS.map some) : (sp ++ [len + i, len + (8 + i)]).map (fun k => ((pre ++ wrs K ra rb lane rsz item) ++ X)[k]?) = (wsS ++ [(ra i, .inr (4, [.ref (rb i), .int (lane i), .int (rsz i)])), aI K (rb i) 40 (item i)]).map some := by
  rw [List.map_append, List.map_append, h]
  simp only [List.map_cons, List.map_nil]
  rw [wy_o hl hi, wy_i hl hi]
theorem wy_hC1 {pre X : va_W} {K : Nat → ClassId} {ra rb : Nat → Nat} {lane rsz : Nat → Int32} {item : Nat → Nat → Int32} {len i : Nat} (hl : pre.length = len) (hi : i < 8) : [len + (8 + i)].map (fun k => ((pre ++ wrs K ra rb lane rsz item) ++ X)[k]?) = [aI K (rb i) 40 (item i)].map some := by
  simp only [List.map_cons, List.map_nil]
  rw [wy_i hl hi]
theorem wy_keep2 {pre X : va_W} {K : Nat → ClassId} {ra rb : Nat → Nat} {lane rsz : Nat → Int32} {item : Nat → Nat → Int32} {len i : Nat} (hl : pre.length = len) (hi : i < 8) : vz_set ((pre ++ wrs K ra rb lane rsz item) ++ X) [len + i, len + (8 + i)] [(ra i, .inr (4, [.ref (rb i), .int (lane i), .int (rsz i)])), aI K (rb i) 40 (item i)] = ((pre ++ wrs K ra rb lane rsz item) ++ X) := vz_id _ _ _ (by
  simp only [List.map_cons, List.map_nil]
  rw [wy_o hl hi, wy_i hl hi])
theorem wy_keep1 {pre X : va_W} {K : Nat → ClassId} {ra rb : Nat → Nat} {lane rsz : Nat → Int32} {item : Nat → Nat → Int32} {len i : Nat} (hl : pre.length = len) (hi : i < 8) : vz_set ((pre ++ wrs K ra rb lane rsz item) ++ X) [len + (8 + i)] [aI K (rb i) 40 (item i)] = ((pre ++ wrs K ra rb lane rsz item) ++ X) := vz_id _ _ _ (wy_hC1 hl hi)
theorem wy_hC0 {pre X : va_W} {K : Nat → ClassId} {ra rb : Nat → Nat} {lane rsz : Nat → Int32} {item : Nat → Nat → Int32} {len i : Nat} (hl : pre.length = len) (hi : i < 8) {c : Nat × va_E} : [0, len + (8 + i) + 1].map (fun k => (c :: ((pre ++ wrs K ra rb lane rsz item) ++ X))[k]?) = [c, aI K (rb i) 40 (item i)].map some := by
  simp only [List.map_cons, List.map_nil, List.getElem?_cons_succ, List.getElem?_cons_zero]
  rw [wy_i hl hi]
theorem wy_init {pre X : va_W} {K : Nat → ClassId} {ra rb : Nat → Nat} {lane rsz : Nat → Int32} {item : Nat → Nat → Int32} {len i : Nat} (hl : pre.length = len) (hi : i < 8) {c c2 : Nat × va_E} : vz_set (c :: ((pre ++ wrs K ra rb lane rsz item) ++ X)) [0, len + (8 + i) + 1] [c2, aI K (rb i) 40 (item i)] = c2 :: ((pre ++ wrs K ra rb lane rsz item) ++ X) := by
  show vz_set (c2 :: ((pre ++ wrs K ra rb lane rsz item) ++ X).set (len + (8 + i)) (aI K (rb i) 40 (item i))) [] [] = _
  have e := wy_keep1 (pre := pre) (X := X) (K := K) (ra := ra) (rb := rb) (lane := lane) (rsz := rsz) (item := item) hl hi
  have e2 : ((pre ++ wrs K ra rb lane rsz item) ++ X).set (len + (8 + i)) (aI K (rb i) 40 (item i)) = ((pre ++ wrs K ra rb lane rsz item) ++ X) := e
  rw [e2]
  rfl
