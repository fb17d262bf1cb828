abbrev wrs (K : Nat → ClassId) (ra rb : Nat → Nat) (lane rsz : Nat → Int32) (item : Nat → Nat → Int32) : va_W := [(ra 0, .inr (4, [.ref (rb 0), .int (lane 0), .int (rsz 0)])), (ra 1, .inr (4, [.ref (rb 1), .int (lane 1), .int (rsz 1)])), (ra 2, .inr (4, [.ref (rb 2), .int (lane 2), .int (rsz 2)])), (ra 3, .inr (4, [.ref (rb 3), .int (lane 3), .int (rsz 3)])), (ra 4, .inr (4, [.ref (rb 4), .int (lane 4), .int (rsz 4)])), (ra 5, .inr (4, [.ref (rb 5), .int (lane 5), .int (rsz 5)])), (ra 6, .inr (4, [.ref (rb 6), .int (lane 6), .int (rsz 6)])), (ra 7, .inr (4, [.ref (rb 7), .int (lane 7), .int (rsz 7)])), aI K (rb 0) 40 (item 0), aI K (rb 1) 40 (item 1), aI K (rb 2) 40 (item 2), aI K (rb 3) 40 (item 3), aI K (rb 4) 40 (item 4), aI K (rb 5) 40 (item 5), aI K (rb 6) 40 (item 6), aI K (rb 7) 40 (item 7)]
theorem wr_o {pre : va_W} {K : Nat → ClassId} {ra rb : Nat → Nat} {lane rsz : Nat → Int32} {item : Nat → Nat → Int32} {len i : Nat} (hl : pre.length = len) (hi : i < 8) : (pre ++ wrs K ra rb lane rsz item)[len + i]? = some (ra i, .inr (4, [.ref (rb i), .int (lane i), .int (rsz i)])) := by
  subst hl
  rw [List.getElem?_append_right (Nat.le_add_right _ _), Nat.add_sub_cancel_left]
  rcases (show i = 0 ∨ i = 1 ∨ i = 2 ∨ i = 3 ∨ i = 4 ∨ i = 5 ∨ i = 6 ∨ i = 7 by omega) with rfl | rfl | rfl | rfl | rfl | rfl | rfl | rfl <;> rfl
theorem wr_i {pre : va_W} {K : Nat → ClassId} {ra rb : Nat → Nat} {lane rsz : Nat → Int32} {item : Nat → Nat → Int32} {len i : Nat} (hl : pre.length = len) (hi : i < 8) : (pre ++ wrs K ra rb lane rsz item)[len + (8 + i)]? = some (aI K (rb i) 40 (item i)) := by
  subst hl
  rw [List.getElem?_append_right (Nat.le_add_right _ _), Nat.add_sub_cancel_left]
  rcases (show i = 0 ∨ i = 1 ∨ i = 2 ∨ i = 3 ∨ i = 4 ∨ i = 5 ∨ i = 6 ∨ i = 7 by omega) with rfl | rfl | rfl | rfl | rfl | rfl | rfl | rfl <;> rfl
theorem wr_app (pre X : va_W) (k : Nat) (c : Nat × va_E) : (pre ++ X).set (pre.length + k) c = pre ++ X.set k c := by
  rw [List.set_append_right _ _ (Nat.le_add_right _ _), Nat.add_sub_cancel_left]
theorem wr_so {pre : va_W} {K : Nat → ClassId} {ra rb : Nat → Nat} {lane rsz : Nat → Int32} {item : Nat → Nat → Int32} {len i : Nat} (hl : pre.length = len) (hi : i < 8) (l z : Int32) : (pre ++ wrs K ra rb lane rsz item).set (len + i) (ra i, .inr (4, [.ref (rb i), .int l, .int z])) = pre ++ wrs K ra rb (va_up lane i l) (va_up rsz i z) item := by
  subst hl
  rw [wr_app]
  congr 1
  rcases (show i = 0 ∨ i = 1 ∨ i = 2 ∨ i = 3 ∨ i = 4 ∨ i = 5 ∨ i = 6 ∨ i = 7 by omega) with rfl | rfl | rfl | rfl | rfl | rfl | rfl | rfl <;> simp [wrs, va_up]
theorem wr_sl {pre : va_W} {K : Nat → ClassId} {ra rb : Nat → Nat} {lane rsz : Nat → Int32} {item : Nat → Nat → Int32} {len i : Nat} (hl : pre.length = len) (hi : i < 8) (l : Int32) : (pre ++ wrs K ra rb lane rsz item).set (len + i) (ra i, .inr (4, [.ref (rb i), .int l, .int (rsz i)])) = pre ++ wrs K ra rb (va_up lane i l) rsz item := by
  subst hl
  rw [wr_app]
  congr 1
  rcases (show i = 0 ∨ i = 1 ∨ i = 2 ∨ i = 3 ∨ i = 4 ∨ i = 5 ∨ i = 6 ∨ i = 7 by omega) with rfl | rfl | rfl | rfl | rfl | rfl | rfl | rfl <;> simp [wrs, va_up]
theorem wr_si {pre : va_W} {K : Nat → ClassId} {ra rb : Nat → Nat} {lane rsz : Nat → Int32} {item : Nat → Nat → Int32} {len i : Nat} (hl : pre.length = len) (hi : i < 8) (f : Nat → Int32) : (pre ++ wrs K ra rb lane rsz item).set (len + (8 + i)) (aI K (rb i) 40 f) = pre ++ wrs K ra rb lane rsz (va_up item i f) := by
  subst hl
  rw [wr_app]
  congr 1
  rcases (show i = 0 ∨ i = 1 ∨ i = 2 ∨ i = 3 ∨ i = 4 ∨ i = 5 ∨ i = 6 ∨ i = 7 by omega) with rfl | rfl | rfl | rfl | rfl | rfl | rfl | rfl <;> simp [wrs, va_up]
theorem va_up_id {α : Type} (f : Nat → α) (i : Nat) : va_up f i (f i) = f := by
  funext j
  unfold va_up
  by_cases h : j = i
  · simp [h]
  · simp [h]
theorem wr_keepo {pre : va_W} {K : Nat → ClassId} {ra rb : Nat → Nat} {lane rsz : Nat → Int32} {item : Nat → Nat → Int32} {len i : Nat} (hl : pre.length = len) (hi : i < 8) : (pre ++ wrs K ra rb lane rsz item).set (len + i) (ra i, .inr (4, [.ref (rb i), .int (lane i), .int (rsz i)])) = (pre ++ wrs K ra rb lane rsz item) := by
  rw [wr_so hl hi, va_up_id, va_up_id]
theorem wr_keepi {pre : va_W} {K : Nat → ClassId} {ra rb : Nat → Nat} {lane rsz : Nat → Int32} {item : Nat → Nat → Int32} {len i : Nat} (hl : pre.length = len) (hi : i < 8) : (pre ++ wrs K ra rb lane rsz item).set (len + (8 + i)) (aI K (rb i) 40 (item i)) = (pre ++ wrs K ra rb lane rsz item) := by
  rw [wr_si hl hi, va_up_id]
theorem wr_keep2 {pre : va_W} {K : Nat → ClassId} {ra rb : Nat → Nat} {lane rsz : Nat → Int32} {item : Nat → Nat → Int32} {len i : Nat} (hl : pre.length = len) (hi : i < 8) : vz_set (pre ++ wrs K ra rb lane rsz item) [len + i, len + (8 + i)] [(ra i, .inr (4, [.ref (rb i), .int (lane i), .int (rsz i)])), aI K (rb i) 40 (item i)] = (pre ++ wrs K ra rb lane rsz item) := by
  show vz_set (((pre ++ wrs K ra rb lane rsz item).set (len + i) _).set (len + (8 + i)) _) [] [] = _
  rw [wr_keepo hl hi, wr_keepi hl hi]
  rfl
theorem wr_keep1 {pre : va_W} {K : Nat → ClassId} {ra rb : Nat → Nat} {lane rsz : Nat → Int32} {item : Nat → Nat → Int32} {len i : Nat} (hl : pre.length = len) (hi : i < 8) : vz_set (pre ++ wrs K ra rb lane rsz item) [len + (8 + i)] [aI K (rb i) 40 (item i)] = (pre ++ wrs K ra rb lane rsz item) := by
  show vz_set ((pre ++ wrs K ra rb lane rsz item).set (len + (8 + i)) _) [] [] = _
  rw [wr_keepi hl hi]
  rfl
theorem wr_set2 {pre : va_W} {K : Nat → ClassId} {ra rb : Nat → Nat} {lane rsz : Nat → Int32} {item : Nat → Nat → Int32} {len i : Nat} (hl : pre.length = len) (hi : i < 8) (l z : Int32) (f : Nat → Int32) : vz_set (pre ++ wrs K ra rb lane rsz item) [len + i, len + (8 + i)] [(ra i, .inr (4, [.ref (rb i), .int l, .int z])), aI K (rb i) 40 f] = pre ++ wrs K ra rb (va_up lane i l) (va_up rsz i z) (va_up item i f) := by
  show vz_set (((pre ++ wrs K ra rb lane rsz item).set (len + i) _).set (len + (8 + i)) _) [] [] = _
  rw [wr_so hl hi, wr_si hl hi]
  rfl
theorem wr_hC {pre : va_W} {K : Nat → ClassId} {ra rb : Nat → Nat} {lane rsz : Nat → Int32} {item : Nat → Nat → Int32} {len i : Nat} (hl : pre.length = len) (hi : i < 8) {sp : List Nat} {wsS : va_W} (h : sp.map (fun k => (pre ++ wrs K ra rb lane rsz item)[k]?) = wsS.map some) : (sp ++ [len + i, len + (8 + i)]).map (fun k => (pre ++ wrs K ra rb lane rsz item)[k]?) = (wsS ++ [(ra i, .inr (4, [.ref (rb i), .int (lane i), .int (rsz i)])), aI K (rb i) 40 (item i)]).map some := by
  rw [List.map_append, List.map_append, h]
  simp only [List.map_cons, List.map_nil]
  rw [wr_o hl hi, wr_i hl hi]
theorem wr_hC1 {pre : va_W} {K : Nat → ClassId} {ra rb : Nat → Nat} {lane rsz : Nat → Int32} {item : Nat → Nat → Int32} {len i : Nat} (hl : pre.length = len) (hi : i < 8) : [len + (8 + i)].map (fun k => (pre ++ wrs K ra rb lane rsz item)[k]?) = [aI K (rb i) 40 (item i)].map some := by
  simp only [List.map_cons, List.map_nil]
  rw [wr_i hl hi]
theorem lt_g {a : Prop} {n k : Nat} (h : ¬ (a ∨ n ≤ k)) : k < n := Nat.lt_of_not_le (fun q => h (Or.inr q))
theorem vz_id : ∀ (isC : List Nat) (wc ws : va_W), isC.map (fun i => ws[i]?) = wc.map some → vz_set ws isC wc = ws
  | [], _, ws, _ => by simp [vz_set]
  | _ :: _, [], ws, h => by simp at h
  | i :: is, c :: cs, ws, h => by
    simp only [List.map_cons, List.cons.injEq] at h
    obtain ⟨h1, h2⟩ := h
    have e : ws.set i c = ws := by
      apply List.ext_getElem?
      intro k
      by_cases hk : i = k
      · subst hk
        obtain ⟨hl, -⟩ := List.getElem?_eq_some_iff.mp h1
        rw [List.getElem?_set, if_pos rfl, if_pos hl, h1]
      · rw [List.getElem?_set_ne hk]
    rw [vz_set, e]
    exact vz_id is cs ws h2
