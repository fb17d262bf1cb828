/-! rows: set; the trace -/
theorem holds4 (sz i n : Int32) (hz : 0 ≤ sz.toInt ∧ sz.toInt ≤ 40) : mX4_holds sz i n = some (if 0 ≤ i.toInt ∧ 0 ≤ n.toInt ∧ i.toInt + n.toInt ≤ sz.toInt then 1 else 0) := by
  have e0 : (0 : Int32).toInt = 0 := rfl
  unfold mX4_holds mX4_holds_b0
  by_cases h1 : i < 0
  · rw [if_pos h1, if_neg]
    rw [i32_lt] at h1; omega
  · rw [if_neg h1]
    rw [i32_lt] at h1
    by_cases h2 : n < 0
    · rw [if_pos h2, if_neg]
      rw [i32_lt] at h2; omega
    · rw [if_neg h2]
      rw [i32_lt] at h2
      by_cases h3 : sz < i
      · rw [if_pos h3, if_neg]
        rw [i32_lt] at h3; omega
      · rw [if_neg h3]
        rw [i32_lt] at h3
        have e : (sz - i).toInt = sz.toInt - i.toInt := by
          obtain ⟨a, ha, rfl⟩ := i32_nat (p := sz) (n := 41) hz.1 (by omega) (by omega)
          rw [nI_toInt (by omega)] at h3 ⊢
          obtain ⟨b, hb, rfl⟩ := i32_nat (p := i) (n := 41) (by omega) (by omega) (by omega)
          rw [nI_toInt (by omega)] at h3 ⊢
          exact pk_sub_toInt (by omega) (by omega)
        by_cases h4 : (sz - i) < n
        · rw [if_pos h4, if_neg]
          rw [i32_lt, e] at h4; omega
        · rw [if_neg h4, if_pos]
          rw [i32_lt, e] at h4; omega
def nar3 (lane v : Int32) : Int32 := if lane = 0 then v.toInt8.toInt32 else if lane = 1 then v.toInt16.toInt32 else v
theorem nar4 (lane v : Int32) : mX4_narrowed lane v = some (nar3 lane v) := by
  unfold mX4_narrowed mX4_narrowed_b0 nar3
  by_cases h : lane = 0
  · rw [if_pos h, if_pos h]
  · rw [if_neg h, if_neg h]
    by_cases h1 : lane = 1
    · rw [if_pos h1, if_pos h1]
    · rw [if_neg h1, if_neg h1]
theorem set99 (la ma : Nat → Int32) (r i : Nat) (hr : r < 8) (hi : i < 40) (p3 t s : Int32) (it : Nat → Int32) (v : Int32) : mX7_set_b99 la ma (nI r) (nI i) p3 t s it ((40 : Int32) * nI r + nI i) v = some (v, t, s, upd it (40 * r + i) v) := by
  unfold mX7_set_b99
  rw [mul40, if_neg (nI_ix (by omega) (by omega)), if_neg (nI_ix (by omega) (by omega)), nI_clamp (by omega), pk_us]
theorem st1 : Step1 RelW := by
  intro x_begun x_latestFault x_latestFinding rd_length rd_tape v_foot v_feet v_lines v_words v_sizes v_kinds v_spelled d_spelled i0_foot i0_feet i0_lines i0_words i0_sizes i0_kinds i0_spelled i1_foot i1_feet i1_lines i1_words i1_sizes i1_kinds i1_spelled ac_next ac_kept ac_sorts ac_firsts ac_seconds ac_takenKinds ac_takenSpellings x_bodies m_thrown m_status m_acts m_taped m_latest m_traced m_lane m_many m_item m_poem m_was m_tape m_isKept m_kept m_trace x_lane x_rsz x_item L la sa ln sy sn lt st a1 a2 a3 hR
  obtain ⟨hF, hG, hT, hW, hC, hZ⟩ := hR
  have h6 := isRow6 a1
  have h7 := isRow7 a1
  have e0 : (0 : Int32).toInt = 0 := rfl
  have e1' : (1 : Int32).toInt = 1 := rfl
  by_cases h : 0 ≤ a1.toInt ∧ a1.toInt ≤ 7
  · rw [if_pos h] at h6 h7
    obtain ⟨r, hr, rfl⟩ := i32_nat (p := a1) (n := 8) h.1 (by omega) (by omega)
    have c1 : ¬ (nI r < 0 ∨ 8 ≤ (nI r).toNatClampNeg) := nI_ix hr (by omega)
    have cl : (nI r).toNatClampNeg = r := nI_clamp (by omega)
    have c2 : ¬ 8 ≤ (nI r).toNatClampNeg := by rw [cl]; omega
    have c2' : ¬ 8 ≤ r := by omega
    have c1' : ¬ (nI r < 0 ∨ 8 ≤ r) := by rw [cl] at c1; exact c1
    obtain ⟨e1, e2, e3, e4, e5⟩ := hW _ hr
    have h4 := miss4 (x_lane r)
    by_cases hm : x_lane r = -1
    · rw [if_pos hm] at h4
      have c3 : ¬ 0 ≤ m_lane r := by rw [e1, hm]; decide
      refine ⟨-1000010 - 1, 1, x_item, 0, 1, m_item, ?_, ?_, rfl, hG, hT, hW, hC, hZ⟩
      · unfold mX6_set mX6_set_b0
        rw [h6, os1, if_neg (by decide), cl, if_neg c1', if_neg c2', h4, os1, if_neg (by decide)]
        rfl
      · unfold mX7_set mX7_set_b0
        rw [h7, os1, if_neg (by decide), cl, if_neg c1', if_neg c3]
        rfl
    · rw [if_neg hm] at h4
      have c3 : 0 ≤ m_lane r := by
        rw [e1, i32_le]
        rw [i32_eq] at hm
        have e9 : (-1 : Int32).toInt = -1 := rfl
        omega
      have hh := holds4 (x_rsz r) a2 1 e4
      have hin := in_i a2 0 ((m_many r - 1).toInt64)
      have ez : (m_many r - 1).toInt = (x_rsz r).toInt - 1 := by
        rw [e2]
        obtain ⟨a, ha, hae⟩ := i32_nat (p := x_rsz r) (n := 41) e4.1 (by omega) (by omega)
        rw [hae, show (1 : Int32) = nI 1 from rfl, pk_sub_toInt (by omega) (by omega), nI_toInt (by omega)]
        rfl
      rw [Int32.toInt_toInt64, ez, show (0 : Int64).toInt = 0 from rfl] at hin
      by_cases g : 0 ≤ a2.toInt ∧ a2.toInt ≤ (x_rsz r).toInt - 1
      · rw [if_pos g] at hin
        rw [if_pos (by omega)] at hh
        obtain ⟨i, hi, rfl⟩ := i32_nat (p := a2) (n := 40) g.1 (by omega) (by omega)
        have ci : (nI i).toNatClampNeg = i := nI_clamp (by omega)
        have k1 : ¬ (nI i < 0 ∨ 40 ≤ i) := by have := nI_ix hi (by omega); rw [ci] at this; exact this
        refine ⟨nar3 (x_lane r) a3, 0, va_up x_item r (upd (x_item r) i (nar3 (x_lane r) a3)), 0, 0, upd m_item (40 * r + i) (nar3 (x_lane r) a3), ?_, ?_, rfl, hG, hT, ?_, hC, hZ⟩
        · unfold mX6_set mX6_set_b0
          rw [h6, os1, if_neg (by decide), cl, ci, if_neg c1', if_neg c2', h4, os1, if_pos rfl, if_neg c2', hh, os1, if_neg (by decide), if_neg c2', if_neg c2', nar4, os1, if_neg c2', if_neg k1, if_neg c2', if_neg c2', if_neg k1, va_up_self, pk_us]
        · unfold mX7_set mX7_set_b0
          rw [h7, os1, if_neg (by decide), cl, if_neg c1', if_pos c3, if_neg c1', hin, os1, if_neg (by decide), if_neg c1', e1]
          unfold nar3
          by_cases q0 : x_lane r = 0
          · rw [if_pos q0, if_pos q0, set99 _ _ r i hr hi]
          · rw [if_neg q0, if_neg c1', if_neg q0]
            by_cases q1 : x_lane r = 1
            · rw [if_pos q1, if_pos q1, set99 _ _ r i hr hi]
            · rw [if_neg q1, if_neg q1, set99 _ _ r i hr hi]
        · intro q hq
          obtain ⟨g1, g2, g3, g4, g5⟩ := hW q hq
          refine ⟨g1, g2, g3, g4, fun k hk => ?_⟩
          by_cases hqr : q = r
          · subst hqr
            rw [va_up_self]
            unfold upd
            by_cases hki : k = i
            · rw [if_pos (by omega), if_pos hki]
            · rw [if_neg (by omega), if_neg hki]; exact g5 k hk
          · rw [va_up_ne _ _ hqr]
            unfold upd
            rw [if_neg (by omega)]; exact g5 k hk
      · rw [if_neg g] at hin
        rw [if_neg (by omega)] at hh
        refine ⟨-1000010 - 2, 2, x_item, 0, 2, m_item, ?_, ?_, rfl, hG, hT, hW, hC, hZ⟩
        · unfold mX6_set mX6_set_b0
          rw [h6, os1, if_neg (by decide), cl, if_neg c1', if_neg c2', h4, os1, if_pos rfl, if_neg c2', hh, os1, if_pos rfl]
          rfl
        · unfold mX7_set mX7_set_b0
          rw [h7, os1, if_neg (by decide), cl, if_neg c1', if_pos c3, if_neg c1', hin, os1, if_pos rfl]
          rfl
  · rw [if_neg h] at h6 h7
    refine ⟨-1000001, x_latestFinding, x_item, 0, m_status, m_item, ?_, ?_, hF, hG, hT, hW, hC, hZ⟩
    · unfold mX6_set mX6_set_b0
      rw [h6]
      rfl
    · unfold mX7_set mX7_set_b0
      rw [h7]
      rfl
