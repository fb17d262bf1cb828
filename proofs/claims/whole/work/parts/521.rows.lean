/-! rows: drop -/
theorem miss4 (x : Int32) : mX4_isMissing x = some (if x = -1 then 1 else 0) := by
  unfold mX4_isMissing mX4_isMissing_b0
  by_cases h : x = -1
  · rw [if_pos h, if_pos h]
  · rw [if_neg h, if_neg h]
theorem upd_eq (f : Nat → Int32) (k : Nat) (x : Int32) : upd f k x = va_up f k x := rfl
theorem st3 : Step3 RelW := by
  intro x_begun x_latestFault x_latestFinding rd_length rd_tape v_foot v_feet v_lines v_words v_sizes v_kinds v_spelled d_spelled i0_foot i0_feet i0_lines i0_words i0_sizes i0_kinds i0_spelled i1_foot i1_feet i1_lines i1_words i1_sizes i1_kinds i1_spelled ac_next ac_kept ac_sorts ac_firsts ac_seconds ac_takenKinds ac_takenSpellings x_bodies m_thrown m_status m_acts m_taped m_latest m_traced m_lane m_many m_item m_poem m_was m_tape m_isKept m_kept m_trace x_lane x_rsz x_item L la sa ln sy sn lt st a1 hR
  obtain ⟨hF, hG, hT, hW, hC, hZ⟩ := hR
  have h6 := isRow6 a1
  have h7 := isRow7 a1
  by_cases h : 0 ≤ a1.toInt ∧ a1.toInt ≤ 7
  · rw [if_pos h] at h6 h7
    have hr : a1.toNatClampNeg < 8 := by rw [i32_cl]; omega
    have c1 : ¬ (a1 < 0 ∨ 8 ≤ a1.toNatClampNeg) := ix_ok (by omega) (by omega)
    have c2 : ¬ 8 ≤ a1.toNatClampNeg := by omega
    obtain ⟨e1, e2, e3, e4, e5⟩ := hW _ hr
    have h4 := miss4 (x_lane a1.toNatClampNeg)
    by_cases hm : x_lane a1.toNatClampNeg = -1
    · rw [if_pos hm] at h4
      have c3 : ¬ 0 ≤ m_lane a1.toNatClampNeg := by rw [e1, hm]; decide
      refine ⟨-1000010 - 1, 1, x_lane, 0, 1, m_lane, ?_, ?_, rfl, hG, hT, hW, hC, hZ⟩
      · unfold mX6_drop mX6_drop_b0
        rw [h6, os1, if_neg (by decide), if_neg c1, if_neg c2, h4, os1, if_neg (by decide)]
        rfl
      · unfold mX7_drop mX7_drop_b0
        rw [h7, os1, if_neg (by decide), if_neg c1, if_neg c3]
        rfl
    · rw [if_neg hm] at h4
      have c3 : 0 ≤ m_lane a1.toNatClampNeg := by
        rw [e1, i32_le]
        rw [i32_eq] at hm
        have e0 : (0 : Int32).toInt = 0 := rfl
        have e9 : (-1 : Int32).toInt = -1 := rfl
        omega
      refine ⟨x_rsz a1.toNatClampNeg, 0, va_up x_lane a1.toNatClampNeg (-1), 0, 0, upd m_lane a1.toNatClampNeg (-1), ?_, ?_, rfl, hG, hT, ?_, hC, hZ⟩
      · unfold mX6_drop mX6_drop_b0
        rw [h6, os1, if_neg (by decide), if_neg c1, if_neg c2, h4, os1, if_pos rfl, if_neg c2, if_neg c2]
      · unfold mX7_drop mX7_drop_b0
        rw [h7, os1, if_neg (by decide), if_neg c1, if_pos c3, if_neg c1, if_neg c1, e2]
      · intro r hr2
        obtain ⟨g1, g2, g3, g4, g5⟩ := hW r hr2
        by_cases hq : r = a1.toNatClampNeg
        · rw [upd_eq, hq, va_up_self, va_up_self]
          rw [hq] at g2 g4 g5
          exact ⟨rfl, g2, by decide, g4, g5⟩
        · rw [upd_eq, va_up_ne _ _ hq, va_up_ne _ _ hq]
          exact ⟨g1, g2, g3, g4, g5⟩
  · rw [if_neg h] at h6 h7
    refine ⟨-1000001, x_latestFinding, x_lane, 0, m_status, m_lane, ?_, ?_, hF, hG, hT, hW, hC, hZ⟩
    · unfold mX6_drop mX6_drop_b0
      rw [h6]
      rfl
    · unfold mX7_drop mX7_drop_b0
      rw [h7]
      rfl
