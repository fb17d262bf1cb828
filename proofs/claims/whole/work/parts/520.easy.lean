/-! status, fault, feed -/
theorem st31 : Step31 RelW := by
  intro x_begun x_latestFault x_latestFinding rd_length rd_tape v_foot v_feet v_lines v_words v_sizes v_kinds v_spelled d_spelled i0_foot i0_feet i0_lines i0_words i0_sizes i0_kinds i0_spelled i1_foot i1_feet i1_lines i1_words i1_sizes i1_kinds i1_spelled ac_next ac_kept ac_sorts ac_firsts ac_seconds ac_takenKinds ac_takenSpellings x_bodies m_thrown m_status m_acts m_taped m_latest m_traced m_lane m_many m_item m_poem m_was m_tape m_isKept m_kept m_trace x_lane x_rsz x_item L la sa ln sy sn lt st hR
  obtain ⟨hF, hG, hT, hW, hC, hZ⟩ := hR
  exact ⟨x_latestFinding, 0, rfl, by rw [show m_status = x_latestFinding from hF]; rfl, hF, hG, hT, hW, hC, hZ⟩
theorem st6 : Step6 RelW := by
  intro x_begun x_latestFault x_latestFinding rd_length rd_tape v_foot v_feet v_lines v_words v_sizes v_kinds v_spelled d_spelled i0_foot i0_feet i0_lines i0_words i0_sizes i0_kinds i0_spelled i1_foot i1_feet i1_lines i1_words i1_sizes i1_kinds i1_spelled ac_next ac_kept ac_sorts ac_firsts ac_seconds ac_takenKinds ac_takenSpellings x_bodies m_thrown m_status m_acts m_taped m_latest m_traced m_lane m_many m_item m_poem m_was m_tape m_isKept m_kept m_trace x_lane x_rsz x_item L la sa ln sy sn lt st hR
  obtain ⟨hF, hG, hT, hW, hC, hZ⟩ := hR
  exact ⟨x_latestFault, 0, rfl, by rw [show m_latest = x_latestFault from hG]; rfl, hF, hG, hT, hW, hC, hZ⟩
theorem st4 : Step4 RelW := by
  intro x_begun x_latestFault x_latestFinding rd_length rd_tape v_foot v_feet v_lines v_words v_sizes v_kinds v_spelled d_spelled i0_foot i0_feet i0_lines i0_words i0_sizes i0_kinds i0_spelled i1_foot i1_feet i1_lines i1_words i1_sizes i1_kinds i1_spelled ac_next ac_kept ac_sorts ac_firsts ac_seconds ac_takenKinds ac_takenSpellings x_bodies m_thrown m_status m_acts m_taped m_latest m_traced m_lane m_many m_item m_poem m_was m_tape m_isKept m_kept m_trace x_lane x_rsz x_item L la sa ln sy sn lt st a1 hR
  obtain ⟨hF, hG, hT, hW, hC, hZ⟩ := hR
  obtain ⟨⟨n, hn, rfl⟩, rfl, rfl, hb⟩ := hT
  have e0 : (0 : Int32).toInt = 0 := rfl
  have e255 : (255 : Int32).toInt = 255 := rfl
  have e130 : (130 : Int32).toInt = 130 := rfl
  have en : (nI n).toInt = n := nI_toInt (by omega)
  have hT0 : RTape (nI n) (nI n) m_tape m_tape := ⟨⟨n, hn, rfl⟩, rfl, rfl, hb⟩
  have hin := in_i a1 0 255
  rw [show (0 : Int64).toInt = 0 from rfl, show (255 : Int64).toInt = 255 from rfl] at hin
  by_cases h : 0 ≤ a1.toInt ∧ a1.toInt ≤ 255
  · rw [if_pos h] at hin
    have c1 : ¬ a1 < 0 := by rw [i32_lt]; omega
    have c2 : a1 ≤ 255 := by rw [i32_le]; omega
    by_cases h2 : n = 130
    · subst h2
      refine ⟨-1000003, nI 130, m_tape, 0, nI 130, m_tape, ?_, ?_, hF, hG, hT0, hW, hC, hZ⟩
      · unfold mX6_feed mX6_feed_b0
        rw [if_neg c1, if_pos c2, if_neg (by decide)]
      · unfold mX7_feed mX7_feed_b0
        rw [hin]
        rfl
    · have c3 : nI n < 130 := by rw [i32_lt, en]; omega
      have c4 : ¬ (nI n < 0 ∨ 130 ≤ (nI n).toNatClampNeg) := ix_ok (by omega) (by omega)
      have c5 : ¬ nI n = 130 := by rw [i32_eq, en]; omega
      refine ⟨nI n + 1, nI n + 1, upd m_tape (nI n).toNatClampNeg a1, 0, nI n + 1, upd m_tape (nI n).toNatClampNeg a1, ?_, ?_, hF, hG, ⟨⟨n + 1, by omega, (nI_succ n).symm⟩, rfl, rfl, ?_⟩, hW, hC, hZ⟩
      · unfold mX6_feed mX6_feed_b0
        rw [if_neg c1, if_pos c2, if_pos c3, if_neg c4]
      · unfold mX7_feed mX7_feed_b0
        rw [hin, os1, if_neg (by decide), if_neg c5, if_neg c4]
      · intro j
        unfold upd
        by_cases hj : j = (nI n).toNatClampNeg
        · rw [if_pos hj]
          obtain ⟨q, hq31, hq⟩ := nI_of c1
          refine ⟨q, ?_, hq⟩
          rw [hq] at h
          rw [nI_toInt hq31] at h
          omega
        · rw [if_neg hj]; exact hb j
  · rw [if_neg h] at hin
    refine ⟨-1000001, nI n, m_tape, 0, nI n, m_tape, ?_, ?_, hF, hG, hT0, hW, hC, hZ⟩
    · unfold mX6_feed mX6_feed_b0
      by_cases c1 : a1 < 0
      · rw [if_pos c1]
      · rw [if_neg c1, if_neg]
        rw [i32_lt] at c1; rw [i32_le]; omega
    · unfold mX7_feed mX7_feed_b0
      rw [hin]
      rfl
