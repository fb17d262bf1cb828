/-! the trace -/
theorem sub1_toInt {n : Nat} (h : n < 2 ^ 30) : (nI n - 1).toInt = (n : Int) - 1 := by
  rw [show (1 : Int32) = nI 1 from rfl, pk_sub_toInt h (by omega)]
  rfl
theorem st29 : Step29 RelW := by
  intro x_begun x_latestFault x_latestFinding rd_length rd_tape v_foot v_feet v_lines v_words v_sizes v_kinds v_spelled d_spelled i0_foot i0_feet i0_lines i0_words i0_sizes i0_kinds i0_spelled i1_foot i1_feet i1_lines i1_words i1_sizes i1_kinds i1_spelled ac_next ac_kept ac_sorts ac_firsts ac_seconds ac_takenKinds ac_takenSpellings x_bodies m_thrown m_status m_acts m_taped m_latest m_traced m_lane m_many m_item m_poem m_was m_tape m_isKept m_kept m_trace x_lane x_rsz x_item L la sa ln sy sn lt st a1 hR
  obtain ⟨hF, hG, hT, hW, hC, hZ⟩ := hR
  obtain ⟨rfl, n, hn, rfl, ht⟩ := hC
  have hC0 : RTrace (nI n) (nI n) x_bodies m_trace := ⟨rfl, n, hn, rfl, ht⟩
  have e0 : (0 : Int32).toInt = 0 := rfl
  have en : (nI n).toInt = n := nI_toInt (by omega)
  have hin := in_i a1 0 ((nI n - 1).toInt64)
  rw [Int32.toInt_toInt64, sub1_toInt (by omega), show (0 : Int64).toInt = 0 from rfl] at hin
  by_cases g : 0 ≤ a1.toInt ∧ a1.toInt ≤ (n : Int) - 1
  · rw [if_pos g] at hin
    obtain ⟨i, hi, rfl⟩ := i32_nat (p := a1) (n := n) g.1 (by omega) (by omega)
    have ei : (nI i).toInt = i := nI_toInt (by omega)
    have ci : (nI i).toNatClampNeg = i := nI_clamp (by omega)
    have k1 : ¬ (nI i < 0 ∨ 16 ≤ (nI i).toNatClampNeg) := nI_ix (by omega) (by omega)
    refine ⟨x_bodies i, 0, ?_, ?_, hF, hG, hT, hW, hC0, hZ⟩
    · unfold mX6_trace mX6_trace_b0
      rw [if_neg (by rw [i32_lt]; omega), if_neg (by rw [i32_le]; omega), if_neg k1, ci]
    · unfold mX7_trace mX7_trace_b0
      rw [hin, os1, if_neg (by decide), if_neg k1, ci, ht i hi]
  · rw [if_neg g] at hin
    refine ⟨-1000000, 0, ?_, ?_, hF, hG, hT, hW, hC0, hZ⟩
    · unfold mX6_trace mX6_trace_b0
      by_cases c1 : a1 < 0
      · rw [if_pos c1]
      · rw [if_neg c1, if_pos]
        rw [i32_lt] at c1; rw [i32_le]; omega
    · unfold mX7_trace mX7_trace_b0
      rw [hin]
      rfl
