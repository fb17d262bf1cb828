/-! rows: copy, the step -/
theorem lg_le0 (x y : Int64) : lg_cmp x y ≤ 0 ↔ x.toInt ≤ y.toInt := by
  have h := lg_gt0 x y
  rw [i32_le]
  rw [i32_lt] at h
  have e0 : (0 : Int32).toInt = 0 := rfl
  omega
theorem st2 : Step2 RelW := by
  intro x_begun x_latestFault x_latestFinding rd_length rd_tape v_foot v_feet v_lines v_words v_sizes v_kinds v_spelled d_spelled i0_foot i0_feet i0_lines i0_words i0_sizes i0_kinds i0_spelled i1_foot i1_feet i1_lines i1_words i1_sizes i1_kinds i1_spelled ac_next ac_kept ac_sorts ac_firsts ac_seconds ac_takenKinds ac_takenSpellings x_bodies m_thrown m_status m_acts m_taped m_latest m_traced m_lane m_many m_item m_poem m_was m_tape m_isKept m_kept m_trace x_lane x_rsz x_item L la sa ln sy sn lt st a1 a2 a3 a4 a5 hR
  obtain ⟨hF, hG, hT, hW, hC, hZ⟩ := hR
  have h6a := isRow6 a1
  have h7a := isRow7 a1
  have h6b := isRow6 a3
  have h7b := isRow7 a3
  have e0 : (0 : Int32).toInt = 0 := rfl
  have e9 : (-1 : Int32).toInt = -1 := rfl
  by_cases ha : 0 ≤ a1.toInt ∧ a1.toInt ≤ 7
  · rw [if_pos ha] at h6a h7a
    by_cases hb : 0 ≤ a3.toInt ∧ a3.toInt ≤ 7
    · rw [if_pos hb] at h6b h7b
      obtain ⟨r, hr, rfl⟩ := i32_nat (p := a1) (n := 8) ha.1 (by omega) (by omega)
      obtain ⟨q, hq, rfl⟩ := i32_nat (p := a3) (n := 8) hb.1 (by omega) (by omega)
      have clr : (nI r).toNatClampNeg = r := nI_clamp (by omega)
      have clq : (nI q).toNatClampNeg = q := nI_clamp (by omega)
      have c1 : ¬ (nI r < 0 ∨ 8 ≤ r) := by have := nI_ix hr (by omega); rw [clr] at this; exact this
      have c2 : ¬ (nI q < 0 ∨ 8 ≤ q) := by have := nI_ix hq (by omega); rw [clq] at this; exact this
      have c3 : ¬ 8 ≤ r := by omega
      have c4 : ¬ 8 ≤ q := by omega
      obtain ⟨r1, r2, r3, r4, r5⟩ := hW _ hr
      obtain ⟨q1, q2, q3, q4, q5⟩ := hW _ hq
      have ma := miss4 (x_lane r)
      have mb := miss4 (x_lane q)
      by_cases hma : x_lane r = -1
      · rw [if_pos hma] at ma
        have k1 : m_lane r < 0 := by rw [r1, hma]; decide
        refine ⟨-1000010 - 1, 1, x_item, 0, 1, m_item, ?_, ?_, rfl, hG, hT, hW, hC, hZ⟩
        · unfold mX6_copy mX6_copy_b0
          rw [h6a, os1, if_neg (by decide), h6b, os1, if_neg (by decide), clr, clq, if_neg c1, if_neg c2, if_neg c3, ma, os1, if_neg (by decide)]
          rfl
        · unfold mX7_copy mX7_copy_b0
          rw [h7a, os1, if_neg (by decide), h7b, os1, if_neg (by decide), clr, clq, if_neg c1, if_pos k1]
          rfl
      · rw [if_neg hma] at ma
        have k1 : ¬ m_lane r < 0 := by rw [r1, i32_lt]; rw [i32_eq] at hma; omega
        by_cases hmb : x_lane q = -1
        · rw [if_pos hmb] at mb
          have k2 : ¬ 0 ≤ m_lane q := by rw [q1, hmb]; decide
          refine ⟨-1000010 - 1, 1, x_item, 0, 1, m_item, ?_, ?_, rfl, hG, hT, hW, hC, hZ⟩
          · unfold mX6_copy mX6_copy_b0
            rw [h6a, os1, if_neg (by decide), h6b, os1, if_neg (by decide), clr, clq, if_neg c1, if_neg c2, if_neg c3, ma, os1, if_pos rfl, if_neg c4, mb, os1, if_neg (by decide)]
            rfl
          · unfold mX7_copy mX7_copy_b0
            rw [h7a, os1, if_neg (by decide), h7b, os1, if_neg (by decide), clr, clq, if_neg c1, if_neg k1, if_neg c2, if_neg k2]
            rfl
        · rw [if_neg hmb] at mb
          have k2 : 0 ≤ m_lane q := by rw [q1, i32_le]; rw [i32_eq] at hmb; omega
          by_cases hl : x_lane r = x_lane q
          · have hl2 : m_lane r = m_lane q := by rw [r1, q1, hl]
            have hA := holds4 (x_rsz r) a2 a5 r4
            have hB := holds4 (x_rsz q) a4 a5 q4
            have gA := lg_gt0 (a2.toInt64 + a5.toInt64) ((m_many r).toInt64)
            have gB := lg_le0 (a4.toInt64 + a5.toInt64) ((m_many q).toInt64)
            rw [add64, Int32.toInt_toInt64] at gA
            rw [add64, Int32.toInt_toInt64] at gB
            have r2' : (m_many r).toInt = (x_rsz r).toInt := by rw [r2]
            have q2' : (m_many q).toInt = (x_rsz q).toInt := by rw [q2]
            by_cases fit : (0 ≤ a2.toInt ∧ 0 ≤ a5.toInt ∧ a2.toInt + a5.toInt ≤ (x_rsz r).toInt) ∧ (0 ≤ a4.toInt ∧ 0 ≤ a5.toInt ∧ a4.toInt + a5.toInt ≤ (x_rsz q).toInt)
            · rw [if_pos fit.1] at hA
              rw [if_pos fit.2] at hB
              obtain ⟨i, hi, rfl⟩ := i32_nat (p := a2) (n := 41) (by omega) (by omega) (by omega)
              obtain ⟨j, hj, rfl⟩ := i32_nat (p := a4) (n := 41) (by omega) (by omega) (by omega)
              obtain ⟨n, hn, rfl⟩ := i32_nat (p := a5) (n := 41) (by omega) (by omega) (by omega)
              have ei : (nI i).toInt = i := nI_toInt (by omega)
              have ej : (nI j).toInt = j := nI_toInt (by omega)
              have en : (nI n).toInt = n := nI_toInt (by omega)
              have ci : (nI i).toNatClampNeg = i := nI_clamp (by omega)
              have cj : (nI j).toNatClampNeg = j := nI_clamp (by omega)
              have cn : (nI n).toNatClampNeg = n := nI_clamp (by omega)
              have hin : i + n ≤ 40 := by omega
              have hjn : j + n ≤ 40 := by omega
              have p2 : ¬ nI i < 0 := by rw [i32_lt]; omega
              have p4 : ¬ nI j < 0 := by rw [i32_lt]; omega
              have p5 : ¬ nI n < 0 := by rw [i32_lt]; omega
              refine ⟨nI n, 0, va_up x_item q (va_cpy (x_item r) (x_item q) i j n), 0, 0, cpf m_item (40 * r + i) (40 * q + j) n, ?_, ?_, rfl, hG, hT, ?_, hC, hZ⟩
              · unfold mX6_copy mX6_copy_b0
                rw [h6a, os1, if_neg (by decide), h6b, os1, if_neg (by decide), clr, clq, if_neg c1, if_neg c2, if_neg c3, ma, os1, if_pos rfl, if_neg c4, mb, os1, if_pos rfl, if_neg c3, if_neg c4, if_pos hl, if_neg c3, hA, os1, if_neg (by decide), if_neg c4, hB, os1, if_neg (by decide), if_neg c3, if_neg c4, if_neg c3, if_neg c4, if_neg p2, if_neg p4, if_neg p5, ci, cj, cn, if_neg (by omega), if_neg (by omega)]
              · unfold mX7_copy mX7_copy_b0
                rw [h7a, os1, if_neg (by decide), h7b, os1, if_neg (by decide), clr, clq, if_neg c1, if_neg k1, if_neg c2, if_pos k2, if_neg c1, if_neg c2, if_pos hl2, if_neg p2, if_neg p4, if_neg p5, if_neg c1, if_neg (by rw [gA]; omega), if_neg c2, if_pos (by rw [gB]; omega)]
                by_cases hij : nI i < nI j
                · rw [if_pos hij]
                  have hij2 : i < j := by rw [i32_lt] at hij; omega
                  have hd := cpy_dn hr hq hin hjn hij2 m_lane m_many 0 0 m_item n 0 (by omega) FU (FU_gt (by omega))
                  have z0 : cpd m_item (40 * r + i) (40 * q + j) n 0 = m_item := by
                    funext z; unfold cpd; rw [if_neg (by omega)]
                  have zn : cpd m_item (40 * r + i) (40 * q + j) n n = cpf m_item (40 * r + i) (40 * q + j) n := by
                    funext z; unfold cpd cpf
                    rw [Nat.sub_self, Nat.add_zero]
                  rw [z0, zn, nI_0] at hd
                  exact hd
                · rw [if_neg hij]
                  have hij2 : j ≤ i := by rw [i32_lt] at hij; omega
                  have hd := cpy_up hr hq hin hjn hij2 m_lane m_many 0 0 m_item n 0 (by omega) FU (FU_gt (by omega))
                  have z0 : cpf m_item (40 * r + i) (40 * q + j) 0 = m_item := by
                    funext z; unfold cpf; rw [if_neg (by omega)]
                  rw [z0, nI_0] at hd
                  exact hd
              · intro w hw
                obtain ⟨g1, g2, g3, g4, g5⟩ := hW w hw
                refine ⟨g1, g2, g3, g4, fun k hk => ?_⟩
                unfold cpf
                by_cases hwq : w = q
                · subst hwq
                  rw [va_up_self]
                  by_cases h1 : j ≤ k ∧ k < j + n
                  · rw [if_pos (by omega), pk_cpy_in h1.1 h1.2, ← r5 (i + (k - j)) (by omega)]
                    congr 1
                    omega
                  · rw [if_neg (by omega), pk_cpy_out (by omega)]
                    exact g5 k hk
                · rw [va_up_ne _ _ hwq, if_neg (by omega)]
                  exact g5 k hk
            · refine ⟨-1000010 - 2, 2, x_item, 0, 2, m_item, ?_, ?_, rfl, hG, hT, hW, hC, hZ⟩
              · unfold mX6_copy mX6_copy_b0
                rw [h6a, os1, if_neg (by decide), h6b, os1, if_neg (by decide), clr, clq, if_neg c1, if_neg c2, if_neg c3, ma, os1, if_pos rfl, if_neg c4, mb, os1, if_pos rfl, if_neg c3, if_neg c4, if_pos hl, if_neg c3]
                by_cases f1 : 0 ≤ a2.toInt ∧ 0 ≤ a5.toInt ∧ a2.toInt + a5.toInt ≤ (x_rsz r).toInt
                · rw [if_pos f1] at hA
                  rw [if_neg (fun f2 => fit ⟨f1, f2⟩)] at hB
                  rw [hA, os1, if_neg (by decide), if_neg c4, hB, os1, if_pos rfl]
                  rfl
                · rw [if_neg f1] at hA
                  rw [hA, os1, if_pos rfl]
                  rfl
              · unfold mX7_copy mX7_copy_b0
                rw [h7a, os1, if_neg (by decide), h7b, os1, if_neg (by decide), clr, clq, if_neg c1, if_neg k1, if_neg c2, if_pos k2, if_neg c1, if_neg c2, if_pos hl2]
                by_cases p2 : a2 < 0
                · rw [if_pos p2]; rfl
                · rw [if_neg p2]
                  by_cases p4 : a4 < 0
                  · rw [if_pos p4]; rfl
                  · rw [if_neg p4]
                    by_cases p5 : a5 < 0
                    · rw [if_pos p5]; rfl
                    · rw [if_neg p5, if_neg c1]
                      rw [i32_lt] at p2 p4 p5
                      by_cases p6 : 0 < lg_cmp (a2.toInt64 + a5.toInt64) (m_many r).toInt64
                      · rw [if_pos p6]; rfl
                      · rw [if_neg p6, if_neg c2]
                        rw [gA] at p6
                        rw [if_neg (by rw [gB]; omega)]
                        rfl
          · have hl2 : ¬ m_lane r = m_lane q := by rw [r1, q1]; exact hl
            refine ⟨-1000010 - 5, 5, x_item, 0, 5, m_item, ?_, ?_, rfl, hG, hT, hW, hC, hZ⟩
            · unfold mX6_copy mX6_copy_b0
              rw [h6a, os1, if_neg (by decide), h6b, os1, if_neg (by decide), clr, clq, if_neg c1, if_neg c2, if_neg c3, ma, os1, if_pos rfl, if_neg c4, mb, os1, if_pos rfl, if_neg c3, if_neg c4, if_neg hl]
              rfl
            · unfold mX7_copy mX7_copy_b0
              rw [h7a, os1, if_neg (by decide), h7b, os1, if_neg (by decide), clr, clq, if_neg c1, if_neg k1, if_neg c2, if_pos k2, if_neg c1, if_neg c2, if_neg hl2]
              rfl
    · rw [if_neg hb] at h6b h7b
      refine ⟨-1000001, x_latestFinding, x_item, 0, m_status, m_item, ?_, ?_, hF, hG, hT, hW, hC, hZ⟩
      · unfold mX6_copy mX6_copy_b0
        rw [h6a, os1, if_neg (by decide), h6b]
        rfl
      · unfold mX7_copy mX7_copy_b0
        rw [h7a, os1, if_neg (by decide), h7b]
        rfl
  · rw [if_neg ha] at h6a h7a
    refine ⟨-1000001, x_latestFinding, x_item, 0, m_status, m_item, ?_, ?_, hF, hG, hT, hW, hC, hZ⟩
    · unfold mX6_copy mX6_copy_b0
      rw [h6a]
      rfl
    · unfold mX7_copy mX7_copy_b0
      rw [h7a]
      rfl
