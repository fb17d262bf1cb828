/-! rows: row -/
theorem mul40 (r k : Nat) : (40 : Int32) * nI r + nI k = nI (40 * r + k) := by
  rw [show (40 : Int32) = nI 40 from rfl, pk_mul, nI_add]
theorem i32_nat {p : Int32} {n : Nat} (h0 : 0 ≤ p.toInt) (h1 : p.toInt < n) (hn : n < 2 ^ 31) : ∃ r : Nat, r < n ∧ p = nI r := by
  obtain ⟨r, hr, e⟩ := nI_of (x := p) (by rw [i32_lt]; have e0 : (0 : Int32).toInt = 0 := rfl; omega)
  refine ⟨r, ?_, e⟩
  rw [e, nI_toInt hr] at h1
  omega
theorem nI_ix {k n : Nat} (h : k < n) (hn : n < 2 ^ 31) : ¬ (nI k < 0 ∨ n ≤ (nI k).toNatClampNeg) := vp_in_nI h hn
theorem begin_loop (p1 p2 : Int32) : ∀ (d k : Nat) (lane size : Int32) (items : Nat → Int32), k + d = 40 → ∀ n, d < n → mX4_begin_b12 p1 p2 n lane size items (nI k) = some (lane, size, fun j => if k ≤ j ∧ j < 40 then 0 else items j)
  | 0, k, lane, size, items, hk, n, hn => by
    obtain ⟨n, rfl⟩ : ∃ q, n = q + 1 := ⟨n - 1, by omega⟩
    have e : k = 40 := by omega
    subst e
    rw [mX4_begin_b12, if_pos (by decide)]
    congr 3
    funext j
    rw [if_neg (by omega)]
  | d + 1, k, lane, size, items, hk, n, hn => by
    obtain ⟨n, rfl⟩ : ∃ q, n = q + 1 := ⟨n - 1, by omega⟩
    have c1 : ¬ (40 : Int32) ≤ nI k := by
      rw [i32_le, nI_toInt (by omega), show (40 : Int32).toInt = 40 from rfl]; omega
    rw [mX4_begin_b12, if_neg c1, if_neg (nI_ix (by omega) (by omega)), nI_1, begin_loop p1 p2 d (k + 1) lane size _ (by omega) n (by omega), nI_clamp (by omega)]
    congr 3
    funext j
    unfold upd
    by_cases h1 : k + 1 ≤ j ∧ j < 40
    · rw [if_pos h1, if_pos (by omega)]
    · rw [if_neg h1]
      by_cases h2 : j = k
      · rw [if_pos h2, if_pos (by omega)]
      · rw [if_neg h2, if_neg (by omega)]
theorem row_loop (r : Nat) (hr : r < 8) (p2 p3 t s : Int32) (la ma : Nat → Int32) : ∀ (d k : Nat) (items : Nat → Int32), k + d = 40 → ∀ n, d < n → mX7_row_b65 (nI r) p2 p3 n t s la ma items (nI k) = some (p3, t, s, la, ma, fun j => if 40 * r + k ≤ j ∧ j < 40 * r + 40 then 0 else items j)
  | 0, k, items, hk, n, hn => by
    obtain ⟨n, rfl⟩ : ∃ q, n = q + 1 := ⟨n - 1, by omega⟩
    have e : k = 40 := by omega
    subst e
    rw [mX7_row_b65, if_pos (by decide)]
    congr 6
    funext j
    rw [if_neg (by omega)]
  | d + 1, k, items, hk, n, hn => by
    obtain ⟨n, rfl⟩ : ∃ q, n = q + 1 := ⟨n - 1, by omega⟩
    have c1 : ¬ (40 : Int32) ≤ nI k := by
      rw [i32_le, nI_toInt (by omega), show (40 : Int32).toInt = 40 from rfl]; omega
    rw [mX7_row_b65, if_neg c1, mul40, if_neg (nI_ix (by omega) (by omega)), nI_1, row_loop r hr p2 p3 t s la ma d (k + 1) _ (by omega) n (by omega), nI_clamp (by omega)]
    congr 6
    funext j
    unfold upd
    by_cases h1 : 40 * r + (k + 1) ≤ j ∧ j < 40 * r + 40
    · rw [if_pos h1, if_pos (by omega)]
    · rw [if_neg h1]
      by_cases h2 : j = 40 * r + k
      · rw [if_pos h2, if_pos (by omega)]
      · rw [if_neg h2, if_neg (by omega)]
theorem FU_gt {k : Nat} (h : k < 1000) : k < FU := by unfold FU; omega
theorem st0 : Step0 RelW := by
  intro x_begun x_latestFault x_latestFinding rd_length rd_tape v_foot v_feet v_lines v_words v_sizes v_kinds v_spelled d_spelled i0_foot i0_feet i0_lines i0_words i0_sizes i0_kinds i0_spelled i1_foot i1_feet i1_lines i1_words i1_sizes i1_kinds i1_spelled ac_next ac_kept ac_sorts ac_firsts ac_seconds ac_takenKinds ac_takenSpellings x_bodies m_thrown m_status m_acts m_taped m_latest m_traced m_lane m_many m_item m_poem m_was m_tape m_isKept m_kept m_trace x_lane x_rsz x_item L la sa ln sy sn lt st a1 a2 a3 hR
  obtain ⟨hF, hG, hT, hW, hC, hZ⟩ := hR
  have h6 := isRow6 a1
  have h7 := isRow7 a1
  have e0 : (0 : Int32).toInt = 0 := rfl
  have e3 : (3 : Int32).toInt = 3 := rfl
  have e40 : (40 : Int32).toInt = 40 := rfl
  by_cases h : 0 ≤ a1.toInt ∧ a1.toInt ≤ 7
  · rw [if_pos h] at h6 h7
    obtain ⟨r, hr, rfl⟩ := i32_nat (p := a1) (n := 8) h.1 (by omega) (by omega)
    have c1 : ¬ (nI r < 0 ∨ 8 ≤ (nI r).toNatClampNeg) := nI_ix hr (by omega)
    have cl : (nI r).toNatClampNeg = r := nI_clamp (by omega)
    have c2 : ¬ 8 ≤ (nI r).toNatClampNeg := by rw [cl]; omega
    have hin := in_i a2 0 2
    rw [show (0 : Int64).toInt = 0 from rfl, show (2 : Int64).toInt = 2 from rfl] at hin
    by_cases g : 0 ≤ a2.toInt ∧ a2.toInt ≤ 2
    · rw [if_pos g] at hin
      have d1 : ¬ a2 < 0 := by rw [i32_lt]; omega
      have d2 : ¬ (3 : Int32) ≤ a2 := by rw [i32_le]; omega
      by_cases k1 : a3 ≤ 40
      · by_cases k2 : 0 ≤ a3
        · refine ⟨a3, 0, va_up x_lane r a2, va_up x_rsz r a3, va_up x_item r (fun j => if 0 ≤ j ∧ j < 40 then 0 else x_item r j), 0, 0, upd m_lane r a2, upd m_many r a3, (fun j => if 40 * r + 0 ≤ j ∧ j < 40 * r + 40 then 0 else m_item j), ?_, ?_, rfl, hG, hT, ?_, hC, hZ⟩
          · unfold mX6_row mX6_row_b0
            rw [h6, os1, if_neg (by decide), if_neg d1, if_neg d2, if_pos k1, if_pos k2, if_neg c1, if_neg c2, cl]
            have hb := begin_loop a2 a3 40 0 a2 a3 (x_item r) (by omega) FU (FU_gt (by omega))
            rw [nI_0] at hb
            unfold mX4_begin mX4_begin_b0
            rw [hb, os3]
          · unfold mX7_row mX7_row_b0
            rw [h7, os1, if_neg (by decide), hin, os1, if_neg (by decide), if_pos k1, if_pos k2, if_neg c1, if_neg c1, cl]
            exact row_loop r hr a2 a3 0 0 _ _ 40 0 m_item (by omega) FU (FU_gt (by omega))
          · intro q hq
            obtain ⟨g1, g2, g3, g4, g5⟩ := hW q hq
            rw [i32_le] at k1 k2
            by_cases hqr : q = r
            · subst hqr
              rw [upd_eq, upd_eq, va_up_self, va_up_self, va_up_self, va_up_self, va_up_self]
              refine ⟨rfl, rfl, by omega, by omega, fun k hk => ?_⟩
              dsimp only
              rw [if_pos (by omega), if_pos (by omega)]
            · rw [upd_eq, upd_eq, va_up_ne _ _ hqr, va_up_ne _ _ hqr, va_up_ne _ _ hqr, va_up_ne _ _ hqr, va_up_ne _ _ hqr]
              refine ⟨g1, g2, g3, g4, fun k hk => ?_⟩
              dsimp only
              rw [if_neg (by omega)]
              exact g5 k hk
        · refine ⟨-1000010 - 4, 4, x_lane, x_rsz, x_item, 0, 4, m_lane, m_many, m_item, ?_, ?_, rfl, hG, hT, hW, hC, hZ⟩
          · unfold mX6_row mX6_row_b0
            rw [h6, os1, if_neg (by decide), if_neg d1, if_neg d2, if_pos k1, if_neg k2]
            rfl
          · unfold mX7_row mX7_row_b0
            rw [h7, os1, if_neg (by decide), hin, os1, if_neg (by decide), if_pos k1, if_neg k2]
            rfl
      · refine ⟨-1000001, x_latestFinding, x_lane, x_rsz, x_item, 0, m_status, m_lane, m_many, m_item, ?_, ?_, hF, hG, hT, hW, hC, hZ⟩
        · unfold mX6_row mX6_row_b0
          rw [h6, os1, if_neg (by decide), if_neg d1, if_neg d2, if_neg k1]
        · unfold mX7_row mX7_row_b0
          rw [h7, os1, if_neg (by decide), hin, os1, if_neg (by decide), if_neg k1]
    · rw [if_neg g] at hin
      refine ⟨-1000001, x_latestFinding, x_lane, x_rsz, x_item, 0, m_status, m_lane, m_many, m_item, ?_, ?_, hF, hG, hT, hW, hC, hZ⟩
      · unfold mX6_row mX6_row_b0
        rw [h6, os1, if_neg (by decide)]
        by_cases d1 : a2 < 0
        · rw [if_pos d1]
        · rw [if_neg d1, if_pos]
          rw [i32_lt] at d1; rw [i32_le]; omega
      · unfold mX7_row mX7_row_b0
        rw [h7, os1, if_neg (by decide), hin]
        rfl
  · rw [if_neg h] at h6 h7
    refine ⟨-1000001, x_latestFinding, x_lane, x_rsz, x_item, 0, m_status, m_lane, m_many, m_item, ?_, ?_, hF, hG, hT, hW, hC, hZ⟩
    · unfold mX6_row mX6_row_b0
      rw [h6]
      rfl
    · unfold mX7_row mX7_row_b0
      rw [h7]
      rfl
