-- uses: 574.spell
/-! the relation holds at first -/
theorem relInit : RelInit RelW := by
  intro q qa qs
  refine ⟨rfl, rfl, ⟨⟨0, by omega, rfl⟩, rfl, rfl, fun j => ⟨0, by omega, rfl⟩⟩, ?_, ⟨rfl, 0, by omega, rfl, fun i hi => absurd hi (by omega)⟩, ?_, fun j _ => List.mem_singleton.mpr rfl, ⟨fun j _ => List.mem_singleton.mpr rfl, Or.inl ⟨rfl, rfl⟩⟩, ⟨fun j _ => List.mem_singleton.mpr rfl, Or.inl ⟨rfl, rfl⟩⟩, (0, 0, [], []), ?_, ?_, ?_, fun j _ => List.mem_singleton.mpr rfl, 0, [], by omega, by simp, rfl, rfl, rfl, trivial, fun j hj => absurd hj (by simp)⟩
  · intro r hr
    have hr' : r = 0 ∨ r = 1 ∨ r = 2 ∨ r = 3 ∨ r = 4 ∨ r = 5 ∨ r = 6 ∨ r = 7 := by omega
    refine ⟨?_, rfl, ⟨by show (-1 : Int) ≤ (-1 : Int32).toInt; decide, by show (-1 : Int32).toInt ≤ 2; decide⟩, ⟨by show (0 : Int) ≤ (0 : Int32).toInt; decide, by show (0 : Int32).toInt ≤ 40; decide⟩, fun k _ => rfl⟩
    rcases hr' with rfl | rfl | rfl | rfl | rfl | rfl | rfl | rfl <;> rfl
  · intro a _
    refine ⟨0, by omega, by show spl_len 0 (0 : Int32) = nI 0; decide, rfl, rfl, fun p hp => absurd hp (by omega)⟩
  · refine ⟨by decide, by decide, fun h => absurd h (by decide), by decide, fun l hl => absurd hl (by simp [aL]), rfl, fun w hw => absurd hw (by simp [aW])⟩
  · exact ⟨rfl, rfl, rfl, rfl, fun l hl => absurd hl (by simp [aL]), fun w hw => absurd hw (by simp [aW]), fun j _ => List.mem_singleton.mpr rfl⟩
  · exact ⟨rfl, rfl, rfl, fun l _ => by simp [aSz]; rfl, fun w hw => absurd hw (by simp [aW])⟩
