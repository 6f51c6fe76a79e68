theorem st_B {p n j : Nat} (h : (fl1.drop p).take n = (List.range n).map (fun i => Cond.eq (.elem (tmV j) (.int (Int32.ofNat i))) (.int (sxC j i)))) (hn : sxN j = n) : ∀ i, i < sxN j → Cond.eq (.elem (tmV j) (.int (Int32.ofNat i))) (.int (sxC j i)) ∈ fl1 := by
  intro i hi
  have h1 : Cond.eq (.elem (tmV j) (.int (Int32.ofNat i))) (.int (sxC j i)) ∈ (fl1.drop p).take n := by
    rw [h]
    exact List.mem_map.mpr ⟨i, List.mem_range.mpr (by omega), rfl⟩
  exact List.mem_of_mem_drop (List.mem_of_mem_take h1)
theorem st_S2 : ∀ j, j < 27 → ∀ i, i < sxN j → Cond.eq (.elem (tmV j) (.int (Int32.ofNat i))) (.int (sxC j i)) ∈ fl1 := by
  intro j hj
  rcases (show j = 0 ∨ j = 1 ∨ j = 2 ∨ j = 3 ∨ j = 4 ∨ j = 5 ∨ j = 6 ∨ j = 7 ∨ j = 8 ∨ j = 9 ∨ j = 10 ∨ j = 11 ∨ j = 12 ∨ j = 13 ∨ j = 14 ∨ j = 15 ∨ j = 16 ∨ j = 17 ∨ j = 18 ∨ j = 19 ∨ j = 20 ∨ j = 21 ∨ j = 22 ∨ j = 23 ∨ j = 24 ∨ j = 25 ∨ j = 26 by omega) with rfl | rfl | rfl | rfl | rfl | rfl | rfl | rfl | rfl | rfl | rfl | rfl | rfl | rfl | rfl | rfl | rfl | rfl | rfl | rfl | rfl | rfl | rfl | rfl | rfl | rfl | rfl
  · exact st_B st_B0 rfl
  · exact st_B st_B1 rfl
  · exact st_B st_B2 rfl
  · exact st_B st_B3 rfl
  · exact st_B st_B4 rfl
  · exact st_B st_B5 rfl
  · exact st_B st_B6 rfl
  · exact st_B st_B7 rfl
  · exact st_B st_B8 rfl
  · exact st_B st_B9 rfl
  · exact st_B st_B10 rfl
  · exact st_B st_B11 rfl
  · exact st_B st_B12 rfl
  · exact st_B st_B13 rfl
  · exact st_B st_B14 rfl
  · exact st_B st_B15 rfl
  · exact st_B st_B16 rfl
  · exact st_B st_B17 rfl
  · exact st_B st_B18 rfl
  · exact st_B st_B19 rfl
  · exact st_B st_B20 rfl
  · exact st_B st_B21 rfl
  · exact st_B st_B22 rfl
  · exact st_B st_B23 rfl
  · exact st_B st_B24 rfl
  · exact st_B st_B25 rfl
  · exact st_B st_B26 rfl
