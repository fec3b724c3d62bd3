/-- a moon's number put -/
theorem ya_put {fa : Int → Int} {mo wh v w : Int} : ya (zU fa (5 + 14 * mo + wh) v) mo w = if w = wh then v else ya fa mo w := by
  unfold ya
  by_cases q : w = wh
  · subst q
    rw [if_pos rfl, zU_at]
  · rw [if_neg q, zU_ne (by omega)]
theorem zU_back {fa : Int → Int} {i v : Int} : zU (zU fa i v) i (fa i) = fa := by
  funext j
  by_cases q : j = i
  · subst q; exact zU_at
  · rw [zU_ne q, zU_ne q]
theorem zLH_in {wh v : Int} (h : zLow wh ≤ v ∧ v ≤ zHigh wh) (h0 : 0 ≤ wh ∧ wh ≤ 5) : (wh = 0 → 2 ≤ v ∧ v ≤ 9999) ∧ (wh = 1 → 0 ≤ v ∧ v ≤ 60) ∧ (wh = 2 → 0 ≤ v ∧ v ≤ 359) ∧ (wh = 3 → 8 ≤ v ∧ v ≤ 99999) ∧ (wh = 4 → 0 ≤ v ∧ v ≤ 359) ∧ (wh = 5 → 0 ≤ v ∧ v ≤ 99) := by
  have h7 : wh = 0 ∨ wh = 1 ∨ wh = 2 ∨ wh = 3 ∨ wh = 4 ∨ wh = 5 := by omega
  rcases h7 with rfl | rfl | rfl | rfl | rfl | rfl <;> simp [zLow, zHigh] at h <;> omega
