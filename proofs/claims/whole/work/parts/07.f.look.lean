/-! the reference's run through the events -/
def zyEV (fa : Int → Int) (t m k : Int) : Bool := zev k (zL2 (fa 0) (fa 1) (fa 2) (ya fa m) (t - 1)) (zL2 (fa 0) (fa 1) (fa 2) (ya fa m) t)
def yDM (fa : Int → Int) (t : Int) : Int := zcnt (fun k => decide (zS (fa 0) (fa 1) (fa 2) (ya fa k) t ≠ 0)) 0 (fa 3)
theorem yDM_in {fa : Int → Int} (t : Int) (h : 0 ≤ fa 3) : 0 ≤ yDM fa t ∧ yDM fa t ≤ fa 3 := by
  have := zcnt_rng (q := fun k => decide (zS (fa 0) (fa 1) (fa 2) (ya fa k) t ≠ 0)) (i := 0) (e := fa 3)
  unfold yDM
  exact ⟨this.1, by have h2 := this.2 h; omega⟩
/-- a moon's start turned, in the reference's row -/
def ytn (fa : Int → Int) (mo v : Int) : Int → Int := zU fa (5 + 14 * mo + 4) ((fa (5 + 14 * mo + 4) + v) % 360)
theorem yval_turn {fa : Int → Int} {mo v : Int} (hv : yval fa) (h0 : 0 ≤ mo) (h1 : mo < fa 3) : yval (ytn fa mo v) := by
  obtain ⟨⟨a1, a2, a3, a4, a5⟩, a6, a7⟩ := hv
  have e : ∀ j, j ≠ 5 + 14 * mo + 4 → ytn fa mo v j = fa j := fun j hj => zU_ne hj
  refine ⟨⟨by rw [e 0 (by omega)]; exact a1, by rw [e 1 (by omega)]; exact a2, by rw [e 2 (by omega)]; exact a3, by rw [e 3 (by omega)]; exact a4, by rw [e 4 (by omega)]; exact a5⟩, ?_, ?_⟩
  · intro m m0 m1
    rw [e 3 (by omega)] at m1
    obtain ⟨g0, g1, g2, g3, g4, g5⟩ := a6 m m0 m1
    have e2 : ∀ w, 0 ≤ w → w < 6 → w ≠ 4 → ya (ytn fa mo v) m w = ya fa m w := fun w w0 w1 w2 => e _ (by omega)
    refine ⟨by rw [e2 0 (by omega) (by omega) (by omega)]; exact g0, by rw [e2 1 (by omega) (by omega) (by omega)]; exact g1, by rw [e2 2 (by omega) (by omega) (by omega)]; exact g2, by rw [e2 3 (by omega) (by omega) (by omega)]; exact g3, ?_, by rw [e2 5 (by omega) (by omega) (by omega)]; exact g5⟩
    by_cases q : m = mo
    · subst q
      have : ya (ytn fa m v) m 4 = (fa (5 + 14 * m + 4) + v) % 360 := zU_at
      rw [this]
      omega
    · have : ya (ytn fa mo v) m 4 = ya fa m 4 := e _ (by omega)
      rw [this]
      exact g4
  · intro j j0 j1
    rw [e 4 (by omega)] at j1
    have hs := a7 j j0 j1
    unfold yS
    rw [e (89 + 3 * j + 0) (by omega), e (89 + 3 * j + 1) (by omega), e (89 + 3 * j + 2) (by omega), e 3 (by omega)]
    exact hs
theorem ytn_back {fa : Int → Int} {mo v : Int} : zU (ytn fa mo v) (5 + 14 * mo + 4) (fa (5 + 14 * mo + 4)) = fa := by
  funext j
  by_cases q : j = 5 + 14 * mo + 4
  · subst q; exact zU_at
  · rw [zU_ne q]; exact zU_ne q
/-- the fall of drops -/
theorem zdrop_cons {α : Type} {L R : List α} {x : α} {g : Int} (h0 : 0 ≤ g) (h : L.drop g.toNat = x :: R) : L[g.toNat]? = some x ∧ L.drop (g + 1).toNat = R ∧ g < (L.length : Int) := by
  have h1 : (L.drop g.toNat)[0]? = some x := by rw [h]; rfl
  rw [List.getElem?_drop, Nat.add_zero] at h1
  refine ⟨h1, ?_, ?_⟩
  · rw [show (g + 1).toNat = g.toNat + 1 by omega, ← List.drop_drop, h]; rfl
  · obtain ⟨h2, -⟩ := List.getElem?_eq_some_iff.mp h1
    omega
theorem zdrop_nil {α : Type} {L : List α} {g : Int} (h0 : 0 ≤ g) (hl : g ≤ (L.length : Int)) (h : L.drop g.toNat = []) : g = (L.length : Int) := by
  rw [List.drop_eq_nil_iff] at h
  omega
theorem ytn_none {fa : Int → Int} {mo : Int} (h : zgok (ya fa mo)) : ytn fa mo (zShf 0) = fa := by
  have h4 : 0 ≤ fa (5 + 14 * mo + 4) ∧ fa (5 + 14 * mo + 4) ≤ 359 := h.2.2.2.2.1
  have e0 : zShf 0 = 0 := rfl
  funext j
  by_cases q : j = 5 + 14 * mo + 4
  · subst q
    show zU fa (5 + 14 * mo + 4) _ (5 + 14 * mo + 4) = _
    rw [zU_at, e0]
    omega
  · exact zU_ne q
theorem zShf_odd {k : Int} (h0 : 1 ≤ k) (h1 : k < 7) (h : Int.tmod k 2 = 1) : Int.tdiv (-(k + 1)) 2 = zShf k := by
  have h7 : k = 1 ∨ k = 2 ∨ k = 3 ∨ k = 4 ∨ k = 5 ∨ k = 6 := by omega
  rcases h7 with rfl | rfl | rfl | rfl | rfl | rfl <;> first | rfl | exact absurd h (by decide)
theorem zShf_even {k : Int} (h0 : 1 ≤ k) (h1 : k < 7) (h : Int.tmod k 2 ≠ 1) : Int.tdiv k 2 = zShf k := by
  have h7 : k = 1 ∨ k = 2 ∨ k = 3 ∨ k = 4 ∨ k = 5 ∨ k = 6 := by omega
  rcases h7 with rfl | rfl | rfl | rfl | rfl | rfl <;> first | rfl | exact absurd rfl h
theorem zev_same {k w : Int} : zev k w w = false := zev_false (by omega)
theorem zyEV_in {fa : Int → Int} {t m k : Int} : zyEV fa t m k = zev k (zL2 (fa 0) (fa 1) (fa 2) (ya fa m) (t - 1)) (zL2 (fa 0) (fa 1) (fa 2) (ya fa m) t) := rfl
