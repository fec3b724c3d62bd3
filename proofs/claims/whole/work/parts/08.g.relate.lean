/-- the class's sky and the reference's row tell the same -/
def zRel (pr di dr mc sc : Int) (mn sn fa : Int → Int) : Prop := (pr = fa 0 ∧ di = fa 1 ∧ dr = fa 2 ∧ mc = fa 3 ∧ sc = fa 4) ∧ (∀ m, 0 ≤ m → m < fa 3 → zsame (zg mn m) (ya fa m)) ∧ (∀ j, 0 ≤ j → j < fa 4 → ∀ w, 0 ≤ w → w < 3 → sn (j * 3 + w) = fa (89 + 3 * j + w))
theorem zO_rel {pr di dr mc sc : Int} {mn sn fa : Int → Int} (h : zRel pr di dr mc sc mn sn fa) (hv : yval fa) {j : Int} (h0 : 0 ≤ j) (h1 : j < fa 4) : zO pr di dr mn sn j = yoff fa j := by
  obtain ⟨⟨e0, e1, e2, -, -⟩, hm, hs⟩ := h
  unfold zO yoff
  rw [hs j h0 h1 0 (by omega) (by omega), hs j h0 h1 1 (by omega) (by omega), hs j h0 h1 2 (by omega) (by omega), e0, e1, e2]
  exact zoff_c (fun t => zth_c (hm _ (hv.2.2 j h0 h1).1.1 (hv.2.2 j h0 h1).1.2))
theorem zBu_rel {pr di dr mc sc : Int} {mn sn fa : Int → Int} (h : zRel pr di dr mc sc mn sn fa) (hv : yval fa) (m : Int) : zBu pr di dr sc mn sn m = ybur fa m := by
  have e4 : sc = fa 4 := h.1.2.2.2.2
  unfold zBu ybur
  rw [e4]
  refine zsum_congr (fa 4 - 0).toNat 0 rfl (fun j h0 h1 => ?_)
  unfold zB1 ybur1
  rw [zO_rel h hv h0 h1, h.2.2 j h0 h1 0 (by omega) (by omega)]
theorem zLo_rel {pr di dr mc sc : Int} {mn sn fa : Int → Int} (h : zRel pr di dr mc sc mn sn fa) (hv : yval fa) : zLo pr di dr sc mn sn = ylost fa := by
  have e4 : sc = fa 4 := h.1.2.2.2.2
  unfold zLo ylost
  rw [e4]
  exact zcnt_congr (fun j h0 h1 => by rw [zO_rel h hv h0 h1])
theorem zDM_rel {pr di dr mc sc : Int} {mn sn fa : Int → Int} (h : zRel pr di dr mc sc mn sn fa) (t : Int) : zDM pr di dr mc mn t = yDM fa t := by
  obtain ⟨⟨e0, e1, e2, e3, -⟩, hm, -⟩ := h
  unfold zDM yDM
  rw [e0, e1, e2, e3]
  exact zcnt_congr (fun k h0 h1 => by rw [zS_c (hm k h0 h1)])
theorem zlMN_c {ev ev2 : Int → Int → Int → Bool} {t mc : Int} (h : ∀ m k, 0 ≤ m → m < mc → 0 ≤ k → k < 4 → ev t m k = ev2 t m k) : ∀ (n : Nat) (m : Int), 0 ≤ m → m + n ≤ mc → zlMN ev t n m = zlMN ev2 t n m
  | 0, _, _, _ => rfl
  | n + 1, m, h0, h1 => by
    show zlK ev t m 0 ++ zlMN ev t n (m + 1) = zlK ev2 t m 0 ++ zlMN ev2 t n (m + 1)
    rw [zlK_congr (fun k k0 k1 => h m k h0 (by omega) k0 k1), zlMN_c h n (m + 1) (by omega) (by omega)]
theorem zlTN_c {ev ev2 : Int → Int → Int → Bool} {mc : Int} (h : ∀ t m k, 0 ≤ m → m < mc → 0 ≤ k → k < 4 → ev t m k = ev2 t m k) (hm : 0 ≤ mc) : ∀ (n : Nat) (t : Int), zlTN ev mc n t = zlTN ev2 mc n t
  | 0, _ => rfl
  | n + 1, t => by
    show zlM ev t 0 mc ++ zlTN ev mc n (t + 1) = zlM ev2 t 0 mc ++ zlTN ev2 mc n (t + 1)
    rw [zlTN_c h hm n (t + 1)]
    unfold zlM
    rw [zlMN_c (h t) (mc - 0).toNat 0 (by omega) (by omega)]
theorem zlT_rel {pr di dr mc sc : Int} {mn sn fa : Int → Int} (h : zRel pr di dr mc sc mn sn fa) (h3 : 0 ≤ fa 3) (a b : Int) : zlT (zEV pr di dr mn) mc a b = zlT (zyEV fa) (fa 3) a b := by
  obtain ⟨⟨e0, e1, e2, e3, -⟩, hm, -⟩ := h
  rw [e0, e1, e2, e3]
  exact zlTN_c (fun t m k m0 m1 _ _ => by unfold zEV zyEV; rw [zL2_c (hm m m0 m1), zL2_c (hm m m0 m1)]) h3 _ _
