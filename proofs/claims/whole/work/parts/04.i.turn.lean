theorem zDM_in (pr di dr : Int) {mc : Int} (mn : Int → Int) (t : Int) (h : 0 ≤ mc) : 0 ≤ zDM pr di dr mc mn t ∧ zDM pr di dr mc mn t ≤ mc := by
  have := zcnt_rng (q := fun k => decide (zS pr di dr (zg mn k) t ≠ 0)) (i := 0) (e := mc)
  unfold zDM
  exact ⟨this.1, by have h2 := this.2 h; omega⟩
/-- a moon's start turned -/
def ztn (mn : Int → Int) (mo v : Int) : Int → Int := zU mn (mo * 6 + 4) ((mn (mo * 6 + 4) + v) % 360)
theorem zU_at {f : Int → Int} {i v : Int} : zU f i v i = v := if_pos rfl
theorem zU_ne {f : Int → Int} {i j v : Int} (h : j ≠ i) : zU f i v j = f j := if_neg h
theorem zval_turn {pr di dr mc sc : Int} {mn sn : Int → Int} {mo v : Int} (hv : zval pr di dr mc sc mn sn) (h0 : 0 ≤ mo) (h1 : mo < mc) : zval pr di dr mc sc (ztn mn mo v) sn := by
  obtain ⟨a1, a2, a3, a4, a5, a6, a7⟩ := hv
  refine ⟨a1, a2, a3, a4, a5, fun m m0 m1 => ?_, a7⟩
  have hg := a6 m m0 m1
  have e : ∀ w, 0 ≤ w → w < 6 → zg (ztn mn mo v) m w = if m = mo ∧ w = 4 then (mn (mo * 6 + 4) + v) % 360 else zg mn m w := by
    intro w w0 w1
    unfold zg ztn
    by_cases q : m = mo ∧ w = 4
    · obtain ⟨rfl, rfl⟩ := q
      rw [if_pos ⟨rfl, rfl⟩]
      exact zU_at
    · rw [if_neg q]
      exact zU_ne (by omega)
  obtain ⟨g0, g1, g2, g3, g4, g5⟩ := hg
  unfold zgok
  refine ⟨by rw [e 0 (by omega) (by omega), if_neg (by omega)]; exact g0, by rw [e 1 (by omega) (by omega), if_neg (by omega)]; exact g1, by rw [e 2 (by omega) (by omega), if_neg (by omega)]; exact g2, by rw [e 3 (by omega) (by omega), if_neg (by omega)]; exact g3, ?_, by rw [e 5 (by omega) (by omega), if_neg (by omega)]; exact g5⟩
  rw [e 4 (by omega) (by omega)]
  by_cases q : m = mo ∧ (4 : Int) = 4
  · rw [if_pos q]; omega
  · rw [if_neg q]; exact g4
/-- the first shift of the least -/
def zlsN (f : Int → Int) : Nat → Int → Int → Int → Int
  | 0, _, i, _ => i
  | n + 1, k, i, m => if f k < m then zlsN f n (k + 1) (zShf k) (f k) else zlsN f n (k + 1) i m
def zls7 (f : Int → Int) (k i m : Int) : Int := zlsN f (7 - k).toNat k i m
theorem zls7_end {f : Int → Int} {k i m : Int} (h : 7 ≤ k) : zls7 f k i m = i := by
  unfold zls7
  rw [show (7 - k).toNat = 0 by omega]
  rfl
theorem zls7_yes {f : Int → Int} {k i m : Int} (h : k < 7) (h2 : f k < m) : zls7 f k i m = zls7 f (k + 1) (zShf k) (f k) := by
  unfold zls7
  rw [show (7 - k).toNat = (7 - (k + 1)).toNat + 1 by omega]
  exact if_pos h2
theorem zls7_no {f : Int → Int} {k i m : Int} (h : k < 7) (h1 : ¬ f k < m) : zls7 f k i m = zls7 f (k + 1) i m := by
  unfold zls7
  rw [show (7 - k).toNat = (7 - (k + 1)).toNat + 1 by omega]
  exact if_neg h1
theorem zShf_in (k : Int) : -3 ≤ zShf k ∧ zShf k ≤ 3 := by
  unfold zShf
  repeat' split
  all_goals omega
theorem zlsN_in (f : Int → Int) : ∀ (n : Nat) (k i m : Int), (-3 ≤ i ∧ i ≤ 3) → -3 ≤ zlsN f n k i m ∧ zlsN f n k i m ≤ 3
  | 0, _, _, _, h => h
  | n + 1, k, i, m, h => by
    show -3 ≤ (if f k < m then zlsN f n (k + 1) (zShf k) (f k) else zlsN f n (k + 1) i m) ∧ (if f k < m then zlsN f n (k + 1) (zShf k) (f k) else zlsN f n (k + 1) i m) ≤ 3
    split
    · exact zlsN_in f n _ _ _ (zShf_in k)
    · exact zlsN_in f n _ _ _ h
theorem zls7_in (f : Int → Int) (k i m : Int) (h : -3 ≤ i ∧ i ≤ 3) : -3 ≤ zls7 f k i m ∧ zls7 f k i m ≤ 3 := zlsN_in f _ _ _ _ h
