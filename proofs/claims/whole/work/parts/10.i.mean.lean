/-! how long it is dark: sum, how many, since when -/
def zmn (f : Int → Int) (t : Int) (r : Int × Int × Int) : Int × Int × Int :=
  if zev 1 (f (t - 1)) (f t) = true ∧ (if zev 0 (f (t - 1)) (f t) = true then t else r.2.2) ≠ -1 then (r.1 + (t - (if zev 0 (f (t - 1)) (f t) = true then t else r.2.2)), r.2.1 + 1, if zev 0 (f (t - 1)) (f t) = true then t else r.2.2)
  else (r.1, r.2.1, if zev 0 (f (t - 1)) (f t) = true then t else r.2.2)
def zmd (f : Int → Int) : Nat → Int → Int × Int × Int → Int × Int × Int
  | 0, _, r => r
  | k + 1, t, r => zmd f k (t + 1) (zmn f t r)
theorem zmd_step {f : Int → Int} {k : Nat} {t : Int} {r : Int × Int × Int} : zmd f (k + 1) t r = zmd f k (t + 1) (zmn f t r) := rfl
section ZMN
variable {f : Int → Int} {t s9 n9 d9 : Int}
theorem zmn_dl (h0 : zev 0 (f (t - 1)) (f t) = true) (h1 : zev 1 (f (t - 1)) (f t) = true) (ht : t ≠ -1) : zmn f t (s9, n9, d9) = (s9 + (t - t), n9 + 1, t) := by
  have e0 : (if zev 0 (f (t - 1)) (f t) = true then t else d9) = t := if_pos h0
  unfold zmn
  dsimp only
  rw [e0, if_pos ⟨h1, ht⟩]
theorem zmn_l (h0 : zev 0 (f (t - 1)) (f t) = false) (h1 : zev 1 (f (t - 1)) (f t) = true) (hd : d9 ≠ -1) : zmn f t (s9, n9, d9) = (s9 + (t - d9), n9 + 1, d9) := by
  have e0 : (if zev 0 (f (t - 1)) (f t) = true then t else d9) = d9 := if_neg (by rw [h0]; decide)
  unfold zmn
  dsimp only
  rw [e0, if_pos ⟨h1, hd⟩]
theorem zmn_ln (h0 : zev 0 (f (t - 1)) (f t) = false) (hd : d9 = -1) : zmn f t (s9, n9, d9) = (s9, n9, d9) := by
  have e0 : (if zev 0 (f (t - 1)) (f t) = true then t else d9) = d9 := if_neg (by rw [h0]; decide)
  unfold zmn
  dsimp only
  rw [e0, if_neg (fun z => z.2 hd)]
theorem zmn_d (h0 : zev 0 (f (t - 1)) (f t) = true) (h1 : zev 1 (f (t - 1)) (f t) = false) : zmn f t (s9, n9, d9) = (s9, n9, t) := by
  have e0 : (if zev 0 (f (t - 1)) (f t) = true then t else d9) = t := if_pos h0
  unfold zmn
  dsimp only
  rw [e0, if_neg (fun z => absurd (h1.symm.trans z.1) (by decide))]
theorem zmn_0 (h0 : zev 0 (f (t - 1)) (f t) = false) (h1 : zev 1 (f (t - 1)) (f t) = false) : zmn f t (s9, n9, d9) = (s9, n9, d9) := by
  have e0 : (if zev 0 (f (t - 1)) (f t) = true then t else d9) = d9 := if_neg (by rw [h0]; decide)
  unfold zmn
  dsimp only
  rw [e0, if_neg (fun z => absurd (h1.symm.trans z.1) (by decide))]
end ZMN
/-- the mean -/
def zmdv (r : Int × Int × Int) := if r.2.1 ≤ 0 then FP.dconst0 else FP.ddiv (FP.i2d (zI r.1)) (FP.i2d (zI r.2.1))
theorem zmd_c {f g : Int → Int} : ∀ (k : Nat) (t : Int) (r : Int × Int × Int), (∀ u : Int, t - 1 ≤ u → u < t + k → f u = g u) → zmd f k t r = zmd g k t r
  | 0, _, _, _ => rfl
  | k + 1, t, r, h => by
    have h1 : zmn f t r = zmn g t r := by
      unfold zmn
      rw [h (t - 1) (by omega) (by omega), h t (by omega) (by omega)]
    show zmd f k (t + 1) (zmn f t r) = zmd g k (t + 1) (zmn g t r)
    rw [h1]
    exact zmd_c k (t + 1) _ (fun u a b => h u (by omega) (by omega))
