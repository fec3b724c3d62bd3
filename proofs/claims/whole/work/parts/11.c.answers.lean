/-! what both sides answer, of a sky and a row that tell the same -/
theorem zwrN_c {f g : Int → Int} : ∀ (n : Nat) (k i m : Int), (∀ j, k ≤ j → j < k + n → f j = g j) → zwrN f n k i m = zwrN g n k i m
  | 0, _, _, _, _ => rfl
  | n + 1, k, i, m, h => by
    show (if f k ≠ -1000000 ∧ m < zabs (f k) then zwrN f n (k + 1) k (zabs (f k)) else zwrN f n (k + 1) i m) = (if g k ≠ -1000000 ∧ m < zabs (g k) then zwrN g n (k + 1) k (zabs (g k)) else zwrN g n (k + 1) i m)
    have h2 : ∀ j, k + 1 ≤ j → j < k + 1 + n → f j = g j := fun j a b => h j (by omega) (by omega)
    rw [h k (by omega) (by omega), zwrN_c n (k + 1) k _ h2, zwrN_c n (k + 1) i m h2]
section ANS
variable {pr di dr mc sc : Int} {nm mn sn fa : Int → Int}
theorem rn_rel (h : zRN ((pr, di, dr, mc, sc), nm, mn, sn) fa) : zRel pr di dr mc sc mn sn fa := h.1.1
theorem rn_val (h : zRN ((pr, di, dr, mc, sc), nm, mn, sn) fa) : yval fa := qrel_yval h.1 h.2
theorem rn_zval (h : zRN ((pr, di, dr, mc, sc), nm, mn, sn) fa) : zval pr di dr mc sc mn sn := h.2.1
theorem rn_names (h : zRN ((pr, di, dr, mc, sc), nm, mn, sn) fa) {m : Int} (h0 : 0 ≤ m) (h1 : m < mc) : ynm (nm m) (fun k => fa (5 + 14 * m + (6 + k))) := h.1.2 m h0 (by rw [← (rn_rel h).1.2.2.2.1]; exact h1)
theorem rn_worst (h : zRN ((pr, di, dr, mc, sc), nm, mn, sn) fa) : zwr (fun j => zO pr di dr mn sn j) 0 sc (-1) (-1) = zwr (fun j => yoff fa j) 0 (fa 4) (-1) (-1) := by
  rw [(rn_rel h).1.2.2.2.2]
  unfold zwr
  exact zwrN_c _ _ _ _ (fun j a b => zO_rel (rn_rel h) (rn_val h) a (by omega))
theorem rn_sights (h : zRN ((pr, di, dr, mc, sc), nm, mn, sn) fa) (mo : Int) : zsights sn sc mo = ysights fa mo := by
  unfold zsights ysights
  rw [(rn_rel h).1.2.2.2.2]
  refine zcnt_congr (fun j a b => ?_)
  have := (rn_rel h).2.2 j a b 0 (by omega) (by omega)
  rw [Int.add_zero] at this
  rw [this]
theorem rn_burden (h : zRN ((pr, di, dr, mc, sc), nm, mn, sn) fa) (mo : Int) : zBu pr di dr sc mn sn mo = ybur fa mo := zBu_rel (rn_rel h) (rn_val h) mo
theorem rn_turned (h : zRN ((pr, di, dr, mc, sc), nm, mn, sn) fa) {mo : Int} (h1 : 0 ≤ mo ∧ mo < mc) (v : Int) : zBu pr di dr sc (ztn mn mo v) sn mo = ybur (ytn fa mo v) mo := rn_burden (zRN_turn h h1) mo
theorem rn_best (h : zRN ((pr, di, dr, mc, sc), nm, mn, sn) fa) {mo : Int} (h1 : 0 ≤ mo ∧ mo < mc) : zls7 (fun k => zBu pr di dr sc (ztn mn mo (zShf k)) sn mo) 0 0 1000000 = zls7 (fun k => ybur (ytn fa mo (zShf k)) mo) 0 0 1000000 := by
  rw [show (fun k => zBu pr di dr sc (ztn mn mo (zShf k)) sn mo) = (fun k => ybur (ytn fa mo (zShf k)) mo) from funext fun k => rn_turned h h1 (zShf k)]
theorem rn_moon (h : zRN ((pr, di, dr, mc, sc), nm, mn, sn) fa) {mo : Int} (h1 : 0 ≤ mo ∧ mo < mc) : zsame (zg mn mo) (ya fa mo) := (rn_rel h).2.1 mo h1.1 (by rw [← (rn_rel h).1.2.2.2.1]; exact h1.2)
theorem rn_mean (h : zRN ((pr, di, dr, mc, sc), nm, mn, sn) fa) {mo : Int} (h1 : 0 ≤ mo ∧ mo < mc) (k : Nat) (a : Int) (r : Int × Int × Int) : zmdv (zmd (fun u => zL2 pr di dr (zg mn mo) u) k a r) = zmdv (zmd (fun u => zL2 (fa 0) (fa 1) (fa 2) (ya fa mo) u) k a r) := by
  obtain ⟨e0, e1, e2, -, -⟩ := (rn_rel h).1
  rw [← e0, ← e1, ← e2, zmd_c (f := fun u => zL2 pr di dr (zg mn mo) u) (g := fun u => zL2 pr di dr (ya fa mo) u) k a r (fun u _ _ => zL2_c (rn_moon h h1))]
theorem rn_dark (h : zRN ((pr, di, dr, mc, sc), nm, mn, sn) fa) (a b : Int) : zdk (fun t => zDM pr di dr mc mn t) a b (-1) 0 = zdk (fun t => yDM fa t) a b (-1) 0 := by
  rw [show (fun t => zDM pr di dr mc mn t) = (fun t => yDM fa t) from funext fun t => zDM_rel (rn_rel h) t]
theorem rn_events (h : zRN ((pr, di, dr, mc, sc), nm, mn, sn) fa) (a b : Int) : zlT (zEV pr di dr mn) mc a b = zlT (zyEV fa) (fa 3) a b := zlT_rel (rn_rel h) (rn_val h).1.2.2.2.1.1 a b
theorem rn_table (h : zRN ((pr, di, dr, mc, sc), nm, mn, sn) fa) {a b : Int} (ha : 1 ≤ a) (hb : b ≤ 1000000) : zets (fun m => znbN (fun j => zand (zlshr (nm m) (56 - 8 * j)) 255) 8 0) 0 (List.take 20 (zlT (zEV pr di dr mn) mc a b)) = zets (fun m => znlN (fun k => ya fa m (6 + k)) 8 0) 0 (List.take 20 (zlT (zyEV fa) (fa 3) a b)) := by
  rw [← rn_events h a b]
  have hm : 0 ≤ mc := (rn_zval h).2.2.2.1.1
  exact zets_c (mc := mc) (fun m m0 m1 => zname (rn_names h m0 m1)) _ 0 (fun x hx => zlT_ok hm ha hb x (List.mem_of_mem_take hx))
theorem rn_zin (h : zRN ((pr, di, dr, mc, sc), nm, mn, sn) fa) : ∀ m j, 0 ≤ m → m < fa 3 → 0 ≤ j → j < 8 → zin (ya fa m (6 + j)) := qrel_zin h.1
theorem rn_shift (h : zRN ((pr, di, dr, mc, sc), nm, mn, sn) fa) {mo : Int} (h1 : 0 ≤ mo ∧ mo < mc) : zRN ((pr, di, dr, mc, sc), nm, ztn mn mo (zls7 (fun k => zBu pr di dr sc (ztn mn mo (zShf k)) sn mo) 0 0 1000000), sn) (ytn fa mo (zls7 (fun k => ybur (ytn fa mo (zShf k)) mo) 0 0 1000000)) := by
  rw [rn_best h h1]
  exact zRN_turn h h1
end ANS
