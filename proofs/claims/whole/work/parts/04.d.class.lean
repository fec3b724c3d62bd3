/-! the class's own words -/
/-- a sight that may stand -/
def zsok (mc : Int) (sn : Int → Int) (j : Int) : Prop := (0 ≤ sn (j * 3) ∧ sn (j * 3) < mc) ∧ (0 ≤ sn (j * 3 + 1) ∧ sn (j * 3 + 1) ≤ 3) ∧ (1 ≤ sn (j * 3 + 2) ∧ sn (j * 3 + 2) ≤ 1000000)
/-- a sky that may stand -/
def zval (pr di dr mc sc : Int) (mn sn : Int → Int) : Prop := (1 ≤ pr ∧ pr ≤ 999) ∧ (0 ≤ di ∧ di ≤ 359) ∧ (-999 ≤ dr ∧ dr ≤ 999) ∧ (0 ≤ mc ∧ mc ≤ 6) ∧ (0 ≤ sc ∧ sc ≤ 30) ∧ (∀ m, 0 ≤ m → m < mc → zgok (zg mn m)) ∧ (∀ j, 0 ≤ j → j < sc → zsok mc sn j)
theorem zL2_in (pr di dr : Int) (g : Int → Int) (t : Int) : zL2 pr di dr g t = 0 ∨ zL2 pr di dr g t = 1 ∨ zL2 pr di dr g t = 2 := zlk_in _ _
/-- the kinds beginning between two looks -/
theorem zhas_ev {k w n : Int} (hk : 0 ≤ k ∧ k ≤ 3) (hw : w = 0 ∨ w = 1 ∨ w = 2) (hn : n = 0 ∨ n = 1 ∨ n = 2) : zhas (zand (zbits n) (zxor (zbits w) (-1))) k = zev k w n := by
  have h4 : k = 0 ∨ k = 1 ∨ k = 2 ∨ k = 3 := by omega
  rcases h4 with rfl | rfl | rfl | rfl <;> rcases hw with rfl | rfl | rfl <;> rcases hn with rfl | rfl | rfl <;> decide +kernel
def zwhy (s h : Int) : Int := if s ≠ 0 then 0 else if 0 ≤ h then 1 else 2
def zpl (w a b c d : Int) : Int := if w = 0 then a else if w = 1 then b else if w = 2 then c else d
/-- the first time of an event, from a time on -/
def zNX (pr di dr : Int) (g : Int → Int) (kd t : Int) : Int := zfind (fun u => zev kd (zL2 pr di dr g (u - 1)) (zL2 pr di dr g u)) t (min (t + 5000) 1000000 + 1)
def zTK (pr di dr : Int) (g : Int → Int) (a b st : Int) : Int := zcnt (fun u => decide (zS pr di dr g u = st)) a (b + 1)
/-- the first time at which two moons meet -/
def zMT (g g2 : Int → Int) (t : Int) : Int := zfind (fun u => zme (zlx g u) (zly g u) (zlx g2 u) (zly g2 u)) t (min (t + 5000) 1000000 + 1)
/-- bits of what holds -/
def zmaskN (q : Int → Bool) : Nat → Int → Int → Int
  | 0, _, a => a
  | n + 1, i, a => zmaskN q n (i + 1) (if q i = true then zor a (zshl 1 i) else a)
def zmask (q : Int → Bool) (i e a : Int) : Int := zmaskN q (e - i).toNat i a
theorem zmask_end {q : Int → Bool} {i e a : Int} (h : e ≤ i) : zmask q i e a = a := by
  unfold zmask
  rw [show (e - i).toNat = 0 by omega]
  rfl
theorem zmask_next {q : Int → Bool} {i e a : Int} (h : i < e) : zmask q i e a = zmask q (i + 1) e (if q i = true then zor a (zshl 1 i) else a) := by
  unfold zmask
  rw [show (e - i).toNat = (e - (i + 1)).toNat + 1 by omega]
  rfl
theorem zmask_congr {q r : Int → Bool} {e : Int} : ∀ (n : Nat) (i a : Int), (e - i).toNat = n → (∀ j, i ≤ j → j < e → q j = r j) → zmask q i e a = zmask r i e a
  | 0, i, a, hn, _ => by rw [zmask_end (by omega), zmask_end (by omega)]
  | n + 1, i, a, hn, h => by
    rw [zmask_next (q := q) (i := i) (by omega), zmask_next (q := r) (i := i) (by omega), h i (Int.le_refl _) (by omega)]
    exact zmask_congr n (i + 1) _ (by omega) (fun j h1 h2 => h j (by omega) h2)
/-- how far a sight of a sky is off -/
def zO (pr di dr : Int) (mn sn : Int → Int) (j : Int) : Int := zoff (zth pr di dr (zg mn (sn (j * 3 + 0))) (sn (j * 3 + 1))) (sn (j * 3 + 2))
def zB1 (pr di dr : Int) (mn sn : Int → Int) (m j : Int) : Int := if sn (j * 3 + 0) = m then zcost (zO pr di dr mn sn j) else 0
def zBu (pr di dr sc : Int) (mn sn : Int → Int) (m : Int) : Int := zsum (zB1 pr di dr mn sn m) 0 sc
theorem zO_in (pr di dr : Int) (mn sn : Int → Int) (j : Int) : zO pr di dr mn sn j = -1000000 ∨ (-401 ≤ zO pr di dr mn sn j ∧ zO pr di dr mn sn j ≤ 401) := zoff_in _ _
theorem zB1_in (pr di dr : Int) (mn sn : Int → Int) (m j : Int) : 0 ≤ zB1 pr di dr mn sn m j ∧ zB1 pr di dr mn sn m j ≤ 401 := by
  unfold zB1
  split
  · exact zcost_in _ _
  · omega
theorem zBu_in {pr di dr sc : Int} {mn sn : Int → Int} (h0 : 0 ≤ sc) (h1 : sc ≤ 30) (m : Int) : 0 ≤ zBu pr di dr sc mn sn m ∧ zBu pr di dr sc mn sn m ≤ 12030 := by
  have := zsum_b (f := zB1 pr di dr mn sn m) (i := 0) (e := sc) (b := 401) (by omega) (zB1_in pr di dr mn sn m) h0
  unfold zBu
  omega
def zLo (pr di dr sc : Int) (mn sn : Int → Int) : Int := zcnt (fun j => decide (zO pr di dr mn sn j = -1000000)) 0 sc
theorem zth_yes {pr di dr : Int} {g : Int → Int} {k t : Int} (h : 1 ≤ t ∧ t ≤ 1000000) : zth pr di dr g k t = zev k (zL2 pr di dr g (t - 1)) (zL2 pr di dr g t) := by
  unfold zth
  rw [decide_eq_true h]
  rfl
theorem zth_no {pr di dr : Int} {g : Int → Int} {k t : Int} (h : ¬ (1 ≤ t ∧ t ≤ 1000000)) : zth pr di dr g k t = false := by
  unfold zth
  rw [decide_eq_false h]
  rfl
/-- the first of the greatest above m -/
def zwrN (f : Int → Int) : Nat → Int → Int → Int → Int
  | 0, _, i, _ => i
  | n + 1, k, i, m => if f k ≠ -1000000 ∧ m < zabs (f k) then zwrN f n (k + 1) k (zabs (f k)) else zwrN f n (k + 1) i m
def zwr (f : Int → Int) (k e i m : Int) : Int := zwrN f (e - k).toNat k i m
theorem zwr_end {f : Int → Int} {k e i m : Int} (h : e ≤ k) : zwr f k e i m = i := by
  unfold zwr
  rw [show (e - k).toNat = 0 by omega]
  rfl
theorem zwr_yes {f : Int → Int} {k e i m : Int} (h : k < e) (h1 : f k ≠ -1000000) (h2 : m < zabs (f k)) : zwr f k e i m = zwr f (k + 1) e k (zabs (f k)) := by
  unfold zwr
  rw [show (e - k).toNat = (e - (k + 1)).toNat + 1 by omega]
  exact if_pos ⟨h1, h2⟩
theorem zwr_no {f : Int → Int} {k e i m : Int} (h : k < e) (h1 : f k = -1000000 ∨ ¬ m < zabs (f k)) : zwr f k e i m = zwr f (k + 1) e i m := by
  unfold zwr
  rw [show (e - k).toNat = (e - (k + 1)).toNat + 1 by omega]
  exact if_neg (fun z => by rcases h1 with q | q <;> first | exact z.1 q | exact q z.2)
/-- the first time of the most -/
def zdkN (f : Int → Int) : Nat → Int → Int → Int → Int
  | 0, _, i, _ => i
  | n + 1, k, i, m => if m < f k then zdkN f n (k + 1) k (f k) else zdkN f n (k + 1) i m
def zdk (f : Int → Int) (k e i m : Int) : Int := zdkN f (e - k).toNat k i m
theorem zdk_end {f : Int → Int} {k e i m : Int} (h : e ≤ k) : zdk f k e i m = i := by
  unfold zdk
  rw [show (e - k).toNat = 0 by omega]
  rfl
theorem zdk_yes {f : Int → Int} {k e i m : Int} (h : k < e) (h2 : m < f k) : zdk f k e i m = zdk f (k + 1) e k (f k) := by
  unfold zdk
  rw [show (e - k).toNat = (e - (k + 1)).toNat + 1 by omega]
  exact if_pos h2
theorem zdk_no {f : Int → Int} {k e i m : Int} (h : k < e) (h1 : ¬ m < f k) : zdk f k e i m = zdk f (k + 1) e i m := by
  unfold zdk
  rw [show (e - k).toNat = (e - (k + 1)).toNat + 1 by omega]
  exact if_neg h1
/-- how many moons are dark -/
def zDM (pr di dr mc : Int) (mn : Int → Int) (t : Int) : Int := zcnt (fun k => decide (zS pr di dr (zg mn k) t ≠ 0)) 0 mc
