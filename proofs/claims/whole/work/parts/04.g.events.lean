/-! the list of events -/
def zks (q : Int → Bool) : Nat → Int → List Int
  | 0, _ => []
  | n + 1, k => if q k = true then k :: zks q n (k + 1) else zks q n (k + 1)
/-- the kinds from k on, of what holds of them -/
def zlK (ev : Int → Int → Int → Bool) (t m k : Int) : List (Int × Int × Int) := (zks (ev t m) (4 - k).toNat k).map (fun j => (t, m, j))
def zlMN (ev : Int → Int → Int → Bool) (t : Int) : Nat → Int → List (Int × Int × Int)
  | 0, _ => []
  | n + 1, m => zlK ev t m 0 ++ zlMN ev t n (m + 1)
def zlM (ev : Int → Int → Int → Bool) (t m mc : Int) : List (Int × Int × Int) := zlMN ev t (mc - m).toNat m
def zlTN (ev : Int → Int → Int → Bool) (mc : Int) : Nat → Int → List (Int × Int × Int)
  | 0, _ => []
  | n + 1, t => zlM ev t 0 mc ++ zlTN ev mc n (t + 1)
def zlT (ev : Int → Int → Int → Bool) (mc t b : Int) : List (Int × Int × Int) := zlTN ev mc (b + 1 - t).toNat t
theorem zlK_end {ev : Int → Int → Int → Bool} {t m k : Int} (h : 4 ≤ k) : zlK ev t m k = [] := by
  unfold zlK
  rw [show (4 - k).toNat = 0 by omega]
  rfl
theorem zlK_yes {ev : Int → Int → Int → Bool} {t m k : Int} (h : k < 4) (hq : ev t m k = true) : zlK ev t m k = (t, m, k) :: zlK ev t m (k + 1) := by
  unfold zlK
  rw [show (4 - k).toNat = (4 - (k + 1)).toNat + 1 by omega]
  show List.map _ (if ev t m k = true then k :: _ else _) = _
  rw [if_pos hq]
  rfl
theorem zlK_no {ev : Int → Int → Int → Bool} {t m k : Int} (h : k < 4) (hq : ev t m k = false) : zlK ev t m k = zlK ev t m (k + 1) := by
  unfold zlK
  rw [show (4 - k).toNat = (4 - (k + 1)).toNat + 1 by omega]
  show List.map _ (if ev t m k = true then k :: _ else _) = _
  rw [hq, if_neg Bool.false_ne_true]
theorem zlM_end {ev : Int → Int → Int → Bool} {t m mc : Int} (h : mc ≤ m) : zlM ev t m mc = [] := by
  unfold zlM
  rw [show (mc - m).toNat = 0 by omega]
  rfl
theorem zlM_next {ev : Int → Int → Int → Bool} {t m mc : Int} (h : m < mc) : zlM ev t m mc = zlK ev t m 0 ++ zlM ev t (m + 1) mc := by
  unfold zlM
  rw [show (mc - m).toNat = (mc - (m + 1)).toNat + 1 by omega]
  rfl
theorem zlT_end {ev : Int → Int → Int → Bool} {mc t b : Int} (h : b < t) : zlT ev mc t b = [] := by
  unfold zlT
  rw [show (b + 1 - t).toNat = 0 by omega]
  rfl
theorem zlT_next {ev : Int → Int → Int → Bool} {mc t b : Int} (h : t ≤ b) : zlT ev mc t b = zlM ev t 0 mc ++ zlT ev mc (t + 1) b := by
  unfold zlT
  rw [show (b + 1 - t).toNat = (b + 1 - (t + 1)).toNat + 1 by omega]
  rfl
/-- what is yet to come, from a moon of a time on -/
def zlR (ev : Int → Int → Int → Bool) (mc t m b : Int) : List (Int × Int × Int) := if t ≤ b then zlM ev t m mc ++ zlT ev mc (t + 1) b else []
theorem zlR_step {ev : Int → Int → Int → Bool} {mc t m b : Int} (h : t ≤ b) (hm : m + 1 < mc) : zlR ev mc t m b = zlK ev t m 0 ++ zlR ev mc t (m + 1) b := by
  unfold zlR
  rw [if_pos h, if_pos h, zlM_next (by omega), List.append_assoc]
theorem zlR_turn {ev : Int → Int → Int → Bool} {mc t m b : Int} (h : t ≤ b) (hm : m + 1 = mc) : zlR ev mc t m b = zlK ev t m 0 ++ zlR ev mc (t + 1) 0 b := by
  unfold zlR
  rw [if_pos h, zlM_next (by omega), zlM_end (by omega : mc ≤ m + 1), List.append_nil]
  by_cases q : t + 1 ≤ b
  · rw [if_pos q, zlT_next q]
  · rw [if_neg q, zlT_end (by omega)]
theorem zlR_all {ev : Int → Int → Int → Bool} {mc t b : Int} : zlR ev mc t 0 b = zlT ev mc t b := by
  unfold zlR
  by_cases q : t ≤ b
  · rw [if_pos q, zlT_next q]
  · rw [if_neg q, zlT_end (by omega)]
theorem zlK_congr {ev ev2 : Int → Int → Int → Bool} {t m : Int} (h : ∀ k, 0 ≤ k → k < 4 → ev t m k = ev2 t m k) : zlK ev t m 0 = zlK ev2 t m 0 := by
  unfold zlK
  show List.map _ (zks _ 4 0) = List.map _ (zks _ 4 0)
  simp only [zks, Int.zero_add, h 0 (by omega) (by omega), h 1 (by omega) (by omega), h (1 + 1) (by omega) (by omega), h (1 + 1 + 1) (by omega) (by omega)]
/-- bits that wait, as events of a time and moon -/
def zlW (w t m : Int) : List (Int × Int × Int) := zlK (fun _ _ k => zhas w k) t m 0
/-- the first kind that waits -/
def zfw (w : Int) : Int := if zhas w 0 = true then 0 else if zhas w 1 = true then 1 else if zhas w 2 = true then 2 else if zhas w 3 = true then 3 else 0
theorem zlW_zero (t m : Int) : zlW 0 t m = [] := by
  unfold zlW zlK
  have : zks (fun k => zhas 0 k) (4 - 0 : Int).toNat 0 = [] := by decide +kernel
  show List.map _ (zks (fun k => zhas 0 k) (4 - 0 : Int).toNat 0) = _
  rw [this]
  rfl
theorem zlW_first {w : Int} (t m : Int) (h : 0 < w ∧ w < 16) : zlW w t m = (t, m, zfw w) :: zlW (zand w (zxor (zshl 1 (zfw w)) (-1))) t m := by
  have h9 : ∀ v : Fin 16, 0 < v.1 → zks (fun k => zhas (v.1 : Nat) k) (4 - 0 : Int).toNat 0 = zfw (v.1 : Nat) :: zks (fun k => zhas (zand (v.1 : Nat) (zxor (zshl 1 (zfw (v.1 : Nat))) (-1))) k) (4 - 0 : Int).toNat 0 := by decide +kernel
  have e := h9 ⟨w.toNat, by omega⟩ (by show 0 < w.toNat; omega)
  have e2 : ((w.toNat : Nat) : Int) = w := by omega
  simp only [e2] at e
  unfold zlW zlK
  show List.map _ (zks (fun k => zhas w k) (4 - 0 : Int).toNat 0) = _
  rw [e]
  rfl
theorem zfw_in {w : Int} (h : 0 ≤ w ∧ w < 16) : (0 ≤ zfw w ∧ zfw w ≤ 3) ∧ (0 ≤ zand w (zxor (zshl 1 (zfw w)) (-1)) ∧ zand w (zxor (zshl 1 (zfw w)) (-1)) < 16) := by
  have h9 : ∀ v : Fin 16, (0 ≤ zfw (v.1 : Nat) ∧ zfw (v.1 : Nat) ≤ 3) ∧ (0 ≤ zand (v.1 : Nat) (zxor (zshl 1 (zfw (v.1 : Nat))) (-1)) ∧ zand (v.1 : Nat) (zxor (zshl 1 (zfw (v.1 : Nat))) (-1)) < 16) := by decide +kernel
  have e := h9 ⟨w.toNat, by omega⟩
  have e2 : ((w.toNat : Nat) : Int) = w := by omega
  simp only [e2] at e
  exact e
/-- the events of a sky -/
def zEV (pr di dr : Int) (mn : Int → Int) (t m k : Int) : Bool := zev k (zL2 pr di dr (zg mn m) (t - 1)) (zL2 pr di dr (zg mn m) t)
theorem zkb_in {n o : Int} (hn : n = 0 ∨ n = 1 ∨ n = 2) (ho : o = 0 ∨ o = 1 ∨ o = 2) : 0 ≤ zand (zbits n) (zxor (zbits o) (-1)) ∧ zand (zbits n) (zxor (zbits o) (-1)) < 16 := by
  rcases hn with rfl | rfl | rfl <;> rcases ho with rfl | rfl | rfl <;> decide +kernel
theorem zbits_in {n : Int} (hn : n = 0 ∨ n = 1 ∨ n = 2) : 0 ≤ zbits n ∧ zbits n < 16 := by
  rcases hn with rfl | rfl | rfl <;> decide +kernel
theorem zlW_ev {pr di dr : Int} {mn : Int → Int} {t m : Int} : zlW (zand (zbits (zL2 pr di dr (zg mn m) t)) (zxor (zbits (zL2 pr di dr (zg mn m) (t - 1))) (-1))) t m = zlK (zEV pr di dr mn) t m 0 :=
  zlK_congr (fun k h0 h1 => zhas_ev (k := k) (w := zL2 pr di dr (zg mn m) (t - 1)) (n := zL2 pr di dr (zg mn m) t) ⟨h0, by omega⟩ (zL2_in _ _ _ _ _) (zL2_in _ _ _ _ _))
/-- a table that is being run through: what is yet to come -/
def zTI (pr di dr mc : Int) (mn : Int → Int) (a b tm tmo s ss w B : Int) (L : List (Int × Int × Int)) : Prop :=
  (0 ≤ B ∧ B < 16777216) ∧ (0 ≤ w ∧ w < 16) ∧ (0 ≤ s ∧ s ≤ ss) ∧ ss ≤ 12006 ∧ ∃ t m : Int, (a ≤ t ∧ t ≤ b + 1) ∧ (0 ≤ m ∧ (m < mc ∨ mc = 0)) ∧ (t = b + 1 → m = 0) ∧ s = (t - a) * mc + m ∧ ss = (b + 1 - a) * mc ∧
    (∀ j, 0 ≤ j → j < mc → zni B j = zbits (zL2 pr di dr (zg mn j) (if j < m then t else t - 1))) ∧ L = zlW w tm tmo ++ (if mc = 0 then [] else zlR (zEV pr di dr mn) mc t m b)
