/-! remainders -/
theorem zfm_cases (a b : Int) (hb : 0 < b) : (0 ≤ a → Int.tmod a b = a % b) ∧ (a < 0 → (Int.tmod a b = 0 → a % b = 0) ∧ (Int.tmod a b ≠ 0 → Int.tmod a b + b = a % b)) := by
  refine ⟨fun h => Int.tmod_eq_emod_of_nonneg h, fun h => ?_⟩
  have e : Int.tmod a b = -Int.tmod (-a) b := by rw [Int.neg_tmod]; omega
  have e2 : Int.tmod (-a) b = (-a) % b := Int.tmod_eq_emod_of_nonneg (by omega)
  rw [e, e2]
  have h1 := Int.emod_nonneg (-a) (show b ≠ 0 by omega)
  have h2 := Int.emod_lt_of_pos (-a) hb
  have h3 := Int.emod_nonneg a (show b ≠ 0 by omega)
  have h4 := Int.emod_lt_of_pos a hb
  have h5 := Int.mul_ediv_add_emod a b
  have h6 := Int.mul_ediv_add_emod (-a) b
  have h7 : b * (a / b + (-a) / b) + (a % b + (-a) % b) = 0 := by rw [Int.mul_add]; omega
  generalize a / b + (-a) / b = k at h7
  have hk : k = 0 ∨ k = -1 := by
    rcases Int.lt_trichotomy k 0 with q | q | q
    · rcases Int.lt_or_le k (-1) with q2 | q2
      · have := Int.mul_le_mul_of_nonneg_left (show k ≤ -2 by omega) (show 0 ≤ b by omega)
        omega
      · omega
    · omega
    · have := Int.mul_le_mul_of_nonneg_left (show 1 ≤ k by omega) (show 0 ≤ b by omega)
      omega
  rcases hk with rfl | rfl
  · constructor <;> intro z <;> omega
  · constructor <;> intro z <;> omega
theorem ztmod_cases (a : Int) : (0 ≤ Int.tmod a 36000 ∧ Int.tmod a 36000 = a % 36000) ∨ (Int.tmod a 36000 < 0 ∧ Int.tmod a 36000 + 36000 = a % 36000) := by
  have h := zfm_cases a 36000 (by omega)
  rcases Int.le_total 0 a with q | q
  · left
    rw [h.1 q]
    omega
  · rcases Int.lt_or_eq_of_le q with q2 | q2
    · have h2 := h.2 q2
      by_cases z : Int.tmod a 36000 = 0
      · left; have := h2.1 z; omega
      · right; have := h2.2 z; omega
    · subst q2; left; decide
theorem ztm_in {a b : Int} (hb : 0 < b) : -b < Int.tmod a b ∧ Int.tmod a b < b := by
  have h := zfm_cases a b hb
  have h3 := Int.emod_nonneg a (show b ≠ 0 by omega)
  have h4 := Int.emod_lt_of_pos a hb
  rcases Int.le_total 0 a with q | q
  · rw [h.1 q]; omega
  · rcases Int.lt_or_eq_of_le q with q2 | q2
    · have h2 := h.2 q2
      by_cases z : Int.tmod a b = 0
      · omega
      · have := h2.2 z; omega
    · subst q2; rw [Int.zero_tmod]; omega
theorem zxor_neg {a b : Int} (ha : zin a) (hb : zin b) (h0 : 0 < b) : zxor a b < 0 ↔ a < 0 := by
  have key : ∀ x : Int32, x.toInt < 0 ↔ x.toBitVec.msb = true := fun x => by
    rw [BitVec.msb_eq_toInt]
    simp
    exact Iff.rfl
  unfold zxor
  rw [key, Int32.toBitVec_xor, BitVec.msb_xor]
  have h1 := key (zI a)
  have h2 := key (zI b)
  rw [zI_to ha] at h1
  rw [zI_to hb] at h2
  have hb2 : (zI b).toBitVec.msb = false := by
    cases q : (zI b).toBitVec.msb with
    | false => rfl
    | true => have := h2.mpr q; omega
  rw [hb2, h1]
  simp
/-- whether the bit of a kind is there -/
def zhas (a k : Int) : Bool := decide (zand (zshr a k) 1 ≠ 0)
def zsb (h d r h2 d2 r2 : Int) : Bool := decide (h < h2) && decide (zabs (d - d2) < 100 * r + 100 * r2)
def zme (x y x2 y2 : Int) : Bool := decide (0 < x * x2 + y * y2) && decide (50 * zabs (x * y2 - y * x2) ≤ x * x2 + y * y2)
/-- what a moon must have to fit round its planet -/
def zfit (pr : Int) (g : Int → Int) : Bool := decide (pr + g 5 < Int.tdiv (g 0 * (100 - g 1)) 100)
/-- the first moon of a name -/
def znamed (nm : Int → Int) (mc w : Int) : Int := zfind (fun j => decide (nm j = w)) 0 mc
def zsights (sn : Int → Int) (sc mo : Int) : Int := zcnt (fun j => decide (sn (j * 3) = mo)) 0 sc
def zhasS (sn : Int → Int) (sc mo k t : Int) : Bool := decide (zfind (fun j => decide (sn (j * 3) = mo) && (decide (sn (j * 3 + 1) = k) && decide (sn (j * 3 + 2) = t))) 0 sc ≠ -1)
/-- a sight more behind the others -/
def zput3 (sn : Int → Int) (s mo k t : Int) : Int → Int := zU (zU (zU sn (s * 3) mo) (s * 3 + 1) k) (s * 3 + 2) t
/-- a sight less -/
def zdrop (sn : Int → Int) (s sc : Int) : Int → Int := fun j => if s * 3 ≤ j ∧ j < (sc - 1) * 3 then sn (j + 3) else sn j
theorem zcp_step (g f : Int → Int) (k : Int) : zU (zcp g f k) k (f k) = zcp g f (k + 1) := by
  funext j
  unfold zU zcp
  by_cases e : j = k
  · rw [if_pos e, if_pos (by omega), e]
  · rw [if_neg e]
    by_cases h : j < k
    · rw [if_pos h, if_pos (by omega)]
    · rw [if_neg h, if_neg (by omega)]
def zdr (sn : Int → Int) (d e : Int) : Int → Int := fun j => if d * 3 ≤ j ∧ j < e then sn (j + 3) else sn j
theorem zdr_at {sn : Int → Int} {d e k : Int} (h : e ≤ k) : zdr sn d e k = sn k := if_neg (by omega)
theorem zdr_step {sn : Int → Int} {d e : Int} (h : d * 3 ≤ e) : zU (zdr sn d e) e (sn (e + 3)) = zdr sn d (e + 1) := by
  funext j
  unfold zU zdr
  by_cases q : j = e
  · rw [if_pos q, if_pos (by omega), q]
  · rw [if_neg q]
    by_cases r : d * 3 ≤ j ∧ j < e
    · rw [if_pos r, if_pos (by omega)]
    · rw [if_neg r, if_neg (by omega)]
