/-! remainders -/
theorem zfm_cases (a b : Int) (hb : 0 < b) : (0 ≤ a → Int.tmod a b = a % b) ∧ (a < 0 → (Int.tmod a b = 0 → a % b = 0) ∧ (Int.tmod a b ≠ 0 → Int.tmod a b + b = a % b)) := by
  refine ⟨fun h => Int.tmod_eq_emod_of_nonneg h, fun h => ?_⟩
  have e : Int.tmod a b = -Int.tmod (-a) b := by rw [Int.neg_tmod]; omega
  have e2 : Int.tmod (-a) b = (-a) % b := Int.tmod_eq_emod_of_nonneg (by omega)
  rw [e, e2]
  have h1 := Int.emod_nonneg (-a) (show b ≠ 0 by omega)
  have h2 := Int.emod_lt_of_pos (-a) hb
  have h3 := Int.emod_nonneg a (show b ≠ 0 by omega)
  have h4 := Int.emod_lt_of_pos a hb
  have h5 := Int.mul_ediv_add_emod a b
  have h6 := Int.mul_ediv_add_emod (-a) b
  have h7 : b * (a / b + (-a) / b) + (a % b + (-a) % b) = 0 := by rw [Int.mul_add]; omega
  generalize a / b + (-a) / b = k at h7
  have hk : k = 0 ∨ k = -1 := by
    rcases Int.lt_trichotomy k 0 with q | q | q
    · rcases Int.lt_or_le k (-1) with q2 | q2
      · have := Int.mul_le_mul_of_nonneg_left (show k ≤ -2 by omega) (show 0 ≤ b by omega)
        omega
      · omega
    · omega
    · have := Int.mul_le_mul_of_nonneg_left (show 1 ≤ k by omega) (show 0 ≤ b by omega)
      omega
  rcases hk with rfl | rfl
  · constructor <;> intro z <;> omega
  · constructor <;> intro z <;> omega
theorem ztmod_cases (a : Int) : (0 ≤ Int.tmod a 36000 ∧ Int.tmod a 36000 = a % 36000) ∨ (Int.tmod a 36000 < 0 ∧ Int.tmod a 36000 + 36000 = a % 36000) := by
  have h := zfm_cases a 36000 (by omega)
  rcases Int.le_total 0 a with q | q
  · left
    rw [h.1 q]
    omega
  · rcases Int.lt_or_eq_of_le q with q2 | q2
    · have h2 := h.2 q2
      by_cases z : Int.tmod a 36000 = 0
      · left; have := h2.1 z; omega
      · right; have := h2.2 z; omega
    · subst q2; left; decide
theorem ztm_in {a b : Int} (hb : 0 < b) : -b < Int.tmod a b ∧ Int.tmod a b < b := by
  rcases Int.le_total 0 a with q | q
  · rw [Int.tmod_eq_emod_of_nonneg q]
    have h3 := Int.emod_nonneg a (show b ≠ 0 by omega)
    have h4 := Int.emod_lt_of_pos a hb
    omega
  · have e : Int.tmod a b = -Int.tmod (-a) b := by rw [Int.neg_tmod]; omega
    have e2 : Int.tmod (-a) b = (-a) % b := Int.tmod_eq_emod_of_nonneg (by omega)
    rw [e, e2]
    have h3 := Int.emod_nonneg (-a) (show b ≠ 0 by omega)
    have h4 := Int.emod_lt_of_pos (-a) hb
    omega
theorem zxor_neg {a b : Int} (ha : zin a) (hb : zin b) (h0 : 0 < b) : zxor a b < 0 ↔ a < 0 := by
  have key : ∀ x : Int32, x.toInt < 0 ↔ x.toBitVec.msb = true := fun x => by
    rw [BitVec.msb_eq_toInt]
    simp
  unfold zxor
  rw [key, Int32.toBitVec_xor, BitVec.msb_xor]
  have h1 := key (zI a)
  have h2 := key (zI b)
  rw [zI_to ha] at h1
  rw [zI_to hb] at h2
  have hb2 : (zI b).toBitVec.msb = false := by
    cases q : (zI b).toBitVec.msb with
    | false => rfl
    | true => have := h2.mpr q; omega
  rw [hb2, h1]
  simp
/-- whether the bit of a kind is there -/
def zhas (a k : Int) : Bool := decide (zand (zshr a k) 1 ≠ 0)
def zsb (h d r h2 d2 r2 : Int) : Bool := decide (h < h2) && decide (zabs (d - d2) < 100 * r + 100 * r2)
def zme (x y x2 y2 : Int) : Bool := decide (0 < x * x2 + y * y2) && decide (50 * zabs (x * y2 - y * x2) ≤ x * x2 + y * y2)
/-- what a moon must have to fit round its planet -/
def zfit (pr : Int) (g : Int → Int) : Bool := decide (pr + g 5 < Int.tdiv (g 0 * (100 - g 1)) 100)
/-- the first moon of a name -/
def znamed (nm : Int → Int) (mc w : Int) : Int := zfind (fun j => decide (nm j = w)) 0 mc
def zsights (sn : Int → Int) (sc mo : Int) : Int := zcnt (fun j => decide (sn (j * 3) = mo)) 0 sc
def zhasS (sn : Int → Int) (sc mo k t : Int) : Bool := decide (zfind (fun j => decide (sn (j * 3) = mo) && (decide (sn (j * 3 + 1) = k) && decide (sn (j * 3 + 2) = t))) 0 sc ≠ -1)
/-- a sight more behind the others -/
def zput3 (sn : Int → Int) (s mo k t : Int) : Int → Int := zU (zU (zU sn (s * 3) mo) (s * 3 + 1) k) (s * 3 + 2) t
/-- a sight less -/
def zdrop (sn : Int → Int) (s sc : Int) : Int → Int := fun j => if s * 3 ≤ j ∧ j < (sc - 1) * 3 then sn (j + 3) else sn j
theorem zcp_step (g f : Int → Int) (k : Int) : zU (zcp g f k) k (f k) = zcp g f (k + 1) := by
  funext j
  unfold zU zcp
  by_cases e : j = k
  · rw [if_pos e, if_pos (by omega), e]
  · rw [if_neg e]
    by_cases h : j < k
    · rw [if_pos h, if_pos (by omega)]
    · rw [if_neg h, if_neg (by omega)]
def zdr (sn : Int → Int) (d e : Int) : Int → Int := fun j => if d * 3 ≤ j ∧ j < e then sn (j + 3) else sn j
theorem zdr_at {sn : Int → Int} {d e k : Int} (h : e ≤ k) : zdr sn d e k = sn k := if_neg (by omega)
theorem zdr_step {sn : Int → Int} {d e : Int} (h : d * 3 ≤ e) : zU (zdr sn d e) e (sn (e + 3)) = zdr sn d (e + 1) := by
  funext j
  unfold zU zdr
  by_cases q : j = e
  · rw [if_pos q, if_pos (by omega), q]
  · rw [if_neg q]
    by_cases r : d * 3 ≤ j ∧ j < e
    · rw [if_pos r, if_pos (by omega)]
    · rw [if_neg r, if_neg (by omega)]
/-! the reference's row: a sky in 179 numbers -/
/-- a moon's numbers, a sight's -/
def ya (a : Int → Int) (m : Int) : Int → Int := fun w => a (5 + 14 * m + w)
def yok (a : Int → Int) : Prop := (1 ≤ a 0 ∧ a 0 ≤ 999) ∧ (0 ≤ a 1 ∧ a 1 ≤ 359) ∧ (-999 ≤ a 2 ∧ a 2 ≤ 999) ∧ (0 ≤ a 3 ∧ a 3 ≤ 6) ∧ (0 ≤ a 4 ∧ a 4 ≤ 30)
/-- whether an event of a moon is at a time, how far a sight is off -/
def zth (pr di dr : Int) (g : Int → Int) (k t : Int) : Bool := decide (1 ≤ t ∧ t ≤ 1000000) && zev k (zL2 pr di dr g (t - 1)) (zL2 pr di dr g t)
def zoffN (p : Int → Bool) (c : Int) : Nat → Int → Int
  | 0, _ => -1000000
  | n + 1, d => if p (c - d) = true then -d else if p (c + d) = true then d else zoffN p c n (d + 1)
/-- how far a time is off the nearest one of which p holds -/
def zoff (p : Int → Bool) (c : Int) : Int := zoffN p c 401 0
theorem zev_true {k w n : Int} : zev k w n = true ↔ (k = 0 ∧ w ≠ 1 ∧ n = 1) ∨ (k = 1 ∧ w = 1 ∧ n ≠ 1) ∨ (k = 2 ∧ w ≠ 2 ∧ n = 2) ∨ (k ≠ 0 ∧ k ≠ 1 ∧ k ≠ 2 ∧ w = 2 ∧ n ≠ 2) := by
  unfold zev
  by_cases h0 : k = 0
  · rw [if_pos h0, decide_eq_true_eq]; omega
  · rw [if_neg h0]
    by_cases h1 : k = 1
    · rw [if_pos h1, decide_eq_true_eq]; omega
    · rw [if_neg h1]
      by_cases h2 : k = 2
      · rw [if_pos h2, decide_eq_true_eq]; omega
      · rw [if_neg h2, decide_eq_true_eq]; omega
theorem zev_false {k w n : Int} (h : ¬ ((k = 0 ∧ w ≠ 1 ∧ n = 1) ∨ (k = 1 ∧ w = 1 ∧ n ≠ 1) ∨ (k = 2 ∧ w ≠ 2 ∧ n = 2) ∨ (k ≠ 0 ∧ k ≠ 1 ∧ k ≠ 2 ∧ w = 2 ∧ n ≠ 2))) : zev k w n = false := Bool.eq_false_iff.mpr (fun z => h (zev_true.mp z))
theorem zoff_hit1 {p : Int → Bool} {c d : Int} (h0 : d ≤ 400) (hp : p (c - d) = true) : zoffN p c (401 - d).toNat d = -d := by
  rw [show (401 - d).toNat = (401 - (d + 1)).toNat + 1 by omega, zoffN, if_pos hp]
theorem zoff_hit2 {p : Int → Bool} {c d : Int} (h0 : d ≤ 400) (hq : p (c - d) = false) (hp : p (c + d) = true) : zoffN p c (401 - d).toNat d = d := by
  rw [show (401 - d).toNat = (401 - (d + 1)).toNat + 1 by omega, zoffN, if_neg (by rw [hq]; decide), if_pos hp]
theorem zoff_next {p : Int → Bool} {c d : Int} (h0 : d ≤ 400) (hq : p (c - d) = false) (hp : p (c + d) = false) : zoffN p c (401 - d).toNat d = zoffN p c (401 - (d + 1)).toNat (d + 1) := by
  rw [show (401 - d).toNat = (401 - (d + 1)).toNat + 1 by omega, zoffN, if_neg (by rw [hq]; decide), if_neg (by rw [hp]; decide)]
theorem zoffN_in (p : Int → Bool) (c : Int) : ∀ (n : Nat) (d : Int), 0 ≤ d → zoffN p c n d = -1000000 ∨ (-(d + n) ≤ zoffN p c n d ∧ zoffN p c n d ≤ d + n) := by
  intro n
  induction n with
  | zero => intro d _; exact Or.inl rfl
  | succ n ih =>
    intro d hd
    rw [zoffN]
    split
    · omega
    · split
      · omega
      · have := ih (d + 1) (by omega)
        omega
theorem zoff_in (p : Int → Bool) (c : Int) : zoff p c = -1000000 ∨ (-401 ≤ zoff p c ∧ zoff p c ≤ 401) := zoffN_in p c 401 0 (by omega)
def zcost (o : Int) : Int := if o = -1000000 then 401 else zabs o
theorem zcost_in (p : Int → Bool) (c : Int) : 0 ≤ zcost (zoff p c) ∧ zcost (zoff p c) ≤ 401 := by
  have h := zoff_in p c
  have h2 := zabs_sp (zoff p c)
  unfold zcost
  split
  · omega
  · omega
def yS (a : Int → Int) (j : Int) : Prop := (0 ≤ a (89 + 3 * j + 0) ∧ a (89 + 3 * j + 0) < a 3) ∧ (0 ≤ a (89 + 3 * j + 1) ∧ a (89 + 3 * j + 1) ≤ 3) ∧ (1 ≤ a (89 + 3 * j + 2) ∧ a (89 + 3 * j + 2) ≤ 1000000)
def yval (a : Int → Int) : Prop := yok a ∧ (∀ m, 0 ≤ m → m < a 3 → zgok (ya a m)) ∧ (∀ j, 0 ≤ j → j < a 4 → yS a j)
/-- how far a sight is off, what it costs, a moon's burden -/
def yoff (a : Int → Int) (j : Int) : Int := zoff (zth (a 0) (a 1) (a 2) (ya a (a (89 + 3 * j + 0))) (a (89 + 3 * j + 1))) (a (89 + 3 * j + 2))
def ybur1 (a : Int → Int) (m j : Int) : Int := if a (89 + 3 * j + 0) = m then zcost (yoff a j) else 0
def ybur (a : Int → Int) (m : Int) : Int := zsum (ybur1 a m) 0 (a 4)
theorem ybur1_in (a : Int → Int) (m j : Int) : 0 ≤ ybur1 a m j ∧ ybur1 a m j ≤ 401 := by
  have h := zcost_in (zth (a 0) (a 1) (a 2) (ya a (a (89 + 3 * j + 0))) (a (89 + 3 * j + 1))) (a (89 + 3 * j + 2))
  unfold ybur1 yoff
  split <;> omega
theorem zsum_b {f : Int → Int} {i e b : Int} (hb : 0 ≤ b) (h : ∀ j, 0 ≤ f j ∧ f j ≤ b) (hi : i ≤ e) : 0 ≤ zsum f i e ∧ zsum f i e ≤ (e - i) * b := by
  have q := zsum_rng (f := f) (e := e) hb (e - i).toNat i rfl (fun j _ _ => h j)
  rw [Int.toNat_of_nonneg (show 0 ≤ e - i by omega)] at q
  exact q
theorem ybur_in {a : Int → Int} (h0 : 0 ≤ a 4) (h1 : a 4 ≤ 30) (m : Int) : 0 ≤ ybur a m ∧ ybur a m ≤ 12030 := by
  have q := zsum_b (f := ybur1 a m) (i := 0) (e := a 4) (b := 401) (by omega) (ybur1_in a m) h0
  unfold ybur
  omega
def ylost (a : Int → Int) : Int := zcnt (fun j => decide (yoff a j = -1000000)) 0 (a 4)
def ysightOf (a : Int → Int) (mo k t : Int) : Int := zfind (fun j => decide (a (89 + 3 * j + 0) = mo) && (decide (a (89 + 3 * j + 1) = k) && decide (a (89 + 3 * j + 2) = t))) 0 (a 4)
def ysights (a : Int → Int) (mo : Int) : Int := zcnt (fun j => decide (a (89 + 3 * j + 0) = mo)) 0 (a 4)
theorem zand3_t {P Q R : Prop} [Decidable P] [Decidable Q] [Decidable R] (hp : P) (hq : Q) (hr : R) : (decide P && (decide Q && decide R)) = true := by
  rw [decide_eq_true hp, decide_eq_true hq, decide_eq_true hr]; rfl
theorem zand3_f {P Q R : Prop} [Decidable P] [Decidable Q] [Decidable R] (h : ¬P ∨ ¬Q ∨ ¬R) : (decide P && (decide Q && decide R)) = false := by
  rcases h with h | h | h
  · rw [decide_eq_false h]; rfl
  · rw [decide_eq_false h]; simp
  · rw [decide_eq_false h]; simp
