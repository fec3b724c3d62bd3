/-! whole numbers in the machine's words: every int that a walk meets is zI of a whole number, every long zL of one -/
def zI (n : Int) : Int32 := Int32.ofInt n
def zL (n : Int) : Int64 := Int64.ofInt n
abbrev zin (n : Int) : Prop := -2147483648 ≤ n ∧ n ≤ 2147483647
abbrev zinL (n : Int) : Prop := -9223372036854775808 ≤ n ∧ n ≤ 9223372036854775807
theorem zI_to {n : Int} (h : zin n) : (zI n).toInt = n := Int32.toInt_ofInt_of_le (by have := h.1; omega) (by have := h.2; omega)
theorem zL_to {n : Int} (h : zinL n) : (zL n).toInt = n := Int64.toInt_ofInt_of_le (by have := h.1; omega) (by have := h.2; omega)
theorem zI_of (x : Int32) : zI x.toInt = x := Int32.ofInt_toInt x
theorem zL_of (x : Int64) : zL x.toInt = x := Int64.ofInt_toInt x
theorem zI_rng (x : Int32) : zin x.toInt := ⟨by have := Int32.le_toInt x; omega, by have := Int32.toInt_lt x; omega⟩
theorem zL_rng (x : Int64) : zinL x.toInt := ⟨by have := Int64.le_toInt x; omega, by have := Int64.toInt_lt x; omega⟩
theorem zI_ex (x : Int32) : ∃ n : Int, zin n ∧ x = zI n := ⟨x.toInt, zI_rng x, (zI_of x).symm⟩
theorem zI_add (a b : Int) : zI a + zI b = zI (a + b) := (Int32.ofInt_add a b).symm
theorem zI_sub (a b : Int) : zI a - zI b = zI (a - b) := (Int32.ofInt_sub a b).symm
theorem zI_mul (a b : Int) : zI a * zI b = zI (a * b) := (Int32.ofInt_mul a b).symm
theorem zI_neg (a : Int) : -zI a = zI (-a) := (Int32.ofInt_neg a).symm
theorem zL_add (a b : Int) : zL a + zL b = zL (a + b) := (Int64.ofInt_add a b).symm
theorem zL_sub (a b : Int) : zL a - zL b = zL (a - b) := (Int64.ofInt_sub a b).symm
theorem zL_mul (a b : Int) : zL a * zL b = zL (a * b) := (Int64.ofInt_mul a b).symm
theorem zL_neg (a : Int) : -zL a = zL (-a) := (Int64.ofInt_neg a).symm
theorem zI_div {a b : Int} (ha : zin a) (hb : zin b) : zI a / zI b = zI (a.tdiv b) := by
  apply Int32.toInt_inj.mp
  rw [Int32.toInt_div, zI_to ha, zI_to hb]
  show _ = (Int32.ofInt _).toInt
  rw [Int32.toInt_ofInt]
theorem zL_div {a b : Int} (ha : zinL a) (hb : zinL b) : zL a / zL b = zL (a.tdiv b) := by
  apply Int64.toInt_inj.mp
  rw [Int64.toInt_div, zL_to ha, zL_to hb]
  show _ = (Int64.ofInt _).toInt
  rw [Int64.toInt_ofInt]
theorem zI_rem {a b : Int} (ha : zin a) (hb : zin b) : zI a - zI a / zI b * zI b = zI (a.tmod b) := by
  rw [zI_div ha hb, zI_mul, zI_sub, Int.tmod_def, Int.mul_comm]
theorem zL_rem {a b : Int} (ha : zinL a) (hb : zinL b) : zL a - zL a / zL b * zL b = zL (a.tmod b) := by
  rw [zL_div ha hb, zL_mul, zL_sub, Int.tmod_def, Int.mul_comm]
theorem zI_lt {a b : Int} (ha : zin a) (hb : zin b) : zI a < zI b ↔ a < b := by rw [Int32.lt_iff_toInt_lt, zI_to ha, zI_to hb]
theorem zI_le {a b : Int} (ha : zin a) (hb : zin b) : zI a ≤ zI b ↔ a ≤ b := by rw [Int32.le_iff_toInt_le, zI_to ha, zI_to hb]
theorem zI_eq {a b : Int} (ha : zin a) (hb : zin b) : zI a = zI b ↔ a = b := by rw [← Int32.toInt_inj, zI_to ha, zI_to hb]
theorem zL_lt {a b : Int} (ha : zinL a) (hb : zinL b) : zL a < zL b ↔ a < b := by rw [Int64.lt_iff_toInt_lt, zL_to ha, zL_to hb]
theorem zL_le {a b : Int} (ha : zinL a) (hb : zinL b) : zL a ≤ zL b ↔ a ≤ b := by rw [Int64.le_iff_toInt_le, zL_to ha, zL_to hb]
theorem zL_eq {a b : Int} (ha : zinL a) (hb : zinL b) : zL a = zL b ↔ a = b := by rw [← Int64.toInt_inj, zL_to ha, zL_to hb]
theorem zI_cl {n : Int} (h : zin n) : (zI n).toNatClampNeg = n.toNat := by
  show (zI n).toInt.toNat = _
  rw [zI_to h]
theorem zI_vin {n : Int} {N : Nat} (h0 : 0 ≤ n) (h1 : n < (N : Int)) (hN : N < 2147483648) : vp_in (zI n) N := by
  have hz : zin n := ⟨by omega, by omega⟩
  rw [vp_in_iff, zI_to hz]
  exact ⟨h0, h1⟩
theorem zI_l {a : Int} (h : zin a) : (zI a).toInt64 = zL a := by
  apply Int64.toInt_inj.mp
  rw [Int32.toInt_toInt64, zI_to h, zL_to ⟨by have := h.1; omega, by have := h.2; omega⟩]
theorem zL_i (a : Int) : (zL a).toInt32 = zI a := Int64.toInt32_ofInt
theorem zI_nat (n : Nat) : zI (n : Int) = nI n := Int32.ofInt_eq_ofNat
theorem zI_byte {n : Int} (h : -128 ≤ n ∧ n ≤ 127) : (Int8.ofInt n).toInt32 = zI n := by
  apply Int32.toInt_inj.mp
  rw [Int8.toInt_toInt32, Int8.toInt_ofInt_of_le (by have := h.1; omega) (by have := h.2; omega), zI_to ⟨by have := h.1; omega, by have := h.2; omega⟩]
theorem zI_short {n : Int} (h : -32768 ≤ n ∧ n ≤ 32767) : (Int16.ofInt n).toInt32 = zI n := by
  apply Int32.toInt_inj.mp
  rw [Int16.toInt_toInt32, Int16.toInt_ofInt_of_le (by have := h.1; omega) (by have := h.2; omega), zI_to ⟨by have := h.1; omega, by have := h.2; omega⟩]
/-- the size of a number -/
abbrev zabs (a : Int) : Int := if 0 ≤ a then a else -a
theorem zabs_sp (a : Int) : 0 ≤ zabs a ∧ a ≤ zabs a ∧ -a ≤ zabs a ∧ (zabs a = a ∨ zabs a = -a) := by
  unfold zabs
  split <;> omega
theorem zI_abs {a : Int} (h : zin a) : (if 0 ≤ zI a then zI a else 0 - zI a) = zI (zabs a) := by
  have h0 : (0 : Int32) = zI 0 := rfl
  rw [h0, zI_sub]
  by_cases q : 0 ≤ a
  · rw [if_pos ((zI_le (by omega) h).mpr q)]; unfold zabs; rw [if_pos q]
  · rw [if_neg (fun z => q ((zI_le (by omega) h).mp z))]; unfold zabs; rw [if_neg q]; congr 1; omega
theorem zL_abs {a : Int} (h : zinL a) : (if 0 ≤ zL a then zL a else 0 - zL a) = zL (zabs a) := by
  have h0 : (0 : Int64) = zL 0 := rfl
  rw [h0, zL_sub]
  by_cases q : 0 ≤ a
  · rw [if_pos ((zL_le (by omega) h).mpr q)]; unfold zabs; rw [if_pos q]
  · rw [if_neg (fun z => q ((zL_le (by omega) h).mp z))]; unfold zabs; rw [if_neg q]; congr 1; omega
theorem zI_min {a b : Int} (ha : zin a) (hb : zin b) : (if zI b < zI a then zI b else zI a) = zI (min a b) := by
  by_cases q : b < a
  · rw [if_pos ((zI_lt hb ha).mpr q)]; congr 1; omega
  · rw [if_neg (fun z => q ((zI_lt hb ha).mp z))]; congr 1; omega
/-- what a compare of two longs answers -/
def zcmp (a b : Int) : Int := if b < a then 1 else if a = b then 0 else -1
theorem zL_cmp {a b : Int} (ha : zinL a) (hb : zinL b) : lg_cmp (zL a) (zL b) = zI (zcmp a b) := by
  unfold lg_cmp zcmp
  by_cases q : b < a
  · rw [if_pos ((zL_lt hb ha).mpr q), if_pos q]; rfl
  · rw [if_neg (fun z => q ((zL_lt hb ha).mp z)), if_neg q]
    by_cases r : a = b
    · rw [if_pos ((zL_eq ha hb).mpr r), if_pos r]; rfl
    · rw [if_neg (fun z => r ((zL_eq ha hb).mp z)), if_neg r]; rfl
theorem zcmp_in (a b : Int) : zin (zcmp a b) := by
  unfold zcmp
  split
  · omega
  · split <;> omega
theorem zcmp_lt {a b : Int} : zcmp a b < 0 ↔ a < b := by
  unfold zcmp
  split
  · omega
  · split <;> omega
theorem zcmp_le {a b : Int} : zcmp a b ≤ 0 ↔ a ≤ b := by
  unfold zcmp
  split
  · omega
  · split <;> omega
theorem zcmp_eq {a b : Int} : zcmp a b = 0 ↔ a = b := by
  unfold zcmp
  split
  · omega
  · split <;> omega
/-- a truth value as the machine has it -/
abbrev zb (b : Bool) : Int := if b = true then 1 else 0
theorem zb_in (b : Bool) : zin (zb b) := by cases b <;> decide
theorem zb_0 {b : Bool} : zb b = 0 ↔ b = false := by cases b <;> decide
theorem zb_1 {b : Bool} : zb b ≠ 0 ↔ b = true := by cases b <;> decide
/-- the bits: ands, ors, shifts, as functions of whole numbers -/
def zand (a b : Int) : Int := (zI a &&& zI b).toInt
def zor (a b : Int) : Int := (zI a ||| zI b).toInt
def zxor (a b : Int) : Int := (zI a ^^^ zI b).toInt
def zshl (a b : Int) : Int := (zI a <<< (zI b &&& 31)).toInt
def zshr (a b : Int) : Int := (zI a >>> (zI b &&& 31)).toInt
def zlor (a b : Int) : Int := (zL a ||| zL b).toInt
def zlshl (a b : Int) : Int := (zL a <<< ((zI b).toInt64 &&& 63)).toInt
def zlshr (a b : Int) : Int := (zL a >>> ((zI b).toInt64 &&& 63)).toInt
theorem zI_and (a b : Int) : zI a &&& zI b = zI (zand a b) := (zI_of _).symm
theorem zI_or (a b : Int) : zI a ||| zI b = zI (zor a b) := (zI_of _).symm
theorem zI_xor (a b : Int) : zI a ^^^ zI b = zI (zxor a b) := (zI_of _).symm
theorem zI_shl (a b : Int) : zI a <<< (zI b &&& 31) = zI (zshl a b) := (zI_of _).symm
theorem zI_shr (a b : Int) : zI a >>> (zI b &&& 31) = zI (zshr a b) := (zI_of _).symm
theorem zL_or (a b : Int) : zL a ||| zL b = zL (zlor a b) := (zL_of _).symm
theorem zL_shl (a b : Int) : zL a <<< ((zI b).toInt64 &&& 63) = zL (zlshl a b) := (zL_of _).symm
theorem zL_shr (a b : Int) : zL a >>> ((zI b).toInt64 &&& 63) = zL (zlshr a b) := (zL_of _).symm
theorem zand_in (a b : Int) : zin (zand a b) := zI_rng _
theorem zor_in (a b : Int) : zin (zor a b) := zI_rng _
theorem zxor_in (a b : Int) : zin (zxor a b) := zI_rng _
theorem zshl_in (a b : Int) : zin (zshl a b) := zI_rng _
theorem zshr_in (a b : Int) : zin (zshr a b) := zI_rng _
theorem zlor_in (a b : Int) : zinL (zlor a b) := zL_rng _
theorem zlshl_in (a b : Int) : zinL (zlshl a b) := zL_rng _
theorem zlshr_in (a b : Int) : zinL (zlshr a b) := zL_rng _
/-- a small number is its own char -/
theorem zI_char {n : Int} (h0 : 0 ≤ n) (h1 : n < 65536) : ((zI n).toUInt32 % 65536).toInt32 = zI n := by
  obtain ⟨k, rfl⟩ := Int.eq_ofNat_of_zero_le h0
  have hk : k < 65536 := by omega
  rw [zI_nat, pk_char, pk_tn (by omega), Nat.mod_eq_of_lt hk]
theorem zI_nchar {n : Int} (h0 : 0 ≤ n) (h1 : n < 65536) : narrow .char (.int (zI n)) = .int (zI n) := by
  obtain ⟨k, rfl⟩ := Int.eq_ofNat_of_zero_le h0
  have hk : k < 65536 := by omega
  rw [zI_nat]
  exact (pk_charN hk).1
theorem zI_vchar {n : Int} (h0 : 0 ≤ n) (h1 : n < 65536) : vp_nar .char (zI n) = zI n := by
  have h := zI_nchar h0 h1
  unfold vp_nar
  rw [h]
theorem zI_nbool (b : Bool) : narrow .boolean (.int (zI (zb b))) = .int (zI (zb b)) := by cases b <;> decide
theorem zI_vbool (b : Bool) : vp_nar .boolean (zI (zb b)) = zI (zb b) := by cases b <;> decide
/-! rows of numbers -/
def zA (f : Int → Int) : Nat → Int32 := fun j => zI (f (j : Int))
def zB (f : Int → Int) : Nat → Int64 := fun j => zL (f (j : Int))
def zU (f : Int → Int) (i x : Int) : Int → Int := fun j => if j = i then x else f j
theorem zU_s (f : Int → Int) (i x : Int) : zU f i x i = x := if_pos rfl
theorem zU_n {f : Int → Int} {i j x : Int} (h : j ≠ i) : zU f i x j = f j := if_neg h
theorem zA_at {f : Int → Int} {i : Int} (h0 : 0 ≤ i) (h1 : i ≤ 2147483647) : zA f (zI i).toNatClampNeg = zI (f i) := by
  rw [zI_cl ⟨by omega, h1⟩]
  unfold zA
  rw [Int.toNat_of_nonneg h0]
theorem zB_at {f : Int → Int} {i : Int} (h0 : 0 ≤ i) (h1 : i ≤ 2147483647) : zB f (zI i).toNatClampNeg = zL (f i) := by
  rw [zI_cl ⟨by omega, h1⟩]
  unfold zB
  rw [Int.toNat_of_nonneg h0]
theorem zA_up {f : Int → Int} {i x : Int} (h0 : 0 ≤ i) (h1 : i ≤ 2147483647) : upd (zA f) (zI i).toNatClampNeg (zI x) = zA (zU f i x) := by
  funext j
  rw [zI_cl ⟨by omega, h1⟩]
  unfold upd zA zU
  by_cases q : j = i.toNat
  · rw [if_pos q, if_pos (by omega)]
  · rw [if_neg q, if_neg (by omega)]
theorem zB_up {f : Int → Int} {i x : Int} (h0 : 0 ≤ i) (h1 : i ≤ 2147483647) : vp_updL (zB f) (zI i).toNatClampNeg (zL x) = zB (zU f i x) := by
  funext j
  rw [zI_cl ⟨by omega, h1⟩]
  unfold vp_updL zB zU
  by_cases q : j = i.toNat
  · rw [if_pos q, if_pos (by omega)]
  · rw [if_neg q, if_neg (by omega)]
