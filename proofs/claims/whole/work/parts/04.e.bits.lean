/-! bits of numbers that are not below 0 -/
theorem zi_or (n m : Nat) : Int32.ofNat n ||| Int32.ofNat m = Int32.ofNat (n ||| m) := by
  apply Int32.toBitVec_inj.mp
  simp
theorem zi_and (n m : Nat) : Int32.ofNat n &&& Int32.ofNat m = Int32.ofNat (n &&& m) := by
  apply Int32.toBitVec_inj.mp
  simp
theorem zi_xor (n m : Nat) : Int32.ofNat n ^^^ Int32.ofNat m = Int32.ofNat (n ^^^ m) := by
  apply Int32.toBitVec_inj.mp
  simp
theorem zi_shl (n k : Nat) (hk : k < 32) : Int32.ofNat n <<< (Int32.ofNat k &&& 31) = Int32.ofNat (n <<< k) := by
  have e : Int32.ofNat k &&& 31 = Int32.ofNat k := by
    have : ∀ k : Fin 32, Int32.ofNat k.1 &&& 31 = Int32.ofNat k.1 := by decide +kernel
    exact this ⟨k, hk⟩
  rw [e]
  apply Int32.toBitVec_inj.mp
  have e2 : (Int32.ofNat k).toBitVec.smod 32 = BitVec.ofNat 32 k := by
    have : ∀ k : Fin 32, (Int32.ofNat k.1).toBitVec.smod 32 = BitVec.ofNat 32 k.1 := by decide +kernel
    exact this ⟨k, hk⟩
  show (Int32.ofNat n).toBitVec <<< (Int32.ofNat k).toBitVec.smod 32 = _
  rw [e2]
  apply BitVec.eq_of_toNat_eq
  simp [BitVec.toNat_shiftLeft, Nat.mod_eq_of_lt (show k < 4294967296 by omega)]
  rw [Nat.shiftLeft_eq, Nat.shiftLeft_eq, Nat.mod_mul_mod]
theorem zi_shr (n k : Nat) (hn : n < 2147483648) (hk : k < 32) : Int32.ofNat n >>> (Int32.ofNat k &&& 31) = Int32.ofNat (n >>> k) := by
  have e : Int32.ofNat k &&& 31 = Int32.ofNat k := by
    have : ∀ k : Fin 32, Int32.ofNat k.1 &&& 31 = Int32.ofNat k.1 := by decide +kernel
    exact this ⟨k, hk⟩
  rw [e]
  apply Int32.toBitVec_inj.mp
  have e2 : (Int32.ofNat k).toBitVec.smod 32 = BitVec.ofNat 32 k := by
    have : ∀ k : Fin 32, (Int32.ofNat k.1).toBitVec.smod 32 = BitVec.ofNat 32 k.1 := by decide +kernel
    exact this ⟨k, hk⟩
  show (Int32.ofNat n).toBitVec.sshiftRight' ((Int32.ofNat k).toBitVec.smod 32) = _
  rw [e2]
  apply BitVec.eq_of_toNat_eq
  have hm : (BitVec.ofNat 32 n).msb = false := by
    rw [BitVec.msb_eq_decide]
    simp
    omega
  have h3 : n >>> k ≤ n := by rw [Nat.shiftRight_eq_div_pow]; exact Nat.div_le_self _ _
  show ((BitVec.ofNat 32 n).sshiftRight (BitVec.ofNat 32 k).toNat).toNat = _
  rw [BitVec.sshiftRight_eq_of_msb_false hm]
  simp [Nat.mod_eq_of_lt (show k < 4294967296 by omega), Nat.mod_eq_of_lt (show n < 4294967296 by omega), Nat.mod_eq_of_lt (show n >>> k < 4294967296 by omega)]
theorem zi_nat (n : Nat) : zI (n : Int) = Int32.ofNat n := by
  unfold zI
  exact Int32.ofInt_eq_ofNat
theorem zi_to {n : Nat} (h : n < 2147483648) : (Int32.ofNat n).toInt = (n : Int) := by
  rw [← zi_nat]
  exact zI_to ⟨by omega, by omega⟩
theorem zor_nat {a b : Nat} (ha : a < 2147483648) (hb : b < 2147483648) : zor a b = ((a ||| b : Nat) : Int) := by
  unfold zor
  rw [zi_nat, zi_nat, zi_or, zi_to (Nat.or_lt_two_pow (n := 31) ha hb)]
theorem zand_nat {a b : Nat} (ha : a < 2147483648) (hb : b < 2147483648) : zand a b = ((a &&& b : Nat) : Int) := by
  unfold zand
  rw [zi_nat, zi_nat, zi_and, zi_to (Nat.and_lt_two_pow (n := 31) a hb)]
theorem zxor_nat {a b : Nat} (ha : a < 2147483648) (hb : b < 2147483648) : zxor a b = ((a ^^^ b : Nat) : Int) := by
  unfold zxor
  rw [zi_nat, zi_nat, zi_xor, zi_to (Nat.xor_lt_two_pow (n := 31) ha hb)]
theorem zshl_nat {a k : Nat} (hk : k < 32) (h : a <<< k < 2147483648) : zshl a k = ((a <<< k : Nat) : Int) := by
  unfold zshl
  rw [zi_nat, zi_nat, zi_shl _ _ hk, zi_to h]
theorem zshr_nat {a k : Nat} (ha : a < 2147483648) (hk : k < 32) : zshr a k = ((a >>> k : Nat) : Int) := by
  unfold zshr
  rw [zi_nat, zi_nat, zi_shr _ _ ha hk, zi_to (by have : a >>> k ≤ a := (by rw [Nat.shiftRight_eq_div_pow]; exact Nat.div_le_self _ _); omega)]
/-- the j-th four bits -/
def znib (B j : Nat) : Nat := (B >>> (4 * j)) &&& 15
theorem z15 (i : Nat) : Nat.testBit 15 i = decide (i < 4) := by rw [show (15 : Nat) = 2 ^ 4 - 1 from rfl, Nat.testBit_two_pow_sub_one]
theorem zsmall {x i : Nat} (hx : x < 16) (hi : 4 ≤ i) : Nat.testBit x i = false := Nat.testBit_lt_two_pow (Nat.lt_of_lt_of_le hx (by exact Nat.pow_le_pow_right (n := 2) (by omega) hi))
theorem znib_xor (B m j x : Nat) (hx : x < 16) : znib (B ^^^ (x <<< (4 * m))) j = if j = m then znib B m ^^^ x else znib B j := by
  unfold znib
  apply Nat.eq_of_testBit_eq
  intro i
  by_cases hj : j = m
  · subst hj
    rw [if_pos rfl]
    simp only [Nat.testBit_and, Nat.testBit_xor, Nat.testBit_shiftRight, Nat.testBit_shiftLeft, z15]
    by_cases hi : i < 4
    · simp [hi]
    · simp [hi, zsmall hx (show 4 ≤ i by omega)]
  · rw [if_neg hj]
    simp only [Nat.testBit_and, Nat.testBit_xor, Nat.testBit_shiftRight, Nat.testBit_shiftLeft, z15]
    by_cases hi : i < 4
    · by_cases hg : 4 * m ≤ 4 * j + i
      · simp [hi, zsmall hx (show 4 ≤ 4 * j + i - 4 * m by omega)]
      · simp [hi, hg]
    · simp [hi]
theorem znib_or (B m j x : Nat) (hx : x < 16) : znib (B ||| (x <<< (4 * m))) j = if j = m then znib B m ||| x else znib B j := by
  unfold znib
  apply Nat.eq_of_testBit_eq
  intro i
  by_cases hj : j = m
  · subst hj
    rw [if_pos rfl]
    simp only [Nat.testBit_and, Nat.testBit_or, Nat.testBit_shiftRight, Nat.testBit_shiftLeft, z15]
    by_cases hi : i < 4
    · simp [hi]
    · simp [hi, zsmall hx (show 4 ≤ i by omega)]
  · rw [if_neg hj]
    simp only [Nat.testBit_and, Nat.testBit_or, Nat.testBit_shiftRight, Nat.testBit_shiftLeft, z15]
    by_cases hi : i < 4
    · by_cases hg : 4 * m ≤ 4 * j + i
      · simp [hi, zsmall hx (show 4 ≤ 4 * j + i - 4 * m by omega)]
      · simp [hi, hg]
    · simp [hi]
theorem znib_up {x m : Nat} (hx : x < 16) (hm : m < 6) : x <<< (4 * m) < 16777216 := by
  rw [Nat.shiftLeft_eq]
  have : 2 ^ (4 * m) ≤ 2 ^ 20 := Nat.pow_le_pow_right (by omega) (by omega)
  have h2 : x * 2 ^ (4 * m) ≤ 15 * 2 ^ 20 := Nat.mul_le_mul (by omega) this
  omega
theorem znib_lt (B j : Nat) : znib B j < 16 := by
  unfold znib
  exact Nat.and_lt_two_pow (n := 4) _ (by omega)
/-- four bits of a packed number, as the program takes them -/
def zni (B j : Int) : Int := zand (zshr B (4 * j)) 15
theorem zni_nat {B : Int} {j : Int} (hB : 0 ≤ B ∧ B < 16777216) (hj : 0 ≤ j ∧ j < 6) : zni B j = ((znib B.toNat j.toNat : Nat) : Int) := by
  unfold zni znib
  have e1 : B = ((B.toNat : Nat) : Int) := by omega
  have e2 : 4 * j = ((4 * j.toNat : Nat) : Int) := by omega
  have h3 : B.toNat >>> (4 * j.toNat) ≤ B.toNat := by rw [Nat.shiftRight_eq_div_pow]; exact Nat.div_le_self _ _
  rw [e1, e2, zshr_nat (by omega) (by omega)]
  exact zand_nat (a := B.toNat >>> (4 * j.toNat)) (b := 15) (by omega) (by omega)
theorem zni_in {B : Int} {j : Int} (hB : 0 ≤ B ∧ B < 16777216) (hj : 0 ≤ j ∧ j < 6) : 0 ≤ zni B j ∧ zni B j < 16 := by
  rw [zni_nat hB hj]
  have := znib_lt B.toNat j.toNat
  omega
theorem zni_or {B v k : Int} (hB : 0 ≤ B ∧ B < 16777216) (hv : 0 ≤ v ∧ v < 16) (hk : 0 ≤ k ∧ k < 6) (h0 : zni B k = 0) :
    (0 ≤ zor B (zshl v (4 * k)) ∧ zor B (zshl v (4 * k)) < 16777216) ∧ ∀ j, 0 ≤ j → j < 6 → zni (zor B (zshl v (4 * k))) j = if j = k then v else zni B j := by
  have e1 : B = ((B.toNat : Nat) : Int) := by omega
  have e2 : 4 * k = ((4 * k.toNat : Nat) : Int) := by omega
  have e3 : v = ((v.toNat : Nat) : Int) := by omega
  have hu := znib_up (x := v.toNat) (m := k.toNat) (by omega) (by omega)
  have e4 : zshl v (4 * k) = ((v.toNat <<< (4 * k.toNat) : Nat) : Int) := by rw [e2, e3]; exact zshl_nat (by omega) (by omega)
  have e5 : zor B (zshl v (4 * k)) = ((B.toNat ||| v.toNat <<< (4 * k.toNat) : Nat) : Int) := by rw [e4, e1]; exact zor_nat (by omega) (by omega)
  have hl : B.toNat ||| v.toNat <<< (4 * k.toNat) < 16777216 := Nat.or_lt_two_pow (n := 24) (by omega) hu
  have hb : 0 ≤ zor B (zshl v (4 * k)) ∧ zor B (zshl v (4 * k)) < 16777216 := by rw [e5]; omega
  refine ⟨hb, fun j h1 h2 => ?_⟩
  rw [zni_nat hb ⟨h1, h2⟩, e5, Int.toNat_natCast, znib_or _ _ _ _ (by omega)]
  by_cases q : j = k
  · subst q
    rw [if_pos rfl, if_pos rfl]
    rw [zni_nat hB hk] at h0
    have : znib B.toNat j.toNat = 0 := by omega
    rw [this, Nat.zero_or]
    omega
  · rw [if_neg (by omega), if_neg q, zni_nat hB ⟨h1, h2⟩]
theorem zni_xor {B v k : Int} (hB : 0 ≤ B ∧ B < 16777216) (hv : 0 ≤ v ∧ v < 16) (hk : 0 ≤ k ∧ k < 6) :
    (0 ≤ zxor B (zshl (zxor (zni B k) v) (4 * k)) ∧ zxor B (zshl (zxor (zni B k) v) (4 * k)) < 16777216) ∧ ∀ j, 0 ≤ j → j < 6 → zni (zxor B (zshl (zxor (zni B k) v) (4 * k))) j = if j = k then v else zni B j := by
  have hn := zni_in hB hk
  have e1 : B = ((B.toNat : Nat) : Int) := by omega
  have e2 : 4 * k = ((4 * k.toNat : Nat) : Int) := by omega
  have e3 : v = ((v.toNat : Nat) : Int) := by omega
  have e0 := zni_nat hB hk
  have hnl := znib_lt B.toNat k.toNat
  have e6 : zxor (zni B k) v = ((znib B.toNat k.toNat ^^^ v.toNat : Nat) : Int) := by rw [e0, e3]; exact zxor_nat (by omega) (by omega)
  have hx : znib B.toNat k.toNat ^^^ v.toNat < 16 := Nat.xor_lt_two_pow (n := 4) hnl (by omega)
  have hu := znib_up (m := k.toNat) hx (by omega)
  have e4 : zshl (zxor (zni B k) v) (4 * k) = (((znib B.toNat k.toNat ^^^ v.toNat) <<< (4 * k.toNat) : Nat) : Int) := by rw [e2, e6]; exact zshl_nat (by omega) (by omega)
  have e5 : zxor B (zshl (zxor (zni B k) v) (4 * k)) = ((B.toNat ^^^ (znib B.toNat k.toNat ^^^ v.toNat) <<< (4 * k.toNat) : Nat) : Int) := by
    have h9 := zxor_nat (a := B.toNat) (b := (znib B.toNat k.toNat ^^^ v.toNat) <<< (4 * k.toNat)) (by omega) (by omega)
    rw [← e1] at h9
    rw [e4]
    exact h9
  have hl : B.toNat ^^^ (znib B.toNat k.toNat ^^^ v.toNat) <<< (4 * k.toNat) < 16777216 := Nat.xor_lt_two_pow (n := 24) (by omega) hu
  have hb : 0 ≤ zxor B (zshl (zxor (zni B k) v) (4 * k)) ∧ zxor B (zshl (zxor (zni B k) v) (4 * k)) < 16777216 := by rw [e5]; omega
  refine ⟨hb, fun j h1 h2 => ?_⟩
  rw [zni_nat hb ⟨h1, h2⟩, e5, Int.toNat_natCast, znib_xor _ _ _ _ hx]
  by_cases q : j = k
  · subst q
    rw [if_pos rfl, if_pos rfl, ← Nat.xor_assoc, Nat.xor_self, Nat.zero_xor]
    omega
  · rw [if_neg (by omega), if_neg q, zni_nat hB ⟨h1, h2⟩]
