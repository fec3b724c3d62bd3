/-! bytes laid into the text buffer -/
def zbt (v s : Int) : Int := zand (zshr v s) 255
theorem zI_ofN (x : Int32) : Int32.ofNat x.toBitVec.toNat = x := by
  apply Int32.toBitVec_inj.mp
  show BitVec.ofNat 32 x.toBitVec.toNat = x.toBitVec
  apply BitVec.eq_of_toNat_eq
  rw [BitVec.toNat_ofNat, Nat.mod_eq_of_lt (BitVec.isLt _)]
theorem zbt_in (v s : Int) : 0 ≤ zbt v s ∧ zbt v s ≤ 255 := by
  have h2 : zI 255 = Int32.ofNat 255 := rfl
  have h3 : (zI (zshr v s)).toBitVec.toNat &&& 255 ≤ 255 := Nat.and_le_right
  unfold zbt zand
  rw [h2, ← zI_ofN (zI (zshr v s)), zi_and, zi_to (by omega)]
  omega
theorem zbc_is {v s : Int} : zbc v s = if zbt v s = 0 then 0 else 1 := by
  by_cases h : zbt v s = 0
  · rw [if_pos h, zbc_no h]
  · rw [if_neg h, zbc_yes h]
/-- k bytes of B from the i-th on, those that are not 0, laid behind the n that stand -/
def zap (B : Int → Int) : Nat → Int → Int → (Int → Int) → Int × (Int → Int)
  | 0, _, n, f => (n, f)
  | k + 1, i, n, f => if B i = 0 then zap B k (i + 1) n f else zap B k (i + 1) (n + 1) (zU f n (B i))
/-- how many they are -/
def zbn (B : Int → Int) : Nat → Int → Int
  | 0, _ => 0
  | k + 1, i => (if B i = 0 then 0 else 1) + zbn B k (i + 1)
section ZAP
variable {B C : Int → Int}
theorem zbn_in : ∀ (k : Nat) (i : Int), 0 ≤ zbn B k i ∧ zbn B k i ≤ k
  | 0, i => ⟨Int.le_refl 0, Int.le_refl 0⟩
  | k + 1, i => by
    have h := zbn_in k (i + 1)
    unfold zbn
    split <;> omega
theorem zap_no {k : Nat} {i n : Int} {f : Int → Int} (h : B i = 0) : zap B (k + 1) i n f = zap B k (i + 1) n f := if_pos h
theorem zap_yes {k : Nat} {i n : Int} {f : Int → Int} (h : B i ≠ 0) : zap B (k + 1) i n f = zap B k (i + 1) (n + 1) (zU f n (B i)) := if_neg h
theorem zbn_no {k : Nat} {i : Int} (h : B i = 0) : zbn B (k + 1) i = zbn B k (i + 1) := by
  show (if B i = 0 then 0 else 1) + zbn B k (i + 1) = _
  rw [if_pos h]; omega
theorem zbn_yes {k : Nat} {i : Int} (h : B i ≠ 0) : zbn B (k + 1) i = 1 + zbn B k (i + 1) := by
  show (if B i = 0 then 0 else 1) + zbn B k (i + 1) = _
  rw [if_neg h]
theorem zap_c : ∀ (k : Nat) (i j n : Int) (f : Int → Int), (∀ z : Int, 0 ≤ z → z < k → B (i + z) = C (j + z)) → zap B k i n f = zap C k j n f
  | 0, _, _, _, _, _ => rfl
  | k + 1, i, j, n, f, h => by
    have h0 := h 0 (by omega) (by omega)
    rw [Int.add_zero, Int.add_zero] at h0
    have h1 : ∀ z : Int, 0 ≤ z → z < k → B (i + 1 + z) = C (j + 1 + z) := fun z a b => by
      have := h (z + 1) (by omega) (by omega)
      rw [show i + 1 + z = i + (z + 1) by omega, show j + 1 + z = j + (z + 1) by omega]
      exact this
    unfold zap
    rw [h0, zap_c k (i + 1) (j + 1) n f h1, zap_c k (i + 1) (j + 1) (n + 1) _ h1]
theorem zbn_c : ∀ (k : Nat) (i j : Int), (∀ z : Int, 0 ≤ z → z < k → B (i + z) = C (j + z)) → zbn B k i = zbn C k j
  | 0, _, _, _ => rfl
  | k + 1, i, j, h => by
    have h0 := h 0 (by omega) (by omega)
    rw [Int.add_zero, Int.add_zero] at h0
    have h1 : ∀ z : Int, 0 ≤ z → z < k → B (i + 1 + z) = C (j + 1 + z) := fun z a b => by
      have := h (z + 1) (by omega) (by omega)
      rw [show i + 1 + z = i + (z + 1) by omega, show j + 1 + z = j + (z + 1) by omega]
      exact this
    unfold zbn
    rw [h0, zbn_c k (i + 1) (j + 1) h1]
theorem zap_add : ∀ (a b : Nat) (i n : Int) (f : Int → Int), zap B (a + b) i n f = zap B b (i + a) (zap B a i n f).1 (zap B a i n f).2
  | 0, b, i, n, f => by
    rw [Nat.zero_add]
    show zap B b i n f = zap B b (i + ((0 : Nat) : Int)) n f
    rw [show i + ((0 : Nat) : Int) = i by omega]
  | a + 1, b, i, n, f => by
    rw [show a + 1 + b = (a + b) + 1 by omega, show i + ((a + 1 : Nat) : Int) = i + 1 + (a : Int) by omega]
    by_cases h : B i = 0
    · rw [zap_no h, zap_no h, zap_add a b]
    · rw [zap_yes h, zap_yes h, zap_add a b]
theorem zbn_add : ∀ (a b : Nat) (i : Int), zbn B (a + b) i = zbn B a i + zbn B b (i + a)
  | 0, b, i => by
    rw [Nat.zero_add]
    show zbn B b i = 0 + zbn B b (i + ((0 : Nat) : Int))
    rw [show i + ((0 : Nat) : Int) = i by omega, Int.zero_add]
  | a + 1, b, i => by
    rw [show a + 1 + b = (a + b) + 1 by omega, show i + ((a + 1 : Nat) : Int) = i + 1 + (a : Int) by omega]
    by_cases h : B i = 0
    · rw [zbn_no h, zbn_no h, zbn_add a b]
    · rw [zbn_yes h, zbn_yes h, zbn_add a b]; omega
theorem zap_n : ∀ (k : Nat) (i n : Int) (f : Int → Int), (zap B k i n f).1 = n + zbn B k i
  | 0, _, n, _ => (Int.add_zero n).symm
  | k + 1, i, n, f => by
    by_cases h : B i = 0
    · rw [zap_no h, zbn_no h, zap_n k]
    · rw [zap_yes h, zbn_yes h, zap_n k]; omega
/-- what stands below stays; what is laid is a byte -/
theorem zap_f : ∀ (k : Nat) (i n : Int) (f : Int → Int), (∀ z, 0 ≤ B z ∧ B z ≤ 255) → (∀ j, j < n → (zap B k i n f).2 j = f j) ∧ ∀ j, n ≤ j → j < n + zbn B k i → 1 ≤ (zap B k i n f).2 j ∧ (zap B k i n f).2 j ≤ 255
  | 0, i, n, f, _ => ⟨fun j _ => rfl, fun j a b => absurd b (by show ¬ j < n + 0; omega)⟩
  | k + 1, i, n, f, hB => by
    by_cases h : B i = 0
    · rw [zap_no h, zbn_no h]
      exact zap_f k (i + 1) n f hB
    · rw [zap_yes h, zbn_yes h]
      have h1 := zap_f k (i + 1) (n + 1) (zU f n (B i)) hB
      have h2 := hB i
      refine ⟨fun j a => by rw [h1.1 j (by omega), zU_n (by omega)], fun j a b => ?_⟩
      by_cases q : j = n
      · rw [h1.1 j (by omega), q, zU_s]; omega
      · exact h1.2 j (by omega) (by omega)
/-- two rows that agree below go on agreeing -/
theorem zap_2 : ∀ (k : Nat) (i n : Int) (f g : Int → Int), 0 ≤ n → (∀ j, 0 ≤ j → j < n → f j = g j) → ∀ j, 0 ≤ j → j < n + zbn B k i → (zap B k i n f).2 j = (zap B k i n g).2 j
  | 0, i, n, f, g, _, h => fun j a b => h j a (by have h0 : j < n + 0 := b; omega)
  | k + 1, i, n, f, g, h0, h => by
    by_cases hb : B i = 0
    · rw [zap_no hb, zap_no hb, zbn_no hb]
      exact zap_2 k (i + 1) n f g h0 h
    · rw [zap_yes hb, zap_yes hb, zbn_yes hb]
      have h1 := zap_2 k (i + 1) (n + 1) (zU f n (B i)) (zU g n (B i)) (by omega) (fun j a b => by
        by_cases q : j = n
        · rw [q, zU_s, zU_s]
        · rw [zU_n q, zU_n q]; exact h j a (by omega))
      exact fun j a b => h1 j a (by omega)
end ZAP
/-- the 20 bytes of five numbers -/
def zb5 (a b c d e i : Int) : Int := if i < 4 then a else if i < 8 then b else if i < 12 then c else if i < 16 then d else e
def zB20 (a b c d e : Int) : Int → Int := fun i => zbt (zb5 a b c d e i) (24 - 8 * (i % 4))
def zB4 (v : Int) : Int → Int := fun i => zbt v (24 - 8 * i)
theorem zbn_4 {v : Int} : zbn (zB4 v) 4 0 = zbc v 24 + zbc v 16 + zbc v 8 + zbc v 0 := by
  rw [zbc_is, zbc_is, zbc_is, zbc_is]
  unfold zbn zbn zbn zbn zbn zB4
  simp only [show (24 : Int) - 8 * 0 = 24 by omega, show (24 : Int) - 8 * (0 + 1) = 16 by omega, show (24 : Int) - 8 * (0 + 1 + 1) = 8 by omega, show (24 : Int) - 8 * (0 + 1 + 1 + 1) = 0 by omega]
  omega
theorem zb5_4 {a b c d e z : Int} (h0 : 0 ≤ z) (h1 : z < 4) : zB4 a (0 + z) = zB20 a b c d e (0 + z) ∧ zB4 b (0 + z) = zB20 a b c d e (4 + z) ∧ zB4 c (0 + z) = zB20 a b c d e (8 + z) ∧ zB4 d (0 + z) = zB20 a b c d e (12 + z) ∧ zB4 e (0 + z) = zB20 a b c d e (16 + z) := by
  unfold zB4 zB20 zb5
  refine ⟨?_, ?_, ?_, ?_, ?_⟩
  · rw [if_pos (by omega), show (0 + z) % 4 = 0 + z by omega]
  · rw [if_neg (by omega), if_pos (by omega), show (4 + z) % 4 = 0 + z by omega]
  · rw [if_neg (by omega), if_neg (by omega), if_pos (by omega), show (8 + z) % 4 = 0 + z by omega]
  · rw [if_neg (by omega), if_neg (by omega), if_neg (by omega), if_pos (by omega), show (12 + z) % 4 = 0 + z by omega]
  · rw [if_neg (by omega), if_neg (by omega), if_neg (by omega), if_neg (by omega), show (16 + z) % 4 = 0 + z by omega]
theorem zbn_20 {a b c d e : Int} : zbn (zB20 a b c d e) 20 0 = zbn (zB4 a) 4 0 + zbn (zB4 b) 4 0 + zbn (zB4 c) 4 0 + zbn (zB4 d) 4 0 + zbn (zB4 e) 4 0 := by
  have h : zbn (zB20 a b c d e) 20 0 = zbn (zB20 a b c d e) 4 0 + (zbn (zB20 a b c d e) 4 4 + (zbn (zB20 a b c d e) 4 8 + (zbn (zB20 a b c d e) 4 12 + zbn (zB20 a b c d e) 4 16))) := by
    rw [show (20 : Nat) = 4 + (4 + (4 + (4 + 4))) from rfl, zbn_add, zbn_add, zbn_add, zbn_add]
    rfl
  rw [h, zbn_c (B := zB4 a) (C := zB20 a b c d e) 4 0 0 (fun z x y => (zb5_4 x y).1), zbn_c (B := zB4 b) (C := zB20 a b c d e) 4 0 4 (fun z x y => (zb5_4 x y).2.1), zbn_c (B := zB4 c) (C := zB20 a b c d e) 4 0 8 (fun z x y => (zb5_4 x y).2.2.1), zbn_c (B := zB4 d) (C := zB20 a b c d e) 4 0 12 (fun z x y => (zb5_4 x y).2.2.2.1), zbn_c (B := zB4 e) (C := zB20 a b c d e) 4 0 16 (fun z x y => (zb5_4 x y).2.2.2.2)]
  omega
def zap4 (v : Int) (r : Int × (Int → Int)) : Int × (Int → Int) := zap (zB4 v) 4 0 r.1 r.2
theorem zap_20 {a b c d e n : Int} {f : Int → Int} : zap (zB20 a b c d e) 20 0 n f = zap4 e (zap4 d (zap4 c (zap4 b (zap4 a (n, f))))) := by
  unfold zap4
  rw [show (20 : Nat) = 4 + (4 + (4 + (4 + 4))) from rfl, zap_add, zap_add, zap_add, zap_add]
  simp only [show (0 : Int) + ((4 : Nat) : Int) = 4 by omega, show (4 : Int) + ((4 : Nat) : Int) = 8 by omega, show (8 : Int) + ((4 : Nat) : Int) = 12 by omega, show (12 : Int) + ((4 : Nat) : Int) = 16 by omega]
  rw [← zap_c (B := zB4 a) (C := zB20 a b c d e) 4 0 0 n f (fun z x y => (zb5_4 x y).1)]
  rw [← zap_c (B := zB4 b) (C := zB20 a b c d e) 4 0 4 _ _ (fun z x y => (zb5_4 x y).2.1)]
  rw [← zap_c (B := zB4 c) (C := zB20 a b c d e) 4 0 8 _ _ (fun z x y => (zb5_4 x y).2.2.1)]
  rw [← zap_c (B := zB4 d) (C := zB20 a b c d e) 4 0 12 _ _ (fun z x y => (zb5_4 x y).2.2.2.1)]
  rw [← zap_c (B := zB4 e) (C := zB20 a b c d e) 4 0 16 _ _ (fun z x y => (zb5_4 x y).2.2.2.2)]
/-- the buffer behind an append that fits -/
theorem zap_text {a b c d e n : Int} {f : Int → Int} (h : qtext f n) (hn : n + zbn (zB20 a b c d e) 20 0 ≤ 600) : qtext (zap (zB20 a b c d e) 20 0 n f).2 (zap (zB20 a b c d e) 20 0 n f).1 := by
  have h0 := zbn_in (B := zB20 a b c d e) 20 0
  obtain ⟨h1, h2⟩ := zap_f (B := zB20 a b c d e) 20 0 n f (fun z => zbt_in _ _)
  rw [zap_n]
  refine ⟨by have := h.1; omega, fun j j0 j1 => ?_⟩
  rcases Int.lt_or_le j n with q | q
  · rw [h1 j q]; exact h.2 j j0 q
  · exact h2 j q j1
