/-! bytes written one behind the other -/
def zpl2 (l : List Int) (r : Int × (Int → Int)) : Int × (Int → Int) := l.foldl (fun r v => (r.1 + 1, zU r.2 r.1 v)) r
theorem zpl2_nil {r : Int × (Int → Int)} : zpl2 [] r = r := rfl
theorem zpl2_one {v n : Int} {f : Int → Int} : zpl2 [v] (n, f) = (n + 1, zU f n v) := rfl
theorem zpl2_cons {v n : Int} {f : Int → Int} {l : List Int} : zpl2 (v :: l) (n, f) = zpl2 l (n + 1, zU f n v) := rfl
theorem zpl2_app {a b : List Int} {r : Int × (Int → Int)} : zpl2 (a ++ b) r = zpl2 b (zpl2 a r) := List.foldl_append
theorem zpl2_n : ∀ (l : List Int) (r : Int × (Int → Int)), (zpl2 l r).1 = r.1 + l.length
  | [], r => (Int.add_zero r.1).symm
  | v :: l, r => by
    show (zpl2 l (r.1 + 1, zU r.2 r.1 v)).1 = r.1 + ((l.length + 1 : Nat) : Int)
    rw [zpl2_n l]
    show r.1 + 1 + (l.length : Int) = _
    omega
/-- what stands below stays; rows that agree below agree behind it -/
theorem zpl2_2 : ∀ (l : List Int) (n : Int) (f g : Int → Int), 0 ≤ n → (∀ j, 0 ≤ j → j < n → f j = g j) → ∀ j, 0 ≤ j → j < n + l.length → (zpl2 l (n, f)).2 j = (zpl2 l (n, g)).2 j
  | [], n, f, g, _, h => fun j a b => h j a (by have h9 : j < n + ((0 : Nat) : Int) := b; omega)
  | v :: l, n, f, g, h0, h => by
    have h1 := zpl2_2 l (n + 1) (zU f n v) (zU g n v) (by omega) (fun j a b => by
      by_cases q : j = n
      · rw [q, zU_s, zU_s]
      · rw [zU_n q, zU_n q]; exact h j a (by omega))
    intro j a b
    have b9 : j < n + ((l.length + 1 : Nat) : Int) := b
    exact h1 j a (by omega)
/-- a number's digits, as each side makes them -/
def zdgN : Nat → Int → List Int
  | 0, v => [48 + v % 10]
  | k + 1, v => (if 9 < v then zdgN k (v / 10) else []) ++ [48 + v % 10]
def zdgU : Nat → Int → Int → List Int
  | 0, _, _ => []
  | k + 1, u, v => (if u ≤ v then [48 + v / u % 10] else []) ++ zdgU k (u / 10) v
theorem zdgU_yes {k : Nat} {u v n : Int} {f : Int → Int} (h : u ≤ v) : zpl2 (zdgU (k + 1) u v) (n, f) = zpl2 (zdgU k (u / 10) v) (n + 1, zU f n (48 + v / u % 10)) := by
  show zpl2 ((if u ≤ v then [48 + v / u % 10] else []) ++ zdgU k (u / 10) v) (n, f) = _
  rw [if_pos h]
  rfl
theorem zdgU_no {k : Nat} {u v n : Int} {f : Int → Int} (h : ¬ u ≤ v) : zpl2 (zdgU (k + 1) u v) (n, f) = zpl2 (zdgU k (u / 10) v) (n, f) := by
  show zpl2 ((if u ≤ v then [48 + v / u % 10] else []) ++ zdgU k (u / 10) v) (n, f) = _
  rw [if_neg h]
  rfl
theorem zdg_eq {v : Int} (h0 : 1 ≤ v) (h1 : v ≤ 1000000) : zdgU 7 1000000 v = zdgN 6 v := by
  have e : zdgU 7 1000000 v = (if 1000000 ≤ v then [48 + v / 1000000 % 10] else []) ++ ((if 100000 ≤ v then [48 + v / 100000 % 10] else []) ++ ((if 10000 ≤ v then [48 + v / 10000 % 10] else []) ++ ((if 1000 ≤ v then [48 + v / 1000 % 10] else []) ++ ((if 100 ≤ v then [48 + v / 100 % 10] else []) ++ ((if 10 ≤ v then [48 + v / 10 % 10] else []) ++ ((if 1 ≤ v then [48 + v / 1 % 10] else []) ++ [])))))) := rfl
  have e2 : zdgN 6 v = (if 9 < v then (if 9 < v / 10 then (if 9 < v / 10 / 10 then (if 9 < v / 10 / 10 / 10 then (if 9 < v / 10 / 10 / 10 / 10 then (if 9 < v / 10 / 10 / 10 / 10 / 10 then [48 + v / 10 / 10 / 10 / 10 / 10 / 10 % 10] else []) ++ [48 + v / 10 / 10 / 10 / 10 / 10 % 10] else []) ++ [48 + v / 10 / 10 / 10 / 10 % 10] else []) ++ [48 + v / 10 / 10 / 10 % 10] else []) ++ [48 + v / 10 / 10 % 10] else []) ++ [48 + v / 10 % 10] else []) ++ [48 + v % 10] := rfl
  have d2 : v / 10 / 10 = v / 100 := by omega
  have d3 : v / 10 / 10 / 10 = v / 1000 := by omega
  have d4 : v / 10 / 10 / 10 / 10 = v / 10000 := by omega
  have d5 : v / 10 / 10 / 10 / 10 / 10 = v / 100000 := by omega
  have d6 : v / 10 / 10 / 10 / 10 / 10 / 10 = v / 1000000 := by omega
  have d0 : v / 1 = v := by omega
  rw [e, e2, d6, d5, d4, d3, d2, d0, if_pos h0]
  by_cases c1 : 10 ≤ v
  · rw [if_pos c1, if_pos (show 9 < v by omega)]
    by_cases c2 : 100 ≤ v
    · rw [if_pos c2, if_pos (show 9 < v / 10 by omega)]
      by_cases c3 : 1000 ≤ v
      · rw [if_pos c3, if_pos (show 9 < v / 100 by omega)]
        by_cases c4 : 10000 ≤ v
        · rw [if_pos c4, if_pos (show 9 < v / 1000 by omega)]
          by_cases c5 : 100000 ≤ v
          · rw [if_pos c5, if_pos (show 9 < v / 10000 by omega)]
            by_cases c6 : 1000000 ≤ v
            · rw [if_pos c6, if_pos (show 9 < v / 100000 by omega)]; rfl
            · rw [if_neg c6, if_neg (show ¬ 9 < v / 100000 by omega)]; rfl
          · rw [if_neg (show ¬ 1000000 ≤ v by omega), if_neg c5, if_neg (show ¬ 9 < v / 10000 by omega)]; rfl
        · rw [if_neg (show ¬ 1000000 ≤ v by omega), if_neg (show ¬ 100000 ≤ v by omega), if_neg c4, if_neg (show ¬ 9 < v / 1000 by omega)]; rfl
      · rw [if_neg (show ¬ 1000000 ≤ v by omega), if_neg (show ¬ 100000 ≤ v by omega), if_neg (show ¬ 10000 ≤ v by omega), if_neg c3, if_neg (show ¬ 9 < v / 100 by omega)]; rfl
    · rw [if_neg (show ¬ 1000000 ≤ v by omega), if_neg (show ¬ 100000 ≤ v by omega), if_neg (show ¬ 10000 ≤ v by omega), if_neg (show ¬ 1000 ≤ v by omega), if_neg c2, if_neg (show ¬ 9 < v / 10 by omega)]; rfl
  · rw [if_neg (show ¬ 1000000 ≤ v by omega), if_neg (show ¬ 100000 ≤ v by omega), if_neg (show ¬ 10000 ≤ v by omega), if_neg (show ¬ 1000 ≤ v by omega), if_neg (show ¬ 100 ≤ v by omega), if_neg c1, if_neg (show ¬ 9 < v by omega)]; rfl
theorem zdgN_len : ∀ (k : Nat) (v : Int), 1 ≤ (zdgN k v).length ∧ (zdgN k v).length ≤ k + 1
  | 0, v => ⟨Nat.le_refl 1, Nat.le_refl 1⟩
  | k + 1, v => by
    have h := zdgN_len k (v / 10)
    unfold zdgN
    rw [List.length_append]
    split
    · show 1 ≤ _ + 1 ∧ _ + 1 ≤ _; omega
    · show 1 ≤ 0 + 1 ∧ 0 + 1 ≤ _; omega
/-- the letters of a word, from the j-th on -/
def zwdN (k : Nat) : Nat → Int → List Int
  | 0, _ => []
  | m + 1, j => wch k j :: zwdN k m (j + 1)
def zwd (k : Nat) : List Int := zwdN k (wln k).toNat 0
theorem zwdN_len (k : Nat) : ∀ (m : Nat) (j : Int), (zwdN k m j).length = m
  | 0, _ => rfl
  | m + 1, j => by show (zwdN k m (j + 1)).length + 1 = _; rw [zwdN_len k m]
/-- a name's letters: of a row of eight, of a long number -/
def znlN (g : Int → Int) : Nat → Int → List Int
  | 0, _ => []
  | m + 1, j => if 0 < g j then g j :: znlN g m (j + 1) else []
def znbN (w : Int → Int) : Nat → Int → List Int
  | 0, _ => []
  | m + 1, j => (if w j ≠ 0 then [w j] else []) ++ znbN w m (j + 1)
theorem znlN_len (g : Int → Int) : ∀ (m : Nat) (j : Int), (znlN g m j).length ≤ m
  | 0, _ => Nat.le_refl 0
  | m + 1, j => by
    have h := znlN_len g m (j + 1)
    unfold znlN
    split
    · show _ + 1 ≤ _; omega
    · show 0 ≤ _; omega
theorem znbN_len (w : Int → Int) : ∀ (m : Nat) (j : Int), (znbN w m j).length ≤ m
  | 0, _ => Nat.le_refl 0
  | m + 1, j => by
    have h := znbN_len w m (j + 1)
    unfold znbN
    rw [List.length_append]
    split
    · show 1 + _ ≤ _; omega
    · show 0 + _ ≤ _; omega
theorem wb_shr (n k : Nat) (hn : n < 9223372036854775808) (hk : k < 64) : lN n >>> ((nI k).toInt64 &&& 63) = lN (n >>> k) := by
  rw [wb_c k hk]
  apply wb_inj
  show (lN n).toBitVec.sshiftRight' ((lN k).toBitVec.smod 64) = (lN (n >>> k)).toBitVec
  rw [wb_tb, wb_tb, wb_tb, wb_sm k hk]
  apply BitVec.eq_of_toNat_eq
  have hm : (BitVec.ofNat 64 n).msb = false := by
    rw [BitVec.msb_eq_decide]
    simp
    omega
  have h3 : n >>> k ≤ n := by rw [Nat.shiftRight_eq_div_pow]; exact Nat.div_le_self _ _
  show ((BitVec.ofNat 64 n).sshiftRight (BitVec.ofNat 64 k).toNat).toNat = _
  rw [BitVec.sshiftRight_eq_of_msb_false hm]
  simp [Nat.mod_eq_of_lt (show k < 18446744073709551616 by omega), Nat.mod_eq_of_lt (show n < 18446744073709551616 by omega), Nat.mod_eq_of_lt (show n >>> k < 18446744073709551616 by omega)]
theorem zlshr_n {n k : Nat} (hn : n < 9223372036854775808) (hk : k < 64) : zlshr n k = ((n >>> k : Nat) : Int) := by
  unfold zlshr
  rw [zL_lN, zI_nat, wb_shr n k hn hk, zlN_to (by have : n >>> k ≤ n := (by rw [Nat.shiftRight_eq_div_pow]; exact Nat.div_le_self _ _); omega)]
theorem zand_b (x : Int) : 0 ≤ zand x 255 ∧ zand x 255 ≤ 255 := by
  have h2 : zI 255 = Int32.ofNat 255 := rfl
  have h3 : (zI x).toBitVec.toNat &&& 255 ≤ 255 := Nat.and_le_right
  unfold zand
  rw [h2, ← zI_ofN (zI x), zi_and, zi_to (by omega)]
  omega
theorem zand_m (n : Nat) : zand n 255 = ((n % 256 : Nat) : Int) := by
  have h2 : zI 255 = Int32.ofNat 255 := rfl
  have h3 : n &&& 255 = n % 256 := Nat.and_two_pow_sub_one_eq_mod n 8
  unfold zand
  rw [h2, zi_nat, zi_and, h3, zi_to (by omega)]
theorem zbyte {w : Int} {k : Nat} (h0 : 0 ≤ w) (h1 : w < 9223372036854775808) (hk : k < 64) : zand (zlshr w k) 255 = ((w.toNat / 2 ^ k % 256 : Nat) : Int) := by
  obtain ⟨n, rfl⟩ := Int.eq_ofNat_of_zero_le h0
  rw [zlshr_n (by omega) hk, zand_m, Nat.shiftRight_eq_div_pow]
  rfl
theorem znb_0 {w : Int → Int} : ∀ (m r : Nat) (j : Int), (∀ k : Int, 0 ≤ k → k < m → w (j + k) = 0) → znbN w (m + r) j = znbN w r (j + m)
  | 0, r, j, _ => by rw [Nat.zero_add, show j + ((0 : Nat) : Int) = j by omega]
  | m + 1, r, j, h => by
    have h0 := h 0 (by omega) (by omega)
    rw [Int.add_zero] at h0
    rw [show m + 1 + r = (m + r) + 1 by omega]
    show (if w j ≠ 0 then [w j] else []) ++ znbN w (m + r) (j + 1) = _
    rw [if_neg (fun z => z h0), List.nil_append, znb_0 m r (j + 1) (fun k a b => by rw [show j + 1 + k = j + (k + 1) by omega]; exact h (k + 1) (by omega) (by omega))]
    rw [show j + 1 + (m : Int) = j + ((m + 1 : Nat) : Int) by omega]
theorem znb_l {w g : Int → Int} : ∀ (m r : Nat) (j i : Int), (∀ k : Int, 0 ≤ k → k < m → w (j + k) = g (i + k) ∧ 0 < g (i + k)) → (r = 0 ∨ g (i + m) ≤ 0) → znbN w m j = znlN g (m + r) i
  | 0, r, j, i, _, hr => by
    rw [Nat.zero_add]
    show [] = _
    cases r with
    | zero => rfl
    | succ r =>
      have h1 : g i ≤ 0 := by
        have := hr.resolve_left (by omega)
        rw [show i + ((0 : Nat) : Int) = i by omega] at this
        exact this
      show [] = if 0 < g i then _ else []
      rw [if_neg (by omega)]
  | m + 1, r, j, i, h, hr => by
    have h0 := h 0 (by omega) (by omega)
    rw [Int.add_zero, Int.add_zero] at h0
    rw [show m + 1 + r = (m + r) + 1 by omega]
    show (if w j ≠ 0 then [w j] else []) ++ znbN w m (j + 1) = if 0 < g i then g i :: znlN g (m + r) (i + 1) else []
    rw [if_pos (by omega), if_pos h0.2, znb_l m r (j + 1) (i + 1) (fun k a b => by rw [show j + 1 + k = j + (k + 1) by omega, show i + 1 + k = i + (k + 1) by omega]; exact h (k + 1) (by omega) (by omega)) (by rw [show i + 1 + (m : Int) = i + ((m + 1 : Nat) : Int) by omega]; exact hr), h0.1]
    rfl
theorem zwd_step {k m m2 : Nat} {j n : Int} {f : Int → Int} (h : m = m2 + 1) : zpl2 (zwdN k m j) (n, f) = zpl2 (zwdN k m2 (j + 1)) (n + 1, zU f n (wch k j)) := by
  subst h
  rfl
theorem znb_no {w : Int → Int} {m m2 : Nat} {j n : Int} {f : Int → Int} (h0 : ¬ w j ≠ 0) (h : m = m2 + 1) : zpl2 (znbN w m j) (n, f) = zpl2 (znbN w m2 (j + 1)) (n, f) := by
  subst h
  show zpl2 ((if w j ≠ 0 then [w j] else []) ++ znbN w m2 (j + 1)) (n, f) = _
  rw [if_neg h0]
  rfl
theorem znb_yes {w : Int → Int} {m m2 : Nat} {j n v : Int} {f : Int → Int} (hv : w j = v) (h0 : v ≠ 0) (h : m = m2 + 1) : zpl2 (znbN w m j) (n, f) = zpl2 (znbN w m2 (j + 1)) (n + 1, zU f n v) := by
  subst h
  subst hv
  show zpl2 ((if w j ≠ 0 then [w j] else []) ++ znbN w m2 (j + 1)) (n, f) = _
  rw [if_pos h0]
  rfl
theorem zdg_yes {k : Nat} {v : Int} {r : Int × (Int → Int)} (h : 9 < v) : zpl2 (zdgN (k + 1) v) r = zpl2 [48 + v % 10] (zpl2 (zdgN k (v / 10)) r) := by
  show zpl2 ((if 9 < v then zdgN k (v / 10) else []) ++ [48 + v % 10]) r = _
  rw [if_pos h, zpl2_app]
theorem zdg_no {k : Nat} {v : Int} {r : Int × (Int → Int)} (h : ¬ 9 < v) : zpl2 (zdgN (k + 1) v) r = zpl2 [48 + v % 10] r := by
  show zpl2 ((if 9 < v then zdgN k (v / 10) else []) ++ [48 + v % 10]) r = _
  rw [if_neg h]
  rfl
/-- the units from a million down -/
def zun (m : Nat) (u : Int) : Prop := (m = 7 ∧ u = 1000000) ∨ (m = 6 ∧ u = 100000) ∨ (m = 5 ∧ u = 10000) ∨ (m = 4 ∧ u = 1000) ∨ (m = 3 ∧ u = 100) ∨ (m = 2 ∧ u = 10) ∨ (m = 1 ∧ u = 1) ∨ (m = 0 ∧ u = 0)
theorem zun_in {m : Nat} {u : Int} (h : zun m u) : 0 ≤ u ∧ u ≤ 1000000 ∧ m ≤ 7 ∧ (m = 0 → u = 0) ∧ (u = 0 → m = 0) := by
  unfold zun at h
  omega
theorem zun_next {m : Nat} {u : Int} (h : zun (m + 1) u) : zun m (u / 10) := by
  unfold zun at h ⊢
  omega
theorem zun_0 : zun 7 1000000 := .inl ⟨rfl, rfl⟩
