/-! bounds of products and quotients -/
theorem zmul_abs {a b A B C : Int} (ha : -A ≤ a ∧ a ≤ A) (hb : -B ≤ b ∧ b ≤ B) (hC : A * B = C) : -C ≤ a * b ∧ a * b ≤ C := by
  subst hC
  have hA : 0 ≤ A := by omega
  have hB : 0 ≤ B := by omega
  rcases Int.le_total 0 a with h1 | h1
  · rcases Int.le_total 0 b with h2 | h2
    · have q1 := Int.mul_nonneg h1 h2
      have q2 := Int.mul_le_mul ha.2 hb.2 h2 hA
      have q3 := Int.mul_nonneg hA hB
      omega
    · have q1 := Int.mul_nonneg h1 (show 0 ≤ -b by omega)
      have q2 := Int.mul_le_mul ha.2 (show -b ≤ B by omega) (show 0 ≤ -b by omega) hA
      have q3 := Int.mul_nonneg hA hB
      rw [Int.mul_neg] at q1 q2
      omega
  · rcases Int.le_total 0 b with h2 | h2
    · have q1 := Int.mul_nonneg (show 0 ≤ -a by omega) h2
      have q2 := Int.mul_le_mul (show -a ≤ A by omega) hb.2 h2 hA
      have q3 := Int.mul_nonneg hA hB
      rw [Int.neg_mul] at q1 q2
      omega
    · have q1 := Int.mul_nonneg (show 0 ≤ -a by omega) (show 0 ≤ -b by omega)
      have q2 := Int.mul_le_mul (show -a ≤ A by omega) (show -b ≤ B by omega) (show 0 ≤ -b by omega) hA
      have q3 := Int.mul_nonneg hA hB
      rw [Int.neg_mul_neg] at q1 q2
      omega
theorem ztdiv_abs {a d C D : Int} (hd : 0 < d) (ha : -C ≤ a ∧ a ≤ C) (hD : Int.tdiv C d = D) : -D ≤ Int.tdiv a d ∧ Int.tdiv a d ≤ D := by
  subst hD
  have h1 := Int.tdiv_le_tdiv hd ha.1
  have h2 := Int.tdiv_le_tdiv hd ha.2
  rw [Int.neg_tdiv] at h1
  exact ⟨h1, h2⟩
/-! the sine -/
theorem zprod {p : Int} (h0 : 0 ≤ p) (h1 : p ≤ 18000) : 0 ≤ p * (18000 - p) ∧ p * (18000 - p) ≤ 81000000 := by
  refine ⟨Int.mul_nonneg h0 (by omega), ?_⟩
  have hq : p * (18000 - p) = 81000000 - (p - 9000) * (p - 9000) := by grind
  have hs : 0 ≤ (p - 9000) * (p - 9000) := by
    rcases Int.le_total 0 (p - 9000) with h | h
    · exact Int.mul_nonneg h h
    · exact Int.mul_nonneg_of_nonpos_of_nonpos h h
  omega
/-- the sine up to half a round -/
def zsp (p : Int) : Int := Int.tdiv (40000 * (p * (18000 - p))) (405000000 - p * (18000 - p))
theorem zsp_in {p : Int} (h0 : 0 ≤ p) (h1 : p ≤ 18000) : 0 ≤ zsp p ∧ zsp p ≤ 10000 := by
  obtain ⟨q0, q1⟩ := zprod h0 h1
  unfold zsp
  generalize p * (18000 - p) = P at q0 q1 ⊢
  rw [Int.tdiv_eq_ediv_of_nonneg (by omega)]
  refine ⟨Int.ediv_nonneg (by omega) (by omega), Int.ediv_le_of_le_mul (by omega) (by omega)⟩
/-- the sine of an angle -/
def zs (a : Int) : Int := if a % 36000 ≤ 18000 then zsp (a % 36000) else -zsp (a % 36000 - 18000)
theorem zs_in (a : Int) : -10000 ≤ zs a ∧ zs a ≤ 10000 := by
  unfold zs
  split
  · have := zsp_in (p := a % 36000) (by omega) (by omega); omega
  · have := zsp_in (p := a % 36000 - 18000) (by omega) (by omega); omega
theorem zs_mod {a b : Int} (h : a % 36000 = b % 36000) : zs a = zs b := by
  unfold zs
  rw [h]
/-! ellipses -/
/-- the numbers of a moon, out of a row of six a moon -/
def zg (mn : Int → Int) (mo : Int) : Int → Int := fun w => mn (mo * 6 + w)
/-- numbers that a moon may have -/
def zgok (g : Int → Int) : Prop := (2 ≤ g 0 ∧ g 0 ≤ 9999) ∧ (0 ≤ g 1 ∧ g 1 ≤ 60) ∧ (0 ≤ g 2 ∧ g 2 ≤ 359) ∧ (8 ≤ g 3 ∧ g 3 ≤ 99999) ∧ (0 ≤ g 4 ∧ g 4 ≤ 359) ∧ (0 ≤ g 5 ∧ g 5 ≤ 99)
/-- the greatest whole number whose square is at most v (up to 100) -/
def zwid (v : Int) : Int := zfind (fun w => decide (v < (w + 1) * (w + 1))) 0 101
theorem zfind_is {q : Int → Bool} {e r : Int} : ∀ (n : Nat) (i : Int), (r - i).toNat = n → i ≤ r → r < e → (∀ j, i ≤ j → j < r → q j = false) → q r = true → zfind q i e = r := by
  intro n
  induction n with
  | zero => intro i hn h1 h2 h3 h4; have : i = r := by omega
            subst this; exact zfind_hit h2 h4
  | succ n ih =>
    intro i hn h1 h2 h3 h4
    rw [zfind_next (by omega) (h3 i (Int.le_refl _) (by omega))]
    exact ih (i + 1) (by omega) (by omega) h2 (fun j q1 q2 => h3 j (by omega) q2) h4
theorem zsq_le {a b : Int} (h0 : 0 ≤ a) (h : a ≤ b) : a * a ≤ b * b := Int.mul_le_mul h h h0 (by omega)
theorem zwid_is {v w : Int} (h0 : 0 ≤ w) (h1 : w ≤ 100) (h2 : w * w ≤ v) (h3 : v < (w + 1) * (w + 1)) : zwid v = w := by
  refine zfind_is _ 0 rfl h0 (by omega) (fun j q1 q2 => ?_) (by simpa using h3)
  have := zsq_le (a := j + 1) (b := w) (by omega) (by omega)
  simpa using (show (j + 1) * (j + 1) ≤ v by omega)
theorem zwid_sp {v : Int} (h0 : 0 ≤ v) (h1 : v ≤ 10000) : 0 ≤ zwid v ∧ zwid v ≤ 100 ∧ zwid v * zwid v ≤ v ∧ v < (zwid v + 1) * (zwid v + 1) := by
  have key : ∀ (n : Nat), v < ((n : Int) + 1) * ((n : Int) + 1) → n ≤ 100 → ∃ w : Int, 0 ≤ w ∧ w ≤ 100 ∧ w * w ≤ v ∧ v < (w + 1) * (w + 1) := by
    intro n
    induction n with
    | zero => intro h _; exact ⟨0, by omega, by omega, by omega, h⟩
    | succ n ih =>
      intro h hn
      by_cases q : v < ((n : Int) + 1) * ((n : Int) + 1)
      · exact ih q (by omega)
      · exact ⟨(n : Int) + 1, by omega, by omega, by omega, by simpa using h⟩
  obtain ⟨w, a, b, c, d⟩ := key 100 (by show v < ((100 : Nat) + 1 : Int) * ((100 : Nat) + 1 : Int); omega) (by omega)
  rw [zwid_is a b c d]
  exact ⟨a, b, c, d⟩
/-- one of the six steps towards the angle -/
def zstep (M fl E : Int) : Int := M + Int.tdiv (fl * zs E * 573) 100000
def zit (M fl : Int) : Nat → Int → Int
  | 0, E => E
  | n + 1, E => zit M fl n (zstep M fl E)
theorem zit_stay {M fl E : Int} (h : zstep M fl E = E) : ∀ n, zit M fl n E = E := by
  intro n
  induction n with
  | zero => rfl
  | succ n ih => show zit M fl n (zstep M fl E) = E; rw [h]; exact ih
theorem zstep_in {M fl E : Int} (hf : 0 ≤ fl ∧ fl ≤ 60) : -4000 ≤ zstep M fl E - M ∧ zstep M fl E - M ≤ 4000 := by
  unfold zstep
  have h1 := zmul_abs (a := fl) (b := zs E) (A := 60) (B := 10000) (by omega) (zs_in E) rfl
  have h2 := zmul_abs (a := fl * zs E) (b := 573) (A := 600000) (B := 573) (by omega) (by omega) rfl
  have h3 := ztdiv_abs (d := 100000) (by omega) h2 rfl
  have h4 : Int.tdiv (600000 * 573) 100000 = 3438 := rfl
  omega
theorem zit_in {M fl : Int} (hf : 0 ≤ fl ∧ fl ≤ 60) : ∀ (n : Nat) (E : Int), (-4000 ≤ E - M ∧ E - M ≤ 4000) → -4000 ≤ zit M fl n E - M ∧ zit M fl n E - M ≤ 4000 := by
  intro n
  induction n with
  | zero => intro E h; exact h
  | succ n ih => intro E _; exact ih _ (zstep_in hf)
/-- the mean angle and the angle of a moon at a time -/
def zmean (g : Int → Int) (t : Int) : Int := Int.tmod (100 * g 4 + Int.tdiv (36000 * t) (g 3)) 36000
def zang (g : Int → Int) (t : Int) : Int := zit (zmean g t) (g 1) 6 (zmean g t)
def zal (g : Int → Int) (t : Int) : Int := Int.tdiv (g 0 * (zs (zang g t + 9000) - 100 * g 1)) 100
def zac (g : Int → Int) (t : Int) : Int := Int.tdiv (g 0 * zwid (10000 - g 1 * g 1) * zs (zang g t)) 10000
def zlx (g : Int → Int) (t : Int) : Int := Int.tdiv (zal g t * zs (100 * g 2 + 9000) - zac g t * zs (100 * g 2)) 10000
def zly (g : Int → Int) (t : Int) : Int := Int.tdiv (zal g t * zs (100 * g 2) + zac g t * zs (100 * g 2 + 9000)) 10000
def zli (di dr t : Int) : Int := 100 * di + dr * t
def zah (x y L : Int) : Int := Int.tdiv (x * zs (L + 9000) + y * zs L) 10000
def zas (x y L : Int) : Int := Int.tdiv (y * zs (L + 9000) - x * zs L) 10000
/-- ahead and aside of a moon at a time -/
def zlh (di dr : Int) (g : Int → Int) (t : Int) : Int := zah (zlx g t) (zly g t) (zli di dr t)
def zls (di dr : Int) (g : Int → Int) (t : Int) : Int := zas (zlx g t) (zly g t) (zli di dr t)
theorem zmean_in {g : Int → Int} {t : Int} (hg : zgok g) (h0 : 0 ≤ t) : 0 ≤ zmean g t ∧ zmean g t < 36000 := by
  obtain ⟨h00, h01, h02, h03, h04, h05⟩ := hg
  unfold zmean
  have h1 : 0 ≤ Int.tdiv (36000 * t) (g 3) := Int.tdiv_nonneg (by omega) (by omega)
  rw [Int.tmod_eq_emod_of_nonneg (by omega)]
  omega
theorem zang_in {g : Int → Int} {t : Int} (hg : zgok g) (h0 : 0 ≤ t) : -4000 ≤ zang g t ∧ zang g t ≤ 40000 := by
  have h1 := zmean_in hg h0
  have h2 := zit_in (M := zmean g t) (fl := g 1) hg.2.1 6 (zmean g t) (by omega)
  unfold zang
  omega
theorem zal_in {g : Int → Int} {t : Int} (hg : zgok g) : -1600000 ≤ zal g t ∧ zal g t ≤ 1600000 := by
  obtain ⟨h00, h01, h02, h03, h04, h05⟩ := hg
  unfold zal
  have h1 := zs_in (zang g t + 9000)
  have h2 := zmul_abs (a := g 0) (b := zs (zang g t + 9000) - 100 * g 1) (A := 10000) (B := 16000) (by omega) (by omega) rfl
  exact ztdiv_abs (d := 100) (by omega) h2 rfl
theorem zac_mul {g : Int → Int} (hg : zgok g) : (0 ≤ zwid (10000 - g 1 * g 1) ∧ zwid (10000 - g 1 * g 1) ≤ 100) ∧ (-1000000 ≤ g 0 * zwid (10000 - g 1 * g 1) ∧ g 0 * zwid (10000 - g 1 * g 1) ≤ 1000000) := by
  obtain ⟨h00, h01, h02, h03, h04, h05⟩ := hg
  have h1 := zmul_abs (a := g 1) (b := g 1) (A := 60) (B := 60) (by omega) (by omega) rfl
  have h2 := Int.mul_nonneg h01.1 h01.1
  obtain ⟨w0, w1, -, -⟩ := zwid_sp (v := 10000 - g 1 * g 1) (by omega) (by omega)
  exact ⟨⟨w0, w1⟩, zmul_abs (A := 10000) (B := 100) (by omega) (by omega) rfl⟩
theorem zac_in {g : Int → Int} {t : Int} (hg : zgok g) : -1000000 ≤ zac g t ∧ zac g t ≤ 1000000 := by
  have h1 := (zac_mul hg).2
  unfold zac
  exact ztdiv_abs (d := 10000) (C := 10000000000) (by omega) (zmul_abs (B := 10000) h1 (zs_in _) rfl) rfl
theorem zlx_in {g : Int → Int} {t : Int} (hg : zgok g) : -2600000 ≤ zlx g t ∧ zlx g t ≤ 2600000 := by
  have h1 := zmul_abs (B := 10000) (zal_in (t := t) hg) (zs_in (100 * g 2 + 9000)) rfl
  have h2 := zmul_abs (B := 10000) (zac_in (t := t) hg) (zs_in (100 * g 2)) rfl
  unfold zlx
  exact ztdiv_abs (d := 10000) (C := 26000000000) (by omega) (by omega) rfl
theorem zly_in {g : Int → Int} {t : Int} (hg : zgok g) : -2600000 ≤ zly g t ∧ zly g t ≤ 2600000 := by
  have h1 := zmul_abs (B := 10000) (zal_in (t := t) hg) (zs_in (100 * g 2)) rfl
  have h2 := zmul_abs (B := 10000) (zac_in (t := t) hg) (zs_in (100 * g 2 + 9000)) rfl
  unfold zly
  exact ztdiv_abs (d := 10000) (C := 26000000000) (by omega) (by omega) rfl
theorem zah_in {x y L : Int} (hx : -2600000 ≤ x ∧ x ≤ 2600000) (hy : -2600000 ≤ y ∧ y ≤ 2600000) : -5200000 ≤ zah x y L ∧ zah x y L ≤ 5200000 := by
  have h1 := zmul_abs (B := 10000) hx (zs_in (L + 9000)) rfl
  have h2 := zmul_abs (B := 10000) hy (zs_in L) rfl
  unfold zah
  exact ztdiv_abs (d := 10000) (C := 52000000000) (by omega) (by omega) rfl
theorem zas_in {x y L : Int} (hx : -2600000 ≤ x ∧ x ≤ 2600000) (hy : -2600000 ≤ y ∧ y ≤ 2600000) : -5200000 ≤ zas x y L ∧ zas x y L ≤ 5200000 := by
  have h1 := zmul_abs (B := 10000) hy (zs_in (L + 9000)) rfl
  have h2 := zmul_abs (B := 10000) hx (zs_in L) rfl
  unfold zas
  exact ztdiv_abs (d := 10000) (C := 52000000000) (by omega) (by omega) rfl
theorem zlh_in {di dr t : Int} {g : Int → Int} (hg : zgok g) : -5200000 ≤ zlh di dr g t ∧ zlh di dr g t ≤ 5200000 := zah_in (zlx_in hg) (zly_in hg)
theorem zls_in {di dr t : Int} {g : Int → Int} (hg : zgok g) : -5200000 ≤ zls di dr g t ∧ zls di dr g t ≤ 5200000 := zas_in (zlx_in hg) (zly_in hg)
theorem zli_in {di dr t : Int} (h1 : 0 ≤ di ∧ di ≤ 359) (h2 : -999 ≤ dr ∧ dr ≤ 999) (h3 : 0 ≤ t ∧ t ≤ 1000000) : (-999000000 ≤ dr * t ∧ dr * t ≤ 999000000) ∧ -999000000 ≤ zli di dr t ∧ zli di dr t ≤ 999035900 := by
  have q := zmul_abs (a := dr) (b := t) (A := 999) (B := 1000000) h2 (by omega) rfl
  unfold zli
  omega
/-! what a moon looks like -/
/-- the shadow state: the planet's radius, the moon's, ahead, aside -/
def zst (pr ra h d : Int) : Int := if 0 ≤ h then 0 else if zabs d + 100 * ra ≤ 100 * pr then 2 else if zabs d < 100 * pr + 100 * ra then 1 else 0
theorem zst_in (pr ra h d : Int) : 0 ≤ zst pr ra h d ∧ zst pr ra h d ≤ 2 := by
  unfold zst
  split
  · omega
  · split
    · omega
    · split <;> omega
/-- whether it casts its shadow -/
def zca (pr ra h d : Int) : Bool := decide (0 < h) && decide (zabs d < 100 * pr + 100 * ra)
/-- of a moon at a time: the state, whether it casts, both -/
def zS (pr di dr : Int) (g : Int → Int) (t : Int) : Int := zst pr (g 5) (zlh di dr g t) (zls di dr g t)
def zC (pr di dr : Int) (g : Int → Int) (t : Int) : Bool := zca pr (g 5) (zlh di dr g t) (zls di dr g t)
/-- dark: 1, casting: 2, neither: 0 (nobody is both) -/
def zlk (st : Int) (ca : Bool) : Int := if 0 < st then 1 else if ca = true then 2 else 0
def zL2 (pr di dr : Int) (g : Int → Int) (t : Int) : Int := zlk (zS pr di dr g t) (zC pr di dr g t)
theorem zlk_in (st : Int) (ca : Bool) : zlk st ca = 0 ∨ zlk st ca = 1 ∨ zlk st ca = 2 := by
  unfold zlk
  split
  · omega
  · split <;> omega
/-- the bits that stand for a look -/
def zbits (k : Int) : Int := if k = 1 then 9 else if k = 2 then 6 else 10
theorem zbits_is (pr ra h d : Int) : zor (if zst pr ra h d ≠ 0 then 1 else 2) (if zca pr ra h d = true then 4 else 8) = zbits (zlk (zst pr ra h d) (zca pr ra h d)) := by
  have hs := zst_in pr ra h d
  have e1 : zor 1 8 = 9 := by decide +kernel
  have e2 : zor 2 4 = 6 := by decide +kernel
  have e3 : zor 2 8 = 10 := by decide +kernel
  unfold zlk zbits
  by_cases q : zst pr ra h d = 0
  · cases hc : zca pr ra h d with
    | true => simp [q, e2]
    | false => simp [q, e3]
  · have h0 : ¬ 0 ≤ h := by
      intro z
      apply q
      unfold zst
      rw [if_pos z]
    have hc : zca pr ra h d = false := by
      unfold zca
      simp
      intro z
      omega
    have hp : 0 < zst pr ra h d := by omega
    simp [q, hc, hp, e1]
/-- whether an event of a kind lies between two looks -/
def zev (k w n : Int) : Bool := if k = 0 then decide (w ≠ 1 ∧ n = 1) else if k = 1 then decide (w = 1 ∧ n ≠ 1) else if k = 2 then decide (w ≠ 2 ∧ n = 2) else decide (w = 2 ∧ n ≠ 2)
