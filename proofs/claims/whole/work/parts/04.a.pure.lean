/-! searches, counts and sums over a stretch of whole numbers -/
def zfindN (q : Int → Bool) : Nat → Int → Int
  | 0, _ => -1
  | n + 1, i => if q i = true then i else zfindN q n (i + 1)
/-- the first number from i on, below e, of which q holds; -1 without one -/
def zfind (q : Int → Bool) (i e : Int) : Int := zfindN q (e - i).toNat i
theorem zfind_end {q : Int → Bool} {i e : Int} (h : e ≤ i) : zfind q i e = -1 := by
  unfold zfind
  rw [show (e - i).toNat = 0 by omega]
  rfl
theorem zfind_hit {q : Int → Bool} {i e : Int} (h : i < e) (hq : q i = true) : zfind q i e = i := by
  unfold zfind
  rw [show (e - i).toNat = (e - (i + 1)).toNat + 1 by omega]
  unfold zfindN
  rw [if_pos hq]
theorem zfind_next {q : Int → Bool} {i e : Int} (h : i < e) (hq : q i = false) : zfind q i e = zfind q (i + 1) e := by
  unfold zfind
  rw [show (e - i).toNat = (e - (i + 1)).toNat + 1 by omega, zfindN, if_neg (by rw [hq]; decide)]
theorem zfind_congr {q r : Int → Bool} {e : Int} : ∀ (n : Nat) (i : Int), (e - i).toNat = n → (∀ j, i ≤ j → j < e → q j = r j) → zfind q i e = zfind r i e := by
  intro n
  induction n with
  | zero => intro i hn _; rw [zfind_end (by omega), zfind_end (by omega)]
  | succ n ih =>
    intro i hn h
    have hi : i < e := by omega
    cases hq : q i with
    | true => rw [zfind_hit hi hq, zfind_hit hi (by rw [← h i (Int.le_refl _) hi]; exact hq)]
    | false =>
      rw [zfind_next hi hq, zfind_next hi (by rw [← h i (Int.le_refl _) hi]; exact hq)]
      exact ih (i + 1) (by omega) (fun j h1 h2 => h j (by omega) h2)
theorem zfind_rng {q : Int → Bool} {e : Int} : ∀ (n : Nat) (i : Int), (e - i).toNat = n → zfind q i e = -1 ∨ (i ≤ zfind q i e ∧ zfind q i e < e ∧ q (zfind q i e) = true) := by
  intro n
  induction n with
  | zero => intro i hn; exact Or.inl (zfind_end (by omega))
  | succ n ih =>
    intro i hn
    have hi : i < e := by omega
    cases hq : q i with
    | true => rw [zfind_hit hi hq]; exact Or.inr ⟨Int.le_refl _, hi, hq⟩
    | false =>
      rw [zfind_next hi hq]
      rcases ih (i + 1) (by omega) with h | ⟨h1, h2, h3⟩
      · exact Or.inl h
      · exact Or.inr ⟨by omega, h2, h3⟩
def zsumN (f : Int → Int) : Nat → Int → Int
  | 0, _ => 0
  | n + 1, i => f i + zsumN f n (i + 1)
/-- the sum of f over the numbers from i on, below e -/
def zsum (f : Int → Int) (i e : Int) : Int := zsumN f (e - i).toNat i
theorem zsum_end {f : Int → Int} {i e : Int} (h : e ≤ i) : zsum f i e = 0 := by
  unfold zsum
  rw [show (e - i).toNat = 0 by omega]
  rfl
theorem zsum_next {f : Int → Int} {i e : Int} (h : i < e) : zsum f i e = f i + zsum f (i + 1) e := by
  unfold zsum
  rw [show (e - i).toNat = (e - (i + 1)).toNat + 1 by omega]
  rfl
theorem zsum_congr {f g : Int → Int} {e : Int} : ∀ (n : Nat) (i : Int), (e - i).toNat = n → (∀ j, i ≤ j → j < e → f j = g j) → zsum f i e = zsum g i e := by
  intro n
  induction n with
  | zero => intro i hn _; rw [zsum_end (by omega), zsum_end (by omega)]
  | succ n ih =>
    intro i hn h
    rw [zsum_next (f := f) (show i < e by omega), zsum_next (f := g) (show i < e by omega), h i (Int.le_refl _) (by omega), ih (i + 1) (by omega) (fun j h1 h2 => h j (by omega) h2)]
theorem zsum_rng {f : Int → Int} {e b : Int} (hb : 0 ≤ b) : ∀ (n : Nat) (i : Int), (e - i).toNat = n → (∀ j, i ≤ j → j < e → 0 ≤ f j ∧ f j ≤ b) → 0 ≤ zsum f i e ∧ zsum f i e ≤ n * b := by
  intro n
  induction n with
  | zero => intro i hn _; rw [zsum_end (by omega)]; omega
  | succ n ih =>
    intro i hn h
    rw [zsum_next (by omega)]
    have h1 := h i (Int.le_refl _) (by omega)
    have h2 := ih (i + 1) (by omega) (fun j h1 h2 => h j (by omega) h2)
    rw [show ((n + 1 : Nat) : Int) * b = (n : Int) * b + b by rw [Int.natCast_add, Int.add_mul]; simp]
    omega
/-- how many of the numbers from i on, below e, have q -/
def zcnt (q : Int → Bool) (i e : Int) : Int := zsum (fun j => if q j = true then 1 else 0) i e
theorem zcnt_end {q : Int → Bool} {i e : Int} (h : e ≤ i) : zcnt q i e = 0 := zsum_end h
theorem zcnt_yes {q : Int → Bool} {i e : Int} (h : i < e) (hq : q i = true) : zcnt q i e = 1 + zcnt q (i + 1) e := by
  unfold zcnt
  rw [zsum_next h]
  show (if q i = true then (1 : Int) else 0) + _ = _
  rw [if_pos hq]
theorem zcnt_no {q : Int → Bool} {i e : Int} (h : i < e) (hq : q i = false) : zcnt q i e = zcnt q (i + 1) e := by
  unfold zcnt
  rw [zsum_next h]
  show (if q i = true then (1 : Int) else 0) + _ = _
  rw [if_neg (by rw [hq]; decide)]
  omega
theorem zcnt_congr {q r : Int → Bool} {i e : Int} (h : ∀ j, i ≤ j → j < e → q j = r j) : zcnt q i e = zcnt r i e :=
  zsum_congr _ i rfl (fun j h1 h2 => by show (if q j = true then (1 : Int) else 0) = _; rw [h j h1 h2])
theorem zcnt_rng {q : Int → Bool} {i e : Int} : 0 ≤ zcnt q i e ∧ (i ≤ e → zcnt q i e ≤ e - i) := by
  have h := zsum_rng (f := fun j => if q j = true then 1 else 0) (e := e) (b := 1) (by omega) _ i rfl (fun j _ _ => by show 0 ≤ (if q j = true then (1 : Int) else 0) ∧ (if q j = true then (1 : Int) else 0) ≤ 1; split <;> omega)
  refine ⟨h.1, fun hi => ?_⟩
  have h2 := h.2
  unfold zcnt
  omega
/-- a row with a stretch of another one in its place -/
def zcp (f g : Int → Int) (n : Int) : Int → Int := fun j => if j < n then g j else f j
/-- cells agree where their rows agree -/
theorem zarr_congr {cA : ClassId} {n : Nat} {f g : Nat → Value} (h : ∀ j : Nat, j < n → f j = g j) : arrV cA n f = arrV cA n g := by
  unfold arrV
  have e : (fun j : Fin n => f j.val) = (fun j : Fin n => g j.val) := funext fun j => h j.val j.isLt
  rw [e]
theorem va_P.one {D : va_G} {cl : List vw_C} {ws ws' : va_W} {H : Heap} {k0 : Nat} {q q' : Nat × va_E} (h : va_P D cl ws H) (he : ws[k0]? = some q) (hq : va_at D cl q H → va_at D cl q' H) (hset : ws.set k0 q' = ws') : va_P D cl ws' H := by
  subst hset
  intro k x hx
  by_cases e : k0 = k
  · subst e
    rw [List.getElem?_set_self (List.getElem?_eq_some_iff.mp he).1] at hx
    cases hx
    exact hq (h k0 q he)
  · rw [List.getElem?_set_ne e] at hx
    exact h k x hx
theorem zW.exi {G : zG} {A : Nat → Prop} {s : State} {H : Heap} {locs : List Loc} {ws ws' : va_W} (hW : zW G A s H locs ws) (k0 : Nat) {a n : Nat} {cA : ClassId} {f g : Int → Int} (he : ws[k0]? = some (a, .inl (cA, n, .inl (zA f)))) (h : ∀ j : Int, 0 ≤ j → j < (n : Int) → f j = g j) (hset : ws.set k0 (a, .inl (cA, n, .inl (zA g))) = ws') : zW G A s H locs ws' := by
  refine ⟨hW.1.one he (fun z => ?_) hset, by rw [← hset]; exact hW.2.1.set he, hW.2.2⟩
  show H[a]? = some (vp_cell cA (n, .inl (zA g)))
  rw [show H[a]? = some (vp_cell cA (n, .inl (zA f))) from z, vp_cell_i, vp_cell_i]
  congr 1
  exact zarr_congr (fun j hj => by show Value.int (zI (f j)) = .int (zI (g j)); rw [h j (by omega) (by omega)])
theorem zW.exj {G : zG} {A : Nat → Prop} {s : State} {H : Heap} {locs : List Loc} {ws ws' : va_W} (hW : zW G A s H locs ws) (k0 : Nat) {a n : Nat} {cA : ClassId} {f g : Int → Int} (he : ws[k0]? = some (a, .inl (cA, n, .inr (.inl (zB f))))) (h : ∀ j : Int, 0 ≤ j → j < (n : Int) → f j = g j) (hset : ws.set k0 (a, .inl (cA, n, .inr (.inl (zB g)))) = ws') : zW G A s H locs ws' := by
  refine ⟨hW.1.one he (fun z => ?_) hset, by rw [← hset]; exact hW.2.1.set he, hW.2.2⟩
  show H[a]? = some (vp_cell cA (n, .inr (.inl (zB g))))
  rw [show H[a]? = some (vp_cell cA (n, .inr (.inl (zB f)))) from z, vp_cell_l, vp_cell_l]
  congr 1
  exact zarr_congr (fun j hj => by show Value.long (zL (f j)) = .long (zL (g j)); rw [h j (by omega) (by omega)])
