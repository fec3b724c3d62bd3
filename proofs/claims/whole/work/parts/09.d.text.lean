/-! runs of a kind of byte -/
def zrunN (q : Int → Bool) : Nat → Int → Int
  | 0, i => i
  | n + 1, i => if q i = true then zrunN q n (i + 1) else i
/-- the end of the stretch of q that begins at i, at most n -/
def zrun (q : Int → Bool) (i n : Int) : Int := zrunN q (n - i).toNat i
theorem zrun_go {q : Int → Bool} {i n : Int} (h : i < n) (hq : q i = true) : zrun q i n = zrun q (i + 1) n := by
  unfold zrun
  rw [show (n - i).toNat = (n - (i + 1)).toNat + 1 by omega, zrunN, if_pos hq]
theorem zrun_no {q : Int → Bool} {i n : Int} (hq : q i = false) : zrun q i n = i := by
  unfold zrun
  cases (n - i).toNat with
  | zero => rfl
  | succ k => rw [zrunN, if_neg (by rw [hq]; decide)]
theorem zrun_end {q : Int → Bool} {i n : Int} (h : n ≤ i) : zrun q i n = i := by
  unfold zrun
  rw [show (n - i).toNat = 0 by omega]
  rfl
theorem zrun_in {q : Int → Bool} {n : Int} : ∀ (k : Nat) (i : Int), (n - i).toNat = k → i ≤ n → i ≤ zrun q i n ∧ zrun q i n ≤ n ∧ (∀ j, i ≤ j → j < zrun q i n → q j = true) ∧ (zrun q i n < n → q (zrun q i n) = false) := by
  intro k
  induction k with
  | zero => intro i hk hi; rw [zrun_end (by omega)]; exact ⟨Int.le_refl _, hi, fun j h1 h2 => by omega, fun h => by omega⟩
  | succ k ih =>
    intro i hk hi
    cases hq : q i with
    | false => rw [zrun_no hq]; exact ⟨Int.le_refl _, hi, fun j h1 h2 => by omega, fun _ => hq⟩
    | true =>
      rw [zrun_go (by omega) hq]
      obtain ⟨h1, h2, h3, h4⟩ := ih (i + 1) (by omega) (by omega)
      refine ⟨by omega, h2, fun j q1 q2 => ?_, h4⟩
      by_cases e : j = i
      · rw [e]; exact hq
      · exact h3 j (by omega) q2
theorem zrun_from {q : Int → Bool} {i n : Int} (hi : i ≤ n) : i ≤ zrun q i n ∧ zrun q i n ≤ n ∧ (∀ j, i ≤ j → j < zrun q i n → q j = true) ∧ (zrun q i n < n → q (zrun q i n) = false) := zrun_in _ i rfl hi
theorem zrun_idem {q : Int → Bool} {i n : Int} (hi : i ≤ n) : zrun q (zrun q i n) n = zrun q i n := by
  obtain ⟨h1, h2, h3, h4⟩ := zrun_from (q := q) hi
  by_cases h : zrun q i n < n
  · exact zrun_no (h4 h)
  · exact zrun_end (by omega)
/-! the text: its bytes, 0 outside -/
def zTt (tx : Int → Int) (n : Int) : Int → Int := fun j => if 0 ≤ j ∧ j < n then tx j else 0
/-- a text of bytes above 0 -/
def qtext (tx : Int → Int) (n : Int) : Prop := (0 ≤ n ∧ n ≤ 600) ∧ ∀ j, 0 ≤ j → j < n → 1 ≤ tx j ∧ tx j ≤ 255
theorem zTt_in {tx : Int → Int} {n : Int} (h : qtext tx n) (j : Int) : 0 ≤ zTt tx n j ∧ zTt tx n j ≤ 255 ∧ (0 ≤ j → j < n → 1 ≤ zTt tx n j) := by
  unfold zTt
  split
  · have := h.2 j (by omega) (by omega); omega
  · omega
theorem zTt_at {tx : Int → Int} {n j : Int} (h0 : 0 ≤ j) (h1 : j < n) : zTt tx n j = tx j := if_pos ⟨h0, h1⟩
theorem zTt_out {tx : Int → Int} {n j : Int} (h : ¬ (0 ≤ j ∧ j < n)) : zTt tx n j = 0 := if_neg h
def qbs (T : Int → Int) : Int → Bool := fun j => decide (T j = 32)
def qbl (T : Int → Int) : Int → Bool := fun j => decide (97 ≤ T j ∧ T j ≤ 122)
def qbd (T : Int → Int) : Int → Bool := fun j => decide (48 ≤ T j ∧ T j ≤ 57)
/-- behind spaces, letters, digits -/
abbrev qsp (T : Int → Int) (n i : Int) : Int := zrun (qbs T) i n
abbrev qwe (T : Int → Int) (n i : Int) : Int := zrun (qbl T) i n
abbrev qde (T : Int → Int) (n i : Int) : Int := zrun (qbd T) i n
def qnumN (T : Int → Int) : Nat → Int → Int → Int
  | 0, _, v => v
  | k + 1, i, v => qnumN T k (i + 1) (min (10 * v + T i - 48) 10000000)
/-- the number whose digits stand from i on, below e, behind v -/
def qnum (T : Int → Int) (i e v : Int) : Int := qnumN T (e - i).toNat i v
theorem qnum_end {T : Int → Int} {i e v : Int} (h : e ≤ i) : qnum T i e v = v := by
  unfold qnum
  rw [show (e - i).toNat = 0 by omega]
  rfl
theorem qnum_next {T : Int → Int} {i e v : Int} (h : i < e) : qnum T i e v = qnum T (i + 1) e (min (10 * v + T i - 48) 10000000) := by
  unfold qnum
  rw [show (e - i).toNat = (e - (i + 1)).toNat + 1 by omega]
  rfl
/-! tokens of a text X of n bytes -/
theorem qsp_in {X : Int → Int} {n P : Int} (h : P ≤ n) : P ≤ qsp X n P ∧ qsp X n P ≤ n := ⟨(zrun_from h).1, (zrun_from h).2.1⟩
theorem qwe_in {X : Int → Int} {n P : Int} (h : P ≤ n) : P ≤ qwe X n P ∧ qwe X n P ≤ n := ⟨(zrun_from h).1, (zrun_from h).2.1⟩
theorem qde_in {X : Int → Int} {n P : Int} (h : P ≤ n) : P ≤ qde X n P ∧ qde X n P ≤ n := ⟨(zrun_from h).1, (zrun_from h).2.1⟩
theorem qsp_idem {X : Int → Int} {n P : Int} (h : P ≤ n) : qsp X n (qsp X n P) = qsp X n P := zrun_idem h
theorem qwe_let {X : Int → Int} {n P j : Int} (h : P ≤ n) (h0 : P ≤ j) (h1 : j < qwe X n P) : 97 ≤ X j ∧ X j ≤ 122 := of_decide_eq_true ((zrun_from h).2.2.1 j h0 h1)
theorem qwe_no {X : Int → Int} {n P : Int} (h : ¬ (97 ≤ X P ∧ X P ≤ 122)) : qwe X n P = P := zrun_no (decide_eq_false h)
theorem qde_dig {X : Int → Int} {n P j : Int} (h : P ≤ n) (h0 : P ≤ j) (h1 : j < qde X n P) : 48 ≤ X j ∧ X j ≤ 57 := of_decide_eq_true ((zrun_from h).2.2.1 j h0 h1)
theorem qde_no {X : Int → Int} {n P : Int} (h : ¬ (48 ≤ X P ∧ X P ≤ 57)) : qde X n P = P := zrun_no (decide_eq_false h)
theorem qsp_stop {X : Int → Int} {n P : Int} (h : P ≤ n) (h1 : qsp X n P < n) : X (qsp X n P) ≠ 32 := of_decide_eq_false ((zrun_from h).2.2.2 h1)
theorem qnumN_in {X : Int → Int} : ∀ (k : Nat) (i v : Int), (∀ j, i ≤ j → j < i + k → 48 ≤ X j ∧ X j ≤ 57) → 0 ≤ v ∧ v ≤ 10000000 → 0 ≤ qnumN X k i v ∧ qnumN X k i v ≤ 10000000
  | 0, _, _, _, h => h
  | k + 1, i, v, hX, h => by
    have h1 := hX i (by omega) (by omega)
    exact qnumN_in k (i + 1) _ (fun j a b => hX j (by omega) (by omega)) (by omega)
theorem qnum_in {X : Int → Int} {n P : Int} (h : P ≤ n) : 0 ≤ qnum X P (qde X n P) 0 ∧ qnum X P (qde X n P) 0 ≤ 10000000 :=
  qnumN_in _ _ _ (fun j a b => qde_dig h a (by have := (qde_in (X := X) h).1; omega)) (by omega)
/-- whether the word k stands at s, as a whole word -/
def qis (X : Int → Int) (n s : Int) (k : Nat) : Bool := decide (qwe X n s - s = wln k) && decide (zfind (fun j => decide (X (s + j) ≠ wch k j)) 0 (wln k) = -1)
theorem qis_len {X : Int → Int} {n s : Int} {k : Nat} (h : qis X n s k = true) : qwe X n s = s + wln k := by
  unfold qis at h
  rw [Bool.and_eq_true] at h
  have := of_decide_eq_true h.1
  omega
theorem qis_no {X : Int → Int} {n s : Int} {k : Nat} (h : qwe X n s - s ≠ wln k) : qis X n s k = false := by
  unfold qis
  rw [decide_eq_false h]
  rfl
/-- what a reading step gives: what was read, or an error's code and place -/
abbrev qE (α : Type) : Type := Except (Int × Int) α
def qb {α β : Type} (r : qE α) (f : α → qE β) : qE β := match r with
  | .ok x => f x
  | .error c => .error c
theorem qb_ok {α β : Type} {x : α} {f : α → qE β} : qb (.ok x) f = f x := rfl
theorem qb_er {α β : Type} {c : Int × Int} {f : α → qE β} : qb (.error c) f = .error c := rfl
theorem qb_as {α β γ : Type} {r : qE α} {f : α → qE β} {g : β → qE γ} : qb (qb r f) g = qb r (fun x => qb (f x) g) := by cases r <;> rfl
/-- the same of a step that answers whether it went well, and leaves the code and the place -/
def qR {α : Type} (r : qE α) (b : Bool) (er ea er2 ea2 : Int) (ok : α → Prop) : Prop := match r with
  | .ok x => b = true ∧ er2 = er ∧ ea2 = ea ∧ ok x
  | .error c => b = false ∧ er2 = c.1 ∧ ea2 = c.2 ∧ c.1 < 0
section QR
variable {α : Type} {r : qE α} {er ea er2 ea2 : Int} {ok : α → Prop}
theorem qR_t (h : qR r true er ea er2 ea2 ok) : ∃ x, r = .ok x ∧ er2 = er ∧ ea2 = ea ∧ ok x := by
  cases r with
  | ok x => exact ⟨x, rfl, h.2⟩
  | error c => exact absurd h.1 (by decide)
theorem qR_f (h : qR r false er ea er2 ea2 ok) : ∃ c, r = .error c ∧ er2 = c.1 ∧ ea2 = c.2 ∧ c.1 < 0 := by
  cases r with
  | ok x => exact absurd h.1 (by decide)
  | error c => exact ⟨c, rfl, h.2⟩
theorem qR_ok {x : α} (h : r = .ok x) (h2 : er2 = er ∧ ea2 = ea ∧ ok x) : qR r true er ea er2 ea2 ok := by subst h; exact ⟨rfl, h2⟩
theorem qR_er {c : Int × Int} (h : r = .error c) (h2 : er2 = c.1 ∧ ea2 = c.2 ∧ c.1 < 0) : qR r false er ea er2 ea2 ok := by subst h; exact ⟨rfl, h2⟩
end QR
def qWord (X : Int → Int) (n : Int) (k : Nat) (P : Int) : qE Int := if qis X n (qsp X n P) k = true then .ok (qsp X n P + wln k) else .error (-2, qsp X n P)
def qSign (X : Int → Int) (n c P : Int) : qE Int := if X (qsp X n P) = c then .ok (qsp X n P + 1) else .error (-2, qsp X n P)
def qNum (X : Int → Int) (n lo hi P : Int) : qE (Int × Int) :=
  if qde X n (qsp X n P) = qsp X n P then .error (-2, qsp X n P)
  else if lo ≤ qnum X (qsp X n P) (qde X n (qsp X n P)) 0 ∧ qnum X (qsp X n P) (qde X n (qsp X n P)) 0 ≤ hi then .ok (qde X n (qsp X n P), qnum X (qsp X n P) (qde X n (qsp X n P)) 0)
  else .error (-3, qsp X n P)
/-- a name: behind it, its first place -/
def qName (X : Int → Int) (n P : Int) : qE (Int × Int) :=
  if qwe X n (qsp X n P) = qsp X n P ∨ 8 < qwe X n (qsp X n P) - qsp X n P then .error (-2, qsp X n P) else .ok (qwe X n (qsp X n P), qsp X n P)
def qpkN (X : Int → Int) : Nat → Int → Int → Int
  | 0, _, v => v
  | k + 1, i, v => qpkN X k (i + 1) (v * 256 + X i)
/-- the letters from s to e in one number -/
def qpk (X : Int → Int) (s e : Int) : Int := qpkN X (e - s).toNat s 0
theorem qpkN_next {X : Int → Int} {i e v : Int} (h : i < e) : qpkN X (e - i).toNat i v = qpkN X (e - (i + 1)).toNat (i + 1) (v * 256 + X i) := by
  rw [show (e - i).toNat = (e - (i + 1)).toNat + 1 by omega]
  rfl
theorem qpkN_end {X : Int → Int} {i e v : Int} (h : e ≤ i) : qpkN X (e - i).toNat i v = v := by
  rw [show (e - i).toNat = 0 by omega]
  rfl
/-- a kind: behind it, the kind -/
def qKindN (X : Int → Int) (n : Int) : Nat → Nat → Int → qE (Int × Int)
  | 0, _, P => .error (-2, qsp X n P)
  | j + 1, k, P => if qis X n (qsp X n P) k = true then .ok (qsp X n P + wln k, (k : Int)) else qKindN X n j (k + 1) (qsp X n P)
def qKind (X : Int → Int) (n P : Int) : qE (Int × Int) := qKindN X n 4 0 P
/-- what a sky tells: radius, direction, drift, moons, sights, names, moons' numbers, sights' numbers -/
abbrev qS : Type := Int × Int × Int × Int × Int × (Int → Int) × (Int → Int) × (Int → Int)
def qPlanet (X : Int → Int) (n : Int) (S : qS) (P : Int) : qE (Int × qS) :=
  qb (qWord X n 4 P) fun P1 => qb (qNum X n 1 999 P1) fun y => qb (qSign X n 59 y.1) fun P3 => .ok (P3, (y.2, S.2))
def qMinus (X : Int → Int) (n P : Int) : Int := if X (qsp X n P) = 45 then qsp X n P + 1 else qsp X n P
def qLight (X : Int → Int) (n : Int) (S : qS) (P : Int) : qE (Int × qS) :=
  if qis X n (qsp X n P) 5 = true then
    qb (qNum X n 0 359 (qsp X n P + wln 5)) fun y => qb (qNum X n 0 999 (qMinus X n y.1)) fun z => qb (qSign X n 59 z.1) fun P5 => .ok (P5, (S.1, y.2, (if X (qsp X n y.1) = 45 then -z.2 else z.2), S.2.2.2))
  else .ok (qsp X n P, S)
/-- j numbers from the w-th on, of the moon whose numbers begin at b -/
def qNumsN (X : Int → Int) (n b : Int) : Nat → Int → Int → (Int → Int) → qE (Int × (Int → Int))
  | 0, _, P, f => .ok (P, f)
  | j + 1, w, P, f => qb (qNum X n (zLow w) (zHigh w) P) fun y => qNumsN X n b j (w + 1) y.1 (zU f (b + w) y.2)
def qWide (X : Int → Int) (n b P : Int) (f : Int → Int) : qE (Int × (Int → Int)) :=
  if qis X n (qsp X n P) 7 = true then qb (qNum X n 0 99 (qsp X n P + wln 7)) fun y => .ok (y.1, zU f (b + 5) y.2) else .ok (qsp X n P, f)
def qMoonNums (X : Int → Int) (n b P : Int) (f : Int → Int) : qE (Int × (Int → Int)) :=
  qb (qNumsN X n b 5 0 P f) fun y => qWide X n b y.1 (zU y.2 (b + 5) 1)
def qMoon (X : Int → Int) (n : Int) (S : qS) (P : Int) : qE (Int × qS) :=
  if 6 ≤ S.2.2.2.1 then .error (-7, qsp X n P) else
  qb (qWord X n 6 P) fun P1 => qb (qName X n P1) fun y =>
  if znamed S.2.2.2.2.2.1 S.2.2.2.1 (qpk X y.2 y.1) ≠ -1 then .error (-5, y.2) else
  qb (qMoonNums X n (S.2.2.2.1 * 6) y.1 S.2.2.2.2.2.2.1) fun z => qb (qSign X n 59 z.1) fun P5 =>
  if zfit S.1 (zg z.2 S.2.2.2.1) = true then .ok (P5, (S.1, S.2.1, S.2.2.1, S.2.2.2.1 + 1, S.2.2.2.2.1, zU S.2.2.2.2.2.1 S.2.2.2.1 (qpk X y.2 y.1), z.2, S.2.2.2.2.2.2.2)) else .error (-6, qsp X n z.1)
def qMoonsN (X : Int → Int) (n : Int) : Nat → qS → Int → qE (Int × qS)
  | 0, S, P => .ok (P, S)
  | j + 1, S, P => if qis X n (qsp X n P) 6 = true then qb (qMoon X n S P) fun y => qMoonsN X n j y.2 y.1 else .ok (qsp X n P, S)
def qSight (X : Int → Int) (n : Int) (S : qS) (P : Int) : qE (Int × qS) :=
  if qis X n (qsp X n P) 8 = true ∧ 30 ≤ S.2.2.2.2.1 then .error (-7, qsp X n P) else
  qb (qWord X n 8 P) fun P1 => qb (qName X n P1) fun y =>
  if znamed S.2.2.2.2.2.1 S.2.2.2.1 (qpk X y.2 y.1) = -1 then .error (-4, y.2) else
  qb (qKind X n y.1) fun k => qb (qNum X n 1 1000000 k.1) fun t =>
  if zhasS S.2.2.2.2.2.2.2 S.2.2.2.2.1 (znamed S.2.2.2.2.2.1 S.2.2.2.1 (qpk X y.2 y.1)) k.2 t.2 = true then .error (-5, qsp X n k.1) else
  qb (qSign X n 59 t.1) fun P5 => .ok (P5, (S.1, S.2.1, S.2.2.1, S.2.2.2.1, S.2.2.2.2.1 + 1, S.2.2.2.2.2.1, S.2.2.2.2.2.2.1, zput3 S.2.2.2.2.2.2.2 S.2.2.2.2.1 (znamed S.2.2.2.2.2.1 S.2.2.2.1 (qpk X y.2 y.1)) k.2 t.2))
def qSightsN (X : Int → Int) (n : Int) : Nat → qS → Int → qE (Int × qS)
  | 0, S, P => .ok (P, S)
  | j + 1, S, P => if n ≤ qsp X n P then .ok (qsp X n P, S) else qb (qSight X n S P) fun y => qSightsN X n j y.2 y.1
def qSky (X : Int → Int) (n : Int) (S : qS) : qE (Int × qS) :=
  qb (qPlanet X n S 0) fun y => qb (qLight X n y.2 y.1) fun z => qb (qMoonsN X n 7 z.2 z.1) fun w => qSightsN X n 31 w.2 w.1
/-- where a step ends -/
theorem qWord_in {X : Int → Int} {n P P1 : Int} {k : Nat} (h : P ≤ n) (e : qWord X n k P = .ok P1) : qis X n (qsp X n P) k = true ∧ P1 = qsp X n P + wln k ∧ P1 ≤ n ∧ qsp X n P ≤ P1 := by
  unfold qWord at e
  split at e
  · rename_i hq
    cases e
    have h1 := qsp_in (X := X) h
    have h2 := qwe_in (X := X) (n := n) h1.2
    rw [qis_len hq] at h2
    exact ⟨hq, rfl, by omega, by omega⟩
  · cases e
theorem qNum_in {X : Int → Int} {n lo hi P : Int} {y : Int × Int} (h : P ≤ n) (e : qNum X n lo hi P = .ok y) : (lo ≤ y.2 ∧ y.2 ≤ hi) ∧ qsp X n P < y.1 ∧ y.1 ≤ n ∧ y.1 = qde X n (qsp X n P) ∧ y.2 = qnum X (qsp X n P) (qde X n (qsp X n P)) 0 := by
  unfold qNum at e
  split at e
  · cases e
  · split at e
    · cases e
      rename_i h1 h2
      have h3 := qsp_in (X := X) h
      have h4 := qde_in (X := X) (n := n) h3.2
      exact ⟨h2, by show _ < qde X n _; omega, h4.2, rfl, rfl⟩
    · cases e
theorem qName_in {X : Int → Int} {n P : Int} {y : Int × Int} (h : P ≤ n) (e : qName X n P = .ok y) : y.2 = qsp X n P ∧ y.1 = qwe X n y.2 ∧ y.2 < y.1 ∧ y.1 - y.2 ≤ 8 ∧ y.1 ≤ n := by
  unfold qName at e
  split at e
  · cases e
  · rename_i h1
    cases e
    have h3 := qsp_in (X := X) h
    have h4 := qwe_in (X := X) (n := n) h3.2
    exact ⟨rfl, rfl, by show _ < qwe X n _; omega, by show qwe X n _ - _ ≤ 8; omega, h4.2⟩
theorem qSign_in {X : Int → Int} {n c P P1 : Int} (h : P ≤ n) (hX : ∀ j, n ≤ j → X j = 0) (hc : c ≠ 0) (e : qSign X n c P = .ok P1) : X (qsp X n P) = c ∧ P1 = qsp X n P + 1 ∧ P1 ≤ n := by
  unfold qSign at e
  split at e
  · rename_i h1
    cases e
    have h3 := qsp_in (X := X) h
    refine ⟨h1, rfl, ?_⟩
    rcases Int.lt_or_le (qsp X n P) n with q | q
    · omega
    · rw [hX _ q] at h1; omega
  · cases e
theorem qKindN_in {X : Int → Int} {n : Int} : ∀ (j k : Nat) (P : Int) (y : Int × Int), P ≤ n → k + j ≤ 13 → qKindN X n j k P = .ok y → ((k : Int) ≤ y.2 ∧ y.2 < k + j) ∧ y.1 ≤ n ∧ qsp X n P ≤ y.1
  | 0, k, P, y, _, _, e => by cases e
  | j + 1, k, P, y, h, hk, e => by
    have h1 := qsp_in (X := X) h
    unfold qKindN at e
    split at e
    · rename_i hq
      cases e
      have h2 := qwe_in (X := X) (n := n) h1.2
      rw [qis_len hq] at h2
      have h3 := wln_in k (by omega)
      exact ⟨⟨by show (k : Int) ≤ k; omega, by show (k : Int) < k + (j + 1 : Nat); omega⟩, h2.2, by show _ ≤ qsp X n P + wln k; omega⟩
    · have h4 := qKindN_in j (k + 1) (qsp X n P) y h1.2 (by omega) e
      rw [qsp_idem h] at h4
      omega
theorem qKind_in {X : Int → Int} {n P : Int} {y : Int × Int} (h : P ≤ n) (e : qKind X n P = .ok y) : (0 ≤ y.2 ∧ y.2 ≤ 3) ∧ y.1 ≤ n ∧ qsp X n P ≤ y.1 := by
  have h1 := qKindN_in 4 0 P y h (by omega) e
  omega
theorem qMinus_in {X : Int → Int} {n P : Int} (h : P ≤ n) (hX : ∀ j, n ≤ j → X j = 0) : P ≤ qMinus X n P ∧ qMinus X n P ≤ n := by
  have h3 := qsp_in (X := X) h
  unfold qMinus
  split
  · rename_i h1
    rcases Int.lt_or_le (qsp X n P) n with q | q
    · omega
    · rw [hX _ q] at h1; omega
  · exact h3
theorem zTt_end {tx : Int → Int} {n : Int} : ∀ j, n ≤ j → zTt tx n j = 0 := fun j h => zTt_out (by omega)
/-! letters laid into a long number -/
theorem wb_tb (n : Nat) : (lN n).toBitVec = BitVec.ofNat 64 n := rfl
theorem wb_inj {a b : Int64} (h : a.toBitVec = b.toBitVec) : a = b := Int64.toBitVec_inj.mp h
theorem wb_c : ∀ k, k < 64 → ((nI k).toInt64 &&& 63) = lN k := by decide +kernel
theorem wb_sm : ∀ k, k < 64 → (BitVec.ofNat 64 k).smod 64 = BitVec.ofNat 64 k := by decide +kernel
theorem wb_shl (n : Nat) {k : Nat} (hk : k < 64) : lN n <<< ((nI k).toInt64 &&& 63) = lN (n * 2 ^ k) := by
  rw [wb_c k hk]
  apply wb_inj
  rw [Int64.toBitVec_shiftLeft, wb_tb, wb_tb, wb_tb, wb_sm k hk]
  apply BitVec.eq_of_toNat_eq
  rw [BitVec.shiftLeft_eq', BitVec.toNat_shiftLeft, BitVec.toNat_ofNat, BitVec.toNat_ofNat, BitVec.toNat_ofNat, Nat.mod_eq_of_lt (show k < 2 ^ 64 by omega), Nat.shiftLeft_eq, Nat.mul_mod, Nat.mod_mod, ← Nat.mul_mod]
theorem wb_or {a b : Nat} (ha : a < 2 ^ 64) (hb : b < 2 ^ 64) : lN a ||| lN b = lN (a ||| b) := by
  apply wb_inj
  rw [Int64.toBitVec_or, wb_tb, wb_tb, wb_tb]
  apply BitVec.eq_of_toNat_eq
  rw [BitVec.toNat_or, BitVec.toNat_ofNat, BitVec.toNat_ofNat, BitVec.toNat_ofNat, Nat.mod_eq_of_lt ha, Nat.mod_eq_of_lt hb, Nat.mod_eq_of_lt (Nat.or_lt_two_pow ha hb)]
theorem zL_lN (n : Nat) : zL (n : Int) = lN n := Int64.ofInt_eq_ofNat
theorem zlN_to {a : Nat} (h : a < 9223372036854775808) : (lN a).toInt = (a : Int) := by
  rw [← zL_lN]
  exact zL_to ⟨by omega, by omega⟩
theorem zlshl_8 {v : Int} (h0 : 0 ≤ v) (h1 : v < 36028797018963968) : zlshl v 8 = v * 256 := by
  obtain ⟨k, rfl⟩ := Int.eq_ofNat_of_zero_le h0
  have h2 : zlshl (k : Int) 8 = (lN k <<< ((nI 8).toInt64 &&& 63)).toInt := by
    unfold zlshl
    rw [zL_lN]
    rfl
  rw [h2, wb_shl k (by decide), zlN_to (by omega)]
  omega
theorem zlor_b {v b : Int} (h0 : 0 ≤ v) (h1 : v < 36028797018963968) (h2 : 0 ≤ b) (h3 : b < 256) : zlor (v * 256) b = v * 256 + b := by
  obtain ⟨k, rfl⟩ := Int.eq_ofNat_of_zero_le h0
  obtain ⟨j, rfl⟩ := Int.eq_ofNat_of_zero_le h2
  have h4 : ((k : Int) * 256) = ((k * 256 : Nat) : Int) := by omega
  have h5 : k * 2 ^ 8 ||| j = k * 2 ^ 8 + j := by rw [← Nat.shiftLeft_eq, Nat.shiftLeft_add_eq_or_of_lt (by omega)]
  have h6 : k * 256 ||| j = k * 256 + j := h5
  unfold zlor
  rw [h4, zL_lN, zL_lN, wb_or (by omega) (by omega), h6, zlN_to (by omega)]
  omega
theorem zpack {v b : Int} (h0 : 0 ≤ v) (h1 : v < 36028797018963968) (h2 : 0 ≤ b) (h3 : b < 256) : zlor (zlshl v 8) b = v * 256 + b := by
  rw [zlshl_8 h0 h1, zlor_b h0 h1 h2 h3]
/-- where the position stands behind a word that may have come -/
theorem qis_hit {X : Int → Int} {n s : Int} {k : Nat} (h1 : qwe X n s - s = wln k) (h2 : zfind (fun j => decide (X (s + j) ≠ wch k j)) 0 (wln k) = -1) : qis X n s k = true := by
  unfold qis
  rw [decide_eq_true h1, decide_eq_true h2]
  rfl
theorem qis_miss {X : Int → Int} {n s : Int} {k : Nat} (h2 : zfind (fun j => decide (X (s + j) ≠ wch k j)) 0 (wln k) ≠ -1) : qis X n s k = false := by
  unfold qis
  rw [decide_eq_false h2, Bool.and_false]
/-- how great a name's number is behind j letters -/
def qpb (j v : Int) : Prop := (j = 0 ∧ v = 0) ∨ (j = 1 ∧ 0 ≤ v ∧ v < 128) ∨ (j = 2 ∧ 0 ≤ v ∧ v < 32768) ∨ (j = 3 ∧ 0 ≤ v ∧ v < 8388608) ∨ (j = 4 ∧ 0 ≤ v ∧ v < 2147483648) ∨ (j = 5 ∧ 0 ≤ v ∧ v < 549755813888) ∨ (j = 6 ∧ 0 ≤ v ∧ v < 140737488355328) ∨ (j = 7 ∧ 0 ≤ v ∧ v < 36028797018963968) ∨ (j = 8 ∧ 0 ≤ v ∧ v < 9223372036854775808)
theorem qpb_next {j v x : Int} (h : qpb j v) (hj : j < 8) (hx : 0 ≤ x ∧ x ≤ 122) : (0 ≤ v ∧ v < 36028797018963968) ∧ qpb (j + 1) (v * 256 + x) := by
  unfold qpb at h ⊢
  omega
theorem qpb_all {j v : Int} (h : qpb j v) : 0 ≤ v ∧ v < 9223372036854775808 := by
  unfold qpb at h
  omega
theorem qpk_in {X : Int → Int} {n : Int} : ∀ (k : Nat) (i v j : Int), (∀ z, i ≤ z → z < i + k → 97 ≤ X z ∧ X z ≤ 122) → qpb j v → j + k ≤ 8 → 0 ≤ qpkN X k i v ∧ qpkN X k i v < 9223372036854775808
  | 0, _, _, _, _, h, _ => qpb_all h
  | k + 1, i, v, j, hX, h, hj => by
    have h1 := hX i (by omega) (by omega)
    exact qpk_in (n := n) k (i + 1) _ (j + 1) (fun z a b => hX z (by omega) (by omega)) (qpb_next h (by omega) (by omega)).2 (by omega)
theorem qpk_name {X : Int → Int} {n P : Int} {y : Int × Int} (h : P ≤ n) (e : qName X n P = .ok y) : 0 ≤ qpk X y.2 y.1 ∧ qpk X y.2 y.1 < 9223372036854775808 := by
  obtain ⟨h1, h2, h3, h4, h5⟩ := qName_in h e
  have h6 := qsp_in (X := X) h
  exact qpk_in (n := n) _ _ _ 0 (fun z a b => qwe_let (n := n) (P := y.2) (by omega) a (by rw [← h2]; omega)) (.inl ⟨rfl, rfl⟩) (by omega)
