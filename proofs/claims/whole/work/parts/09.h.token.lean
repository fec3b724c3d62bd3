/-! the reference's tokens -/
def qse (f : Int → Int) (n k : Int) : Int := if k < n then f k else -1
theorem qse_sp {f : Int → Int} {n k : Int} (h : qtext f n) (h0 : 0 ≤ k) : (k < n ∧ qse f n k = zTt f n k ∧ 1 ≤ zTt f n k ∧ zTt f n k ≤ 255) ∨ (n ≤ k ∧ qse f n k = -1 ∧ zTt f n k = 0) := by
  unfold qse
  rcases Int.lt_or_le k n with q | q
  · rw [if_pos q, zTt_at h0 q]
    have := h.2 k h0 q
    exact .inl ⟨q, rfl, by omega, by omega⟩
  · rw [if_neg (by omega), zTt_out (by omega)]
    exact .inr ⟨q, rfl, rfl⟩
def qki (X : Int → Int) (n s : Int) : Int := if n ≤ s then 3 else if 97 ≤ X s ∧ X s ≤ 122 then 0 else if 48 ≤ X s ∧ X s ≤ 57 then 1 else 2
def qbe (X : Int → Int) (n s : Int) : Int := if n ≤ s then s else if 97 ≤ X s ∧ X s ≤ 122 then qwe X n s else if 48 ≤ X s ∧ X s ≤ 57 then qde X n s else s + 1
def qnu (X : Int → Int) (n s : Int) : Int := if n ≤ s then 0 else if 97 ≤ X s ∧ X s ≤ 122 then 0 else if 48 ≤ X s ∧ X s ≤ 57 then qnum X s (qde X n s) 0 else 0
theorem qbe_in {X : Int → Int} {n s : Int} (h : s ≤ n) : s ≤ qbe X n s ∧ qbe X n s ≤ n := by
  unfold qbe
  split
  · omega
  · split
    · exact qwe_in h
    · split
      · exact qde_in h
      · omega
theorem qnu_in {X : Int → Int} {n s : Int} (h : s ≤ n) : 0 ≤ qnu X n s ∧ qnu X n s ≤ 10000000 := by
  unfold qnu
  split
  · omega
  · split
    · omega
    · split
      · exact qnum_in h
      · omega
theorem qtk_fin {X : Int → Int} {n s : Int} (h : n ≤ s) : qki X n s = 3 ∧ qbe X n s = s ∧ qnu X n s = 0 := ⟨if_pos h, if_pos h, if_pos h⟩
theorem qtk_let {X : Int → Int} {n s : Int} (h : s < n) (hl : 97 ≤ X s ∧ X s ≤ 122) : qki X n s = 0 ∧ qbe X n s = qwe X n s ∧ qnu X n s = 0 := by
  unfold qki qbe qnu
  have h0 : ¬ n ≤ s := by omega
  rw [if_neg h0, if_neg h0, if_neg h0, if_pos hl, if_pos hl, if_pos hl]
  exact ⟨rfl, rfl, rfl⟩
theorem qtk_dig {X : Int → Int} {n s : Int} (h : s < n) (hl : ¬ (97 ≤ X s ∧ X s ≤ 122)) (hd : 48 ≤ X s ∧ X s ≤ 57) : qki X n s = 1 ∧ qbe X n s = qde X n s ∧ qnu X n s = qnum X s (qde X n s) 0 := by
  unfold qki qbe qnu
  have h0 : ¬ n ≤ s := by omega
  rw [if_neg h0, if_neg h0, if_neg h0, if_neg hl, if_neg hl, if_neg hl, if_pos hd, if_pos hd, if_pos hd]
  exact ⟨rfl, rfl, rfl⟩
theorem qtk_sig {X : Int → Int} {n s : Int} (h : s < n) (hl : ¬ (97 ≤ X s ∧ X s ≤ 122)) (hd : ¬ (48 ≤ X s ∧ X s ≤ 57)) : qki X n s = 2 ∧ qbe X n s = s + 1 ∧ qnu X n s = 0 := by
  unfold qki qbe qnu
  have h0 : ¬ n ≤ s := by omega
  rw [if_neg h0, if_neg h0, if_neg h0, if_neg hl, if_neg hl, if_neg hl, if_neg hd, if_neg hd, if_neg hd]
  exact ⟨rfl, rfl, rfl⟩
/-- the token that begins at P, as the reference has it -/
def qtok (X : Int → Int) (n P pa pb ki nu : Int) : Prop := pa = qsp X n P ∧ pb = qbe X n (qsp X n P) ∧ ki = qki X n (qsp X n P) ∧ nu = qnu X n (qsp X n P)
/-- where the reference stands: before a token, or at an error -/
def qst (X : Int → Int) (n : Int) (R : qE Int) (wr wa pa pb ki nu : Int) : Prop := match R with
  | .ok P => (0 ≤ P ∧ P ≤ n) ∧ wr = 0 ∧ qtok X n P pa pb ki nu
  | .error c => wr = c.1 ∧ (-100 ≤ c.1 ∧ c.1 < 0) ∧ wa = c.2 ∧ (0 ≤ nu ∧ nu ≤ 10000000)
section QST
variable {X : Int → Int} {n wr wa pa pb ki nu : Int} {R : qE Int}
theorem qst_ok (h : qst X n R wr wa pa pb ki nu) (hw : wr = 0) : ∃ P, R = .ok P ∧ (0 ≤ P ∧ P ≤ n) ∧ qtok X n P pa pb ki nu := by
  cases R with
  | ok P => exact ⟨P, rfl, h.1, h.2.2⟩
  | error c => have := h.1; have := h.2.1; omega
theorem qst_er (h : qst X n R wr wa pa pb ki nu) (hw : wr ≠ 0) : ∃ c, R = .error c ∧ wr = c.1 ∧ (-100 ≤ c.1 ∧ c.1 < 0) ∧ wa = c.2 ∧ (0 ≤ nu ∧ nu ≤ 10000000) := by
  cases R with
  | ok P => exact absurd h.2.1 hw
  | error c => exact ⟨c, rfl, h⟩
theorem qst_nu (h : qst X n R wr wa pa pb ki nu) : 0 ≤ nu ∧ nu ≤ 10000000 := by
  cases R with
  | ok P => obtain ⟨h1, -, -, -, -, h2⟩ := h; rw [h2]; exact qnu_in (qsp_in h1.2).2
  | error c => exact h.2.2.2
theorem qst_wr (h : qst X n R wr wa pa pb ki nu) : -100 ≤ wr ∧ wr ≤ 0 := by
  cases R with
  | ok P => have := h.2.1; omega
  | error c => have := h.1; have := h.2.1; omega
end QST
/-- steps of the reference -/
def qMust (X : Int → Int) (n : Int) (b : Bool) (P : Int) : qE Int := if b = true then .ok (qbe X n (qsp X n P)) else .error (-2, qsp X n P)
def qFail (X : Int → Int) (n cd P : Int) : qE Int := .error (cd, qsp X n P)
def qNm (X : Int → Int) (n P : Int) : qE Int := if qwe X n (qsp X n P) = qsp X n P ∨ 8 < qwe X n (qsp X n P) - qsp X n P then .error (-2, qsp X n P) else .ok P
def qwd (X : Int → Int) (n : Int) (R : qE Int) (k : Nat) : Bool := match R with
  | .ok P => qis X n (qsp X n P) k
  | .error _ => false
def qsg (X : Int → Int) (n : Int) (R : qE Int) (c : Int) : Bool := match R with
  | .ok P => decide (X (qsp X n P) = c)
  | .error _ => false
def qvl {α : Type} (r : qE (α × Int)) : Int := match r with
  | .ok y => y.2
  | .error _ => 0
/-- the first step's place alone -/
def qps {α : Type} (r : qE (Int × α)) : qE Int := qb r fun y => .ok y.1
theorem qis_pos {X : Int → Int} {n s : Int} {k : Nat} (hk : k < 13) (hs : s ≤ n) (hX : ∀ j, n ≤ j → X j = 0) (h : qis X n s k = true) : s < n ∧ (97 ≤ X s ∧ X s ≤ 122) ∧ qbe X n s = s + wln k := by
  have h1 := qis_len h
  have h2 := wln_in k hk
  have h3 := qwe_in (X := X) hs
  have h4 := qwe_let (X := X) (n := n) (j := s) hs (Int.le_refl _) (by omega)
  have h5 : s < n := by omega
  exact ⟨h5, h4, by rw [(qtk_let h5 h4).2.1, h1]⟩
theorem qMust_word {X : Int → Int} {n P : Int} {k : Nat} (hk : k < 13) (h : P ≤ n) (hX : ∀ j, n ≤ j → X j = 0) : qMust X n (qis X n (qsp X n P) k) P = qWord X n k P := by
  unfold qMust qWord
  split
  · rename_i hq
    rw [(qis_pos hk (qsp_in h).2 hX hq).2.2]
  · rfl
theorem qMust_sign {X : Int → Int} {n c P : Int} (hc : c = 59 ∨ c = 45) (h : P ≤ n) (hX : ∀ j, n ≤ j → X j = 0) : qMust X n (decide (X (qsp X n P) = c)) P = qSign X n c P := by
  unfold qMust qSign
  by_cases q : X (qsp X n P) = c
  · have h1 : qsp X n P < n := by
      rcases Int.lt_or_le (qsp X n P) n with q2 | q2
      · exact q2
      · rw [hX _ q2] at q; omega
    rw [if_pos (decide_eq_true q), if_pos q, (qtk_sig h1 (by omega) (by omega)).2.1]
  · rw [if_neg (by rw [decide_eq_false q]; decide), if_neg q]
theorem qNum_tok {X : Int → Int} {n lo hi P : Int} (h : P ≤ n) (hX : ∀ j, n ≤ j → X j = 0) : (qki X n (qsp X n P) ≠ 1 → qNum X n lo hi P = .error (-2, qsp X n P)) ∧ (qki X n (qsp X n P) = 1 → qNum X n lo hi P = if lo ≤ qnu X n (qsp X n P) ∧ qnu X n (qsp X n P) ≤ hi then .ok (qbe X n (qsp X n P), qnu X n (qsp X n P)) else .error (-3, qsp X n P)) := by
  have h1 := qsp_in (X := X) h
  unfold qNum
  rcases Int.lt_or_le (qsp X n P) n with q | q
  · by_cases hl : 97 ≤ X (qsp X n P) ∧ X (qsp X n P) ≤ 122
    · have e := qtk_let q hl
      refine ⟨fun _ => if_pos (qde_no (by omega)), fun z => by omega⟩
    · by_cases hd : 48 ≤ X (qsp X n P) ∧ X (qsp X n P) ≤ 57
      · obtain ⟨e1, e2, e3⟩ := qtk_dig q hl hd
        refine ⟨fun z => absurd e1 z, fun _ => ?_⟩
        have h2 : qde X n (qsp X n P) = qde X n (qsp X n P + 1) := zrun_go q (decide_eq_true hd)
        have h3 := qde_in (X := X) (n := n) (P := qsp X n P + 1) (by omega)
        rw [e2, e3, if_neg (by omega)]
      · have e := qtk_sig q hl hd
        refine ⟨fun _ => if_pos (qde_no hd), fun z => by omega⟩
  · have e := qtk_fin (X := X) q
    refine ⟨fun _ => if_pos (zrun_end q), fun z => by omega⟩
theorem qNm_tok {X : Int → Int} {n P : Int} (h : P ≤ n) (hX : ∀ j, n ≤ j → X j = 0) : (qki X n (qsp X n P) = 0 ∧ qbe X n (qsp X n P) - qsp X n P ≤ 8 → qNm X n P = .ok P ∧ qName X n P = .ok (qbe X n (qsp X n P), qsp X n P)) ∧ (¬ (qki X n (qsp X n P) = 0 ∧ qbe X n (qsp X n P) - qsp X n P ≤ 8) → qNm X n P = .error (-2, qsp X n P) ∧ qName X n P = .error (-2, qsp X n P)) := by
  have h1 := qsp_in (X := X) h
  unfold qNm qName
  rcases Int.lt_or_le (qsp X n P) n with q | q
  · by_cases hl : 97 ≤ X (qsp X n P) ∧ X (qsp X n P) ≤ 122
    · obtain ⟨e1, e2, e3⟩ := qtk_let q hl
      have h2 : qwe X n (qsp X n P) = qwe X n (qsp X n P + 1) := zrun_go q (decide_eq_true hl)
      have h3 := qwe_in (X := X) (n := n) (P := qsp X n P + 1) (by omega)
      rw [e1, e2]
      refine ⟨fun z => ?_, fun z => ?_⟩
      · rw [if_neg (by omega), if_neg (by omega)]; exact ⟨rfl, rfl⟩
      · have h4 : 8 < qwe X n (qsp X n P) - qsp X n P := by
          rcases Int.lt_or_le 8 (qwe X n (qsp X n P) - qsp X n P) with q2 | q2
          · exact q2
          · exact absurd ⟨rfl, q2⟩ z
        rw [if_pos (.inr h4), if_pos (.inr h4)]; exact ⟨rfl, rfl⟩
    · have h2 : qwe X n (qsp X n P) = qsp X n P := qwe_no hl
      have h3 : qki X n (qsp X n P) ≠ 0 := by
        by_cases hd : 48 ≤ X (qsp X n P) ∧ X (qsp X n P) ≤ 57
        · have := qtk_dig q hl hd; omega
        · have := qtk_sig q hl hd; omega
      refine ⟨fun z => absurd z.1 h3, fun z => ?_⟩
      rw [if_pos (.inl h2), if_pos (.inl h2)]; exact ⟨rfl, rfl⟩
  · have h2 : qwe X n (qsp X n P) = qsp X n P := zrun_end q
    have e := qtk_fin (X := X) q
    refine ⟨fun z => by omega, fun z => ?_⟩
    rw [if_pos (.inl h2), if_pos (.inl h2)]; exact ⟨rfl, rfl⟩
/-- a word token is the word's -/
theorem qis_tok {X : Int → Int} {n s : Int} {k : Nat} (hk : k < 13) (hs : s ≤ n) (hX : ∀ j, n ≤ j → X j = 0) (h : ¬ (qki X n s = 0 ∧ qbe X n s - s = wln k)) : qis X n s k = false := by
  cases hq : qis X n s k with
  | false => rfl
  | true =>
    obtain ⟨h1, h2, h3⟩ := qis_pos hk hs hX hq
    exact absurd ⟨(qtk_let h1 h2).1, by omega⟩ h
theorem qis_tok2 {X : Int → Int} {n s : Int} {k : Nat} (hk : k < 13) (hs : s ≤ n) (hX : ∀ j, n ≤ j → X j = 0) (h : qki X n s = 0 ∧ qbe X n s - s = wln k) : qwe X n s - s = wln k := by
  have h2 := wln_in k hk
  rcases Int.lt_or_le s n with q | q
  · by_cases hl : 97 ≤ X s ∧ X s ≤ 122
    · have e := qtk_let q hl; omega
    · by_cases hd : 48 ≤ X s ∧ X s ≤ 57
      · have := qtk_dig q hl hd; omega
      · have := qtk_sig q hl hd; omega
  · have e := qtk_fin (X := X) q; omega
theorem qsg_tok {X : Int → Int} {n s c : Int} (hc : c = 59 ∨ c = 45) (hX : ∀ j, n ≤ j → X j = 0) (h : X s = c) : s < n ∧ qki X n s = 2 := by
  have h1 : s < n := by
    rcases Int.lt_or_le s n with q2 | q2
    · exact q2
    · rw [hX _ q2] at h; omega
  exact ⟨h1, (qtk_sig h1 (by omega) (by omega)).1⟩
theorem qFail_ne {X : Int → Int} {n wr wa pa pb ki nu cd : Int} {R : qE Int} (h : qst X n (qb R (qFail X n cd)) wr wa pa pb ki nu) : wr ≠ 0 := by
  cases R with
  | ok P => have h1 := h.1; have h2 := h.2.1; omega
  | error c => have h1 := h.1; have h2 := h.2.1; omega
theorem qMust_no {X : Int → Int} {n : Int} {R : qE Int} : qb R (qMust X n false) = qb R (qFail X n (-2)) := by
  cases R with
  | ok P => rfl
  | error c => rfl
theorem qst_sign {X : Int → Int} {n wr wa pa pb ki nu c : Int} {R : qE Int} (h : qst X n R wr wa pa pb ki nu) (hc : c = 59 ∨ c = 45) (hX : ∀ j, n ≤ j → X j = 0) : qb R (qMust X n (qsg X n R c)) = qb R (qSign X n c) := by
  cases R with
  | ok P => exact qMust_sign hc h.1.2 hX
  | error c => rfl
theorem qst_word {X : Int → Int} {n wr wa pa pb ki nu : Int} {k : Nat} {R : qE Int} (h : qst X n R wr wa pa pb ki nu) (hk : k < 13) (hX : ∀ j, n ≤ j → X j = 0) : qb R (qMust X n (qwd X n R k)) = qb R (qWord X n k) := by
  cases R with
  | ok P => exact qMust_word hk h.1.2 hX
  | error c => rfl
/-- the drift, with its sign -/
def qDrift (X : Int → Int) (n P : Int) : qE (Int × Int) := qb (qNum X n 0 999 (qMinus X n P)) fun z => .ok (z.1, if X (qsp X n P) = 45 then -z.2 else z.2)
/-- the kind that stands here -/
def qkd (X : Int → Int) (n : Int) (R : qE Int) : Int := match R with
  | .ok P => (match qKind X n P with | .ok y => y.2 | .error _ => -1)
  | .error _ => -1
theorem qkd_is {X : Int → Int} {n wr wa pa pb ki nu : Int} {R : qE Int} (h : qst X n R wr wa pa pb ki nu) : qkd X n R = if qwd X n R 0 = true then 0 else if qwd X n R 1 = true then 1 else if qwd X n R 2 = true then 2 else if qwd X n R 3 = true then 3 else -1 := by
  cases R with
  | error c => rfl
  | ok P =>
    have h1 := h.1.2
    have h2 : qsp X n (qsp X n P) = qsp X n P := qsp_idem h1
    unfold qkd qKind qKindN qKindN qKindN qKindN qKindN
    simp only [h2]
    by_cases a0 : qis X n (qsp X n P) 0 = true
    · simp only [if_pos a0]; rw [if_pos (show qwd X n (.ok P) 0 = true from a0)]; rfl
    · simp only [if_neg a0]
      by_cases a1 : qis X n (qsp X n P) 1 = true
      · simp only [if_pos a1]; rw [if_neg (show ¬ qwd X n (.ok P) 0 = true from a0), if_pos (show qwd X n (.ok P) 1 = true from a1)]; rfl
      · simp only [if_neg a1]
        by_cases a2 : qis X n (qsp X n P) 2 = true
        · simp only [if_pos a2]; rw [if_neg (show ¬ qwd X n (.ok P) 0 = true from a0), if_neg (show ¬ qwd X n (.ok P) 1 = true from a1), if_pos (show qwd X n (.ok P) 2 = true from a2)]; rfl
        · simp only [if_neg a2]
          by_cases a3 : qis X n (qsp X n P) 3 = true
          · simp only [if_pos a3]; rw [if_neg (show ¬ qwd X n (.ok P) 0 = true from a0), if_neg (show ¬ qwd X n (.ok P) 1 = true from a1), if_neg (show ¬ qwd X n (.ok P) 2 = true from a2), if_pos (show qwd X n (.ok P) 3 = true from a3)]; rfl
          · simp only [if_neg a3]; rw [if_neg (show ¬ qwd X n (.ok P) 0 = true from a0), if_neg (show ¬ qwd X n (.ok P) 1 = true from a1), if_neg (show ¬ qwd X n (.ok P) 2 = true from a2), if_neg (show ¬ qwd X n (.ok P) 3 = true from a3)]
theorem qMust_kind {X : Int → Int} {n wr wa pa pb ki nu : Int} {R : qE Int} (h : qst X n R wr wa pa pb ki nu) (hX : ∀ j, n ≤ j → X j = 0) : qb R (qMust X n (decide (qkd X n R ≠ -1))) = qps (qb R (qKind X n)) := by
  cases R with
  | error c => rfl
  | ok P =>
    have h1 := h.1.2
    have h2 : qsp X n (qsp X n P) = qsp X n P := qsp_idem h1
    have h3 := (qsp_in (X := X) h1).2
    show qMust X n (decide (qkd X n (.ok P) ≠ -1)) P = qps (qKind X n P)
    unfold qMust qkd qKind qKindN qKindN qKindN qKindN qKindN
    simp only [h2]
    by_cases a0 : qis X n (qsp X n P) 0 = true
    · simp only [if_pos a0]; rw [(qis_pos (by omega) h3 hX a0).2.2]; rfl
    · simp only [if_neg a0]
      by_cases a1 : qis X n (qsp X n P) 1 = true
      · simp only [if_pos a1]; rw [(qis_pos (by omega) h3 hX a1).2.2]; rfl
      · simp only [if_neg a1]
        by_cases a2 : qis X n (qsp X n P) 2 = true
        · simp only [if_pos a2]; rw [(qis_pos (by omega) h3 hX a2).2.2]; rfl
        · simp only [if_neg a2]
          by_cases a3 : qis X n (qsp X n P) 3 = true
          · simp only [if_pos a3]; rw [(qis_pos (by omega) h3 hX a3).2.2]; rfl
          · simp only [if_neg a3]; rfl
/-- the name that stands here, letter by letter; the reference's moon of that name -/
def ynmb (X : Int → Int) (pa pb k : Int) : Int := if pa + k < pb then X (pa + k) else 0
def ysame (fa X : Int → Int) (pa pb m : Int) : Bool := decide (zfind (fun k => decide (fa (5 + 14 * m + (6 + k)) ≠ ynmb X pa pb k)) 0 8 = -1)
def ynamed (fa X : Int → Int) (pa pb : Int) : Int := zfind (fun m => ysame fa X pa pb m) 0 (fa 3)
theorem ynamed_rng {fa X : Int → Int} {pa pb : Int} : ynamed fa X pa pb = -1 ∨ (0 ≤ ynamed fa X pa pb ∧ ynamed fa X pa pb < fa 3) := by
  rcases zfind_rng (q := fun m => ysame fa X pa pb m) (e := fa 3) _ 0 rfl with q | q
  · exact .inl q
  · exact .inr ⟨q.1, q.2.1⟩
theorem qsg_wr {X : Int → Int} {n wr wa pa pb ki nu c : Int} {R : qE Int} (h : qst X n R wr wa pa pb ki nu) (hs : qsg X n R c = true) : wr = 0 := by
  cases R with
  | ok P => exact h.2.1
  | error c => cases hs
theorem qwd_wr {X : Int → Int} {n wr wa pa pb ki nu : Int} {k : Nat} {R : qE Int} (h : qst X n R wr wa pa pb ki nu) (hs : qwd X n R k = true) : wr = 0 := by
  cases R with
  | ok P => exact h.2.1
  | error c => cases hs
theorem qDrift_yes {X : Int → Int} {n P : Int} (h : X (qsp X n P) = 45) : qDrift X n P = qb (qNum X n 0 999 (qsp X n P + 1)) fun z => .ok (z.1, -z.2) := by
  unfold qDrift qMinus
  rw [if_pos h]
  simp only [if_pos h]
theorem qDrift_no {X : Int → Int} {n P : Int} (hP : P ≤ n) (h : X (qsp X n P) ≠ 45) : qDrift X n P = qNum X n 0 999 P := by
  have h1 : qNum X n 0 999 (qsp X n P) = qNum X n 0 999 P := by
    unfold qNum
    rw [qsp_idem hP]
  unfold qDrift qMinus
  rw [if_neg h, h1]
  simp only [if_neg h]
  cases qNum X n 0 999 P <;> rfl
theorem qkd_in {X : Int → Int} {n wr wa pa pb ki nu : Int} {R : qE Int} (h : qst X n R wr wa pa pb ki nu) : -1 ≤ qkd X n R ∧ qkd X n R ≤ 3 := by
  rw [qkd_is h]
  repeat (first | omega | split)
