/-! a sight, step by step, as the reference reads it -/
/-- what a chain of steps has come to: an error is the whole's, else this is known -/
def ypr {α β : Type} (r : qE β) (R : qE α) (ok : α → Prop) : Prop := match R with
  | .error c => r = .error c
  | .ok x => ok x
section YPR
variable {α β γ : Type} {r : qE β} {R : qE α} {ok ok2 : α → Prop}
theorem ypr_mono (h : ypr r R ok) (hf : ∀ x, R = .ok x → ok x → ok2 x) : ypr r R ok2 := by
  cases R with
  | error c => exact h
  | ok x => exact hf x rfl h
theorem ypr_b {okc : γ → Prop} {f : α → qE γ} (h : ypr r R ok) (hf : ∀ x, R = .ok x → ok x → ypr r (f x) okc) : ypr r (qb R f) okc := by
  cases R with
  | error c => exact h
  | ok x => exact hf x rfl h
end YPR
section YPR2
variable {β : Type} {r : qE β} {R : qE Int} {ok ok2 : Int → Prop} {X : Int → Int} {n wr wa pa pb ki nu cd : Int}
theorem ypr_fail (h : ypr r R ok) (hf : ∀ x, R = .ok x → ok x → r = .error (cd, qsp X n x)) : ypr r (qb R (qFail X n cd)) ok2 := ypr_b h hf
theorem ypr_er (h : ypr r R ok) (hq : qst X n R wr wa pa pb ki nu) (hw : wr ≠ 0) : ypr r R ok2 := ypr_mono h (fun x e _ => by subst e; exact absurd hq.2.1 hw)
end YPR2
theorem ypr_end {r : qE (Int × qS)} {R : qE Int} {ok : Int → Prop} {X fa : Int → Int} {n wr wa pa pb ki nu : Int} (h : ypr r R ok) (hq : qst X n R wr wa pa pb ki nu) (hw : wr ≠ 0) : qst2 X n r fa wr wa pa pb ki nu := by
  cases R with
  | ok x => exact absurd hq.2.1 hw
  | error c =>
    rw [show r = .error c from h]
    exact hq
def qs4 (X : Int → Int) (n : Int) (S : qS) (v k x t : Int) : qE (Int × qS) :=
  qb (qSign X n 59 x) fun P5 => .ok (P5, (S.1, S.2.1, S.2.2.1, S.2.2.2.1, S.2.2.2.2.1 + 1, S.2.2.2.2.2.1, S.2.2.2.2.2.2.1, zput3 S.2.2.2.2.2.2.2 S.2.2.2.2.1 v k t))
def qs3 (X : Int → Int) (n : Int) (S : qS) (v k x : Int) : qE (Int × qS) :=
  qb (qNum X n 1 1000000 x) fun t => if zhasS S.2.2.2.2.2.2.2 S.2.2.2.2.1 v k t.2 = true then .error (-5, qsp X n x) else qs4 X n S v k t.1 t.2
def qs2 (X : Int → Int) (n : Int) (S : qS) (v x : Int) : qE (Int × qS) := qb (qKind X n x) fun k => qs3 X n S v k.2 k.1
def qs1 (X : Int → Int) (n : Int) (S : qS) (x : Int) : qE (Int × qS) :=
  qb (qName X n x) fun y => if znamed S.2.2.2.2.2.1 S.2.2.2.1 (qpk X y.2 y.1) = -1 then .error (-4, y.2) else qs2 X n S (znamed S.2.2.2.2.2.1 S.2.2.2.1 (qpk X y.2 y.1)) y.1
section SGT
variable {X fa : Int → Int} {n P wr wa pa pb ki nu vc kc : Int} {S : qS} {r : qE (Int × qS)} {R : qE Int} {ok : Int → Prop}
theorem qSight_is (hw : qis X n (qsp X n P) 8 = true) : qSight X n S P = if 30 ≤ S.2.2.2.2.1 then .error (-7, qsp X n P) else qb (qWord X n 8 P) (qs1 X n S) := by
  unfold qSight
  by_cases h : 30 ≤ S.2.2.2.2.1
  · rw [if_pos ⟨hw, h⟩, if_pos h]
  · rw [if_neg (fun z => h z.2), if_neg h]
    rfl
def okA (X : Int → Int) (n : Int) (S : qS) (r : qE (Int × qS)) (x : Int) : Prop := qis X n (qsp X n x) 8 = true ∧ r = qb (qWord X n 8 x) (qs1 X n S)
def okC (X : Int → Int) (n : Int) (S : qS) (r : qE (Int × qS)) (x : Int) : Prop := r = qs1 X n S x ∧ qName X n x = .ok (qbe X n (qsp X n x), qsp X n x)
def okV (X : Int → Int) (n : Int) (S : qS) (r : qE (Int × qS)) (vc x : Int) : Prop := okC X n S r x ∧ vc = znamed S.2.2.2.2.2.1 S.2.2.2.1 (qpk X (qsp X n x) (qbe X n (qsp X n x)))
def okG (X : Int → Int) (n : Int) (S : qS) (r : qE (Int × qS)) (vc kc x : Int) : Prop := (1 ≤ qnu X n (qsp X n x) ∧ qnu X n (qsp X n x) ≤ 1000000) ∧ r = if zhasS S.2.2.2.2.2.2.2 S.2.2.2.2.1 vc kc (qnu X n (qsp X n x)) = true then .error (-5, qsp X n x) else qs4 X n S vc kc (qbe X n (qsp X n x)) (qnu X n (qsp X n x))
def okH (X : Int → Int) (n : Int) (S : qS) (r : qE (Int × qS)) (vc kc x : Int) : Prop := (1 ≤ qnu X n (qsp X n x) ∧ qnu X n (qsp X n x) ≤ 1000000) ∧ r = qs4 X n S vc kc (qbe X n (qsp X n x)) (qnu X n (qsp X n x))
theorem sight_a (hw : qis X n (qsp X n P) 8 = true) (h : 30 ≤ S.2.2.2.2.1) : ypr (qSight X n S P) (qb (.ok P) (qFail X n (-7))) ok := by
  show qSight X n S P = .error (-7, qsp X n P)
  rw [qSight_is hw, if_pos h]
theorem sight_a2 (hw : qis X n (qsp X n P) 8 = true) (h : ¬ 30 ≤ S.2.2.2.2.1) : ypr (qSight X n S P) (.ok P) (okA X n S (qSight X n S P)) := by
  show okA X n S (qSight X n S P) P
  exact ⟨hw, by rw [qSight_is hw, if_neg h]⟩
theorem sight_b (hX : ∀ j, n ≤ j → X j = 0) (hq : qst X n R wr wa pa pb ki nu) (h : ypr r R (okA X n S r)) : ypr r (qb R (qMust X n true)) (fun x => r = qs1 X n S x) :=
  ypr_b h (fun x e o => by
    subst e
    have h1 := (qsp_in (X := X) hq.1.2).2
    show r = qs1 X n S (qbe X n (qsp X n x))
    rw [o.2, show qWord X n 8 x = .ok (qsp X n x + wln 8) from if_pos o.1, (qis_pos (by omega) h1 hX o.1).2.2]
    rfl)
theorem sight_c {wr2 wa2 pa2 pb2 ki2 nu2 : Int} (hX : ∀ j, n ≤ j → X j = 0) (hq : qst X n (qb R (qMust X n true)) wr2 wa2 pa2 pb2 ki2 nu2) (h : ypr r (qb R (qMust X n true)) (fun x => r = qs1 X n S x)) : ypr r (qb (qb R (qMust X n true)) (qNm X n)) (okC X n S r) :=
  ypr_b h (fun x e o => by
    rw [e] at hq
    obtain ⟨u1, u2⟩ := qNm_tok (X := X) (n := n) (P := x) hq.1.2 hX
    by_cases c : qki X n (qsp X n x) = 0 ∧ qbe X n (qsp X n x) - qsp X n x ≤ 8
    · rw [(u1 c).1]
      exact ⟨o, (u1 c).2⟩
    · rw [(u2 c).1]
      show r = _
      rw [o]
      unfold qs1
      rw [(u2 c).2]
      rfl)
theorem sight_d (h : ypr r R (okV X n S r vc)) (hv : vc = -1) : ypr r (qb R (qFail X n (-4))) ok :=
  ypr_fail h (fun x _ o => by
    rw [o.1.1]
    unfold qs1
    rw [o.1.2, qb_ok, if_pos (show znamed S.2.2.2.2.2.1 S.2.2.2.1 (qpk X (qsp X n x) (qbe X n (qsp X n x))) = -1 from by rw [← o.2]; exact hv)])
theorem sight_d2 (h : ypr r R (okV X n S r vc)) (hv : vc ≠ -1) : ypr r R (fun x => r = qs2 X n S vc (qbe X n (qsp X n x))) :=
  ypr_mono h (fun x _ o => by
    have h9 : znamed S.2.2.2.2.2.1 S.2.2.2.1 (qpk X (qsp X n x) (qbe X n (qsp X n x))) ≠ -1 := by rw [← o.2]; exact hv
    rw [o.1.1]
    unfold qs1
    rw [o.1.2, qb_ok, if_neg h9, ← o.2])
theorem sight_e {wr2 wa2 pa2 pb2 ki2 nu2 : Int} (hX : ∀ j, n ≤ j → X j = 0) (hq : qst X n (qb R (qMust X n true)) wr2 wa2 pa2 pb2 ki2 nu2) (h : ypr r R (fun x => r = qs2 X n S vc (qbe X n (qsp X n x)))) : ypr r (qb (qb R (qMust X n true)) (qMust X n (decide (qkd X n (qb R (qMust X n true)) ≠ -1)))) (fun x => r = qs3 X n S vc (qkd X n (qb R (qMust X n true))) x) := by
  rw [qMust_kind hq hX]
  cases R with
  | error c => exact h
  | ok x =>
    show ypr r (qps (qKind X n (qbe X n (qsp X n x)))) (fun y => r = qs3 X n S vc (qkd X n (.ok (qbe X n (qsp X n x)))) y)
    have h0 : r = qs2 X n S vc (qbe X n (qsp X n x)) := h
    unfold qs2 at h0
    cases e : qKind X n (qbe X n (qsp X n x)) with
    | error c =>
      rw [e] at h0
      exact h0
    | ok y =>
      rw [e] at h0
      have h4 : qkd X n (.ok (qbe X n (qsp X n x))) = y.2 := by
        unfold qkd
        show (match qKind X n (qbe X n (qsp X n x)) with | .ok y => y.2 | .error _ => -1) = y.2
        rw [e]
      show r = qs3 X n S vc (qkd X n (.ok (qbe X n (qsp X n x)))) y.1
      rw [h4]
      exact h0
theorem sight_k {k : Int} (hq : qst X n (qb R (qMust X n (decide (k ≠ -1)))) wr wa pa pb ki nu) (hw : wr = 0) : k ≠ -1 := fun e => by
  rw [decide_eq_false (fun z => z e), qMust_no] at hq
  exact qFail_ne hq hw
theorem sight_f (hX : ∀ j, n ≤ j → X j = 0) (hq : qst X n R wr wa pa pb ki nu) (h : ypr r R (fun x => r = qs3 X n S vc kc x)) (hk : ki ≠ 1) : ypr r (qb R (qFail X n (-2))) ok :=
  ypr_fail h (fun x e o => by
    subst e
    rw [o]
    unfold qs3
    rw [(qNum_tok (lo := 1) (hi := 1000000) hq.1.2 hX).1 (by rw [← hq.2.2.2.2.1]; exact hk)]
    rfl)
theorem sight_f2 (hq : qst X n R wr wa pa pb ki nu) (h : ypr r R (fun x => r = qs3 X n S vc kc x)) (hk : ki = 1) : ypr r R (fun x => r = qs3 X n S vc kc x ∧ qki X n (qsp X n x) = 1) :=
  ypr_mono h (fun x e o => by
    subst e
    exact ⟨o, by rw [← hq.2.2.2.2.1]; exact hk⟩)
theorem sight_g (hX : ∀ j, n ≤ j → X j = 0) (hq : qst X n R wr wa pa pb ki nu) (h : ypr r R (fun x => r = qs3 X n S vc kc x ∧ qki X n (qsp X n x) = 1)) (hk : ¬ (1 ≤ nu ∧ nu ≤ 1000000)) : ypr r (qb R (qFail X n (-3))) ok :=
  ypr_fail h (fun x e o => by
    subst e
    rw [o.1]
    unfold qs3
    rw [(qNum_tok (lo := 1) (hi := 1000000) hq.1.2 hX).2 o.2, if_neg (by rw [← hq.2.2.2.2.2]; exact hk)]
    rfl)
theorem sight_g2 (hX : ∀ j, n ≤ j → X j = 0) (hq : qst X n R wr wa pa pb ki nu) (h : ypr r R (fun x => r = qs3 X n S vc kc x ∧ qki X n (qsp X n x) = 1)) (hk : 1 ≤ nu ∧ nu ≤ 1000000) : ypr r R (okG X n S r vc kc) :=
  ypr_mono h (fun x e o => by
    subst e
    have h1 : 1 ≤ qnu X n (qsp X n x) ∧ qnu X n (qsp X n x) ≤ 1000000 := by rw [← hq.2.2.2.2.2]; exact hk
    refine ⟨h1, ?_⟩
    rw [o.1]
    unfold qs3
    rw [(qNum_tok (lo := 1) (hi := 1000000) hq.1.2 hX).2 o.2, if_pos h1]
    rfl)
theorem sight_h (hr : qrel S fa) (hq : qst X n R wr wa pa pb ki nu) (h : ypr r R (okG X n S r vc kc)) (hk : ysightOf fa vc kc nu ≠ -1) : ypr r (qb R (qFail X n (-5))) ok :=
  ypr_fail h (fun x e o => by
    subst e
    have h1 := qrel_hasS hr vc kc (qnu X n (qsp X n x))
    rw [o.2, if_pos (by rw [h1]; exact decide_eq_true (by rw [← hq.2.2.2.2.2]; exact hk))])
theorem sight_h2 (hr : qrel S fa) (hq : qst X n R wr wa pa pb ki nu) (h : ypr r R (okG X n S r vc kc)) (hk : ysightOf fa vc kc nu = -1) : ypr r R (okH X n S r vc kc) :=
  ypr_mono h (fun x e o => by
    subst e
    have h1 := qrel_hasS hr vc kc (qnu X n (qsp X n x))
    have h2 : zhasS S.2.2.2.2.2.2.2 S.2.2.2.2.1 vc kc (qnu X n (qsp X n x)) = false := by rw [h1]; exact decide_eq_false (fun z => z (by rw [← hq.2.2.2.2.2]; exact hk))
    refine ⟨o.1, ?_⟩
    have h3 := o.2
    rw [if_neg (by rw [h2]; decide)] at h3
    exact h3)
end SGT
theorem sight_end {X : Int → Int} {n x wr wa pa pb ki nu pr di dr mc sc v k t i : Int} {nm mn sn fa : Int → Int} {r : qE (Int × qS)} (hr : qrel (pr, di, dr, mc, sc, nm, mn, sn) fa) (hS : qok (pr, di, dr, mc, sc, nm, mn, sn)) (hs : fa 4 < 30) (hi : i = 89 + 3 * fa 4) (he : r = qs4 X n (pr, di, dr, mc, sc, nm, mn, sn) v k x t) (hq : qst X n (qb (.ok x) (qSign X n 59)) wr wa pa pb ki nu) :
    qst2 X n r (zU (zU (zU (zU fa i v) (i + 1) k) (i + 2) t) 4 (zU (zU (zU fa i v) (i + 1) k) (i + 2) t 4 + 1)) wr wa pa pb ki nu := by
  have e4 : sc = fa 4 := hr.1.1.2.2.2.2
  have s0 : 0 ≤ sc := hS.1.2.2.2.2.1.1
  rw [he]
  unfold qs4
  rw [qb_ok] at hq
  cases e : qSign X n 59 x with
  | error c =>
    rw [e] at hq
    exact hq
  | ok P5 =>
    rw [e] at hq
    refine ⟨hq, ?_⟩
    refine qrel_sight (pr := pr) (di := di) (dr := dr) (mc := mc) (sc := sc) (nm := nm) (mn := mn) (sn := sn) (mo := v) (kd := k) (t := t) hr hS (by omega) (fun j j0 j1 j4 => ?_) ?_ ?_ ?_ ?_
    · rw [zU_n j4, zU_n (by omega), zU_n (by omega), zU_n (by omega)]
    · rw [zU_s, zU_n (by omega), zU_n (by omega), zU_n (by omega)]
    · rw [zU_n (by omega), zU_n (by omega), zU_n (by omega), show 89 + 3 * sc = i by omega, zU_s]
    · rw [zU_n (by omega), zU_n (by omega), show 89 + 3 * sc + 1 = i + 1 by omega, zU_s]
    · rw [zU_n (by omega), show 89 + 3 * sc + 2 = i + 2 by omega, zU_s]
