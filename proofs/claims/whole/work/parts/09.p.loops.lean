/-! a sky and sights, as the reference reads them: the loops and the end -/
def qEnd (X : Int → Int) (n P : Int) : qE Int := if n ≤ qsp X n P then .ok P else .error (-2, qsp X n P)
theorem qki_3 {X : Int → Int} {n s : Int} : qki X n s = 3 ↔ n ≤ s := by
  unfold qki
  by_cases h : n ≤ s
  · rw [if_pos h]; exact ⟨fun _ => h, fun _ => rfl⟩
  · rw [if_neg h]
    refine ⟨fun z => ?_, fun z => absurd z h⟩
    split at z
    · omega
    · split at z <;> omega
theorem qps_err {α : Type} {c : Int × Int} : qps (α := α) (.error c) = .error c := rfl
theorem qst2_q {X fa : Int → Int} {n wr wa pa pb ki nu : Int} {R : qE (Int × qS)} (h : qst2 X n R fa wr wa pa pb ki nu) : qst X n (qps R) wr wa pa pb ki nu := by
  cases R with
  | error c => exact h
  | ok y => exact h.1
theorem qst2_ok {X fa : Int → Int} {n wr wa pa pb ki nu : Int} {k : Nat} {R : qE (Int × qS)} (h : qst2 X n R fa wr wa pa pb ki nu) (hw : qwd X n (qps R) k = true) : ∃ P pr di dr mc sc nm mn sn, R = .ok (P, (pr, di, dr, mc, sc, nm, mn, sn)) ∧ qst X n (.ok P) wr wa pa pb ki nu ∧ qrel (pr, di, dr, mc, sc, nm, mn, sn) fa ∧ qis X n (qsp X n P) k = true := by
  cases R with
  | error c => cases hw
  | ok y =>
    obtain ⟨P, pr, di, dr, mc, sc, nm, mn, sn⟩ := y
    exact ⟨P, pr, di, dr, mc, sc, nm, mn, sn, rfl, h.1, h.2, hw⟩
def yM (X : Int → Int) (n : Int) (M R : qE (Int × qS)) (j : Nat) : Prop := qb R (fun y => qMoonsN X n j y.2 y.1) = M ∧ ∀ y, R = .ok y → qok y.2 ∧ 7 ≤ y.2.2.2.2.1 + j
def yT (X : Int → Int) (n : Int) (M R : qE (Int × qS)) (j : Nat) : Prop := qb R (fun y => qSightsN X n j y.2 y.1) = M ∧ ∀ y, R = .ok y → qok y.2 ∧ 31 ≤ y.2.2.2.2.2.1 + j
theorem yM_step {X : Int → Int} {n P : Int} {S : qS} {M : qE (Int × qS)} {j : Nat} (hX : ∀ j, n ≤ j → X j = 0) (hP : P ≤ n) (h : yM X n M (.ok (P, S)) j) (hw : qis X n (qsp X n P) 6 = true) : 1 ≤ j ∧ yM X n M (qMoon X n S P) (j - 1) := by
  obtain ⟨h1, h2⟩ := h
  obtain ⟨hS, hj⟩ := h2 _ rfl
  replace hj : 7 ≤ S.2.2.2.1 + j := hj
  replace hS : qok S := hS
  have hm := hS.1.2.2.2.1
  cases j with
  | zero => exfalso; omega
  | succ j =>
    refine ⟨by omega, ?_, fun y e => ?_⟩
    · rw [← h1, Nat.add_sub_cancel]
      show _ = (if qis X n (qsp X n P) 6 = true then qb (qMoon X n S P) (fun y => qMoonsN X n j y.2 y.1) else .ok (qsp X n P, S))
      rw [if_pos hw]
    · have h3 := qMoon_in hP hS hX e
      exact ⟨h3.2.1, by rw [h3.2.2.1]; omega⟩
theorem yM_end {X fa : Int → Int} {n wr wa pa pb ki nu : Int} {M R : qE (Int × qS)} {j : Nat} (h : yM X n M R j) (hq : qst2 X n R fa wr wa pa pb ki nu) (hw : qwd X n (qps R) 6 = false) : qst2 X n M fa wr wa pa pb ki nu ∧ ∀ y, M = .ok y → qok y.2 := by
  obtain ⟨h1, h2⟩ := h
  cases R with
  | error c =>
    rw [← h1]
    exact ⟨hq, fun y e => by cases e⟩
  | ok y =>
    obtain ⟨hS, hj⟩ := h2 _ rfl
    have hm := hS.1.2.2.2.1
    cases j with
    | zero => exfalso; omega
    | succ j =>
      have e : M = .ok (qsp X n y.1, y.2) := by
        rw [← h1]
        show qMoonsN X n (j + 1) y.2 y.1 = _
        unfold qMoonsN
        rw [if_neg (by rw [show qis X n (qsp X n y.1) 6 = false from hw]; decide)]
      rw [e]
      exact ⟨⟨qst_sp hq.1, hq.2⟩, fun z e => by cases e; exact hS⟩
theorem yT_step {X : Int → Int} {n P : Int} {S : qS} {M : qE (Int × qS)} {j : Nat} (hX : ∀ j, n ≤ j → X j = 0) (hP : P ≤ n) (h : yT X n M (.ok (P, S)) j) (hw : qis X n (qsp X n P) 8 = true) : 1 ≤ j ∧ yT X n M (qSight X n S P) (j - 1) := by
  obtain ⟨h1, h2⟩ := h
  obtain ⟨hS, hj⟩ := h2 _ rfl
  replace hj : 31 ≤ S.2.2.2.2.1 + j := hj
  replace hS : qok S := hS
  have hm := hS.1.2.2.2.2.1
  have h8 := (qis_pos (by omega) (qsp_in hP).2 hX hw).1
  cases j with
  | zero => exfalso; omega
  | succ j =>
    refine ⟨by omega, ?_, fun y e => ?_⟩
    · rw [← h1, Nat.add_sub_cancel]
      show _ = (if n ≤ qsp X n P then .ok (qsp X n P, S) else qb (qSight X n S P) (fun y => qSightsN X n j y.2 y.1))
      rw [if_neg (by omega)]
    · have h3 := qSight_in hP hS hX e
      exact ⟨h3.2.1, by rw [h3.2.2.1]; omega⟩
/-- what loading leaves -/
def qfin (r : qE (Int × qS)) (fa0 fas0 fkp : Int → Int) (km wr2 ea2 : Int) (fa2 fkp2 : Int → Int) (km2 : Int) : Prop := match r with
  | .ok y => wr2 = 0 ∧ ea2 = -1 ∧ qrel y.2 fa2 ∧ qok y.2 ∧ fkp2 = zKp fkp km (zcy fas0 0 fa0 0 179) ∧ km2 = zKm km
  | .error c => (wr2 = c.1 ∧ c.1 < 0) ∧ ea2 = c.2 ∧ (∀ j, 0 ≤ j → j < 179 → fa2 j = fa0 j) ∧ fkp2 = fkp ∧ km2 = km
/-- what the end does -/
def qends (fa fas fkp : Int → Int) (km wr2 wa2 ea2 : Int) (fa2 fkp2 : Int → Int) (km2 : Int) : Prop := (wr2 = 0 → ea2 = -1 ∧ fa2 = fa ∧ fkp2 = zKp fkp km fas ∧ km2 = zKm km) ∧ (wr2 ≠ 0 → ea2 = wa2 ∧ fa2 = zcy fa 0 fas 0 179 ∧ fkp2 = fkp ∧ km2 = km)
theorem read_end {X fa fa0 fas0 fkp fa2 fkp2 : Int → Int} {n wr wa wr2 wa2 pa pb ki nu ea2 km km2 : Int} {r R : qE (Int × qS)} {j : Nat} (h : yT X n r R j) (hX : ∀ j, n ≤ j → X j = 0) (hq : qst2 X n R fa wr wa pa pb ki nu) (hw : qwd X n (qps R) 8 = false) (hE : qst X n (qb (qps R) (qEnd X n)) wr2 wa2 pa pb ki nu) (hf : qends fa (zcy fas0 0 fa0 0 179) fkp km wr2 wa2 ea2 fa2 fkp2 km2) : qfin r fa0 fas0 fkp km wr2 ea2 fa2 fkp2 km2 := by
  obtain ⟨h1, h2⟩ := h
  have her : ∀ c : Int × Int, qst X n (.error c) wr2 wa2 pa pb ki nu → qfin (.error c) fa0 fas0 fkp km wr2 ea2 fa2 fkp2 km2 := fun c hc => by
    have hc1 : wr2 = c.1 := hc.1
    have hc2 := hc.2.1
    have hc3 : wa2 = c.2 := hc.2.2.1
    obtain ⟨g1, g2, g3, g4⟩ := hf.2 (by omega)
    exact ⟨⟨hc1, by omega⟩, by omega, fun i i0 i1 => by rw [g2, zcy_in (by omega), zcy_in (by omega)]; congr 1; omega, g3, g4⟩
  cases R with
  | error c =>
    rw [← h1]
    exact her c hE
  | ok y =>
    obtain ⟨hS, hj⟩ := h2 _ rfl
    have hm := hS.1.2.2.2.2.1
    have hP := hq.1.1.2
    cases j with
    | zero => exfalso; omega
    | succ j =>
      have e : r = qSightsN X n (j + 1) y.2 y.1 := h1.symm
      unfold qSightsN at e
      by_cases c : n ≤ qsp X n y.1
      · rw [if_pos c] at e
        rw [e]
        have hE2 : qst X n (.ok y.1) wr2 wa2 pa pb ki nu := by
          rw [show qb (qps (.ok y)) (qEnd X n) = .ok y.1 from if_pos c] at hE
          exact hE
        obtain ⟨g1, g2, g3, g4⟩ := hf.1 hE2.2.1
        exact ⟨hE2.2.1, g1, by rw [g2]; exact hq.2, hS, g3, g4⟩
      · rw [if_neg c] at e
        have e2 : qSight X n y.2 y.1 = .error (-2, qsp X n y.1) := by
          have h8 : qis X n (qsp X n y.1) 8 = false := hw
          unfold qSight
          rw [if_neg (fun z => by rw [h8] at z; exact absurd z.1 (by decide)), show qWord X n 8 y.1 = .error (-2, qsp X n y.1) from if_neg (by rw [h8]; decide)]
          rfl
        rw [e2] at e
        rw [e]
        refine her _ ?_
        rw [show qb (qps (.ok y)) (qEnd X n) = .error (-2, qsp X n y.1) from if_neg c] at hE
        exact hE
/-- the planet -/
theorem planet_rel {X fa : Int → Int} {n wr wa pa pb ki nu wr0 wa0 pa0 pb0 ki0 nu0 pr : Int} {nm mn sn : Int → Int} (hX : ∀ j, n ≤ j → X j = 0) (h0 : ∀ j, 0 ≤ j → j < 179 → fa j = 0) (hq0 : qst X n (.ok 0) wr0 wa0 pa0 pb0 ki0 nu0)
    (hq : qst X n (qb (qps (qb (qb (.ok 0) (qMust X n (qwd X n (.ok 0) 4))) (qNum X n 1 999))) (qSign X n 59)) wr wa pa pb ki nu) :
    qst2 X n (qPlanet X n (pr, 0, 0, 0, 0, nm, mn, sn) 0) (zU fa 0 (qvl (qb (qb (.ok 0) (qMust X n (qwd X n (.ok 0) 4))) (qNum X n 1 999)))) wr wa pa pb ki nu ∧ ∀ y, qPlanet X n (pr, 0, 0, 0, 0, nm, mn, sn) 0 = .ok y → qok y.2 := by
  refine ⟨?_, fun y e => (qPlanet_in hq0.1.2 hX (fun v v1 v2 => qok_0 v1 v2) e).2⟩
  rw [qst_word hq0 (by omega) hX] at hq ⊢
  unfold qPlanet
  rw [qb_ok] at hq ⊢
  cases e1 : qWord X n 4 0 with
  | error c =>
    rw [e1] at hq
    exact hq
  | ok P1 =>
    rw [e1, qb_ok] at hq
    rw [qb_ok, qb_ok]
    cases e2 : qNum X n 1 999 P1 with
    | error c =>
      rw [e2] at hq
      exact hq
    | ok y =>
      rw [e2] at hq
      replace hq : qst X n (qSign X n 59 y.1) wr wa pa pb ki nu := hq
      rw [qb_ok]
      cases e3 : qSign X n 59 y.1 with
      | error c =>
        rw [e3] at hq
        exact hq
      | ok P3 =>
        rw [e3] at hq
        have hz : ∀ j : Int, 0 < j → j < 179 → zU fa 0 y.2 j = 0 := fun j a b => by rw [zU_n (by omega)]; exact h0 j (by omega) b
        refine ⟨hq, ⟨⟨(zU_s _ _ _).symm, (hz 1 (by omega) (by omega)).symm, (hz 2 (by omega) (by omega)).symm, (hz 3 (by omega) (by omega)).symm, (hz 4 (by omega) (by omega)).symm⟩, fun m a b => ?_, fun m a b => ?_⟩, fun m a b => ?_⟩
        · have := hz 3 (by omega) (by omega)
          exfalso
          replace b : m < zU fa 0 y.2 3 := b
          omega
        · have := hz 4 (by omega) (by omega)
          exfalso
          replace b : m < zU fa 0 y.2 4 := b
          omega
        · have := hz 3 (by omega) (by omega)
          exfalso
          replace b : m < zU fa 0 y.2 3 := b
          omega
/-- the light -/
theorem qrel_light {S : qS} {fa : Int → Int} (h : qrel S fa) (v w : Int) : qrel (S.1, v, w, S.2.2.2) (zU (zU fa 1 v) 2 w) := by
  obtain ⟨⟨⟨e0, e1, e2, e3, e4⟩, hm, hs⟩, hn⟩ := h
  have hz : ∀ j : Int, j ≠ 1 → j ≠ 2 → zU (zU fa 1 v) 2 w j = fa j := fun j a b => by rw [zU_n b, zU_n a]
  refine ⟨⟨⟨by rw [hz 0 (by omega) (by omega)]; exact e0, by rw [zU_n (by omega), zU_s], by rw [zU_s], by rw [hz 3 (by omega) (by omega)]; exact e3, by rw [hz 4 (by omega) (by omega)]; exact e4⟩, fun m a b k k0 k1 => ?_, fun j a b k k0 k1 => ?_⟩, fun m a b => ?_⟩
  · rw [hz 3 (by omega) (by omega)] at b
    show _ = zU (zU fa 1 v) 2 w (5 + 14 * m + k)
    rw [hz _ (by omega) (by omega)]
    exact hm m a b k k0 k1
  · rw [hz 4 (by omega) (by omega)] at b
    show _ = zU (zU fa 1 v) 2 w (89 + 3 * j + k)
    rw [hz _ (by omega) (by omega)]
    exact hs j a b k k0 k1
  · rw [hz 3 (by omega) (by omega)] at b
    exact ynm_of (hn m a b) (fun k k0 k1 => hz _ (by omega) (by omega))
theorem light_yes {X fa : Int → Int} {n wr wa pa pb ki nu P : Int} {S : qS} (hr : qrel S fa) (hw : qis X n (qsp X n P) 5 = true)
    (hq : qst X n (qb (qps (qb (qps (qb (.ok (qsp X n P + wln 5)) (qNum X n 0 359))) (qDrift X n))) (qSign X n 59)) wr wa pa pb ki nu) :
    qst2 X n (qb (.ok (P, S)) (fun y => qLight X n y.2 y.1)) (zU (zU fa 1 (qvl (qb (.ok (qsp X n P + wln 5)) (qNum X n 0 359)))) 2 (qvl (qb (qps (qb (.ok (qsp X n P + wln 5)) (qNum X n 0 359))) (qDrift X n)))) wr wa pa pb ki nu := by
  rw [qb_ok] at hq ⊢
  rw [qb_ok]
  unfold qLight
  rw [if_pos hw]
  cases e1 : qNum X n 0 359 (qsp X n P + wln 5) with
  | error c =>
    rw [e1] at hq
    exact hq
  | ok y =>
    rw [e1] at hq
    replace hq : qst X n (qb (qps (qDrift X n y.1)) (qSign X n 59)) wr wa pa pb ki nu := hq
    rw [qb_ok]
    show qst2 X n _ (zU (zU fa 1 y.2) 2 (qvl (qDrift X n y.1))) wr wa pa pb ki nu
    unfold qDrift at hq ⊢
    cases e2 : qNum X n 0 999 (qMinus X n y.1) with
    | error c =>
      rw [e2] at hq
      exact hq
    | ok z =>
      rw [e2] at hq
      replace hq : qst X n (qSign X n 59 z.1) wr wa pa pb ki nu := hq
      rw [qb_ok]
      cases e3 : qSign X n 59 z.1 with
      | error c =>
        rw [e3] at hq
        exact hq
      | ok P3 =>
        rw [e3] at hq
        exact ⟨hq, qrel_light hr _ _⟩
theorem light_no {X fa : Int → Int} {n wr wa pa pb ki nu : Int} {R : qE (Int × qS)} (hq : qst2 X n R fa wr wa pa pb ki nu) (hw : qwd X n (qps R) 5 = false) : qst2 X n (qb R (fun y => qLight X n y.2 y.1)) fa wr wa pa pb ki nu := by
  cases R with
  | error c => exact hq
  | ok y =>
    rw [qb_ok, show qLight X n y.2 y.1 = .ok (qsp X n y.1, y.2) from if_neg (by rw [show qis X n (qsp X n y.1) 5 = false from hw]; decide)]
    exact ⟨qst_sp hq.1, hq.2⟩
theorem light_ok {X fa : Int → Int} {n wr wa pa pb ki nu : Int} {R : qE (Int × qS)} (hX : ∀ j, n ≤ j → X j = 0) (hq : qst2 X n R fa wr wa pa pb ki nu) (hS : ∀ y, R = .ok y → qok y.2) : ∀ y, qb R (fun y => qLight X n y.2 y.1) = .ok y → qok y.2 := fun y e => by
  cases R with
  | error c => cases e
  | ok z => exact (qLight_in hq.1.1.2 hX (hS z rfl) e).2
theorem yM_0 {X : Int → Int} {n : Int} {R : qE (Int × qS)} (hS : ∀ y, R = .ok y → qok y.2) : yM X n (qb R (fun y => qMoonsN X n 7 y.2 y.1)) R 7 := ⟨rfl, fun y e => ⟨hS y e, by have := (hS y e).1.2.2.2.1; omega⟩⟩
theorem yT_0 {X : Int → Int} {n : Int} {R : qE (Int × qS)} (hS : ∀ y, R = .ok y → qok y.2) : yT X n (qb R (fun y => qSightsN X n 31 y.2 y.1)) R 31 := ⟨rfl, fun y e => ⟨hS y e, by have := (hS y e).1.2.2.2.2.1; omega⟩⟩
theorem qSky_is {X : Int → Int} {n : Int} {S : qS} : qSky X n S = qb (qb (qb (qPlanet X n S 0) (fun y => qLight X n y.2 y.1)) (fun y => qMoonsN X n 7 y.2 y.1)) (fun y => qSightsN X n 31 y.2 y.1) := by
  unfold qSky
  cases qPlanet X n S 0 with
  | error c => rfl
  | ok y =>
    rw [qb_ok, qb_ok]
    cases qLight X n y.2 y.1 with
    | error c => rfl
    | ok z => rfl
