/-! the ends of a moon, of a sight, as the reference comes to them -/
theorem moon_end {X : Int → Int} {n P P1 s e v6 wr wa pa pb ki nu pr di dr mc sc : Int} {nm mn sn fa f6 : Int → Int} {R6 R2 : qE Int} (hX : ∀ j, n ≤ j → X j = 0) (hS : qok (pr, di, dr, mc, sc, nm, mn, sn)) (hr : qrel (pr, di, dr, mc, sc, nm, mn, sn) fa) (hm : mc < 6) (hv : v6 = mc) (eW : qWord X n 6 P = .ok P1) (eN : qName X n P1 = .ok (e, s)) (he : e ≤ n) (hnt : znamed nm mc (qpk X s e) = -1) (hnm : ynm (qpk X s e) (ynmb X s e))
    (h6 : ynum6 X n (mc * 6) mn e R6 f6 (5 + 14 * v6)) (hf : ∀ j, ¬ (5 + 14 * v6 ≤ j ∧ j < 5 + 14 * v6 + 6) → f6 j = zcy fa (5 + 14 * v6 + 6) (ynmb X s e) 0 8 j)
    (hc : (qsg X n R6 59 = true ∧ zfit (f6 0) (ya f6 v6) = false ∧ R2 = qb (qb R6 (qFail X n (-6))) (qSign X n 59)) ∨ ((qsg X n R6 59 = false ∨ zfit (f6 0) (ya f6 v6) = true) ∧ R2 = qb R6 (qSign X n 59))) (hq : qst X n R2 wr wa pa pb ki nu) :
    qst2 X n (qMoon X n (pr, di, dr, mc, sc, nm, mn, sn) P) (zU f6 3 (f6 3 + 1)) wr wa pa pb ki nu := by
  subst hv
  have m0 : 0 ≤ v6 := hS.1.2.2.2.1.1
  have eQ : qMoon X n (pr, di, dr, v6, sc, nm, mn, sn) P = qb (qMoonNums X n (v6 * 6) e mn) fun z => qb (qSign X n 59 z.1) fun P5 => if zfit pr (zg z.2 v6) = true then .ok (P5, (pr, di, dr, v6 + 1, sc, zU nm v6 (qpk X s e), z.2, sn)) else .error (-6, qsp X n z.1) := by
    unfold qMoon
    simp only [if_neg (show ¬ 6 ≤ v6 by omega), eW, eN, qb_ok]
    rw [if_neg (fun z => z hnt)]
  rw [eQ]
  unfold ynum6 at h6
  cases e1 : qMoonNums X n (v6 * 6) e mn with
  | error c =>
    rw [e1] at h6
    replace h6 : R6 = .error c := h6
    subst h6
    rw [qb_er]
    rcases hc with ⟨-, -, rfl⟩ | ⟨-, rfl⟩ <;> exact hq
  | ok z =>
    rw [e1] at h6
    obtain ⟨hR, hk⟩ := h6
    subst hR
    rw [qb_ok]
    obtain ⟨m1, m2, m3⟩ := qMoonNums_in he e1
    have hz : zfit (f6 0) (ya f6 v6) = zfit pr (zg z.2 v6) := by
      have h0 : f6 0 = pr := by rw [hf 0 (by omega), zcy_out (by omega)]; exact hr.1.1.1.symm
      rw [h0]
      exact zfit_c (fun k k0 k1 => hk k k0 k1)
    cases e5 : qSign X n 59 z.1 with
    | error c =>
      rw [qb_er]
      rcases hc with ⟨h1, -, -⟩ | ⟨-, rfl⟩
      · exfalso
        unfold qSign at e5
        rw [if_pos (of_decide_eq_true h1)] at e5
        cases e5
      · skip
        rw [show qb (.ok z.1) (qSign X n 59) = .error c from e5] at hq
        exact hq
    | ok P5 =>
      rw [qb_ok]
      have hs : qsg X n (.ok z.1) 59 = true := decide_eq_true (qSign_in m1.2 hX (by omega) e5).1
      rcases hc with ⟨-, h2, rfl⟩ | ⟨h1, rfl⟩
      · rw [if_neg (by rw [← hz, h2]; decide)]
        exact hq
      · have h2 : zfit (f6 0) (ya f6 v6) = true := h1.resolve_left (by rw [hs]; decide)
        rw [if_pos (by rw [← hz]; exact h2)]
        refine ⟨by rw [show qb (.ok z.1) (qSign X n 59) = .ok P5 from e5] at hq; exact hq, ?_⟩
        refine qrel_moon hr hS hm hnm (fun j j0 j1 j3 jn => ?_) ?_ (fun k k0 k1 => ?_) (fun k k0 k1 => ?_) m3
        · rw [zU_n j3, hf j (by omega), zcy_out (by omega)]
        · rw [zU_s, hf 3 (by omega), zcy_out (by omega)]
        · rw [zU_n (by omega), hf _ (by omega), zcy_in (by omega)]
          congr 1
          omega
        · rw [zU_n (by omega)]
          exact hk k k0 k1
theorem moon_full {X : Int → Int} {n P wr wa pa pb ki nu : Int} {S : qS} {fa : Int → Int} (h : 6 ≤ S.2.2.2.1) (hq : qst X n (.error (-7, qsp X n P)) wr wa pa pb ki nu) : qst2 X n (qMoon X n S P) fa wr wa pa pb ki nu := by
  rw [show qMoon X n S P = .error (-7, qsp X n P) from if_pos h]
  exact hq
theorem moon_name {X : Int → Int} {n P P1 wr wa pa pb ki nu : Int} {S : qS} {fa : Int → Int} {c : Int × Int} (h : ¬ 6 ≤ S.2.2.2.1) (eW : qWord X n 6 P = .ok P1) (eN : qName X n P1 = .error c) (hq : qst X n (.error c) wr wa pa pb ki nu) : qst2 X n (qMoon X n S P) fa wr wa pa pb ki nu := by
  rw [show qMoon X n S P = .error c from by unfold qMoon; simp only [if_neg h, eW, eN, qb_ok, qb_er]]
  exact hq
theorem moon_twice {X : Int → Int} {n P P1 e s wr wa pa pb ki nu : Int} {S : qS} {fa : Int → Int} (h : ¬ 6 ≤ S.2.2.2.1) (eW : qWord X n 6 P = .ok P1) (eN : qName X n P1 = .ok (e, s)) (hn : znamed S.2.2.2.2.2.1 S.2.2.2.1 (qpk X s e) ≠ -1) (hq : qst X n (.error (-5, s)) wr wa pa pb ki nu) : qst2 X n (qMoon X n S P) fa wr wa pa pb ki nu := by
  rw [show qMoon X n S P = .error (-5, s) from by unfold qMoon; simp only [if_neg h, eW, eN, qb_ok]; rw [if_pos hn]]
  exact hq
/-- a step that comes to an error once and for all -/
theorem qps_tok {X : Int → Int} {n P : Int} (h : P ≤ n) (hX : ∀ j, n ≤ j → X j = 0) {lo hi : Int} {y : Int × Int} (e : qNum X n lo hi P = .ok y) : qki X n (qsp X n P) = 1 ∧ y = (qbe X n (qsp X n P), qnu X n (qsp X n P)) ∧ lo ≤ qnu X n (qsp X n P) ∧ qnu X n (qsp X n P) ≤ hi := by
  obtain ⟨h1, h2⟩ := qNum_tok (lo := lo) (hi := hi) h hX
  by_cases q : qki X n (qsp X n P) = 1
  · rw [h2 q] at e
    split at e
    · rename_i h3
      cases e
      exact ⟨q, rfl, h3⟩
    · cases e
  · rw [h1 q] at e
    cases e
