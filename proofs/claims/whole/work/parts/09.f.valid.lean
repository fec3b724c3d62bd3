/-! what is read may stand -/
/-- a sky that may stand, its names too; the same but for the radius -/
def qnms (mc : Int) (nm : Int → Int) : Prop := ∀ j, 0 ≤ j → j < mc → 0 ≤ nm j ∧ nm j < 9223372036854775808
def qok (S : qS) : Prop := zval S.1 S.2.1 S.2.2.1 S.2.2.2.1 S.2.2.2.2.1 S.2.2.2.2.2.2.1 S.2.2.2.2.2.2.2 ∧ qnms S.2.2.2.1 S.2.2.2.2.2.1
theorem qnms_zin {mc : Int} {nm : Int → Int} (h : qnms mc nm) : ∀ j : Int, 0 ≤ j → j < mc → zinL (nm j) := fun j h0 h1 => by
  have h2 := h j h0 h1
  exact ⟨by omega, by omega⟩
theorem zsok_zin {mc sc : Int} {sn : Int → Int} (hm : mc ≤ 6) (h : ∀ j, 0 ≤ j → j < sc → zsok mc sn j) : ∀ j : Int, 0 ≤ j → j < sc → zin (sn (j * 3)) ∧ zin (sn (j * 3 + 1)) ∧ zin (sn (j * 3 + 2)) := fun j h0 h1 => by
  obtain ⟨a, b, c⟩ := h j h0 h1
  exact ⟨⟨by omega, by omega⟩, ⟨by omega, by omega⟩, ⟨by omega, by omega⟩⟩
theorem qNumsN_in {X : Int → Int} {n b : Int} : ∀ (j : Nat) (w P : Int) (f : Int → Int) (y : Int × (Int → Int)), P ≤ n → 0 ≤ w → w + j ≤ 5 → qNumsN X n b j w P f = .ok y → (P ≤ y.1 ∧ y.1 ≤ n) ∧ (∀ k, w ≤ k → k < w + j → zLow k ≤ y.2 (b + k) ∧ y.2 (b + k) ≤ zHigh k) ∧ (∀ k, ¬ (b + w ≤ k ∧ k < b + w + j) → y.2 k = f k)
  | 0, w, P, f, y, h, _, _, e => by cases e; exact ⟨⟨Int.le_refl _, h⟩, fun k a c => by omega, fun k _ => rfl⟩
  | j + 1, w, P, f, y, h, h0, h1, e => by
    unfold qNumsN at e
    cases e1 : qNum X n (zLow w) (zHigh w) P with
    | error c => rw [e1] at e; cases e
    | ok v =>
      rw [e1, qb_ok] at e
      have h2 := qNum_in h e1
      have h3 := qsp_in (X := X) h
      obtain ⟨⟨a1, a2⟩, a3, a4⟩ := qNumsN_in j (w + 1) v.1 (zU f (b + w) v.2) y h2.2.2.1 (by omega) (by omega) e
      refine ⟨⟨by omega, a2⟩, fun k k0 k1 => ?_, fun k hk => ?_⟩
      · by_cases hw : k = w
        · subst hw
          rw [a4 (b + k) (by omega), zU_s]
          exact h2.1
        · exact a3 k (by omega) (by omega)
      · rw [a4 k (by omega), zU_n (by omega)]
theorem qWide_in {X : Int → Int} {n b P : Int} {f : Int → Int} {y : Int × (Int → Int)} (h : P ≤ n) (e : qWide X n b P f = .ok y) : (P ≤ y.1 ∧ y.1 ≤ n) ∧ (y.2 = f ∨ ∃ v, (0 ≤ v ∧ v ≤ 99) ∧ y.2 = zU f (b + 5) v) := by
  have h3 := qsp_in (X := X) h
  unfold qWide at e
  split at e
  · rename_i hq
    have h4 := qwe_in (X := X) (n := n) h3.2
    rw [qis_len hq] at h4
    have h5 := wln_in 7 (by omega)
    cases e1 : qNum X n 0 99 (qsp X n P + wln 7) with
    | error c => rw [e1] at e; cases e
    | ok v =>
      rw [e1, qb_ok] at e
      cases e
      have h2 := qNum_in h4.2 e1
      have h6 := qsp_in (X := X) h4.2
      exact ⟨⟨by show P ≤ v.1; omega, h2.2.2.1⟩, .inr ⟨v.2, h2.1, rfl⟩⟩
  · cases e
    exact ⟨h3, .inl rfl⟩
theorem qMoonNums_in {X : Int → Int} {n b P : Int} {f : Int → Int} {z : Int × (Int → Int)} (h : P ≤ n) (e : qMoonNums X n b P f = .ok z) : (P ≤ z.1 ∧ z.1 ≤ n) ∧ zgok (fun w => z.2 (b + w)) ∧ (∀ k, ¬ (b ≤ k ∧ k < b + 6) → z.2 k = f k) := by
  unfold qMoonNums at e
  cases e1 : qNumsN X n b 5 0 P f with
  | error c => rw [e1] at e; cases e
  | ok y =>
    rw [e1, qb_ok] at e
    obtain ⟨a1, a3, a4⟩ := qNumsN_in 5 0 P f y h (by omega) (by omega) e1
    obtain ⟨b1, b2⟩ := qWide_in a1.2 e
    have g0 := a3 0 (by omega) (by omega)
    have g1 := a3 1 (by omega) (by omega)
    have g2 := a3 2 (by omega) (by omega)
    have g3 := a3 3 (by omega) (by omega)
    have g4 := a3 4 (by omega) (by omega)
    have ne : ∀ v : Int, ∀ k, k ≠ 5 → zU y.2 (b + 5) v (b + k) = y.2 (b + k) := fun v k hk => zU_n (by omega)
    have key : ∃ v, (0 ≤ v ∧ v ≤ 99) ∧ z.2 = zU y.2 (b + 5) v := by
      rcases b2 with q | ⟨v, q1, q2⟩
      · exact ⟨1, by omega, q⟩
      · refine ⟨v, q1, ?_⟩
        rw [q2]
        funext k
        unfold zU
        split <;> rfl
    obtain ⟨v, k1, k2⟩ := key
    refine ⟨⟨by omega, b1.2⟩, ?_, fun k hk => by rw [k2, zU_n (by omega), a4 k (by omega)]⟩
    rw [k2]
    have hz : ∀ w : Int, (fun w => zU y.2 (b + 5) v (b + w)) w = zU y.2 (b + 5) v (b + w) := fun _ => rfl
    unfold zgok
    simp only [hz]
    rw [ne v 0 (by omega), ne v 1 (by omega), ne v 2 (by omega), ne v 3 (by omega), ne v 4 (by omega), zU_s]
    exact ⟨g0, g1, g2, g3, g4, k1⟩
theorem zgok_of {mn : Int → Int} {b m : Int} (hb : b = m * 6) (h : zgok (fun w => mn (b + w))) : zgok (zg mn m) := by subst hb; exact h
theorem zval_moon {pr di dr mc sc : Int} {mn mn2 sn : Int → Int} (h : zval pr di dr mc sc mn sn) (hm : mc < 6) (h2 : zgok (zg mn2 mc)) (h3 : ∀ k, ¬ (mc * 6 ≤ k ∧ k < mc * 6 + 6) → mn2 k = mn k) : zval pr di dr (mc + 1) sc mn2 sn := by
  obtain ⟨a, b, c, d, e, f, g⟩ := h
  refine ⟨a, b, c, ⟨by omega, by omega⟩, e, fun m m0 m1 => ?_, fun j j0 j1 => ?_⟩
  · by_cases q : m = mc
    · rw [q]; exact h2
    · have hs : zg mn2 m = fun w => mn2 (m * 6 + w) := rfl
      have h4 := f m m0 (by omega)
      unfold zgok at h4 ⊢
      unfold zg at h4 ⊢
      rw [h3 (m * 6 + 0) (by omega), h3 (m * 6 + 1) (by omega), h3 (m * 6 + 2) (by omega), h3 (m * 6 + 3) (by omega), h3 (m * 6 + 4) (by omega), h3 (m * 6 + 5) (by omega)]
      exact h4
  · obtain ⟨q1, q2, q3⟩ := g j j0 j1
    exact ⟨⟨q1.1, by omega⟩, q2, q3⟩
theorem qnms_put {mc v : Int} {nm : Int → Int} (h : qnms mc nm) (hv : 0 ≤ v ∧ v < 9223372036854775808) : qnms (mc + 1) (zU nm mc v) := fun j j0 j1 => by
  by_cases q : j = mc
  · rw [q, zU_s]; exact hv
  · rw [zU_n q]; exact h j j0 (by omega)
theorem qMoon_in {X : Int → Int} {n P : Int} {S : qS} {y : Int × qS} (h : P ≤ n) (hS : qok S) (hX : ∀ j, n ≤ j → X j = 0) (e : qMoon X n S P = .ok y) : (P ≤ y.1 ∧ y.1 ≤ n) ∧ qok y.2 ∧ y.2.2.2.2.1 = S.2.2.2.1 + 1 ∧ S.2.2.2.1 < 6 ∧ y.2.2.2.2.2.1 = S.2.2.2.2.1 := by
  obtain ⟨pr, di, dr, mc, sc, nm, mn, sn⟩ := S
  unfold qMoon at e
  simp only at e
  split at e
  · cases e
  · rename_i hm
    cases e1 : qWord X n 6 P with
    | error c => rw [e1] at e; cases e
    | ok P1 =>
      rw [e1, qb_ok] at e
      obtain ⟨w1, w2, w3, w4⟩ := qWord_in h e1
      have w5 := qsp_in (X := X) h
      cases e2 : qName X n P1 with
      | error c => rw [e2] at e; cases e
      | ok nn =>
        rw [e2, qb_ok] at e
        obtain ⟨n1, n2, n3, n4, n5⟩ := qName_in w3 e2
        have n6 := qsp_in (X := X) w3
        have n7 := qpk_name w3 e2
        split at e
        · cases e
        · cases e3 : qMoonNums X n (mc * 6) nn.1 mn with
          | error c => rw [e3] at e; cases e
          | ok z =>
            rw [e3, qb_ok] at e
            obtain ⟨m1, m2, m3⟩ := qMoonNums_in n5 e3
            cases e4 : qSign X n 59 z.1 with
            | error c => rw [e4] at e; cases e
            | ok P5 =>
              rw [e4, qb_ok] at e
              obtain ⟨s1, s2, s3⟩ := qSign_in m1.2 hX (by omega) e4
              have s4 := qsp_in (X := X) m1.2
              split at e
              · cases e
                have hm6 : mc < 6 := by omega
                exact ⟨⟨by show P ≤ P5; omega, s3⟩, ⟨zval_moon hS.1 hm6 (zgok_of rfl m2) m3, qnms_put hS.2 n7⟩, rfl, hm6, rfl⟩
              · cases e
theorem qMoonsN_in {X : Int → Int} {n : Int} (hX : ∀ j, n ≤ j → X j = 0) : ∀ (k : Nat) (S : qS) (P : Int) (y : Int × qS), P ≤ n → qok S → qMoonsN X n k S P = .ok y → (P ≤ y.1 ∧ y.1 ≤ n) ∧ qok y.2 ∧ y.2.2.2.2.2.1 = S.2.2.2.2.1
  | 0, S, P, y, h, hS, e => by cases e; exact ⟨⟨Int.le_refl _, h⟩, hS, rfl⟩
  | k + 1, S, P, y, h, hS, e => by
    unfold qMoonsN at e
    split at e
    · cases e1 : qMoon X n S P with
      | error c => rw [e1] at e; cases e
      | ok z =>
        rw [e1, qb_ok] at e
        obtain ⟨a1, a2, a3, a4, a5⟩ := qMoon_in h hS hX e1
        obtain ⟨b1, b2, b3⟩ := qMoonsN_in hX k z.2 z.1 y a1.2 a2 e
        exact ⟨⟨by omega, b1.2⟩, b2, b3.trans a5⟩
    · cases e
      exact ⟨qsp_in h, hS, rfl⟩
theorem zput3_a {sn : Int → Int} {s mo k t j : Int} : zput3 sn s mo k t (j * 3) = (if j = s then mo else sn (j * 3)) ∧ zput3 sn s mo k t (j * 3 + 1) = (if j = s then k else sn (j * 3 + 1)) ∧ zput3 sn s mo k t (j * 3 + 2) = (if j = s then t else sn (j * 3 + 2)) := by
  unfold zput3 zU
  by_cases q : j = s
  · subst q
    simp only [if_pos]
    exact ⟨by rw [if_neg (by omega), if_neg (by omega)], by rw [if_neg (by omega)], trivial⟩
  · simp only [if_neg q]
    exact ⟨by rw [if_neg (by omega), if_neg (by omega), if_neg (by omega)], by rw [if_neg (by omega), if_neg (by omega), if_neg (by omega)], by rw [if_neg (by omega), if_neg (by omega), if_neg (by omega)]⟩
theorem zval_sight {pr di dr mc sc mo kd t : Int} {mn sn : Int → Int} (h : zval pr di dr mc sc mn sn) (hs : sc < 30) (h1 : 0 ≤ mo ∧ mo < mc) (h2 : 0 ≤ kd ∧ kd ≤ 3) (h3 : 1 ≤ t ∧ t ≤ 1000000) : zval pr di dr mc (sc + 1) mn (zput3 sn sc mo kd t) := by
  obtain ⟨a, b, c, d, e, f, g⟩ := h
  refine ⟨a, b, c, d, ⟨by omega, by omega⟩, f, fun j j0 j1 => ?_⟩
  obtain ⟨z1, z2, z3⟩ := zput3_a (sn := sn) (s := sc) (mo := mo) (k := kd) (t := t) (j := j)
  unfold zsok
  rw [z1, z2, z3]
  by_cases q : j = sc
  · simp only [if_pos q]
    exact ⟨h1, h2, h3⟩
  · simp only [if_neg q]
    exact g j j0 (by omega)
theorem znamed_in {nm : Int → Int} {mc w : Int} (h : znamed nm mc w ≠ -1) : 0 ≤ znamed nm mc w ∧ znamed nm mc w < mc := by
  rcases zfind_rng (q := fun j => decide (nm j = w)) (e := mc) _ 0 rfl with q | q
  · exact absurd q h
  · exact ⟨q.1, q.2.1⟩
theorem qSight_in {X : Int → Int} {n P : Int} {S : qS} {y : Int × qS} (h : P ≤ n) (hS : qok S) (hX : ∀ j, n ≤ j → X j = 0) (e : qSight X n S P = .ok y) : (P ≤ y.1 ∧ y.1 ≤ n) ∧ qok y.2 ∧ y.2.2.2.2.2.1 = S.2.2.2.2.1 + 1 ∧ S.2.2.2.2.1 < 30 ∧ y.2.2.2.2.1 = S.2.2.2.1 := by
  obtain ⟨pr, di, dr, mc, sc, nm, mn, sn⟩ := S
  unfold qSight at e
  simp only at e
  split at e
  · cases e
  · rename_i hm
    cases e1 : qWord X n 8 P with
    | error c => rw [e1] at e; cases e
    | ok P1 =>
      rw [e1, qb_ok] at e
      obtain ⟨w1, w2, w3, w4⟩ := qWord_in h e1
      have w5 := qsp_in (X := X) h
      have hsc : sc < 30 := by
        rcases Int.lt_or_le sc 30 with q | q
        · exact q
        · exact absurd ⟨w1, q⟩ hm
      cases e2 : qName X n P1 with
      | error c => rw [e2] at e; cases e
      | ok nn =>
        rw [e2, qb_ok] at e
        obtain ⟨n1, n2, n3, n4, n5⟩ := qName_in w3 e2
        have n6 := qsp_in (X := X) w3
        split at e
        · cases e
        · rename_i hnm
          have hin := znamed_in hnm
          cases e3 : qKind X n nn.1 with
          | error c => rw [e3] at e; cases e
          | ok k =>
            rw [e3, qb_ok] at e
            obtain ⟨k1, k2, k3⟩ := qKind_in n5 e3
            have k4 := qsp_in (X := X) n5
            cases e4 : qNum X n 1 1000000 k.1 with
            | error c => rw [e4] at e; cases e
            | ok t =>
              rw [e4, qb_ok] at e
              obtain ⟨t1, t2, t3, -⟩ := qNum_in k2 e4
              have t4 := qsp_in (X := X) k2
              split at e
              · cases e
              · cases e5 : qSign X n 59 t.1 with
                | error c => rw [e5] at e; cases e
                | ok P5 =>
                  rw [e5, qb_ok] at e
                  obtain ⟨s1, s2, s3⟩ := qSign_in t3 hX (by omega) e5
                  have s4 := qsp_in (X := X) t3
                  cases e
                  exact ⟨⟨by show P ≤ P5; omega, s3⟩, ⟨zval_sight hS.1 hsc hin k1 t1, hS.2⟩, rfl, hsc, rfl⟩
theorem qSightsN_in {X : Int → Int} {n : Int} (hX : ∀ j, n ≤ j → X j = 0) : ∀ (k : Nat) (S : qS) (P : Int) (y : Int × qS), P ≤ n → qok S → qSightsN X n k S P = .ok y → (P ≤ y.1 ∧ y.1 ≤ n) ∧ qok y.2
  | 0, S, P, y, h, hS, e => by cases e; exact ⟨⟨Int.le_refl _, h⟩, hS⟩
  | k + 1, S, P, y, h, hS, e => by
    unfold qSightsN at e
    split at e
    · cases e
      exact ⟨qsp_in h, hS⟩
    · cases e1 : qSight X n S P with
      | error c => rw [e1] at e; cases e
      | ok z =>
        rw [e1, qb_ok] at e
        obtain ⟨a1, a2, -⟩ := qSight_in h hS hX e1
        obtain ⟨b1, b2⟩ := qSightsN_in hX k z.2 z.1 y a1.2 a2 e
        exact ⟨⟨by omega, b1.2⟩, b2⟩
theorem qPlanet_in {X : Int → Int} {n P : Int} {S : qS} {y : Int × qS} (h : P ≤ n) (hX : ∀ j, n ≤ j → X j = 0) (hS : ∀ v, 1 ≤ v → v ≤ 999 → qok (v, S.2)) (e : qPlanet X n S P = .ok y) : (P ≤ y.1 ∧ y.1 ≤ n) ∧ qok y.2 := by
  unfold qPlanet at e
  cases e1 : qWord X n 4 P with
  | error c => rw [e1] at e; cases e
  | ok P1 =>
    rw [e1, qb_ok] at e
    obtain ⟨w1, w2, w3, w4⟩ := qWord_in h e1
    have w5 := qsp_in (X := X) h
    cases e4 : qNum X n 1 999 P1 with
    | error c => rw [e4] at e; cases e
    | ok t =>
      rw [e4, qb_ok] at e
      obtain ⟨t1, t2, t3, -⟩ := qNum_in w3 e4
      have t4 := qsp_in (X := X) w3
      cases e5 : qSign X n 59 t.1 with
      | error c => rw [e5] at e; cases e
      | ok P5 =>
        rw [e5, qb_ok] at e
        obtain ⟨s1, s2, s3⟩ := qSign_in t3 hX (by omega) e5
        have s4 := qsp_in (X := X) t3
        cases e
        exact ⟨⟨by show P ≤ P5; omega, s3⟩, hS _ t1.1 t1.2⟩
theorem qLight_in {X : Int → Int} {n P : Int} {S : qS} {y : Int × qS} (h : P ≤ n) (hX : ∀ j, n ≤ j → X j = 0) (hS : qok S) (e : qLight X n S P = .ok y) : (P ≤ y.1 ∧ y.1 ≤ n) ∧ qok y.2 := by
  obtain ⟨pr, di, dr, mc, sc, nm, mn, sn⟩ := S
  have w5 := qsp_in (X := X) h
  unfold qLight at e
  split at e
  · rename_i hq
    have h4 := qwe_in (X := X) (n := n) w5.2
    rw [qis_len hq] at h4
    have h5 := wln_in 5 (by omega)
    cases e1 : qNum X n 0 359 (qsp X n P + wln 5) with
    | error c => rw [e1] at e; cases e
    | ok t =>
      rw [e1, qb_ok] at e
      obtain ⟨t1, t2, t3, -⟩ := qNum_in h4.2 e1
      have t4 := qsp_in (X := X) h4.2
      have m1 := qMinus_in (X := X) t3 hX
      cases e4 : qNum X n 0 999 (qMinus X n t.1) with
      | error c => rw [e4] at e; cases e
      | ok z =>
        rw [e4, qb_ok] at e
        obtain ⟨z1, z2, z3, -⟩ := qNum_in m1.2 e4
        have z4 := qsp_in (X := X) m1.2
        cases e5 : qSign X n 59 z.1 with
        | error c => rw [e5] at e; cases e
        | ok P5 =>
          rw [e5, qb_ok] at e
          obtain ⟨s1, s2, s3⟩ := qSign_in z3 hX (by omega) e5
          have s4 := qsp_in (X := X) z3
          cases e
          obtain ⟨⟨v1, v2, v3, v4⟩, v5⟩ := hS
          refine ⟨⟨by show P ≤ P5; omega, s3⟩, ⟨v1, t1, ?_, v4⟩, v5⟩
          show -999 ≤ (if X (qsp X n t.1) = 45 then -z.2 else z.2) ∧ (if X (qsp X n t.1) = 45 then -z.2 else z.2) ≤ 999
          split <;> omega
  · cases e
    exact ⟨w5, hS⟩
/-! steps of the class's loops -/
theorem qKindN_hit {X : Int → Int} {n P k : Int} (h0 : 0 ≤ k) (h1 : k < 4) (hq : qis X n (qsp X n P) k.toNat = true) : qKindN X n (4 - k).toNat k.toNat P = .ok (qsp X n P + wln k.toNat, k) := by
  rw [show (4 - k).toNat = (4 - (k + 1)).toNat + 1 by omega, qKindN, if_pos hq, Int.toNat_of_nonneg h0]
theorem qKindN_next {X : Int → Int} {n P k : Int} (h0 : 0 ≤ k) (h1 : k < 4) (hq : qis X n (qsp X n P) k.toNat = false) : qKindN X n (4 - k).toNat k.toNat P = qKindN X n (4 - (k + 1)).toNat (k + 1).toNat (qsp X n P) := by
  rw [show (4 - k).toNat = (4 - (k + 1)).toNat + 1 by omega, show (k + 1).toNat = k.toNat + 1 by omega, qKindN, if_neg (by rw [hq]; decide)]
theorem qKindN_end {X : Int → Int} {n P k : Int} {j : Nat} (h : 4 ≤ k) : qKindN X n (4 - k).toNat j P = .error (-2, qsp X n P) := by
  rw [show (4 - k).toNat = 0 by omega, qKindN]
theorem qNumsN_next {X : Int → Int} {n b w P a v : Int} {f : Int → Int} (h : w < 5) (e : qNum X n (zLow w) (zHigh w) P = .ok (a, v)) : qNumsN X n b (5 - w).toNat w P f = qNumsN X n b (5 - (w + 1)).toNat (w + 1) a (zU f (b + w) v) := by
  rw [show (5 - w).toNat = (5 - (w + 1)).toNat + 1 by omega, qNumsN, e, qb_ok]
theorem qNumsN_err {X : Int → Int} {n b w P : Int} {f : Int → Int} {c : Int × Int} (h : w < 5) (e : qNum X n (zLow w) (zHigh w) P = .error c) : qNumsN X n b (5 - w).toNat w P f = .error c := by
  rw [show (5 - w).toNat = (5 - (w + 1)).toNat + 1 by omega, qNumsN, e, qb_er]
theorem qNumsN_end {X : Int → Int} {n b w P : Int} {f : Int → Int} (h : 5 ≤ w) : qNumsN X n b (5 - w).toNat w P f = .ok (P, f) := by
  rw [show (5 - w).toNat = 0 by omega, qNumsN]
theorem qWord_sp {X : Int → Int} {n P : Int} {k : Nat} (h : P ≤ n) : qWord X n k (qsp X n P) = qWord X n k P := by
  unfold qWord
  rw [qsp_idem h]
theorem qMoon_sp {X : Int → Int} {n P : Int} {S : qS} (h : P ≤ n) : qMoon X n S (qsp X n P) = qMoon X n S P := by
  unfold qMoon
  rw [qsp_idem h, qWord_sp h]
theorem qSight_sp {X : Int → Int} {n P : Int} {S : qS} (h : P ≤ n) : qSight X n S (qsp X n P) = qSight X n S P := by
  unfold qSight
  rw [qsp_idem h, qWord_sp h]
theorem qMoonsN_end {X : Int → Int} {n P k : Int} {S : qS} (h : 7 ≤ k) : qMoonsN X n (7 - k).toNat S P = .ok (P, S) := by
  rw [show (7 - k).toNat = 0 by omega, qMoonsN]
theorem qMoonsN_no {X : Int → Int} {n P k : Int} {S : qS} (h : k < 7) (hq : qis X n (qsp X n P) 6 = false) : qMoonsN X n (7 - k).toNat S P = .ok (qsp X n P, S) := by
  rw [show (7 - k).toNat = (7 - (k + 1)).toNat + 1 by omega, qMoonsN, if_neg (by rw [hq]; decide)]
theorem qMoonsN_yes {X : Int → Int} {n P k : Int} {S : qS} {y : Int × qS} (h : k < 7) (hq : qis X n (qsp X n P) 6 = true) (e : qMoon X n S P = .ok y) : qMoonsN X n (7 - k).toNat S P = qMoonsN X n (7 - (k + 1)).toNat y.2 y.1 := by
  rw [show (7 - k).toNat = (7 - (k + 1)).toNat + 1 by omega, qMoonsN, if_pos hq, e, qb_ok]
theorem qMoonsN_err {X : Int → Int} {n P k : Int} {S : qS} {c : Int × Int} (h : k < 7) (hq : qis X n (qsp X n P) 6 = true) (e : qMoon X n S P = .error c) : qMoonsN X n (7 - k).toNat S P = .error c := by
  rw [show (7 - k).toNat = (7 - (k + 1)).toNat + 1 by omega, qMoonsN, if_pos hq, e, qb_er]
theorem qSightsN_end {X : Int → Int} {n P k : Int} {S : qS} (h : 31 ≤ k) : qSightsN X n (31 - k).toNat S P = .ok (P, S) := by
  rw [show (31 - k).toNat = 0 by omega, qSightsN]
theorem qSightsN_stop {X : Int → Int} {n P k : Int} {S : qS} (h : k < 31) (hq : n ≤ qsp X n P) : qSightsN X n (31 - k).toNat S P = .ok (qsp X n P, S) := by
  rw [show (31 - k).toNat = (31 - (k + 1)).toNat + 1 by omega, qSightsN, if_pos hq]
theorem qSightsN_yes {X : Int → Int} {n P k : Int} {S : qS} {y : Int × qS} (h : k < 31) (hq : ¬ n ≤ qsp X n P) (e : qSight X n S P = .ok y) : qSightsN X n (31 - k).toNat S P = qSightsN X n (31 - (k + 1)).toNat y.2 y.1 := by
  rw [show (31 - k).toNat = (31 - (k + 1)).toNat + 1 by omega, qSightsN, if_neg hq, e, qb_ok]
theorem qSightsN_err {X : Int → Int} {n P k : Int} {S : qS} {c : Int × Int} (h : k < 31) (hq : ¬ n ≤ qsp X n P) (e : qSight X n S P = .error c) : qSightsN X n (31 - k).toNat S P = .error c := by
  rw [show (31 - k).toNat = (31 - (k + 1)).toNat + 1 by omega, qSightsN, if_neg hq, e, qb_er]
theorem znamed_rng {nm : Int → Int} {mc w : Int} : znamed nm mc w = -1 ∨ (0 ≤ znamed nm mc w ∧ znamed nm mc w < mc) := by
  by_cases h : znamed nm mc w = -1
  · exact .inl h
  · exact .inr (znamed_in h)
theorem qNum_rng {X : Int → Int} {n lo hi P a v : Int} (h : P ≤ n) (e : qNum X n lo hi P = .ok (a, v)) : (lo ≤ v ∧ v ≤ hi) ∧ P ≤ a ∧ a ≤ n := by
  have h1 := qNum_in h e
  have h2 := qsp_in (X := X) h
  exact ⟨h1.1, by have := h1.2.1; show P ≤ a; omega, h1.2.2.1⟩
theorem qWord_rng {X : Int → Int} {n P P1 : Int} {k : Nat} (h : P ≤ n) (e : qWord X n k P = .ok P1) : P ≤ P1 ∧ P1 ≤ n := by
  have h1 := qWord_in h e
  have h2 := qsp_in (X := X) h
  exact ⟨by omega, h1.2.2.1⟩
theorem qKind_rng {X : Int → Int} {n P a v : Int} (h : P ≤ n) (e : qKind X n P = .ok (a, v)) : (0 ≤ v ∧ v ≤ 3) ∧ P ≤ a ∧ a ≤ n := by
  have h1 := qKind_in h e
  have h2 := qsp_in (X := X) h
  exact ⟨h1.1, by have := h1.2.2; show P ≤ a; omega, h1.2.1⟩
theorem qName_rng {X : Int → Int} {n P e s : Int} (h : P ≤ n) (he : qName X n P = .ok (e, s)) : s = qsp X n P ∧ e = qwe X n s ∧ s < e ∧ e - s ≤ 8 ∧ e ≤ n ∧ P ≤ s ∧ (0 ≤ qpk X s e ∧ qpk X s e < 9223372036854775808) := by
  have h1 := qName_in h he
  have h2 := qsp_in (X := X) h
  exact ⟨h1.1, h1.2.1, h1.2.2.1, h1.2.2.2.1, h1.2.2.2.2, by have := h1.1; show P ≤ s; omega, qpk_name h he⟩
theorem qMoonNums_rng {X : Int → Int} {n b P a : Int} {f g : Int → Int} (h : P ≤ n) (e : qMoonNums X n b P f = .ok (a, g)) : (P ≤ a ∧ a ≤ n) ∧ zgok (fun w => g (b + w)) := ⟨(qMoonNums_in h e).1, (qMoonNums_in h e).2.1⟩
theorem qSign_rng {X : Int → Int} {n c P P1 : Int} (h : P ≤ n) (hX : ∀ j, n ≤ j → X j = 0) (hc : c ≠ 0) (e : qSign X n c P = .ok P1) : P ≤ P1 ∧ P1 ≤ n := by
  have h1 := qSign_in h hX hc e
  have h2 := qsp_in (X := X) h
  omega
theorem qok_0 {v : Int} {nm mn sn : Int → Int} (h1 : 1 ≤ v) (h2 : v ≤ 999) : qok (v, 0, 0, 0, 0, nm, mn, sn) := by
  refine ⟨⟨⟨h1, h2⟩, ?_, ?_, ?_, ?_, fun m m0 m1 => ?_, fun m m0 m1 => ?_⟩, fun m m0 m1 => ?_⟩
  · show (0 : Int) ≤ 0 ∧ (0 : Int) ≤ 359; omega
  · show (-999 : Int) ≤ 0 ∧ (0 : Int) ≤ 999; omega
  · show (0 : Int) ≤ 0 ∧ (0 : Int) ≤ 6; omega
  · show (0 : Int) ≤ 0 ∧ (0 : Int) ≤ 30; omega
  · have h : m < (0 : Int) := m1
    omega
  · have h : m < (0 : Int) := m1
    omega
  · have h : m < (0 : Int) := m1
    omega
