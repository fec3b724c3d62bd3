/-! what a change does, on both sides -/
theorem zgok_c {g g2 : Int → Int} (h : ∀ w, 0 ≤ w → w < 6 → g2 w = g w) (hg : zgok g) : zgok g2 := by
  unfold zgok at hg ⊢
  rw [h 0 (by omega) (by omega), h 1 (by omega) (by omega), h 2 (by omega) (by omega), h 3 (by omega) (by omega), h 4 (by omega) (by omega), h 5 (by omega) (by omega)]
  exact hg
section CHG
variable {pr di dr mc sc : Int} {nm mn sn fa : Int → Int}
theorem zRN_see {mo kd t : Int} (h : zRN ((pr, di, dr, mc, sc), nm, mn, sn) fa) (hs : sc < 30) (h1 : 0 ≤ mo ∧ mo < mc) (h2 : 0 ≤ kd ∧ kd ≤ 3) (h3 : 1 ≤ t ∧ t ≤ 1000000) : zRN ((pr, di, dr, mc, sc + 1), nm, mn, zput3 sn sc mo kd t) (zU (zU (zU (zU fa (89 + 3 * fa 4) mo) (89 + 3 * fa 4 + 1) kd) (89 + 3 * fa 4 + 2) t) 4 (fa 4 + 1)) := by
  obtain ⟨hr, hS⟩ := h
  have e4 : sc = fa 4 := hr.1.1.2.2.2.2
  have s0 : 0 ≤ sc := hS.1.2.2.2.2.1.1
  refine ⟨qrel_sight (pr := pr) (di := di) (dr := dr) (mc := mc) (sc := sc) (nm := nm) (mn := mn) (sn := sn) (mo := mo) (kd := kd) (t := t) hr hS hs (fun j j0 j1 j4 => ?_) ?_ ?_ ?_ ?_, zval_sight hS.1 hs h1 h2 h3, hS.2⟩
  · rw [zU_n j4, zU_n (by omega), zU_n (by omega), zU_n (by omega)]
  · rw [zU_s]
  · rw [zU_n (by omega), zU_n (by omega), zU_n (by omega), ← e4, zU_s]
  · rw [zU_n (by omega), zU_n (by omega), ← e4, zU_s]
  · rw [zU_n (by omega), ← e4, zU_s]
theorem zRN_light {vi vr : Int} (h : zRN ((pr, di, dr, mc, sc), nm, mn, sn) fa) (h1 : 0 ≤ vi ∧ vi ≤ 359) (h2 : -999 ≤ vr ∧ vr ≤ 999) : zRN ((pr, vi, vr, mc, sc), nm, mn, sn) (zU (zU fa 1 vi) 2 vr) := by
  obtain ⟨hr, hS⟩ := h
  obtain ⟨⟨v0, v1, v2, v3⟩, hn⟩ := hS
  exact ⟨qrel_light hr vi vr, ⟨v0, h1, h2, v3⟩, hn⟩
theorem zRN_set {mo wh v : Int} (h : zRN ((pr, di, dr, mc, sc), nm, mn, sn) fa) (h1 : 0 ≤ mo ∧ mo < mc) (h2 : 0 ≤ wh ∧ wh ≤ 5) (h3 : zLow wh ≤ v ∧ v ≤ zHigh wh) : zRN ((pr, di, dr, mc, sc), nm, zU mn (mo * 6 + wh) v, sn) (zU fa (5 + 14 * mo + wh) v) := by
  obtain ⟨hr, hS⟩ := h
  obtain ⟨⟨v0, v1, v2, v3, v4, v5, v6⟩, hn⟩ := hS
  obtain ⟨⟨⟨e0, e1, e2, e3, e4⟩, r1, r2⟩, r3⟩ := hr
  simp only [nS] at e0 e1 e2 e3 e4 r1 r2 r3 v0 v1 v2 v3 v4 v5 v6 hn
  have d : ∀ j, 0 ≤ j → j < 5 → zU fa (5 + 14 * mo + wh) v j = fa j := fun j a b => zU_n (by omega)
  refine ⟨⟨⟨⟨by rw [d 0 (by omega) (by omega)]; exact e0, by rw [d 1 (by omega) (by omega)]; exact e1, by rw [d 2 (by omega) (by omega)]; exact e2, by rw [d 3 (by omega) (by omega)]; exact e3, by rw [d 4 (by omega) (by omega)]; exact e4⟩, fun m a b k k0 k1 => ?_, fun j a b k k0 k1 => ?_⟩, fun m a b => ?_⟩, ⟨v0, v1, v2, v3, v4, fun m a b => ?_, v6⟩, hn⟩
  · rw [d 3 (by omega) (by omega)] at b
    show zU mn (mo * 6 + wh) v (m * 6 + k) = zU fa (5 + 14 * mo + wh) v (5 + 14 * m + k)
    by_cases q : m = mo ∧ k = wh
    · rw [q.1, q.2, zU_s, zU_s]
    · rw [zU_n (by omega), zU_n (by omega)]
      exact r1 m a b k k0 k1
  · rw [d 4 (by omega) (by omega)] at b
    show sn (j * 3 + k) = zU fa (5 + 14 * mo + wh) v (89 + 3 * j + k)
    rw [zU_n (by omega)]
    exact r2 j a b k k0 k1
  · rw [d 3 (by omega) (by omega)] at b
    exact ynm_of (r3 m a b) (fun k k0 k1 => zU_n (by omega))
  · replace b : m < mc := b
    by_cases q : m = mo
    · rw [q]
      exact zset_gok (v5 mo h1.1 h1.2) h2.1 h2.2 h3
    · exact zgok_c (fun w w0 w1 => zU_n (by omega)) (v5 m a b)
theorem zRN_turn {mo v : Int} (h : zRN ((pr, di, dr, mc, sc), nm, mn, sn) fa) (h1 : 0 ≤ mo ∧ mo < mc) : zRN ((pr, di, dr, mc, sc), nm, ztn mn mo v, sn) (ytn fa mo v) := by
  have e3 : mc = fa 3 := h.1.1.1.2.2.2.1
  have e : mn (mo * 6 + 4) = fa (5 + 14 * mo + 4) := h.1.1.2.1 mo h1.1 (by omega) 4 (by omega) (by omega)
  unfold ztn ytn
  rw [e]
  exact zRN_set h h1 (by omega) (show (0 : Int) ≤ _ ∧ _ ≤ (359 : Int) by omega)
theorem zRN_forget {si : Int} (h : zRN ((pr, di, dr, mc, sc), nm, mn, sn) fa) (h1 : 0 ≤ si ∧ si < sc) : zRN ((pr, di, dr, mc, sc - 1), nm, mn, zdrop sn si sc) (zU (zsh fa (89 + 3 * si) 176) 4 (fa 4 - 1)) := by
  obtain ⟨hr, hS⟩ := h
  obtain ⟨⟨v0, v1, v2, v3, v4, v5, v6⟩, hn⟩ := hS
  obtain ⟨⟨⟨e0, e1, e2, e3, e4⟩, r1, r2⟩, r3⟩ := hr
  simp only [nS] at e0 e1 e2 e3 e4 r1 r2 r3 v0 v1 v2 v3 v4 v5 v6 hn
  have d : ∀ j, j < 89 → j ≠ 4 → zU (zsh fa (89 + 3 * si) 176) 4 (fa 4 - 1) j = fa j := fun j a b => by
    rw [zU_n b]
    exact if_neg (by omega)
  have s : ∀ j k, 0 ≤ j → j < sc - 1 → 0 ≤ k → k < 3 → zdrop sn si sc (j * 3 + k) = sn ((if j < si then j else j + 1) * 3 + k) := fun j k a b k0 k1 => by
    unfold zdrop
    by_cases q : j < si
    · rw [if_pos q, if_neg (by omega)]
    · rw [if_neg q, if_pos (by omega)]
      congr 1
      omega
  refine ⟨⟨⟨⟨by rw [d 0 (by omega) (by omega)]; exact e0, by rw [d 1 (by omega) (by omega)]; exact e1, by rw [d 2 (by omega) (by omega)]; exact e2, by rw [d 3 (by omega) (by omega)]; exact e3, by rw [zU_s]; show sc - 1 = _; omega⟩, fun m a b k k0 k1 => ?_, fun j a b k k0 k1 => ?_⟩, fun m a b => ?_⟩, ⟨v0, v1, v2, v3, (show 0 ≤ sc - 1 ∧ sc - 1 ≤ 30 by omega), v5, fun j a b => ?_⟩, hn⟩
  · rw [d 3 (by omega) (by omega)] at b
    show mn (m * 6 + k) = zU (zsh fa (89 + 3 * si) 176) 4 (fa 4 - 1) (5 + 14 * m + k)
    rw [d _ (by omega) (by omega)]
    exact r1 m a b k k0 k1
  · rw [zU_s] at b
    show zdrop sn si sc (j * 3 + k) = zU (zsh fa (89 + 3 * si) 176) 4 (fa 4 - 1) (89 + 3 * j + k)
    rw [s j k a (by omega) k0 k1, zU_n (by omega)]
    by_cases q : j < si
    · rw [if_pos q, r2 j a (by omega) k k0 k1]
      exact (if_neg (by omega)).symm
    · rw [if_neg q, r2 (j + 1) (by omega) (by omega) k k0 k1]
      refine Eq.trans ?_ (if_pos (by omega)).symm
      congr 1
      omega
  · rw [d 3 (by omega) (by omega)] at b
    exact ynm_of (r3 m a b) (fun k k0 k1 => d _ (by omega) (by omega))
  · replace b : j < sc - 1 := b
    have s0 := s j 0 a b (by omega) (by omega)
    have s1 := s j 1 a b (by omega) (by omega)
    have s2 := s j 2 a b (by omega) (by omega)
    have h9 := v6 (if j < si then j else j + 1) (by split <;> omega) (by split <;> omega)
    rw [Int.add_zero, Int.add_zero] at s0
    show zsok mc (zdrop sn si sc) j
    unfold zsok at h9 ⊢
    rw [s0, s1, s2]
    exact h9
end CHG
