/-! class and reference, as the law keeps them side by side -/
def nS (O : zN8) : qS := (O.1.1, O.1.2.1, O.1.2.2.1, O.1.2.2.2.1, O.1.2.2.2.2, O.2.1, O.2.2.1, O.2.2.2)
theorem qN8_nS {O : zN8} : qN8 (nS O) = O := rfl
theorem nS_qN8 {S : qS} : nS (qN8 S) = S := rfl
/-- a sky and a row of the reference that tell the same -/
def zRN (O : zN8) (row : Int → Int) : Prop := qrel (nS O) row ∧ qok (nS O)
theorem zRN_of {O : zN8} {f g : Int → Int} (h : zRN O f) (hf : ∀ j, 0 ≤ j → j < 179 → g j = f j) : zRN O g := ⟨qrel_of h.1 h.2 hf, h.2⟩
/-- the kept skies: the j-th from the newest on each side -/
def zPst (P : Nat → Option zK) (cn en : Int) (fkp : Int → Int) (km : Int) : Prop := cn = km ∧ (0 ≤ km ∧ km ≤ 8) ∧ (0 ≤ en ∧ en < 8) ∧ ∀ j, 1 ≤ j → j ≤ km → ∃ ka O, P ((en + 8 - j) % 8).toNat = some (ka, O) ∧ zRN O (fun i => fkp (179 * (km - j) + i))
theorem zPst_keep {P P2 : Nat → Option zK} {cn en km cn2 en2 : Int} {fkp fa : Int → Int} {O : zN8} (h : zPst P cn en fkp km) (hO : zRN O fa) (hP : ∃ ka, P2 = zPu P en.toNat (ka, O)) (hc : cn2 = min (cn + 1) 8) (he : en2 = (en + 1) % 8) : zPst P2 cn2 en2 (zKp fkp km fa) (zKm km) := by
  obtain ⟨h1, h2, h3, h4⟩ := h
  obtain ⟨ka, rfl⟩ := hP
  have hk : zKm km = min (km + 1) 8 := by unfold zKm; split <;> omega
  refine ⟨by omega, by omega, by omega, fun j j1 j2 => ?_⟩
  by_cases q : j = 1
  · subst q
    refine ⟨ka, O, ?_, ?_⟩
    · rw [show ((en2 + 8 - 1) % 8).toNat = en.toNat by omega]
      exact zPu_s
    · refine zRN_of hO (fun i i0 i1 => ?_)
      show zKp fkp km fa (179 * (zKm km - 1) + i) = fa i
      unfold zKp
      by_cases c : km = 8
      · rw [if_pos c, zcy_in (by omega)]
        congr 1
        omega
      · rw [if_neg c, zcy_in (by omega)]
        congr 1
        omega
  · obtain ⟨ka3, O3, e3, r3⟩ := h4 (j - 1) (by omega) (by omega)
    refine ⟨ka3, O3, ?_, ?_⟩
    · rw [show ((en2 + 8 - j) % 8).toNat = ((en + 8 - (j - 1)) % 8).toNat by omega, zPu_ne (by omega)]
      exact e3
    · refine zRN_of r3 (fun i i0 i1 => ?_)
      show zKp fkp km fa (179 * (zKm km - j) + i) = fkp (179 * (km - (j - 1)) + i)
      unfold zKp
      by_cases c : km = 8
      · rw [if_pos c, zcy_out (by omega)]
        unfold zmv
        rw [if_pos (by omega)]
        congr 1
        omega
      · rw [if_neg c, zcy_out (by omega)]
        congr 1
        omega
theorem zPst_some {P : Nat → Option zK} {cn en km : Int} {fkp : Int → Int} (h : zPst P cn en fkp km) (hc : 1 ≤ cn) : ∃ ka O, P ((en + 7) % 8).toNat = some (ka, O) ∧ zRN O (fun i => fkp (179 * (km - 1) + i)) := by
  obtain ⟨h1, h2, h3, h4⟩ := h
  obtain ⟨ka, O, e, r⟩ := h4 1 (by omega) (by omega)
  rw [show (en + 8 - 1) % 8 = (en + 7) % 8 by omega] at e
  exact ⟨ka, O, e, r⟩
theorem zPst_undo {P : Nat → Option zK} {cn en km : Int} {fkp : Int → Int} (h : zPst P cn en fkp km) (hc : 1 ≤ cn) : zPst P (cn - 1) ((en + 7) % 8) fkp (km - 1) := by
  obtain ⟨h1, h2, h3, h4⟩ := h
  refine ⟨by omega, by omega, by omega, fun j j1 j2 => ?_⟩
  obtain ⟨ka, O, e, r⟩ := h4 (j + 1) (by omega) (by omega)
  refine ⟨ka, O, ?_, ?_⟩
  · rw [show ((en + 7) % 8 + 8 - j) % 8 = (en + 8 - (j + 1)) % 8 by omega]
    exact e
  · rw [show km - 1 - j = km - (j + 1) by omega]
    exact r
theorem zRN_back {O : zN8} {fa fkp : Int → Int} {d : Int} (h : zRN O (fun i => fkp (d + i))) : zRN O (zcy fa 0 fkp d 179) := zRN_of h (fun j j0 j1 => by
  rw [zcy_in (by omega)]
  show fkp (d + (j - 0)) = fkp (d + j)
  rw [Int.sub_zero])
/-- what is saved -/
def zSvd (U : Nat → Option zK) (fsv fsi : Int → Int) : Prop := ∀ sl : Int, 0 ≤ sl → sl < 2 → (U sl.toNat = none ∧ fsi sl = 0) ∨ ∃ ka O, U sl.toNat = some (ka, O) ∧ fsi sl = 1 ∧ zRN O (fun i => fsv (179 * sl + i))
theorem zSvd_save {U : Nat → Option zK} {fsv fsi fa : Int → Int} {O : zN8} {sl : Int} (h : zSvd U fsv fsi) (hO : zRN O fa) (h0 : 0 ≤ sl) (h1 : sl < 2) (ka : Nat × Nat × Nat × Nat) : zSvd (zPu U sl.toNat (ka, O)) (zcy fsv (179 * sl) fa 0 179) (zU fsi sl (zb true)) := fun s2 s0 s1 => by
  by_cases q : s2 = sl
  · subst q
    refine .inr ⟨ka, O, zPu_s, zU_s _ _ _, zRN_of hO (fun i i0 i1 => ?_)⟩
    show zcy fsv (179 * s2) fa 0 179 (179 * s2 + i) = fa i
    rw [zcy_in (by omega)]
    congr 1
    omega
  · rw [zPu_ne (show s2.toNat ≠ sl.toNat by omega), zU_n q]
    rcases h s2 s0 s1 with h9 | ⟨ka9, O9, e1, e2, e3⟩
    · exact .inl h9
    · refine .inr ⟨ka9, O9, e1, e2, zRN_of e3 (fun i i0 i1 => ?_)⟩
      show zcy fsv (179 * sl) fa 0 179 (179 * s2 + i) = fsv (179 * s2 + i)
      rw [zcy_out (by omega)]
theorem zSvd_none {U : Nat → Option zK} {fsv fsi : Int → Int} {sl : Int} (h : zSvd U fsv fsi) (h0 : 0 ≤ sl) (h1 : sl < 2) : U sl.toNat = none ↔ fsi sl = 0 := by
  rcases h sl h0 h1 with ⟨e1, e2⟩ | ⟨ka, O, e1, e2, -⟩
  · exact ⟨fun _ => e2, fun _ => e1⟩
  · exact ⟨fun z => absurd (e1.symm.trans z) (fun z9 => by cases z9), fun z => by omega⟩
theorem zSvd_some {U : Nat → Option zK} {fsv fsi : Int → Int} {sl : Int} {k2 : Nat × Nat × Nat × Nat} {O : zN8} (h : zSvd U fsv fsi) (h0 : 0 ≤ sl) (h1 : sl < 2) (hU : U sl.toNat = some (k2, O)) : zRN O (fun i => fsv (179 * sl + i)) ∧ fsi sl = 1 := by
  rcases h sl h0 h1 with ⟨e1, -⟩ | ⟨ka, O9, e1, e2, e3⟩
  · rw [e1] at hU; cases hU
  · rw [e1] at hU
    cases hU
    exact ⟨e3, e2⟩
/-- two texts that agree -/
theorem zTt_eq {f g : Int → Int} {n : Int} (h : ∀ j, 0 ≤ j → j < n → f j = g j) : zTt f n = zTt g n := by
  funext j
  unfold zTt
  by_cases q : 0 ≤ j ∧ j < n
  · rw [if_pos q, if_pos q, h j q.1 q.2]
  · rw [if_neg q, if_neg q]
theorem qtext_eq {f g : Int → Int} {n : Int} (h : ∀ j, 0 ≤ j → j < n → f j = g j) (hf : qtext f n) : qtext g n := ⟨hf.1, fun j j0 j1 => by rw [← h j j0 j1]; exact hf.2 j j0 j1⟩
/-- loading, on both sides -/
theorem load_both {r : qE (Int × qS)} {P P2 : Nat → Option zK} {cn en cn2 en2 er2 ea2 wr2 ea3 km km2 : Int} {O N2 : zN8} {fa fas fkp fa2 fkp2 : Int → Int} (hc : zLd r P P2 cn en cn2 en2 O N2 er2 ea2) (hr : qfin r fa fas fkp km wr2 ea3 fa2 fkp2 km2) (hO : zRN O fa) (hP : zPst P cn en fkp km) : er2 = wr2 ∧ ea2 = ea3 ∧ zRN N2 fa2 ∧ zPst P2 cn2 en2 fkp2 km2 := by
  cases r with
  | ok y =>
    obtain ⟨c1, c2, c3, c4, c5, c6⟩ := hc
    obtain ⟨r1, r2, r3, r4, r5, r6⟩ := hr
    refine ⟨by omega, by omega, ?_, ?_⟩
    · rw [c3]
      exact ⟨r3, r4⟩
    · rw [r5, r6]
      refine zPst_keep hP (zRN_of hO (fun j j0 j1 => ?_)) c4 c5 c6
      rw [zcy_in (by omega)]
      congr 1
      omega
  | error c =>
    obtain ⟨c1, c2, c3, c4, c5, c6⟩ := hc
    obtain ⟨r1, r2, r3, r4, r5⟩ := hr
    have h1 := c1.1
    have h2 := r1.1
    refine ⟨by omega, by omega, ?_, ?_⟩
    · rw [c3]
      exact zRN_of hO r3
    · rw [c4, c5, c6, r4, r5]
      exact hP
