/-! what the law keeps, under each command -/
theorem zets_len {nl : Int → List Int} {mc : Int} (h : ∀ m, (nl m).length ≤ 8) : ∀ (l : List (Int × Int × Int)) (k : Int), (∀ x ∈ l, zevok mc x) → (zets nl k l).length ≤ 22 * l.length
  | [], _, _ => Nat.le_refl _
  | x :: l, k, hx => by
    have h1 := (hx x List.mem_cons_self).2.2
    have h2 := zets_len h l (k + 1) (fun y hy => hx y (List.mem_cons_of_mem x hy))
    have h3 := (zdgN_len 6 x.1).2
    have h4 := zwd_len (k := x.2.2.toNat) (by omega)
    have h5 := h x.2.1
    have h6 : (if 0 < k then [(44 : Int)] else []).length ≤ 1 := by split <;> decide
    show (zent nl k x ++ zets nl (k + 1) l).length ≤ 22 * (l.length + 1)
    unfold zent
    simp only [List.length_append, List.length_cons, List.length_nil]
    omega
theorem zets_440 {nm : Int → Int} {ev : Int → Int → Int → Bool} {mc a b : Int} {f : Int → Int} (hm : 0 ≤ mc) (ha : 1 ≤ a) (hb : b ≤ 1000000) : 0 ≤ (zpl2 (zets (fun m => znbN (fun j => zand (zlshr (nm m) (56 - 8 * j)) 255) 8 0) 0 (List.take 20 (zlT ev mc a b))) (0, f)).1 ∧ (zpl2 (zets (fun m => znbN (fun j => zand (zlshr (nm m) (56 - 8 * j)) 255) 8 0) 0 (List.take 20 (zlT ev mc a b))) (0, f)).1 ≤ 440 := by
  have h1 := zets_len (nl := fun m => znbN (fun j => zand (zlshr (nm m) (56 - 8 * j)) 255) 8 0) (mc := mc) (fun m => znbN_len _ 8 0) (List.take 20 (zlT ev mc a b)) 0 (fun x hx => zlT_ok hm ha hb x (List.mem_of_mem_take hx))
  have h2 : (List.take 20 (zlT ev mc a b)).length ≤ 20 := by rw [List.length_take]; omega
  have h3 : ∀ l : List Int, (zpl2 l (0, f)).1 = (l.length : Int) := fun l => (zpl2_n l (0, f)).trans (Int.zero_add _)
  rw [h3]
  constructor <;> omega
theorem ev_iff {a b wh : Int} : ((1 ≤ a ∧ a ≤ 1000000 ∧ a ≤ b ∧ b ≤ a + 2000 ∧ b ≤ 1000000) ∧ (0 ≤ wh ∧ wh ≤ 2)) ↔ ((1 ≤ a ∧ a ≤ 1000000) ∧ (a ≤ b ∧ b ≤ 1000000) ∧ b - a ≤ 2000 ∧ (0 ≤ wh ∧ wh ≤ 2)) := by
  constructor <;> intro h <;> omega
theorem un_iff {cn km : Int} (h : cn = km) (h0 : 0 ≤ km) : 1 ≤ cn ↔ km ≠ 0 := by
  constructor <;> intro h2 <;> omega
theorem un_an {cn km : Int} (h : cn = km) (h1 : 1 ≤ cn) : cn - 1 = if km = 0 then 0 else km - 1 := by
  rw [if_neg (by omega), h]
theorem svd_zin {U : Nat → Option zK} {fsv fsi : Int → Int} (h : zSvd U fsv fsi) : ∀ j : Int, 0 ≤ j → j ≤ 1 → zin (fsi j) := fun j h0 h1 => by
  rcases h j h0 (by omega) with ⟨-, e⟩ | ⟨-, -, -, e, -⟩ <;> rw [e] <;> exact ⟨by decide, by decide⟩
section KEEPS
variable {O N2 N : zN8} {fa fa9 f : Int → Int} {P P2 : Nat → Option zK} {cn en cn2 en2 : Int} {fkp fkp9 : Int → Int} {km km9 : Int} {U U2 : Nat → Option zK} {fsv fsi fsv9 fsi9 : Int → Int} {rn bu : Int} {fb fbf : Int → Int} {xl wm : Int} {fxb fwt : Int → Int} {rea ea : Int}
theorem inv_acc (I : zINV O fa P cn en fkp km U fsv fsi rn fb bu fbf xl fxb wm fwt rea ea) (acc : zAcc P P2 cn en cn2 en2 O N2 N) (hN : zRN N f) (h1 : fa9 = f) (h2 : fkp9 = zKp fkp km fa) (h3 : km9 = zKm km) : zINV N2 fa9 P2 cn2 en2 fkp9 km9 U fsv fsi rn fb bu fbf xl fxb wm fwt rea ea := by
  obtain ⟨i1, i2, i3⟩ := I
  obtain ⟨a1, a2, a3, a4⟩ := acc
  refine ⟨by rw [a1, h1]; exact hN, ?_, i3⟩
  rw [h2, h3]
  exact zPst_keep i2 i1 a2 a3 a4
theorem inv_sta (I : zINV O fa P cn en fkp km U fsv fsi rn fb bu fbf xl fxb wm fwt rea ea) (sta : zSta P P2 cn en cn2 en2 O N2) (h1 : fa9 = fa) (h2 : fkp9 = fkp) (h3 : km9 = km) : zINV N2 fa9 P2 cn2 en2 fkp9 km9 U fsv fsi rn fb bu fbf xl fxb wm fwt rea ea := by
  obtain ⟨a1, a2, a3, a4⟩ := sta
  rw [a1, a2, a3, a4, h1, h2, h3]
  exact I
theorem inv_undo (I : zINV O fa P cn en fkp km U fsv fsi rn fb bu fbf xl fxb wm fwt rea ea) (h1 : 1 ≤ cn) (hc : cn2 = cn - 1) (he : en2 = (en + 7) % 8) (hP : ∃ ka, P ((en + 7) % 8).toNat = some (ka, N)) (h2 : fa9 = zcy fa 0 fkp (179 * (km - 1)) 179) (h3 : km9 = km - 1) : zINV N fa9 P cn2 en2 fkp km9 U fsv fsi rn fb bu fbf xl fxb wm fwt rea ea := by
  obtain ⟨i1, i2, i3⟩ := I
  obtain ⟨ka, e1⟩ := hP
  obtain ⟨k2, O2, e2, r2⟩ := zPst_some i2 h1
  rw [e1] at e2
  cases e2
  refine ⟨by rw [h2]; exact zRN_back r2, ?_, i3⟩
  rw [hc, he, h3]
  exact zPst_undo i2 h1
theorem inv_same (I : zINV O fa P cn en fkp km U fsv fsi rn fb bu fbf xl fxb wm fwt rea ea) (h1 : cn2 = cn) (h2 : en2 = en) (h3 : N = O) (h4 : fa9 = fa) (h5 : km9 = km) : zINV N fa9 P cn2 en2 fkp km9 U fsv fsi rn fb bu fbf xl fxb wm fwt rea ea := by
  rw [h1, h2, h3, h4, h5]
  exact I
theorem inv_save {sl : Int} (I : zINV O fa P cn en fkp km U fsv fsi rn fb bu fbf xl fxb wm fwt rea ea) (h : 0 ≤ sl ∧ sl < 2) (hU : ∃ ka, U2 = zPu U sl.toNat (ka, O)) (h1 : fsv9 = zcy fsv (179 * sl) fa 0 179) (h2 : fsi9 = zU fsi sl (zb true)) : zINV O fa P cn en fkp km U2 fsv9 fsi9 rn fb bu fbf xl fxb wm fwt rea ea := by
  obtain ⟨i1, i2, i3, i4⟩ := I
  obtain ⟨ka, e⟩ := hU
  refine ⟨i1, i2, ?_, i4⟩
  rw [e, h1, h2]
  exact zSvd_save i3 i1 h.1 h.2 ka
theorem inv_svsame (I : zINV O fa P cn en fkp km U fsv fsi rn fb bu fbf xl fxb wm fwt rea ea) (h1 : U2 = U) (h2 : fsv9 = fsv) (h3 : fsi9 = fsi) : zINV O fa P cn en fkp km U2 fsv9 fsi9 rn fb bu fbf xl fxb wm fwt rea ea := by
  rw [h1, h2, h3]
  exact I
theorem inv_append {a b c d e n2 bu2 : Int} {fb2 fbf2 : Int → Int} (I : zINV O fa P cn en fkp km U fsv fsi rn fb bu fbf xl fxb wm fwt rea ea) (hn : rn + zbn (zB20 a b c d e) 20 0 ≤ 600) (h1 : (n2, fb2) = zap (zB20 a b c d e) 20 0 rn fb) (h2 : (bu2, fbf2) = zap (zB20 a b c d e) 20 0 bu fbf) : zINV O fa P cn en fkp km U fsv fsi n2 fb2 bu2 fbf2 xl fxb wm fwt rea ea := by
  obtain ⟨i1, i2, i3, ⟨i4, i5, i6⟩, i7⟩ := I
  rw [← i4] at h2
  obtain ⟨b1, b2, b3⟩ := append_both (a := a) (b := b) (c := c) (d := d) (e := e) i5 i6 hn
  have c1 : n2 = (zap (zB20 a b c d e) 20 0 rn fb).1 := congrArg Prod.fst h1
  have c2 : fb2 = (zap (zB20 a b c d e) 20 0 rn fb).2 := congrArg Prod.snd h1
  have c3 : bu2 = (zap (zB20 a b c d e) 20 0 rn fbf).1 := congrArg Prod.fst h2
  have c4 : fbf2 = (zap (zB20 a b c d e) 20 0 rn fbf).2 := congrArg Prod.snd h2
  refine ⟨i1, i2, i3, ⟨?_, ?_, ?_⟩, i7⟩
  · rw [c1, c3]; exact b1
  · rw [c1, c2, c4]; exact b2
  · rw [c1, c2]; exact b3
theorem an_append {a b c d e bu2 : Int} {fbf2 : Int → Int} (I : zINV O fa P cn en fkp km U fsv fsi rn fb bu fbf xl fxb wm fwt rea ea) (h2 : (bu2, fbf2) = zap (zB20 a b c d e) 20 0 bu fbf) : (zap (zB20 a b c d e) 20 0 rn fb).1 = bu2 := by
  have c3 : bu2 = (zap (zB20 a b c d e) 20 0 bu fbf).1 := congrArg Prod.fst h2
  rw [c3, zap_n, zap_n, I.2.2.2.1.1]
theorem inv_apsame {n2 bu2 : Int} {fb2 fbf2 : Int → Int} (I : zINV O fa P cn en fkp km U fsv fsi rn fb bu fbf xl fxb wm fwt rea ea) (h1 : n2 = rn) (h2 : fb2 = fb) (h3 : bu2 = bu) (h4 : fbf2 = fbf) : zINV O fa P cn en fkp km U fsv fsi n2 fb2 bu2 fbf2 xl fxb wm fwt rea ea := by
  rw [h1, h2, h3, h4]
  exact I
theorem inv_write {pr di dr mc sc a b xl2 wm2 : Int} {nm mn sn fxb2 fwt2 : Int → Int} (I : zINV ((pr, di, dr, mc, sc), nm, mn, sn) fa P cn en fkp km U fsv fsi rn fb bu fbf xl fxb wm fwt rea ea) (ha : 1 ≤ a ∧ a ≤ 1000000 ∧ a ≤ b ∧ b ≤ a + 2000 ∧ b ≤ 1000000) (h1 : (xl2, fxb2) = zpl2 (zets (fun m => znbN (fun j => zand (zlshr (nm m) (56 - 8 * j)) 255) 8 0) 0 (List.take 20 (zlT (zEV pr di dr mn) mc a b))) (0, fxb)) (h2 : (wm2, fwt2) = zpl2 (zets (fun m => znlN (fun k => ya fa m (6 + k)) 8 0) 0 (List.take 20 (zlT (zyEV fa) (fa 3) a b))) (0, fwt)) : zINV ((pr, di, dr, mc, sc), nm, mn, sn) fa P cn en fkp km U fsv fsi rn fb bu fbf xl2 fxb2 wm2 fwt2 rea ea := by
  obtain ⟨i1, i2, i3, i4, -, i6⟩ := I
  rw [← rn_table i1 ha.1 ha.2.2.2.2] at h2
  have hb := zets_440 (nm := nm) (ev := zEV pr di dr mn) (mc := mc) (f := fxb) (rn_zval i1).2.2.2.1.1 ha.1 ha.2.2.2.2
  generalize hl : zets (fun m => znbN (fun j => zand (zlshr (nm m) (56 - 8 * j)) 255) 8 0) 0 (List.take 20 (zlT (zEV pr di dr mn) mc a b)) = l at h1 h2 hb
  have t := text_both (l := l) (f := fxb) (g := fwt)
  have c1 : xl2 = (zpl2 l (0, fxb)).1 := congrArg Prod.fst h1
  have c2 : fxb2 = (zpl2 l (0, fxb)).2 := congrArg Prod.snd h1
  have c3 : wm2 = (zpl2 l (0, fwt)).1 := congrArg Prod.fst h2
  have c4 : fwt2 = (zpl2 l (0, fwt)).2 := congrArg Prod.snd h2
  refine ⟨i1, i2, i3, i4, ⟨?_, ?_, ?_, ?_⟩, i6⟩
  · rw [c1, c3]; exact t.1
  · rw [c1, c2, c4]; exact t.2
  · rw [c1]; exact hb.1
  · rw [c1]; exact hb.2
theorem an_write {pr di dr mc sc a b : Int} {nm mn sn f1 f2 : Int → Int} (h : zRN ((pr, di, dr, mc, sc), nm, mn, sn) fa) (ha : 1 ≤ a ∧ a ≤ 1000000 ∧ a ≤ b ∧ b ≤ a + 2000 ∧ b ≤ 1000000) : (zpl2 (zets (fun m => znbN (fun j => zand (zlshr (nm m) (56 - 8 * j)) 255) 8 0) 0 (List.take 20 (zlT (zEV pr di dr mn) mc a b))) (0, f1)).1 = (zpl2 (zets (fun m => znlN (fun k => ya fa m (6 + k)) 8 0) 0 (List.take 20 (zlT (zyEV fa) (fa 3) a b))) (0, f2)).1 := by
  rw [← rn_table h ha.1 ha.2.2.2.2, zpl2_n, zpl2_n]
theorem inv_wrsame {xl2 wm2 : Int} {fxb2 fwt2 : Int → Int} (I : zINV O fa P cn en fkp km U fsv fsi rn fb bu fbf xl fxb wm fwt rea ea) (h1 : xl2 = xl) (h2 : fxb2 = fxb) (h3 : (wm2, fwt2) = (wm, fwt)) : zINV O fa P cn en fkp km U fsv fsi rn fb bu fbf xl2 fxb2 wm2 fwt2 rea ea := by
  cases h3
  rw [h1, h2]
  exact I
theorem inv_load {r : qE (Int × qS)} {er2 ea2 wr2 ea3 : Int} {fa2 fkp2 fas fb2 fbf2 : Int → Int} {km2 : Int} (I : zINV O fa P cn en fkp km U fsv fsi rn fb bu fbf xl fxb wm fwt rea ea) (hc : zLd r P P2 cn en cn2 en2 O N2 er2 ea2) (hr : qfin r fa fas fkp km wr2 ea3 fa2 fkp2 km2) : er2 = wr2 ∧ zINV N2 fa2 P2 cn2 en2 fkp2 km2 U fsv fsi 0 fb2 0 fbf2 xl fxb wm fwt ea2 ea3 := by
  obtain ⟨i1, i2, i3, i4, i5, i6⟩ := I
  obtain ⟨a1, a2, a3, a4⟩ := load_both hc hr i1 i2
  exact ⟨a1, a3, a4, i3, ⟨rfl, fun j h0 h1 => by omega, qtext_0⟩, i5, a2⟩
theorem inv_text (I : zINV O fa P cn en fkp km U fsv fsi rn fb bu fbf xl fxb wm fwt rea ea) : qtext fb rn ∧ qtext fbf bu ∧ zTt fbf bu = zTt fb rn ∧ bu = rn := by
  obtain ⟨i1, i2, i3, ⟨i4, i5, i6⟩, i7⟩ := I
  obtain ⟨t1, t2⟩ := zalike_text i5 i6
  rw [← i4]
  exact ⟨i6, t2, t1.symm, rfl⟩
end KEEPS
theorem an_load {pr di dr mc sc er2 wr2 : Int} {nm mn sn fa2 : Int → Int} (h : zRN ((pr, di, dr, mc, sc), nm, mn, sn) fa2) (he : er2 = wr2) : (if er2 = 0 then mc else er2) = (if wr2 = 0 then fa2 3 else wr2) := by
  rw [he, (rn_rel h).1.2.2.2.1]
theorem an_read {pr di dr mc sc er2 wr2 : Int} {nm mn sn fa2 : Int → Int} (h : zRN ((pr, di, dr, mc, sc), nm, mn, sn) fa2) (he : er2 = wr2) : (if er2 = 0 then sc else er2) = (if wr2 = 0 then fa2 4 else wr2) := by
  rw [he, (rn_rel h).1.2.2.2.2]
