set_option maxHeartbeats 400000 in
set_option maxRecDepth 100000 in
/-- copies -/
theorem kX7_copies (G : zG) (l : Launch) (d1 : Nat) (n1 : Nat) (f : Int → Int) (dp : Int) (d2 : Nat) (n2 : Nat) (g : Int → Int) (sp : Int) (h1 : 0 ≤ dp) (h2 : dp + 179 ≤ (n1 : Int)) (h3 : 0 ≤ sp) (h4 : sp + 179 ≤ (n2 : Int)) (h5 : n1 < 2147483648) (h6 : n2 < 2147483648) : zM G l yX7_copies wsX7_copies { frames := 0, cells := 0, slots := 0, locals := 0 } [.ref d1, .int (zI dp), .ref d2, .int (zI sp)] [(d1, .inl (zk G 0, n1, .inl (zA f))), (d2, .inl (zk G 0, n2, .inl (zA g)))] (S := Unit) zrv (fun _ => True) (fun _ => [(d1, .inl (zk G 0, n1, .inl (zA (zcy f dp g sp 179)))), (d2, .inl (zk G 0, n2, .inl (zA g)))]) 0 0 := by
  refine zM.of (cc := cX7_copies) (maxL := 5) (ret := none) (by decide) rfl (Nat.le_of_ble_eq_true rfl) (l0 := [(0, .ref d1), (1, .int (zI dp)), (2, .ref d2), (3, .int (zI sp))]) rfl ?_
  intro p e s m args below meth c ls F hr hlk hnm hW hl
  obtain ⟨hx, hb, hml, hown, hts⟩ := id F
  have hW := hW.exi 0 (f := f) (g := zcy f dp g sp 0) rfl (fun j h0 _ => (if_neg (by omega)).symm) rfl
  refine zv_iconst (pc := 0) (n := 0) hx hb dX7_copies_0 ?_
  refine lv_istore (pc := 1) (lv' := [(4, .int (zI 0)), (0, .ref d1), (1, .int (zI dp)), (2, .ref d2), (3, .int (zI sp))]) hx hb dX7_copies_1 hl (by decide) rfl (fun ls hl => ?_)
  have J3 : ∀ (fuel3 : Nat) (k : Int) (k0 : 0 ≤ k) (k1 : k ≤ 179) (hfu3 : (179 - k).toNat < fuel3) (H : Heap) (locs : List Loc) (ls : Array Slot) (hW : zW G (va_A [(d1, .inl (zk G 0, n1, .inl (zA f))), (d2, .inl (zk G 0, n2, .inl (zA g)))] s.heap.size) s H locs [(d1, .inl (zk G 0, n1, .inl (zA (zcy f dp g sp k)))), (d2, .inl (zk G 0, n2, .inl (zA g)))]) (hl : lv_has ls 5 [(4, .int (zI k)), (0, .ref d1), (1, .int (zI dp)), (2, .ref d2), (3, .int (zI sp))]), W p l e ({ frames := 0, cells := 0, slots := 0, locals := 0 } : Room) s m args below meth c H locs 0 0 (MQ below (zQ (S := Unit) zrv (fun _ => True) (zPost G [(d1, .inl (zk G 0, n1, .inl (zA f))), (d2, .inl (zk G 0, n2, .inl (zA g)))] s.heap.size (fun _ => [(d1, .inl (zk G 0, n1, .inl (zA (zcy f dp g sp 179)))), (d2, .inl (zk G 0, n2, .inl (zA g)))])) (va_A [(d1, .inl (zk G 0, n1, .inl (zA f))), (d2, .inl (zk G 0, n2, .inl (zA g)))] s.heap.size)) args s 0 0 (va_A [(d1, .inl (zk G 0, n1, .inl (zA f))), (d2, .inl (zk G 0, n2, .inl (zA g)))] s.heap.size)) (F0 m 3 ls []) := by
    intro fuel3
    induction fuel3 with
    | zero =>
      intro k k0 k1 hfu3
      exact absurd hfu3 (Nat.not_lt_zero _)
    | succ fuel3 ih3 =>
      intro k k0 k1 hfu3 H locs ls hW hl
      refine lv_iload (pc := 3) hx hb dX7_copies_3 (lv_at hl 0 rfl) ?_
      refine zv_sipush (pc := 5) (n := 179) hx hb dX7_copies_5 (by decide) ?_
      refine zv_icmp_ge (pc := 8) (tgt := 29) hx hb dX7_copies_8 (by decide) ⟨by omega, by omega⟩ ⟨by omega, by omega⟩ (fun c8 => ?_) (fun c8 => ?_)
      · rw [show k = 179 by omega] at hW
        exact ze_v (pc := 29) hx hb hr hlk hW () rfl trivial rfl dX7_copies_29
      · refine lv_aload_n (pc := 11) hx hb dX7_copies_11 rfl (lv_at hl 1 rfl) ?_
        refine lv_iload_n (pc := 12) hx hb dX7_copies_12 rfl (lv_at hl 2 rfl) ?_
        refine lv_iload (pc := 13) hx hb dX7_copies_13 (lv_at hl 0 rfl) ?_
        refine zv_iadd (pc := 15) hx hb dX7_copies_15 ?_
        refine lv_aload_n (pc := 16) hx hb dX7_copies_16 rfl (lv_at hl 3 rfl) ?_
        refine lv_iload_n (pc := 17) hx hb dX7_copies_17 rfl (lv_at hl 4 rfl) ?_
        refine lv_iload (pc := 18) hx hb dX7_copies_18 (lv_at hl 0 rfl) ?_
        refine zv_iadd (pc := 20) hx hb dX7_copies_20 ?_
        refine zw_iald (pc := 21) hx hb hW 1 rfl (by omega) (by omega) h6 dX7_copies_21 ?_
        refine zw_iast (pc := 22) (ws' := [(d1, .inl (zk G 0, n1, .inl (zA (zU (zcy f dp g sp k) (dp + k) (g (sp + k)))))), (d2, .inl (zk G 0, n2, .inl (zA g)))]) hx hb hW 0 rfl (by omega) (by omega) h5 rfl dX7_copies_22 (fun H locs hW => ?_)
        rw [zcy_step (by omega)] at hW
        refine zv_iinc (pc := 23) (lv' := [(4, .int (zI (k + 1))), (0, .ref d1), (1, .int (zI dp)), (2, .ref d2), (3, .int (zI sp))]) hx hb dX7_copies_23 hl (k := 0) rfl (by decide) rfl (fun ls hl => ?_)
        refine lv_goto (pc := 26) (tgt := 3) hx hb dX7_copies_26 (by decide) ?_
        exact ih3 (k + 1) (by omega) (by omega) (by omega) _ _ _ hW (lv_sub hl [0, 1, 2, 3, 4] rfl)
  exact J3 (((179 - 0 : Int).toNat) + 1) 0 (by omega) (by omega) (Nat.lt_succ_self _) _ _ _ hW (lv_sub hl [0, 1, 2, 3, 4] rfl)

set_option maxHeartbeats 400000 in
set_option maxRecDepth 100000 in
/-- keeps -/
theorem kX7_keeps (G : zG) (l : Launch) (z : Nat) (r0 : Nat) (r1 : Nat) (r2 : Nat) (r3 : Nat) (r4 : Nat) (km : Int) (th : Int) (r7 : Nat) (bu : Int) (pa : Int) (pb : Int) (ki : Int) (nu : Int) (wr : Int) (wa : Int) (ea : Int) (lx : Int) (ly : Int) (lh : Int) (lz : Int) (r20 : Nat) (go : Int) (iT : Int) (iM : Int) (iK : Int) (r25 : Nat) (wm : Int) (tm : Int) (te : Bool) (fkp : Int → Int) (rr : Nat) (frow : Int → Int) (c0 : 0 ≤ km) (c8 : km ≤ 8) : zM G l yX7_keeps wsX7_keeps { frames := 1, cells := 0, slots := 0, locals := 24 } [.ref z, .ref rr] [(z, .inr (7, [.ref r0, .ref r1, .ref r2, .ref r3, .ref r4, .int (zI km), .int (zI th), .ref r7, .int (zI bu), .int (zI pa), .int (zI pb), .int (zI ki), .int (zI nu), .int (zI wr), .int (zI wa), .int (zI ea), .long (zL lx), .long (zL ly), .long (zL lh), .long (zL lz), .ref r20, .int (zI go), .int (zI iT), .int (zI iM), .int (zI iK), .ref r25, .int (zI wm), .int (zI tm), .int (zI (zb te))])), (r2, .inl (zk G 0, 1432, .inl (zA fkp))), (rr, .inl (zk G 0, 179, .inl (zA frow)))] (S := Unit) zrv (fun _ => True) (fun _ => [(z, .inr (7, [.ref r0, .ref r1, .ref r2, .ref r3, .ref r4, .int (zI (zKm km)), .int (zI th), .ref r7, .int (zI bu), .int (zI pa), .int (zI pb), .int (zI ki), .int (zI nu), .int (zI wr), .int (zI wa), .int (zI ea), .long (zL lx), .long (zL ly), .long (zL lh), .long (zL lz), .ref r20, .int (zI go), .int (zI iT), .int (zI iM), .int (zI iK), .ref r25, .int (zI wm), .int (zI tm), .int (zI (zb te))])), (r2, .inl (zk G 0, 1432, .inl (zA (zKp fkp km frow)))), (rr, .inl (zk G 0, 179, .inl (zA frow)))]) 0 0 := by
  refine zM.of (cc := cX7_keeps) (maxL := 3) (ret := none) (by decide) rfl (Nat.le_of_ble_eq_true rfl) (l0 := [(0, .ref z), (1, .ref rr)]) rfl ?_
  intro p e s m args below meth c ls F hr hlk hnm hW hl
  obtain ⟨hx, hb, hml, hown, hts⟩ := id F
  have hin7 : ∀ w ∈ wsX70, w ∈ wsX7_keeps := fun _ h => List.mem_cons_of_mem _ (List.mem_append_right _ (h))
  refine lv_aload_n (pc := 0) hx hb dX7_keeps_0 rfl (lv_at hl 0 rfl) ?_
  refine zw_get (pc := 1) (ref := RX7) (index := 45) hx hb hts hin7 hown hW 0 rfl rfl 5 (by decide) (List.mem_of_getElem? (i := 1) rfl) (fun _ h9 => h9) rfl dX7_keeps_1 ?_
  refine zv_bipush (pc := 4) (n := 8) hx hb dX7_keeps_4 (by decide) ?_
  refine zv_icmp_ne (pc := 6) (tgt := 50) hx hb dX7_keeps_6 (by decide) ⟨by omega, by omega⟩ ⟨by omega, by omega⟩ (fun c6 => ?_) (fun c6 => ?_)
  · refine lv_aload_n (pc := 50) hx hb dX7_keeps_50 rfl (lv_at hl 0 rfl) ?_
    refine zw_get (pc := 51) (ref := RX7) (index := 16) hx hb hts hin7 hown hW 0 rfl rfl 2 (by decide) (List.mem_of_getElem? (i := 2) rfl) (fun _ h9 => h9) rfl dX7_keeps_51 ?_
    refine zv_sipush (pc := 54) (n := 179) hx hb dX7_keeps_54 (by decide) ?_
    refine lv_aload_n (pc := 57) hx hb dX7_keeps_57 rfl (lv_at hl 0 rfl) ?_
    refine zw_get (pc := 58) (ref := RX7) (index := 45) hx hb hts hin7 hown hW 0 rfl rfl 5 (by decide) (List.mem_of_getElem? (i := 1) rfl) (fun _ h9 => h9) rfl dX7_keeps_58 ?_
    refine zv_imul (pc := 61) hx hb dX7_keeps_61 ?_
    refine lv_aload_n (pc := 62) hx hb dX7_keeps_62 rfl (lv_at hl 1 rfl) ?_
    refine zv_iconst (pc := 63) (n := 0) hx hb dX7_keeps_63 ?_
    refine z_S (pc := 64) (As := [.ref r2, .int (zI (179 * km)), .ref rr, .int (zI 0)]) (rest := []) (wn := (fun _ => [(z, .inr (7, [.ref r0, .ref r1, .ref r2, .ref r3, .ref r4, .int (zI km), .int (zI th), .ref r7, .int (zI bu), .int (zI pa), .int (zI pb), .int (zI ki), .int (zI nu), .int (zI wr), .int (zI wa), .int (zI ea), .long (zL lx), .long (zL ly), .long (zL lh), .long (zL lz), .ref r20, .int (zI go), .int (zI iT), .int (zI iM), .int (zI iK), .ref r25, .int (zI wm), .int (zI tm), .int (zI (zb te))])), (r2, .inl (zk G 0, 1432, .inl (zA (zcy fkp (179 * km) frow 0 179)))), (rr, .inl (zk G 0, 179, .inl (zA frow)))])) (wr := [(z, .inr (7, [.ref r0, .ref r1, .ref r2, .ref r3, .ref r4, .int (zI km), .int (zI th), .ref r7, .int (zI bu), .int (zI pa), .int (zI pb), .int (zI ki), .int (zI nu), .int (zI wr), .int (zI wa), .int (zI ea), .long (zL lx), .long (zL ly), .long (zL lh), .long (zL lz), .ref r20, .int (zI go), .int (zI iT), .int (zI iM), .int (zI iK), .ref r25, .int (zI wm), .int (zI tm), .int (zI (zb te))]))]) F (kX7_copies G l r2 1432 fkp (179 * km) rr 179 frow 0 (by first | assumption | omega) (by first | assumption | omega) (by first | assumption | omega) (by first | assumption | omega) (by first | assumption | omega) (by first | assumption | omega)) (va_cwS 4 hts gX7_keeps_X7_copies rfl rfl rfl (by decide +kernel) ⟨Nat.le_of_ble_eq_true rfl, Nat.le_of_ble_eq_true rfl⟩) hW [1, 2] [0] (by decide) rfl rfl rfl (by decide) (by decide) [0, 1, 2] (by decide) (fun _ => rfl) (fun _ => rfl) rfl hl.1 rfl (Nat.le_of_ble_eq_true rfl) dX7_keeps_64 ⟨Nat.le_of_ble_eq_true rfl, Nat.le_of_ble_eq_true rfl⟩ (fun _ H locs _ hW => ?_)
    refine lv_aload_n (pc := 67) hx hb dX7_keeps_67 rfl (lv_at hl 0 rfl) ?_
    refine lv_dup (pc := 68) hx hb dX7_keeps_68 rfl ?_
    refine zw_get (pc := 69) (ref := RX7) (index := 45) hx hb hts hin7 hown hW 0 rfl rfl 5 (by decide) (List.mem_of_getElem? (i := 1) rfl) (fun _ h9 => h9) rfl dX7_keeps_69 ?_
    refine zv_iconst (pc := 72) (n := 1) hx hb dX7_keeps_72 ?_
    refine zv_iadd (pc := 73) hx hb dX7_keeps_73 ?_
    refine zw_put (pc := 74) (ws' := [(z, .inr (7, [.ref r0, .ref r1, .ref r2, .ref r3, .ref r4, .int (zI (km + 1)), .int (zI th), .ref r7, .int (zI bu), .int (zI pa), .int (zI pb), .int (zI ki), .int (zI nu), .int (zI wr), .int (zI wa), .int (zI ea), .long (zL lx), .long (zL ly), .long (zL lh), .long (zL lz), .ref r20, .int (zI go), .int (zI iT), .int (zI iM), .int (zI iK), .ref r25, .int (zI wm), .int (zI tm), .int (zI (zb te))])), (r2, .inl (zk G 0, 1432, .inl (zA (zcy fkp (179 * km) frow 0 179)))), (rr, .inl (zk G 0, 179, .inl (zA frow)))]) (ref := RX7) (index := 45) hx hb hts hin7 tyX7 tyX7_ok nmX7 hown hW 0 rfl rfl 5 (by decide) (List.mem_of_getElem? (i := 1) rfl) (fun _ h9 => h9) rfl (tyX7_ok 5 (by decide)) rfl rfl (Nat.le_of_ble_eq_true rfl) rfl dX7_keeps_74 (fun H locs hW => ?_)
    exact ze_v (pc := 77) hx hb hr hlk hW () rfl trivial (by unfold zKp zKm; first | (rw [if_pos hk8, if_pos hk8]; subst hk8; rfl) | (rw [if_neg c6, if_neg c6])) dX7_keeps_77
  · have hk8 : km = 8 := c6
    have hW := hW.exi 1 (f := fkp) (g := zmv fkp 0) rfl (fun j h0 _ => (if_neg (by omega)).symm) rfl
    refine zv_iconst (pc := 9) (n := 0) hx hb dX7_keeps_9 ?_
    refine lv_istore_n (pc := 10) (lv' := [(2, .int (zI 0)), (0, .ref z), (1, .ref rr)]) hx hb dX7_keeps_10 rfl hl (by decide) rfl (fun ls hl => ?_)
    have J11 : ∀ (fuel11 : Nat) (k : Int) (k0 : 0 ≤ k) (k1 : k ≤ 1253) (hfu11 : (1253 - k).toNat < fuel11) (H : Heap) (locs : List Loc) (ls : Array Slot) (hW : zW G (va_A [(z, .inr (7, [.ref r0, .ref r1, .ref r2, .ref r3, .ref r4, .int (zI km), .int (zI th), .ref r7, .int (zI bu), .int (zI pa), .int (zI pb), .int (zI ki), .int (zI nu), .int (zI wr), .int (zI wa), .int (zI ea), .long (zL lx), .long (zL ly), .long (zL lh), .long (zL lz), .ref r20, .int (zI go), .int (zI iT), .int (zI iM), .int (zI iK), .ref r25, .int (zI wm), .int (zI tm), .int (zI (zb te))])), (r2, .inl (zk G 0, 1432, .inl (zA fkp))), (rr, .inl (zk G 0, 179, .inl (zA frow)))] s.heap.size) s H locs [(z, .inr (7, [.ref r0, .ref r1, .ref r2, .ref r3, .ref r4, .int (zI km), .int (zI th), .ref r7, .int (zI bu), .int (zI pa), .int (zI pb), .int (zI ki), .int (zI nu), .int (zI wr), .int (zI wa), .int (zI ea), .long (zL lx), .long (zL ly), .long (zL lh), .long (zL lz), .ref r20, .int (zI go), .int (zI iT), .int (zI iM), .int (zI iK), .ref r25, .int (zI wm), .int (zI tm), .int (zI (zb te))])), (r2, .inl (zk G 0, 1432, .inl (zA (zmv fkp k)))), (rr, .inl (zk G 0, 179, .inl (zA frow)))]) (hl : lv_has ls 3 [(2, .int (zI k)), (0, .ref z), (1, .ref rr)]), W p l e ({ frames := 1, cells := 0, slots := 0, locals := 24 } : Room) s m args below meth c H locs 0 0 (MQ below (zQ (S := Unit) zrv (fun _ => True) (zPost G [(z, .inr (7, [.ref r0, .ref r1, .ref r2, .ref r3, .ref r4, .int (zI km), .int (zI th), .ref r7, .int (zI bu), .int (zI pa), .int (zI pb), .int (zI ki), .int (zI nu), .int (zI wr), .int (zI wa), .int (zI ea), .long (zL lx), .long (zL ly), .long (zL lh), .long (zL lz), .ref r20, .int (zI go), .int (zI iT), .int (zI iM), .int (zI iK), .ref r25, .int (zI wm), .int (zI tm), .int (zI (zb te))])), (r2, .inl (zk G 0, 1432, .inl (zA fkp))), (rr, .inl (zk G 0, 179, .inl (zA frow)))] s.heap.size (fun _ => [(z, .inr (7, [.ref r0, .ref r1, .ref r2, .ref r3, .ref r4, .int (zI (zKm km)), .int (zI th), .ref r7, .int (zI bu), .int (zI pa), .int (zI pb), .int (zI ki), .int (zI nu), .int (zI wr), .int (zI wa), .int (zI ea), .long (zL lx), .long (zL ly), .long (zL lh), .long (zL lz), .ref r20, .int (zI go), .int (zI iT), .int (zI iM), .int (zI iK), .ref r25, .int (zI wm), .int (zI tm), .int (zI (zb te))])), (r2, .inl (zk G 0, 1432, .inl (zA (zKp fkp km frow)))), (rr, .inl (zk G 0, 179, .inl (zA frow)))])) (va_A [(z, .inr (7, [.ref r0, .ref r1, .ref r2, .ref r3, .ref r4, .int (zI km), .int (zI th), .ref r7, .int (zI bu), .int (zI pa), .int (zI pb), .int (zI ki), .int (zI nu), .int (zI wr), .int (zI wa), .int (zI ea), .long (zL lx), .long (zL ly), .long (zL lh), .long (zL lz), .ref r20, .int (zI go), .int (zI iT), .int (zI iM), .int (zI iK), .ref r25, .int (zI wm), .int (zI tm), .int (zI (zb te))])), (r2, .inl (zk G 0, 1432, .inl (zA fkp))), (rr, .inl (zk G 0, 179, .inl (zA frow)))] s.heap.size)) args s 0 0 (va_A [(z, .inr (7, [.ref r0, .ref r1, .ref r2, .ref r3, .ref r4, .int (zI km), .int (zI th), .ref r7, .int (zI bu), .int (zI pa), .int (zI pb), .int (zI ki), .int (zI nu), .int (zI wr), .int (zI wa), .int (zI ea), .long (zL lx), .long (zL ly), .long (zL lh), .long (zL lz), .ref r20, .int (zI go), .int (zI iT), .int (zI iM), .int (zI iK), .ref r25, .int (zI wm), .int (zI tm), .int (zI (zb te))])), (r2, .inl (zk G 0, 1432, .inl (zA fkp))), (rr, .inl (zk G 0, 179, .inl (zA frow)))] s.heap.size)) (F0 m 11 ls []) := by
      intro fuel11
      induction fuel11 with
      | zero =>
        intro k k0 k1 hfu11
        exact absurd hfu11 (Nat.not_lt_zero _)
      | succ fuel11 ih11 =>
        intro k k0 k1 hfu11 H locs ls hW hl
        refine lv_iload_n (pc := 11) hx hb dX7_keeps_11 rfl (lv_at hl 0 rfl) ?_
        refine zv_sipush (pc := 12) (n := 1253) hx hb dX7_keeps_12 (by decide) ?_
        refine zv_icmp_ge (pc := 15) (tgt := 40) hx hb dX7_keeps_15 (by decide) ⟨by omega, by omega⟩ ⟨by omega, by omega⟩ (fun c15 => ?_) (fun c15 => ?_)
        · rw [show k = 1253 by omega] at hW
          refine lv_aload_n (pc := 40) hx hb dX7_keeps_40 rfl (lv_at hl 1 rfl) ?_
          refine lv_dup (pc := 41) hx hb dX7_keeps_41 rfl ?_
          refine zw_get (pc := 42) (ref := RX7) (index := 45) hx hb hts hin7 hown hW 0 rfl rfl 5 (by decide) (List.mem_of_getElem? (i := 1) rfl) (fun _ h9 => h9) rfl dX7_keeps_42 ?_
          refine zv_iconst (pc := 45) (n := 1) hx hb dX7_keeps_45 ?_
          refine zv_isub (pc := 46) hx hb dX7_keeps_46 ?_
          refine zw_put (pc := 47) (ws' := [(z, .inr (7, [.ref r0, .ref r1, .ref r2, .ref r3, .ref r4, .int (zI (km - 1)), .int (zI th), .ref r7, .int (zI bu), .int (zI pa), .int (zI pb), .int (zI ki), .int (zI nu), .int (zI wr), .int (zI wa), .int (zI ea), .long (zL lx), .long (zL ly), .long (zL lh), .long (zL lz), .ref r20, .int (zI go), .int (zI iT), .int (zI iM), .int (zI iK), .ref r25, .int (zI wm), .int (zI tm), .int (zI (zb te))])), (r2, .inl (zk G 0, 1432, .inl (zA (zmv fkp 1253)))), (rr, .inl (zk G 0, 179, .inl (zA frow)))]) (ref := RX7) (index := 45) hx hb hts hin7 tyX7 tyX7_ok nmX7 hown hW 0 rfl rfl 5 (by decide) (List.mem_of_getElem? (i := 1) rfl) (fun _ h9 => h9) rfl (tyX7_ok 5 (by decide)) rfl rfl (Nat.le_of_ble_eq_true rfl) rfl dX7_keeps_47 (fun H locs hW => ?_)
          refine lv_aload_n (pc := 50) hx hb dX7_keeps_50 rfl (lv_at hl 1 rfl) ?_
          refine zw_get (pc := 51) (ref := RX7) (index := 16) hx hb hts hin7 hown hW 0 rfl rfl 2 (by decide) (List.mem_of_getElem? (i := 2) rfl) (fun _ h9 => h9) rfl dX7_keeps_51 ?_
          refine zv_sipush (pc := 54) (n := 179) hx hb dX7_keeps_54 (by decide) ?_
          refine lv_aload_n (pc := 57) hx hb dX7_keeps_57 rfl (lv_at hl 1 rfl) ?_
          refine zw_get (pc := 58) (ref := RX7) (index := 45) hx hb hts hin7 hown hW 0 rfl rfl 5 (by decide) (List.mem_of_getElem? (i := 1) rfl) (fun _ h9 => h9) rfl dX7_keeps_58 ?_
          refine zv_imul (pc := 61) hx hb dX7_keeps_61 ?_
          refine lv_aload_n (pc := 62) hx hb dX7_keeps_62 rfl (lv_at hl 2 rfl) ?_
          refine zv_iconst (pc := 63) (n := 0) hx hb dX7_keeps_63 ?_
          refine z_S (pc := 64) (As := [.ref r2, .int (zI (179 * (km - 1))), .ref rr, .int (zI 0)]) (rest := []) (wn := (fun _ => [(z, .inr (7, [.ref r0, .ref r1, .ref r2, .ref r3, .ref r4, .int (zI (km - 1)), .int (zI th), .ref r7, .int (zI bu), .int (zI pa), .int (zI pb), .int (zI ki), .int (zI nu), .int (zI wr), .int (zI wa), .int (zI ea), .long (zL lx), .long (zL ly), .long (zL lh), .long (zL lz), .ref r20, .int (zI go), .int (zI iT), .int (zI iM), .int (zI iK), .ref r25, .int (zI wm), .int (zI tm), .int (zI (zb te))])), (r2, .inl (zk G 0, 1432, .inl (zA (zcy (zmv fkp 1253) (179 * (km - 1)) frow 0 179)))), (rr, .inl (zk G 0, 179, .inl (zA frow)))])) (wr := [(z, .inr (7, [.ref r0, .ref r1, .ref r2, .ref r3, .ref r4, .int (zI (km - 1)), .int (zI th), .ref r7, .int (zI bu), .int (zI pa), .int (zI pb), .int (zI ki), .int (zI nu), .int (zI wr), .int (zI wa), .int (zI ea), .long (zL lx), .long (zL ly), .long (zL lh), .long (zL lz), .ref r20, .int (zI go), .int (zI iT), .int (zI iM), .int (zI iK), .ref r25, .int (zI wm), .int (zI tm), .int (zI (zb te))]))]) F (kX7_copies G l r2 1432 (zmv fkp 1253) (179 * (km - 1)) rr 179 frow 0 (by first | assumption | omega) (by first | assumption | omega) (by first | assumption | omega) (by first | assumption | omega) (by first | assumption | omega) (by first | assumption | omega)) (va_cwS 4 hts gX7_keeps_X7_copies rfl rfl rfl (by decide +kernel) ⟨Nat.le_of_ble_eq_true rfl, Nat.le_of_ble_eq_true rfl⟩) hW [1, 2] [0] (by decide) rfl rfl rfl (by decide) (by decide) [0, 1, 2] (by decide) (fun _ => rfl) (fun _ => rfl) rfl hl.1 rfl (Nat.le_of_ble_eq_true rfl) dX7_keeps_64 ⟨Nat.le_of_ble_eq_true rfl, Nat.le_of_ble_eq_true rfl⟩ (fun _ H locs _ hW => ?_)
          refine lv_aload_n (pc := 67) hx hb dX7_keeps_67 rfl (lv_at hl 1 rfl) ?_
          refine lv_dup (pc := 68) hx hb dX7_keeps_68 rfl ?_
          refine zw_get (pc := 69) (ref := RX7) (index := 45) hx hb hts hin7 hown hW 0 rfl rfl 5 (by decide) (List.mem_of_getElem? (i := 1) rfl) (fun _ h9 => h9) rfl dX7_keeps_69 ?_
          refine zv_iconst (pc := 72) (n := 1) hx hb dX7_keeps_72 ?_
          refine zv_iadd (pc := 73) hx hb dX7_keeps_73 ?_
          refine zw_put (pc := 74) (ws' := [(z, .inr (7, [.ref r0, .ref r1, .ref r2, .ref r3, .ref r4, .int (zI ((km - 1) + 1)), .int (zI th), .ref r7, .int (zI bu), .int (zI pa), .int (zI pb), .int (zI ki), .int (zI nu), .int (zI wr), .int (zI wa), .int (zI ea), .long (zL lx), .long (zL ly), .long (zL lh), .long (zL lz), .ref r20, .int (zI go), .int (zI iT), .int (zI iM), .int (zI iK), .ref r25, .int (zI wm), .int (zI tm), .int (zI (zb te))])), (r2, .inl (zk G 0, 1432, .inl (zA (zcy (zmv fkp 1253) (179 * (km - 1)) frow 0 179)))), (rr, .inl (zk G 0, 179, .inl (zA frow)))]) (ref := RX7) (index := 45) hx hb hts hin7 tyX7 tyX7_ok nmX7 hown hW 0 rfl rfl 5 (by decide) (List.mem_of_getElem? (i := 1) rfl) (fun _ h9 => h9) rfl (tyX7_ok 5 (by decide)) rfl rfl (Nat.le_of_ble_eq_true rfl) rfl dX7_keeps_74 (fun H locs hW => ?_)
          exact ze_v (pc := 77) hx hb hr hlk hW () rfl trivial (by unfold zKp zKm; first | (rw [if_pos hk8, if_pos hk8]; subst hk8; rfl) | (rw [if_neg c6, if_neg c6])) dX7_keeps_77
        · refine lv_aload_n (pc := 18) hx hb dX7_keeps_18 rfl (lv_at hl 1 rfl) ?_
          refine zw_get (pc := 19) (ref := RX7) (index := 16) hx hb hts hin7 hown hW 0 rfl rfl 2 (by decide) (List.mem_of_getElem? (i := 2) rfl) (fun _ h9 => h9) rfl dX7_keeps_19 ?_
          refine lv_iload_n (pc := 22) hx hb dX7_keeps_22 rfl (lv_at hl 0 rfl) ?_
          refine lv_aload_n (pc := 23) hx hb dX7_keeps_23 rfl (lv_at hl 1 rfl) ?_
          refine zw_get (pc := 24) (ref := RX7) (index := 16) hx hb hts hin7 hown hW 0 rfl rfl 2 (by decide) (List.mem_of_getElem? (i := 2) rfl) (fun _ h9 => h9) rfl dX7_keeps_24 ?_
          refine lv_iload_n (pc := 27) hx hb dX7_keeps_27 rfl (lv_at hl 0 rfl) ?_
          refine zv_sipush (pc := 28) (n := 179) hx hb dX7_keeps_28 (by decide) ?_
          refine zv_iadd (pc := 31) hx hb dX7_keeps_31 ?_
          refine zw_iald (pc := 32) hx hb hW 1 rfl (by omega) (by omega) (by decide) dX7_keeps_32 ?_
          refine zw_iast (pc := 33) (ws' := [(z, .inr (7, [.ref r0, .ref r1, .ref r2, .ref r3, .ref r4, .int (zI km), .int (zI th), .ref r7, .int (zI bu), .int (zI pa), .int (zI pb), .int (zI ki), .int (zI nu), .int (zI wr), .int (zI wa), .int (zI ea), .long (zL lx), .long (zL ly), .long (zL lh), .long (zL lz), .ref r20, .int (zI go), .int (zI iT), .int (zI iM), .int (zI iK), .ref r25, .int (zI wm), .int (zI tm), .int (zI (zb te))])), (r2, .inl (zk G 0, 1432, .inl (zA (zU (zmv fkp k) k ((zmv fkp k) (k + 179)))))), (rr, .inl (zk G 0, 179, .inl (zA frow)))]) hx hb hW 1 rfl (by omega) (by omega) (by decide) rfl dX7_keeps_33 (fun H locs hW => ?_)
          rw [zmv_step (by omega)] at hW
          refine zv_iinc (pc := 34) (lv' := [(2, .int (zI (k + 1))), (0, .ref z), (1, .ref rr)]) hx hb dX7_keeps_34 hl (k := 0) rfl (by decide) rfl (fun ls hl => ?_)
          refine lv_goto (pc := 37) (tgt := 11) hx hb dX7_keeps_37 (by decide) ?_
          exact ih11 (k + 1) (by omega) (by omega) (by omega) _ _ _ hW (lv_sub hl [0, 1, 2] rfl)
    exact J11 (((1253 - 0 : Int).toNat) + 1) 0 (by omega) (by omega) (Nat.lt_succ_self _) _ _ _ hW (lv_sub hl [0, 1, 2] rfl)
