set_option maxHeartbeats 400000 in
set_option maxRecDepth 100000 in
/-- addByte -/
theorem kX5_addByte (G : zG) (l : Launch) (txt : Nat) (xl : Int) (xb : Nat) (fxb : Int → Int) (v : Int) (x0 : 0 ≤ xl) (x1 : xl < 440) (v0 : 0 ≤ v) (v1 : v < 65536) : zM G l yX5_addByte wsX5_addByte { frames := 0, cells := 0, slots := 0, locals := 0 } [.ref txt, .int (zI v)] [(txt, .inr (5, [.int (zI xl), .ref xb])), (xb, .inl (zk G 2, 440, .inl (zA fxb)))] (S := Unit) zrv (fun _ => True) (fun _ => [(txt, .inr (5, [.int (zI (xl + 1)), .ref xb])), (xb, .inl (zk G 2, 440, .inl (zA (zU fxb xl v))))]) 0 0 := by
  refine zM.of (cc := cX5_addByte) (maxL := 2) (ret := none) (by decide) rfl (Nat.le_of_ble_eq_true rfl) (l0 := [(0, .ref txt), (1, .int (zI v))]) rfl ?_
  intro p e s m args below meth c ls F hr hlk hnm hW hl
  obtain ⟨hx, hb, hml, hown, hts⟩ := id F
  have hin5 : ∀ w ∈ wsX50, w ∈ wsX5_addByte := fun _ h => List.mem_cons_of_mem _ (List.mem_append_right _ (h))
  refine lv_aload_n (pc := 0) hx hb dX5_addByte_0 rfl (lv_at hl 0 rfl) ?_
  refine zw_get (pc := 1) (ref := RX5) (index := 15) hx hb hts hin5 hown hW 0 rfl rfl 0 (by decide) (List.mem_of_getElem? (i := 1) rfl) (fun _ h9 => h9) rfl dX5_addByte_1 ?_
  refine zv_if_lt (pc := 4) (tgt := 39) hx hb dX5_addByte_4 (by decide) ⟨by omega, by omega⟩ (fun c4 => absurd c4 (by omega)) (fun c4 => ?_)
  refine lv_aload_n (pc := 7) hx hb dX5_addByte_7 rfl (lv_at hl 0 rfl) ?_
  refine zw_get (pc := 8) (ref := RX5) (index := 15) hx hb hts hin5 hown hW 0 rfl rfl 0 (by decide) (List.mem_of_getElem? (i := 1) rfl) (fun _ h9 => h9) rfl dX5_addByte_8 ?_
  refine lv_aload_n (pc := 11) hx hb dX5_addByte_11 rfl (lv_at hl 0 rfl) ?_
  refine zw_get (pc := 12) (ref := RX5) (index := 9) hx hb hts hin5 hown hW 0 rfl rfl 1 (by decide) (List.mem_of_getElem? (i := 2) rfl) (fun _ h9 => h9) rfl dX5_addByte_12 ?_
  refine zw_alen (pc := 15) hx hb hW 1 2 rfl rfl dX5_addByte_15 ?_
  refine zv_as (b := 440) (pc := 16) rfl ?_
  refine zv_icmp_ge (pc := 16) (tgt := 39) hx hb dX5_addByte_16 (by decide) ⟨by omega, by omega⟩ ⟨by omega, by omega⟩ (fun c16 => absurd c16 (by omega)) (fun c16 => ?_)
  refine lv_aload_n (pc := 19) hx hb dX5_addByte_19 rfl (lv_at hl 0 rfl) ?_
  refine zw_get (pc := 20) (ref := RX5) (index := 9) hx hb hts hin5 hown hW 0 rfl rfl 1 (by decide) (List.mem_of_getElem? (i := 2) rfl) (fun _ h9 => h9) rfl dX5_addByte_20 ?_
  refine lv_aload_n (pc := 23) hx hb dX5_addByte_23 rfl (lv_at hl 0 rfl) ?_
  refine zw_get (pc := 24) (ref := RX5) (index := 15) hx hb hts hin5 hown hW 0 rfl rfl 0 (by decide) (List.mem_of_getElem? (i := 1) rfl) (fun _ h9 => h9) rfl dX5_addByte_24 ?_
  refine lv_iload_n (pc := 27) hx hb dX5_addByte_27 rfl (lv_at hl 1 rfl) ?_
  refine zw_cast (pc := 28) (ws' := [(txt, .inr (5, [.int (zI xl), .ref xb])), (xb, .inl (zk G 2, 440, .inl (zA (zU fxb xl v))))]) hx hb hW 1 rfl (by omega) (by omega) (by decide) (by omega) (by omega) rfl dX5_addByte_28 (fun H locs hW => ?_)
  refine lv_aload_n (pc := 29) hx hb dX5_addByte_29 rfl (lv_at hl 0 rfl) ?_
  refine lv_dup (pc := 30) hx hb dX5_addByte_30 rfl ?_
  refine zw_get (pc := 31) (ref := RX5) (index := 15) hx hb hts hin5 hown hW 0 rfl rfl 0 (by decide) (List.mem_of_getElem? (i := 1) rfl) (fun _ h9 => h9) rfl dX5_addByte_31 ?_
  refine zv_iconst (pc := 34) (n := 1) hx hb dX5_addByte_34 ?_
  refine zv_iadd (pc := 35) hx hb dX5_addByte_35 ?_
  refine zw_put (pc := 36) (ws' := [(txt, .inr (5, [.int (zI (xl + 1)), .ref xb])), (xb, .inl (zk G 2, 440, .inl (zA (zU fxb xl v))))]) (ref := RX5) (index := 15) hx hb hts hin5 tyX5 tyX5_ok nmX5 hown hW 0 rfl rfl 0 (by decide) (List.mem_of_getElem? (i := 1) rfl) (fun _ h9 => h9) rfl (tyX5_ok 0 (by decide)) rfl rfl (Nat.le_of_ble_eq_true rfl) rfl dX5_addByte_36 (fun H locs hW => ?_)
  exact ze_v (pc := 39) hx hb hr hlk hW () rfl trivial rfl dX5_addByte_39

set_option maxHeartbeats 400000 in
set_option maxRecDepth 100000 in
/-- byteAt -/
theorem kX5_byteAt (G : zG) (l : Launch) (txt : Nat) (xl : Int) (xb : Nat) (fxb : Int → Int) (i : Int) (x0 : 0 ≤ xl) (x1 : xl ≤ 440) (i0 : 0 ≤ i) (i1 : i < xl) : zM G l yX5_byteAt wsX5_byteAt { frames := 0, cells := 0, slots := 0, locals := 0 } [.ref txt, .int (zI i)] [(txt, .inr (5, [.int (zI xl), .ref xb])), (xb, .inl (zk G 2, 440, .inl (zA fxb)))] (S := Unit) (zri (fun _ => fxb i)) (fun _ => True) (fun _ => [(txt, .inr (5, [.int (zI xl), .ref xb])), (xb, .inl (zk G 2, 440, .inl (zA fxb)))]) 0 0 := by
  refine zM.of (cc := cX5_byteAt) (maxL := 2) (ret := (some .int)) (by decide) rfl (Nat.le_of_ble_eq_true rfl) (l0 := [(0, .ref txt), (1, .int (zI i))]) rfl ?_
  intro p e s m args below meth c ls F hr hlk hnm hW hl
  obtain ⟨hx, hb, hml, hown, hts⟩ := id F
  have hin5 : ∀ w ∈ wsX50, w ∈ wsX5_byteAt := fun _ h => List.mem_cons_of_mem _ (List.mem_append_right _ (h))
  refine lv_iload_n (pc := 0) hx hb dX5_byteAt_0 rfl (lv_at hl 1 rfl) ?_
  refine zv_if_lt (pc := 1) (tgt := 30) hx hb dX5_byteAt_1 (by decide) ⟨by omega, by omega⟩ (fun c1 => ?_) (fun c1 => ?_)
  · refine zv_iconst (pc := 30) (n := 0) hx hb dX5_byteAt_30 ?_
    refine zv_as (pc := 31) (a := 0) (b := fxb i) (by omega) ?_
    exact ze_i (pc := 31) hx hb hr hlk hW () rfl trivial rfl dX5_byteAt_31
  · refine lv_iload_n (pc := 4) hx hb dX5_byteAt_4 rfl (lv_at hl 1 rfl) ?_
    refine lv_aload_n (pc := 5) hx hb dX5_byteAt_5 rfl (lv_at hl 0 rfl) ?_
    refine zw_get (pc := 6) (ref := RX5) (index := 15) hx hb hts hin5 hown hW 0 rfl rfl 0 (by decide) (List.mem_of_getElem? (i := 1) rfl) (fun _ h9 => h9) rfl dX5_byteAt_6 ?_
    refine zv_icmp_ge (pc := 9) (tgt := 30) hx hb dX5_byteAt_9 (by decide) ⟨by omega, by omega⟩ ⟨by omega, by omega⟩ (fun c9 => ?_) (fun c9 => ?_)
    · refine zv_iconst (pc := 30) (n := 0) hx hb dX5_byteAt_30 ?_
      refine zv_as (pc := 31) (a := 0) (b := fxb i) (by omega) ?_
      exact ze_i (pc := 31) hx hb hr hlk hW () rfl trivial rfl dX5_byteAt_31
    · refine lv_iload_n (pc := 12) hx hb dX5_byteAt_12 rfl (lv_at hl 1 rfl) ?_
      refine lv_aload_n (pc := 13) hx hb dX5_byteAt_13 rfl (lv_at hl 0 rfl) ?_
      refine zw_get (pc := 14) (ref := RX5) (index := 9) hx hb hts hin5 hown hW 0 rfl rfl 1 (by decide) (List.mem_of_getElem? (i := 2) rfl) (fun _ h9 => h9) rfl dX5_byteAt_14 ?_
      refine zw_alen (pc := 17) hx hb hW 1 2 rfl rfl dX5_byteAt_17 ?_
      refine zv_as (b := 440) (pc := 18) rfl ?_
      refine zv_icmp_ge (pc := 18) (tgt := 30) hx hb dX5_byteAt_18 (by decide) ⟨by omega, by omega⟩ ⟨by omega, by omega⟩ (fun c18 => ?_) (fun c18 => ?_)
      · refine zv_iconst (pc := 30) (n := 0) hx hb dX5_byteAt_30 ?_
        refine zv_as (pc := 31) (a := 0) (b := fxb i) (by omega) ?_
        exact ze_i (pc := 31) hx hb hr hlk hW () rfl trivial rfl dX5_byteAt_31
      · refine lv_aload_n (pc := 21) hx hb dX5_byteAt_21 rfl (lv_at hl 0 rfl) ?_
        refine zw_get (pc := 22) (ref := RX5) (index := 9) hx hb hts hin5 hown hW 0 rfl rfl 1 (by decide) (List.mem_of_getElem? (i := 2) rfl) (fun _ h9 => h9) rfl dX5_byteAt_22 ?_
        refine lv_iload_n (pc := 25) hx hb dX5_byteAt_25 rfl (lv_at hl 1 rfl) ?_
        refine zw_cald (pc := 26) hx hb hW 1 rfl (by omega) (by omega) (by decide) dX5_byteAt_26 ?_
        refine lv_goto (pc := 27) (tgt := 31) hx hb dX5_byteAt_27 (by decide) ?_
        exact ze_i (pc := 31) hx hb hr hlk hW () rfl trivial rfl dX5_byteAt_31

set_option maxHeartbeats 400000 in
set_option maxRecDepth 100000 in
/-- writtenByte -/
theorem kX6_writtenByte (G : zG) (l : Launch) (hst : l.stackTraces = false) (wo : Nat) (dq : Nat) (pp : Nat) (sv : Nat) (rd : Nat) (txt : Nat) (tb : Nat) (sp : Nat) (op : Nat) (q : Nat) (xl : Int) (xb : Nat) (fxb : Int → Int) (i : Int) (x0 : 0 ≤ xl) (x1 : xl ≤ 440) (i1 : -2147483648 ≤ i) (i2 : i ≤ 2147483647) : zMx G l yX6_writtenByte wsX6_writtenByte { frames := 6, cells := 1, slots := 6, locals := 89 } [.ref wo, .int (zI i)] [(wo, .inr (6, [.ref q, .ref dq, .ref pp, .ref sv, .ref rd, .ref txt, .ref tb, .ref sp, .ref op])), (txt, .inr (5, [.int (zI xl), .ref xb])), (xb, .inl (zk G 2, 440, .inl (zA fxb)))] (S := Unit) (zri (fun _ => fxb i)) (fun _ => 0 ≤ i ∧ i < xl) (fun _ => [(wo, .inr (6, [.ref q, .ref dq, .ref pp, .ref sv, .ref rd, .ref txt, .ref tb, .ref sp, .ref op])), (txt, .inr (5, [.int (zI xl), .ref xb])), (xb, .inl (zk G 2, 440, .inl (zA fxb)))]) (SX := Unit) (fun E _ => (E = "java/lang/IndexOutOfBoundsException" ∧ ¬(0 ≤ i ∧ i < xl))) (fun _ => [(wo, .inr (6, [.ref q, .ref dq, .ref pp, .ref sv, .ref rd, .ref txt, .ref tb, .ref sp, .ref op])), (txt, .inr (5, [.int (zI xl), .ref xb])), (xb, .inl (zk G 2, 440, .inl (zA fxb)))]) 1 6 := by
  refine zMx.of (cc := cX6_writtenByte) (maxL := 2) (ret := (some .int)) (by decide) rfl (Nat.le_of_ble_eq_true rfl) (l0 := [(0, .ref wo), (1, .int (zI i))]) rfl ?_
  intro p e s m args below meth c ls F hr hlk hnm hex hW hl
  obtain ⟨hx, hb, hml, hown, hts⟩ := id F
  have hin5 : ∀ w ∈ wsX50, w ∈ wsX6_writtenByte := fun _ h => List.mem_cons_of_mem _ (List.mem_append_left _ (List.mem_append_right _ (h)))
  have hin6 : ∀ w ∈ wsX60, w ∈ wsX6_writtenByte := fun _ h => List.mem_cons_of_mem _ (List.mem_append_left _ (List.mem_append_left _ (List.mem_append_right _ (h))))
  refine lv_iload_n (pc := 0) hx hb dX6_writtenByte_0 rfl (lv_at hl 1 rfl) ?_
  refine zv_if_lt (pc := 1) (tgt := 15) hx hb dX6_writtenByte_1 (by decide) ⟨by omega, by omega⟩ (fun c1 => ?_) (fun c1 => ?_)
  · exact zx_throw (pc := 15) (own := RX6) (cls := "java/lang/IndexOutOfBoundsException") (names := ["java/lang/RuntimeException", "java/lang/Exception"]) (ik := 224) (ic := 226) hx hb hst hown (by decide +kernel) (by decide +kernel) (hts _ (List.mem_of_getElem? (i := 1) rfl)) (hts _ (List.mem_of_getElem? (i := 2) rfl)) (zat hW hts 2 rfl (fun _ h => List.mem_cons_of_mem _ (List.mem_append_right _ (h))) (by decide +kernel)) (by decide +kernel) hex hlk (hl.1.trans hml.symm) dX6_writtenByte_15 dX6_writtenByte_18 dX6_writtenByte_19 dX6_writtenByte_22 (Nat.le_of_ble_eq_true rfl) (Nat.le_of_ble_eq_true rfl) (Nat.le_of_ble_eq_true rfl) (Nat.le_of_ble_eq_true rfl) hW () (by first | exact ⟨rfl, by omega⟩ | exact .inl ⟨rfl, by omega⟩ | exact .inr ⟨rfl, by omega⟩ | exact .inr (.inl ⟨rfl, by omega⟩) | exact .inr (.inr ⟨rfl, by omega⟩)) rfl (Nat.le_of_ble_eq_true rfl) (Nat.le_of_ble_eq_true rfl)
  · refine lv_iload_n (pc := 4) hx hb dX6_writtenByte_4 rfl (lv_at hl 1 rfl) ?_
    refine lv_aload_n (pc := 5) hx hb dX6_writtenByte_5 rfl (lv_at hl 0 rfl) ?_
    refine zw_get (pc := 6) (ref := RX6) (index := 40) hx hb hts hin6 hown hW 0 rfl rfl 5 (by decide) (List.mem_of_getElem? (i := 3) rfl) (fun _ h9 => h9) rfl dX6_writtenByte_6 ?_
    refine zw_get (pc := 9) (ref := RX5) (index := 285) hx hb hts hin5 hown hW 1 rfl rfl 0 (by decide) (List.mem_of_getElem? (i := 4) rfl) (fun _ h9 => h9) rfl dX6_writtenByte_9 ?_
    refine zv_icmp_lt (pc := 12) (tgt := 23) hx hb dX6_writtenByte_12 (by decide) ⟨by omega, by omega⟩ ⟨by omega, by omega⟩ (fun c12 => ?_) (fun c12 => ?_)
    · refine lv_aload_n (pc := 23) hx hb dX6_writtenByte_23 rfl (lv_at hl 0 rfl) ?_
      refine zw_get (pc := 24) (ref := RX6) (index := 40) hx hb hts hin6 hown hW 0 rfl rfl 5 (by decide) (List.mem_of_getElem? (i := 3) rfl) (fun _ h9 => h9) rfl dX6_writtenByte_24 ?_
      refine lv_iload_n (pc := 27) hx hb dX6_writtenByte_27 rfl (lv_at hl 1 rfl) ?_
      refine z_V (pc := 28) (As := [.int (zI i)]) (rest := []) (wn := (fun _ => [(wo, .inr (6, [.ref q, .ref dq, .ref pp, .ref sv, .ref rd, .ref txt, .ref tb, .ref sp, .ref op])), (txt, .inr (5, [.int (zI xl), .ref xb])), (xb, .inl (zk G 2, 440, .inl (zA fxb)))])) (wr := [(wo, .inr (6, [.ref q, .ref dq, .ref pp, .ref sv, .ref rd, .ref txt, .ref tb, .ref sp, .ref op]))]) F (kX5_byteAt G l txt xl xb fxb i (by first | assumption | omega) (by first | assumption | omega) (by first | assumption | omega) (by first | assumption | omega)) (cwV 1 hts gX6_writtenByte_X5_byteAt rfl rfl rfl (by decide +kernel) ⟨Nat.le_of_ble_eq_true rfl, Nat.le_of_ble_eq_true rfl⟩) hW 1 rfl rfl [1, 2] [0] (by decide) rfl rfl rfl (by decide) (by decide) [0, 1, 2] (by decide) (fun _ => rfl) (fun _ => rfl) rfl hl.1 rfl (Nat.le_of_ble_eq_true rfl) dX6_writtenByte_28 ⟨Nat.le_of_ble_eq_true rfl, Nat.le_of_ble_eq_true rfl⟩ (fun _ H locs _ hW => ?_)
      show W p l e _ s m args below meth c H locs _ _ _ (F0 m 31 ls [.int (zI (fxb i))])
      refine zwide (k := 1) (n := 6) (Nat.le_of_ble_eq_true rfl) (Nat.le_of_ble_eq_true rfl) ?_
      exact vx_ret (ze_i (pc := 31) hx hb hr hlk hW () rfl (by omega) rfl dX6_writtenByte_31)
    · exact zx_throw (pc := 15) (own := RX6) (cls := "java/lang/IndexOutOfBoundsException") (names := ["java/lang/RuntimeException", "java/lang/Exception"]) (ik := 224) (ic := 226) hx hb hst hown (by decide +kernel) (by decide +kernel) (hts _ (List.mem_of_getElem? (i := 1) rfl)) (hts _ (List.mem_of_getElem? (i := 2) rfl)) (zat hW hts 2 rfl (fun _ h => List.mem_cons_of_mem _ (List.mem_append_right _ (h))) (by decide +kernel)) (by decide +kernel) hex hlk (hl.1.trans hml.symm) dX6_writtenByte_15 dX6_writtenByte_18 dX6_writtenByte_19 dX6_writtenByte_22 (Nat.le_of_ble_eq_true rfl) (Nat.le_of_ble_eq_true rfl) (Nat.le_of_ble_eq_true rfl) (Nat.le_of_ble_eq_true rfl) hW () (by first | exact ⟨rfl, by omega⟩ | exact .inl ⟨rfl, by omega⟩ | exact .inr ⟨rfl, by omega⟩ | exact .inr (.inl ⟨rfl, by omega⟩) | exact .inr (.inr ⟨rfl, by omega⟩)) rfl (Nat.le_of_ble_eq_true rfl) (Nat.le_of_ble_eq_true rfl)

set_option maxHeartbeats 400000 in
set_option maxRecDepth 100000 in
/-- says -/
theorem kX7_says (G : zG) (l : Launch) (z : Nat) (r0 : Nat) (r1 : Nat) (r2 : Nat) (r3 : Nat) (r4 : Nat) (km : Int) (th : Int) (r7 : Nat) (bu : Int) (pa : Int) (pb : Int) (ki : Int) (nu : Int) (wr : Int) (wa : Int) (ea : Int) (lx : Int) (ly : Int) (lh : Int) (lz : Int) (r20 : Nat) (go : Int) (iT : Int) (iM : Int) (iK : Int) (r25 : Nat) (wm : Int) (tm : Int) (te : Bool) (fwt : Int → Int) (v : Int) (w0 : 0 ≤ wm) (w1 : wm < 500) : zM G l yX7_says wsX7_says { frames := 0, cells := 0, slots := 0, locals := 0 } [.ref z, .int (zI v)] [(z, .inr (7, [.ref r0, .ref r1, .ref r2, .ref r3, .ref r4, .int (zI km), .int (zI th), .ref r7, .int (zI bu), .int (zI pa), .int (zI pb), .int (zI ki), .int (zI nu), .int (zI wr), .int (zI wa), .int (zI ea), .long (zL lx), .long (zL ly), .long (zL lh), .long (zL lz), .ref r20, .int (zI go), .int (zI iT), .int (zI iM), .int (zI iK), .ref r25, .int (zI wm), .int (zI tm), .int (zI (zb te))])), (r25, .inl (zk G 0, 500, .inl (zA fwt)))] (S := Unit) zrv (fun _ => True) (fun _ => [(z, .inr (7, [.ref r0, .ref r1, .ref r2, .ref r3, .ref r4, .int (zI km), .int (zI th), .ref r7, .int (zI bu), .int (zI pa), .int (zI pb), .int (zI ki), .int (zI nu), .int (zI wr), .int (zI wa), .int (zI ea), .long (zL lx), .long (zL ly), .long (zL lh), .long (zL lz), .ref r20, .int (zI go), .int (zI iT), .int (zI iM), .int (zI iK), .ref r25, .int (zI (wm + 1)), .int (zI tm), .int (zI (zb te))])), (r25, .inl (zk G 0, 500, .inl (zA (zU fwt wm v))))]) 0 0 := by
  refine zM.of (cc := cX7_says) (maxL := 2) (ret := none) (by decide) rfl (Nat.le_of_ble_eq_true rfl) (l0 := [(0, .ref z), (1, .int (zI v))]) rfl ?_
  intro p e s m args below meth c ls F hr hlk hnm hW hl
  obtain ⟨hx, hb, hml, hown, hts⟩ := id F
  have hin7 : ∀ w ∈ wsX70, w ∈ wsX7_says := fun _ h => List.mem_cons_of_mem _ (List.mem_append_right _ (h))
  refine lv_aload_n (pc := 0) hx hb dX7_says_0 rfl (lv_at hl 0 rfl) ?_
  refine zw_get (pc := 1) (ref := RX7) (index := 36) hx hb hts hin7 hown hW 0 rfl rfl 25 (by decide) (List.mem_of_getElem? (i := 1) rfl) (fun _ h9 => h9) rfl dX7_says_1 ?_
  refine lv_aload_n (pc := 4) hx hb dX7_says_4 rfl (lv_at hl 0 rfl) ?_
  refine zw_get (pc := 5) (ref := RX7) (index := 331) hx hb hts hin7 hown hW 0 rfl rfl 26 (by decide) (List.mem_of_getElem? (i := 2) rfl) (fun _ h9 => h9) rfl dX7_says_5 ?_
  refine lv_iload_n (pc := 8) hx hb dX7_says_8 rfl (lv_at hl 1 rfl) ?_
  refine zw_iast (pc := 9) (ws' := [(z, .inr (7, [.ref r0, .ref r1, .ref r2, .ref r3, .ref r4, .int (zI km), .int (zI th), .ref r7, .int (zI bu), .int (zI pa), .int (zI pb), .int (zI ki), .int (zI nu), .int (zI wr), .int (zI wa), .int (zI ea), .long (zL lx), .long (zL ly), .long (zL lh), .long (zL lz), .ref r20, .int (zI go), .int (zI iT), .int (zI iM), .int (zI iK), .ref r25, .int (zI wm), .int (zI tm), .int (zI (zb te))])), (r25, .inl (zk G 0, 500, .inl (zA (zU fwt wm v))))]) hx hb hW 1 rfl (by omega) (by omega) (by decide) rfl dX7_says_9 (fun H locs hW => ?_)
  refine lv_aload_n (pc := 10) hx hb dX7_says_10 rfl (lv_at hl 0 rfl) ?_
  refine lv_dup (pc := 11) hx hb dX7_says_11 rfl ?_
  refine zw_get (pc := 12) (ref := RX7) (index := 331) hx hb hts hin7 hown hW 0 rfl rfl 26 (by decide) (List.mem_of_getElem? (i := 2) rfl) (fun _ h9 => h9) rfl dX7_says_12 ?_
  refine zv_iconst (pc := 15) (n := 1) hx hb dX7_says_15 ?_
  refine zv_iadd (pc := 16) hx hb dX7_says_16 ?_
  refine zw_put (pc := 17) (ws' := [(z, .inr (7, [.ref r0, .ref r1, .ref r2, .ref r3, .ref r4, .int (zI km), .int (zI th), .ref r7, .int (zI bu), .int (zI pa), .int (zI pb), .int (zI ki), .int (zI nu), .int (zI wr), .int (zI wa), .int (zI ea), .long (zL lx), .long (zL ly), .long (zL lh), .long (zL lz), .ref r20, .int (zI go), .int (zI iT), .int (zI iM), .int (zI iK), .ref r25, .int (zI (wm + 1)), .int (zI tm), .int (zI (zb te))])), (r25, .inl (zk G 0, 500, .inl (zA (zU fwt wm v))))]) (ref := RX7) (index := 331) hx hb hts hin7 tyX7 tyX7_ok nmX7 hown hW 0 rfl rfl 26 (by decide) (List.mem_of_getElem? (i := 2) rfl) (fun _ h9 => h9) rfl (tyX7_ok 26 (by decide)) rfl rfl (Nat.le_of_ble_eq_true rfl) rfl dX7_says_17 (fun H locs hW => ?_)
  exact ze_v (pc := 20) hx hb hr hlk hW () rfl trivial rfl dX7_says_20

set_option maxHeartbeats 400000 in
set_option maxRecDepth 100000 in
/-- writtenByte -/
theorem kX7_writtenByte (G : zG) (l : Launch) (z : Nat) (r0 : Nat) (r1 : Nat) (r2 : Nat) (r3 : Nat) (r4 : Nat) (km : Int) (th : Int) (r7 : Nat) (bu : Int) (pa : Int) (pb : Int) (ki : Int) (nu : Int) (wr : Int) (wa : Int) (ea : Int) (lx : Int) (ly : Int) (lh : Int) (lz : Int) (r20 : Nat) (go : Int) (iT : Int) (iM : Int) (iK : Int) (r25 : Nat) (wm : Int) (tm : Int) (te : Bool) (fwt : Int → Int) (i : Int) (w0 : 0 ≤ wm) (w1 : wm ≤ 500) (i1 : -2147483648 ≤ i) (i2 : i ≤ 2147483647) : zM G l yX7_writtenByte wsX7_writtenByte { frames := 1, cells := 0, slots := 0, locals := 22 } [.ref z, .int (zI i)] [(z, .inr (7, [.ref r0, .ref r1, .ref r2, .ref r3, .ref r4, .int (zI km), .int (zI th), .ref r7, .int (zI bu), .int (zI pa), .int (zI pb), .int (zI ki), .int (zI nu), .int (zI wr), .int (zI wa), .int (zI ea), .long (zL lx), .long (zL ly), .long (zL lh), .long (zL lz), .ref r20, .int (zI go), .int (zI iT), .int (zI iM), .int (zI iK), .ref r25, .int (zI wm), .int (zI tm), .int (zI (zb te))])), (r25, .inl (zk G 0, 500, .inl (zA fwt)))] (S := Unit) (zri (fun _ => if zc1 (0 ≤ i ∧ i < wm) = 0 then fwt i else 0)) (fun _ => True) (fun _ => [(z, .inr (7, [.ref r0, .ref r1, .ref r2, .ref r3, .ref r4, .int (zI km), .int (zI (zc1 (0 ≤ i ∧ i < wm))), .ref r7, .int (zI bu), .int (zI pa), .int (zI pb), .int (zI ki), .int (zI nu), .int (zI wr), .int (zI wa), .int (zI ea), .long (zL lx), .long (zL ly), .long (zL lh), .long (zL lz), .ref r20, .int (zI go), .int (zI iT), .int (zI iM), .int (zI iK), .ref r25, .int (zI wm), .int (zI tm), .int (zI (zb te))])), (r25, .inl (zk G 0, 500, .inl (zA fwt)))]) 0 0 := by
  refine zM.of (cc := cX7_writtenByte) (maxL := 2) (ret := (some .int)) (by decide) rfl (Nat.le_of_ble_eq_true rfl) (l0 := [(0, .ref z), (1, .int (zI i))]) rfl ?_
  intro p e s m args below meth c ls F hr hlk hnm hW hl
  obtain ⟨hx, hb, hml, hown, hts⟩ := id F
  have hin7 : ∀ w ∈ wsX70, w ∈ wsX7_writtenByte := fun _ h => List.mem_cons_of_mem _ (List.mem_append_right _ (h))
  have hcd := zc1_sp (0 ≤ i ∧ i < wm)
  refine lv_aload_n (pc := 0) hx hb dX7_writtenByte_0 rfl (lv_at hl 0 rfl) ?_
  have J20 : ∀ (cd9 : Int) (hcd9 : cd9 = zc1 (0 ≤ i ∧ i < wm)) (H : Heap) (locs : List Loc) (ls : Array Slot) (hW : zW G (va_A [(z, .inr (7, [.ref r0, .ref r1, .ref r2, .ref r3, .ref r4, .int (zI km), .int (zI th), .ref r7, .int (zI bu), .int (zI pa), .int (zI pb), .int (zI ki), .int (zI nu), .int (zI wr), .int (zI wa), .int (zI ea), .long (zL lx), .long (zL ly), .long (zL lh), .long (zL lz), .ref r20, .int (zI go), .int (zI iT), .int (zI iM), .int (zI iK), .ref r25, .int (zI wm), .int (zI tm), .int (zI (zb te))])), (r25, .inl (zk G 0, 500, .inl (zA fwt)))] s.heap.size) s H locs [(z, .inr (7, [.ref r0, .ref r1, .ref r2, .ref r3, .ref r4, .int (zI km), .int (zI th), .ref r7, .int (zI bu), .int (zI pa), .int (zI pb), .int (zI ki), .int (zI nu), .int (zI wr), .int (zI wa), .int (zI ea), .long (zL lx), .long (zL ly), .long (zL lh), .long (zL lz), .ref r20, .int (zI go), .int (zI iT), .int (zI iM), .int (zI iK), .ref r25, .int (zI wm), .int (zI tm), .int (zI (zb te))])), (r25, .inl (zk G 0, 500, .inl (zA fwt)))]) (hl : lv_has ls 2 [(0, .ref z), (1, .int (zI i))]), W p l e ({ frames := 1, cells := 0, slots := 0, locals := 22 } : Room) s m args below meth c H locs 0 0 (MQ below (zQ (S := Unit) (zri (fun _ => if zc1 (0 ≤ i ∧ i < wm) = 0 then fwt i else 0)) (fun _ => True) (zPost G [(z, .inr (7, [.ref r0, .ref r1, .ref r2, .ref r3, .ref r4, .int (zI km), .int (zI th), .ref r7, .int (zI bu), .int (zI pa), .int (zI pb), .int (zI ki), .int (zI nu), .int (zI wr), .int (zI wa), .int (zI ea), .long (zL lx), .long (zL ly), .long (zL lh), .long (zL lz), .ref r20, .int (zI go), .int (zI iT), .int (zI iM), .int (zI iK), .ref r25, .int (zI wm), .int (zI tm), .int (zI (zb te))])), (r25, .inl (zk G 0, 500, .inl (zA fwt)))] s.heap.size (fun _ => [(z, .inr (7, [.ref r0, .ref r1, .ref r2, .ref r3, .ref r4, .int (zI km), .int (zI (zc1 (0 ≤ i ∧ i < wm))), .ref r7, .int (zI bu), .int (zI pa), .int (zI pb), .int (zI ki), .int (zI nu), .int (zI wr), .int (zI wa), .int (zI ea), .long (zL lx), .long (zL ly), .long (zL lh), .long (zL lz), .ref r20, .int (zI go), .int (zI iT), .int (zI iM), .int (zI iK), .ref r25, .int (zI wm), .int (zI tm), .int (zI (zb te))])), (r25, .inl (zk G 0, 500, .inl (zA fwt)))])) (va_A [(z, .inr (7, [.ref r0, .ref r1, .ref r2, .ref r3, .ref r4, .int (zI km), .int (zI th), .ref r7, .int (zI bu), .int (zI pa), .int (zI pb), .int (zI ki), .int (zI nu), .int (zI wr), .int (zI wa), .int (zI ea), .long (zL lx), .long (zL ly), .long (zL lh), .long (zL lz), .ref r20, .int (zI go), .int (zI iT), .int (zI iM), .int (zI iK), .ref r25, .int (zI wm), .int (zI tm), .int (zI (zb te))])), (r25, .inl (zk G 0, 500, .inl (zA fwt)))] s.heap.size)) args s 0 0 (va_A [(z, .inr (7, [.ref r0, .ref r1, .ref r2, .ref r3, .ref r4, .int (zI km), .int (zI th), .ref r7, .int (zI bu), .int (zI pa), .int (zI pb), .int (zI ki), .int (zI nu), .int (zI wr), .int (zI wa), .int (zI ea), .long (zL lx), .long (zL ly), .long (zL lh), .long (zL lz), .ref r20, .int (zI go), .int (zI iT), .int (zI iM), .int (zI iK), .ref r25, .int (zI wm), .int (zI tm), .int (zI (zb te))])), (r25, .inl (zk G 0, 500, .inl (zA fwt)))] s.heap.size)) (F0 m 20 ls [.int (zI cd9), .ref z]) := by
    intro cd9 hcd9 H locs ls hW hl
    refine zv_as (pc := 20) (a := cd9) (b := zc1 (0 ≤ i ∧ i < wm)) (hcd9) ?_
    refine zw_put (pc := 20) (ws' := [(z, .inr (7, [.ref r0, .ref r1, .ref r2, .ref r3, .ref r4, .int (zI km), .int (zI (zc1 (0 ≤ i ∧ i < wm))), .ref r7, .int (zI bu), .int (zI pa), .int (zI pb), .int (zI ki), .int (zI nu), .int (zI wr), .int (zI wa), .int (zI ea), .long (zL lx), .long (zL ly), .long (zL lh), .long (zL lz), .ref r20, .int (zI go), .int (zI iT), .int (zI iM), .int (zI iK), .ref r25, .int (zI wm), .int (zI tm), .int (zI (zb te))])), (r25, .inl (zk G 0, 500, .inl (zA fwt)))]) (ref := RX7) (index := 42) hx hb hts hin7 tyX7 tyX7_ok nmX7 hown hW 0 rfl rfl 6 (by decide) (List.mem_of_getElem? (i := 2) rfl) (fun _ h9 => h9) rfl (tyX7_ok 6 (by decide)) rfl rfl (Nat.le_of_ble_eq_true rfl) rfl dX7_writtenByte_20 (fun H locs hW => ?_)
    refine lv_aload_n (pc := 23) hx hb dX7_writtenByte_23 rfl (lv_at hl 0 rfl) ?_
    refine zw_get (pc := 24) (ref := RX7) (index := 42) hx hb hts hin7 hown hW 0 rfl rfl 6 (by decide) (List.mem_of_getElem? (i := 2) rfl) (fun _ h9 => h9) rfl dX7_writtenByte_24 ?_
    refine zv_if_le (pc := 27) (tgt := 34) hx hb dX7_writtenByte_27 (by decide) ⟨by omega, by omega⟩ (fun c27 => ?_) (fun c27 => ?_)
    · refine lv_aload_n (pc := 34) hx hb dX7_writtenByte_34 rfl (lv_at hl 0 rfl) ?_
      refine zw_get (pc := 35) (ref := RX7) (index := 36) hx hb hts hin7 hown hW 0 rfl rfl 25 (by decide) (List.mem_of_getElem? (i := 3) rfl) (fun _ h9 => h9) rfl dX7_writtenByte_35 ?_
      refine lv_iload_n (pc := 38) hx hb dX7_writtenByte_38 rfl (lv_at hl 1 rfl) ?_
      refine zw_iald (pc := 39) hx hb hW 1 rfl (by omega) (by omega) (by decide) dX7_writtenByte_39 ?_
      refine zv_as (pc := 40) (a := fwt i) (b := if zc1 (0 ≤ i ∧ i < wm) = 0 then fwt i else 0) (by first | (rw [if_pos (by omega)]; done) | (rw [if_neg (by omega)]; done)) ?_
      exact ze_i (pc := 40) hx hb hr hlk hW () rfl trivial rfl dX7_writtenByte_40
    · refine zv_iconst (pc := 30) (n := 0) hx hb dX7_writtenByte_30 ?_
      refine lv_goto (pc := 31) (tgt := 40) hx hb dX7_writtenByte_31 (by decide) ?_
      refine zv_as (pc := 40) (a := 0) (b := if zc1 (0 ≤ i ∧ i < wm) = 0 then fwt i else 0) (by first | (rw [if_pos (by omega)]; done) | (rw [if_neg (by omega)]; done)) ?_
      exact ze_i (pc := 40) hx hb hr hlk hW () rfl trivial rfl dX7_writtenByte_40
  refine lv_iload_n (pc := 1) hx hb dX7_writtenByte_1 rfl (lv_at hl 1 rfl) ?_
  refine zv_iconst (pc := 2) (n := 0) hx hb dX7_writtenByte_2 ?_
  refine lv_aload_n (pc := 3) hx hb dX7_writtenByte_3 rfl (lv_at hl 0 rfl) ?_
  refine zw_get (pc := 4) (ref := RX7) (index := 331) hx hb hts hin7 hown hW 0 rfl rfl 26 (by decide) (List.mem_of_getElem? (i := 1) rfl) (fun _ h9 => h9) rfl dX7_writtenByte_4 ?_
  refine zv_iconst (pc := 7) (n := 1) hx hb dX7_writtenByte_7 ?_
  refine zv_isub (pc := 8) hx hb dX7_writtenByte_8 ?_
  refine z_S (pc := 9) (As := [.int (zI i), .int (zI 0), .int (zI (wm - 1))]) (rest := [.ref z]) (wn := (fun _ => [(z, .inr (7, [.ref r0, .ref r1, .ref r2, .ref r3, .ref r4, .int (zI km), .int (zI th), .ref r7, .int (zI bu), .int (zI pa), .int (zI pb), .int (zI ki), .int (zI nu), .int (zI wr), .int (zI wa), .int (zI ea), .long (zL lx), .long (zL ly), .long (zL lh), .long (zL lz), .ref r20, .int (zI go), .int (zI iT), .int (zI iM), .int (zI iK), .ref r25, .int (zI wm), .int (zI tm), .int (zI (zb te))])), (r25, .inl (zk G 0, 500, .inl (zA fwt)))])) (wr := [(z, .inr (7, [.ref r0, .ref r1, .ref r2, .ref r3, .ref r4, .int (zI km), .int (zI th), .ref r7, .int (zI bu), .int (zI pa), .int (zI pb), .int (zI ki), .int (zI nu), .int (zI wr), .int (zI wa), .int (zI ea), .long (zL lx), .long (zL ly), .long (zL lh), .long (zL lz), .ref r20, .int (zI go), .int (zI iT), .int (zI iM), .int (zI iK), .ref r25, .int (zI wm), .int (zI tm), .int (zI (zb te))])), (r25, .inl (zk G 0, 500, .inl (zA fwt)))]) F (kX7_isIn G l i 0 (wm - 1) (by first | assumption | omega) (by first | assumption | omega) (by first | assumption | omega) (by first | assumption | omega) (by first | assumption | omega) (by first | assumption | omega)) (va_cwS 3 hts gX7_writtenByte_X7_isIn rfl rfl rfl (by decide +kernel) ⟨Nat.le_of_ble_eq_true rfl, Nat.le_of_ble_eq_true rfl⟩) hW [] [0, 1] (by decide) rfl rfl rfl (by decide) (by decide) [0, 1] (by decide) (fun _ => rfl) (fun _ => rfl) rfl hl.1 rfl (Nat.le_of_ble_eq_true rfl) dX7_writtenByte_9 ⟨Nat.le_of_ble_eq_true rfl, Nat.le_of_ble_eq_true rfl⟩ (fun _ H locs _ hW => ?_)
  show W p l e _ s m args below meth c H locs _ _ _ (F0 m 12 ls [.int (zI (zb (decide (0 ≤ i ∧ i ≤ (wm - 1))))), .ref z])
  refine zv_b_eq (pc := 12) (tgt := 19) hx hb dX7_writtenByte_12 (by decide) (fun c12 => ?_) (fun c12 => ?_)
  · replace c12 := of_decide_eq_false c12
    refine zv_iconst (pc := 19) (n := 1) hx hb dX7_writtenByte_19 ?_
    exact J20 1 (by omega) _ _ _ hW (lv_sub hl [0, 1] rfl)
  · replace c12 := of_decide_eq_true c12
    refine zv_iconst (pc := 15) (n := 0) hx hb dX7_writtenByte_15 ?_
    refine lv_goto (pc := 16) (tgt := 20) hx hb dX7_writtenByte_16 (by decide) ?_
    exact J20 0 (by omega) _ _ _ hW (lv_sub hl [0, 1] rfl)

set_option maxHeartbeats 400000 in
set_option maxRecDepth 100000 in
/-- bytesIn -/
theorem kX6_bytesIn (G : zG) (l : Launch) (v : Int) : zM G l yX6_bytesIn wsX6_bytesIn { frames := 0, cells := 0, slots := 0, locals := 0 } [.int (zI v)] [] (S := Unit) (zri (fun _ => zbc v 24 + zbc v 16 + zbc v 8 + zbc v 0)) (fun _ => True) (fun _ => []) 0 0 := by
  refine zM.of (cc := cX6_bytesIn) (maxL := 3) (ret := (some .int)) (by decide) rfl (Nat.le_of_ble_eq_true rfl) (l0 := [(0, .int (zI v))]) rfl ?_
  intro p e s m args below meth c ls F hr hlk hnm hW hl
  obtain ⟨hx, hb, hml, hown, hts⟩ := id F
  refine zv_iconst (pc := 0) (n := 0) hx hb dX6_bytesIn_0 ?_
  refine lv_istore_n (pc := 1) (lv' := [(1, .int (zI 0)), (0, .int (zI v))]) hx hb dX6_bytesIn_1 rfl hl (by decide) rfl (fun ls hl => ?_)
  refine zv_bipush (pc := 2) (n := 24) hx hb dX6_bytesIn_2 (by decide) ?_
  refine lv_istore_n (pc := 4) (lv' := [(2, .int (zI 24)), (1, .int (zI 0)), (0, .int (zI v))]) hx hb dX6_bytesIn_4 rfl hl (by decide) rfl (fun ls hl => ?_)
  have J5 : ∀ (fuel5 : Nat) (n : Int) (k : Int) (n0 : 0 ≤ n ∧ n ≤ 4) (hk : (k = 24 ∧ n = 0) ∨ (k = 16 ∧ n = zbc v 24) ∨ (k = 8 ∧ n = zbc v 24 + zbc v 16) ∨ (k = 0 ∧ n = zbc v 24 + zbc v 16 + zbc v 8) ∨ (k = -8 ∧ n = zbc v 24 + zbc v 16 + zbc v 8 + zbc v 0)) (hfu5 : (k + 9).toNat < fuel5) (H : Heap) (locs : List Loc) (ls : Array Slot) (hW : zW G (va_A [] s.heap.size) s H locs []) (hl : lv_has ls 3 [(2, .int (zI k)), (1, .int (zI n)), (0, .int (zI v))]), W p l e ({ frames := 0, cells := 0, slots := 0, locals := 0 } : Room) s m args below meth c H locs 0 0 (MQ below (zQ (S := Unit) (zri (fun _ => zbc v 24 + zbc v 16 + zbc v 8 + zbc v 0)) (fun _ => True) (zPost G [] s.heap.size (fun _ => [])) (va_A [] s.heap.size)) args s 0 0 (va_A [] s.heap.size)) (F0 m 5 ls []) := by
    intro fuel5
    induction fuel5 with
    | zero =>
      intro n k n0 hk hfu5
      exact absurd hfu5 (Nat.not_lt_zero _)
    | succ fuel5 ih5 =>
      intro n k n0 hk hfu5 H locs ls hW hl
      refine lv_iload_n (pc := 5) hx hb dX6_bytesIn_5 rfl (lv_at hl 0 rfl) ?_
      refine zv_if_lt (pc := 6) (tgt := 28) hx hb dX6_bytesIn_6 (by decide) ⟨by omega, by omega⟩ (fun c6 => ?_) (fun c6 => ?_)
      · refine lv_iload_n (pc := 28) hx hb dX6_bytesIn_28 rfl (lv_at hl 1 rfl) ?_
        refine zv_as (pc := 29) (a := n) (b := zbc v 24 + zbc v 16 + zbc v 8 + zbc v 0) (by omega) ?_
        exact ze_i (pc := 29) hx hb hr hlk hW () rfl trivial rfl dX6_bytesIn_29
      · refine lv_iload_n (pc := 9) hx hb dX6_bytesIn_9 rfl (lv_at hl 2 rfl) ?_
        refine lv_iload_n (pc := 10) hx hb dX6_bytesIn_10 rfl (lv_at hl 0 rfl) ?_
        refine zv_ishr (pc := 11) hx hb dX6_bytesIn_11 ?_
        refine zv_sipush (pc := 12) (n := 255) hx hb dX6_bytesIn_12 (by decide) ?_
        refine zv_iand (pc := 15) hx hb dX6_bytesIn_15 ?_
        refine zv_if_eq (pc := 16) (tgt := 22) hx hb dX6_bytesIn_16 (by decide) (zand_in _ _) (fun c16 => ?_) (fun c16 => ?_)
        · refine zv_iinc (pc := 22) (lv' := [(2, .int (zI (k + (-8)))), (1, .int (zI n)), (0, .int (zI v))]) hx hb dX6_bytesIn_22 hl (k := 0) rfl (by decide) rfl (fun ls hl => ?_)
          refine lv_goto (pc := 25) (tgt := 5) hx hb dX6_bytesIn_25 (by decide) ?_
          exact ih5 n (k + (-8)) (by have e1 := zbc_in v 24; have e2 := zbc_in v 16; have e3 := zbc_in v 8; have e4 := zbc_in v 0; first | omega | (have e5 := zbc_yes (show zand (zshr v k) 255 ≠ 0 from c16); rcases hk with h | h | h | h | h <;> rw [h.1] at e5 <;> omega)) (by first | omega | (have e5 := zbc_yes (show zand (zshr v k) 255 ≠ 0 from c16); rcases hk with h | h | h | h | h <;> rw [h.1] at e5 ⊢ <;> omega) | (have e5 := zbc_no (show zand (zshr v k) 255 = 0 from c16); rcases hk with h | h | h | h | h <;> rw [h.1] at e5 ⊢ <;> omega)) (by omega) _ _ _ hW (lv_sub hl [0, 1, 2] rfl)
        · refine zv_iinc (pc := 19) (lv' := [(1, .int (zI (n + 1))), (2, .int (zI k)), (0, .int (zI v))]) hx hb dX6_bytesIn_19 hl (k := 1) rfl (by decide) rfl (fun ls hl => ?_)
          refine zv_iinc (pc := 22) (lv' := [(2, .int (zI (k + (-8)))), (1, .int (zI (n + 1))), (0, .int (zI v))]) hx hb dX6_bytesIn_22 hl (k := 1) rfl (by decide) rfl (fun ls hl => ?_)
          refine lv_goto (pc := 25) (tgt := 5) hx hb dX6_bytesIn_25 (by decide) ?_
          exact ih5 (n + 1) (k + (-8)) (by have e1 := zbc_in v 24; have e2 := zbc_in v 16; have e3 := zbc_in v 8; have e4 := zbc_in v 0; first | omega | (have e5 := zbc_yes (show zand (zshr v k) 255 ≠ 0 from c16); rcases hk with h | h | h | h | h <;> rw [h.1] at e5 <;> omega)) (by first | omega | (have e5 := zbc_yes (show zand (zshr v k) 255 ≠ 0 from c16); rcases hk with h | h | h | h | h <;> rw [h.1] at e5 ⊢ <;> omega) | (have e5 := zbc_no (show zand (zshr v k) 255 = 0 from c16); rcases hk with h | h | h | h | h <;> rw [h.1] at e5 ⊢ <;> omega)) (by omega) _ _ _ hW (lv_sub hl [0, 1, 2] rfl)
  exact J5 (((24 + 9 : Int).toNat) + 1) 0 24 (by have e1 := zbc_in v 24; have e2 := zbc_in v 16; have e3 := zbc_in v 8; have e4 := zbc_in v 0; first | omega | (have e5 := zbc_yes (show zand (zshr v k) 255 ≠ 0 from c16); rcases hk with h | h | h | h | h <;> rw [h.1] at e5 <;> omega)) (by first | omega | (have e5 := zbc_yes (show zand (zshr v k) 255 ≠ 0 from c16); rcases hk with h | h | h | h | h <;> rw [h.1] at e5 ⊢ <;> omega) | (have e5 := zbc_no (show zand (zshr v k) 255 = 0 from c16); rcases hk with h | h | h | h | h <;> rw [h.1] at e5 ⊢ <;> omega)) (Nat.lt_succ_self _) _ _ _ hW (lv_sub hl [0, 1, 2] rfl)
