set_option maxHeartbeats 1000000 in
set_option maxRecDepth 100000 in
/-- addBytes -/
theorem kX2_addBytes (G : zG) (l : Launch) (rd : Nat) (n : Int) (ea : Int) (rb : Nat) (P : Int) (ta : Int) (er : Int) (nu : Int) (na : Int) (fb : Int → Int) (v : Int) (n0 : 0 ≤ n) (hb0 : n + zbn (zB4 v) 4 0 ≤ 600) : zM G l yX2_addBytes wsX2_addBytes { frames := 0, cells := 0, slots := 0, locals := 0 } [.ref rd, .int (zI v)] [(rd, .inr (2, [.int (zI n), .int (zI ea), .ref rb, .int (zI P), .int (zI ta), .int (zI er), .int (zI nu), .long (zL na)])), (rb, .inl (zk G 2, 600, .inl (zA fb)))] (S := Unit) zrv (fun _ => True) (fun _ => [(rd, .inr (2, [.int (zI ((zap4 v (n, fb)).1)), .int (zI ea), .ref rb, .int (zI P), .int (zI ta), .int (zI er), .int (zI nu), .long (zL na)])), (rb, .inl (zk G 2, 600, .inl (zA ((zap4 v (n, fb)).2))))]) 0 0 := by
  refine zM.of (cc := cX2_addBytes) (maxL := 4) (ret := none) (by decide) rfl (Nat.le_of_ble_eq_true rfl) (l0 := [(0, .ref rd), (1, .int (zI v))]) rfl ?_
  intro p e s m args below meth c ls F hr hlk hnm hW hl
  obtain ⟨hx, hb, hml, hown, hts⟩ := id F
  have hin2 : ∀ w ∈ wsX20, w ∈ wsX2_addBytes := fun _ h => List.mem_cons_of_mem _ (List.mem_append_right _ (h))
  refine zv_bipush (pc := 0) (n := 24) hx hb dX2_addBytes_0 (by decide) ?_
  refine lv_istore_n (pc := 2) (lv' := [(2, .int (zI 24)), (0, .ref rd), (1, .int (zI v))]) hx hb dX2_addBytes_2 rfl hl (by decide) rfl (fun ls hl => ?_)
  have J3 : ∀ (fuel3 : Nat) (i9 : Int) (k9 : Int) (n9 : Int) (f9 : Int → Int) (i0 : 0 ≤ i9 ∧ i9 ≤ 4) (hk9 : k9 = 24 - 8 * i9) (n90 : 0 ≤ n9) (hb9 : n9 + zbn (zB4 v) (4 - i9).toNat i9 ≤ 600) (hz8 : zap (zB4 v) (4 - i9).toNat i9 n9 f9 = zap4 v (n, fb)) (hfu3 : (k9 + 9).toNat < fuel3) (H : Heap) (locs : List Loc) (ls : Array Slot) (hW : zW G (va_A [(rd, .inr (2, [.int (zI n), .int (zI ea), .ref rb, .int (zI P), .int (zI ta), .int (zI er), .int (zI nu), .long (zL na)])), (rb, .inl (zk G 2, 600, .inl (zA fb)))] s.heap.size) s H locs [(rd, .inr (2, [.int (zI n9), .int (zI ea), .ref rb, .int (zI P), .int (zI ta), .int (zI er), .int (zI nu), .long (zL na)])), (rb, .inl (zk G 2, 600, .inl (zA f9)))]) (hl : lv_has ls 4 [(2, .int (zI k9)), (0, .ref rd), (1, .int (zI v))]), W p l e ({ frames := 0, cells := 0, slots := 0, locals := 0 } : Room) s m args below meth c H locs 0 0 (MQ below (zQ (S := Unit) zrv (fun _ => True) (zPost G [(rd, .inr (2, [.int (zI n), .int (zI ea), .ref rb, .int (zI P), .int (zI ta), .int (zI er), .int (zI nu), .long (zL na)])), (rb, .inl (zk G 2, 600, .inl (zA fb)))] s.heap.size (fun _ => [(rd, .inr (2, [.int (zI ((zap4 v (n, fb)).1)), .int (zI ea), .ref rb, .int (zI P), .int (zI ta), .int (zI er), .int (zI nu), .long (zL na)])), (rb, .inl (zk G 2, 600, .inl (zA ((zap4 v (n, fb)).2))))])) (va_A [(rd, .inr (2, [.int (zI n), .int (zI ea), .ref rb, .int (zI P), .int (zI ta), .int (zI er), .int (zI nu), .long (zL na)])), (rb, .inl (zk G 2, 600, .inl (zA fb)))] s.heap.size)) args s 0 0 (va_A [(rd, .inr (2, [.int (zI n), .int (zI ea), .ref rb, .int (zI P), .int (zI ta), .int (zI er), .int (zI nu), .long (zL na)])), (rb, .inl (zk G 2, 600, .inl (zA fb)))] s.heap.size)) (F0 m 3 ls []) := by
    intro fuel3
    induction fuel3 with
    | zero =>
      intro i9 k9 n9 f9 i0 hk9 n90 hb9 hz8 hfu3
      exact absurd hfu3 (Nat.not_lt_zero _)
    | succ fuel3 ih3 =>
      intro i9 k9 n9 f9 i0 hk9 n90 hb9 hz8 hfu3 H locs ls hW hl
      refine lv_iload_n (pc := 3) hx hb dX2_addBytes_3 rfl (lv_at hl 0 rfl) ?_
      refine zv_if_lt (pc := 4) (tgt := 65) hx hb dX2_addBytes_4 (by decide) ⟨by omega, by omega⟩ (fun c4 => ?_) (fun c4 => ?_)
      · obtain rfl : i9 = 4 := by omega
        have hz4 : (n9, f9) = zap4 v (n, fb) := hz8
        exact ze_v (pc := 65) hx hb hr hlk hW () rfl trivial (by rw [← hz4]) dX2_addBytes_65
      · have eB : zB4 v i9 = zand (zshr v k9) 255 := by unfold zB4 zbt; rw [hk9]
        have hbt := zbt_in v k9
        unfold zbt at hbt
        have hf4 : (4 - i9).toNat = (4 - (i9 + 1)).toNat + 1 := by omega
        have hz0 := zbn_in (B := zB4 v) (4 - (i9 + 1)).toNat (i9 + 1)
        refine lv_iload_n (pc := 7) hx hb dX2_addBytes_7 rfl (lv_at hl 2 rfl) ?_
        refine lv_iload_n (pc := 8) hx hb dX2_addBytes_8 rfl (lv_at hl 0 rfl) ?_
        refine zv_ishr (pc := 9) hx hb dX2_addBytes_9 ?_
        refine zv_sipush (pc := 10) (n := 255) hx hb dX2_addBytes_10 (by decide) ?_
        refine zv_iand (pc := 13) hx hb dX2_addBytes_13 ?_
        refine zv_name (fun v14 hv14 => ?_)
        refine lv_istore_n (pc := 14) (lv' := [(3, .int (zI v14)), (2, .int (zI k9)), (0, .ref rd), (1, .int (zI v))]) hx hb dX2_addBytes_14 rfl hl (by decide) rfl (fun ls hl => ?_)
        refine lv_iload_n (pc := 15) hx hb dX2_addBytes_15 rfl (lv_at hl 0 rfl) ?_
        refine zv_if_eq (pc := 16) (tgt := 59) hx hb dX2_addBytes_16 (by decide) ⟨by omega, by omega⟩ (fun c16 => ?_) (fun c16 => ?_)
        · refine zv_iinc (pc := 59) (lv' := [(2, .int (zI (k9 + (-8)))), (3, .int (zI v14)), (0, .ref rd), (1, .int (zI v))]) hx hb dX2_addBytes_59 hl (k := 1) rfl (by decide) rfl (fun ls hl => ?_)
          refine lv_goto (pc := 62) (tgt := 3) hx hb dX2_addBytes_62 (by decide) ?_
          exact ih3 (i9 + 1) (k9 + (-8)) n9 f9 (by omega) (by omega) (by omega) (by first | exact hb0 | omega | (rw [hf4, zbn_no (by rw [eB, ← hv14]; exact c16)] at hb9; exact hb9)) (by first | rfl | (rw [← hz8, hf4]; exact hz9.symm) | (rw [← hz8, hf4]; exact (zap_no (by rw [eB, ← hv14]; exact c16)).symm)) (by omega) _ _ _ hW (lv_sub hl [0, 2, 3] rfl)
        · have hne : zB4 v i9 ≠ 0 := by rw [eB, ← hv14]; exact c16
          rw [hf4, zbn_yes hne] at hb9
          have hz9 := zap_yes (B := zB4 v) (k := (4 - (i9 + 1)).toNat) (i := i9) (n := n9) (f := f9) hne
          rw [show zB4 v i9 = v14 from eB.trans hv14.symm] at hz9
          refine lv_aload_n (pc := 19) hx hb dX2_addBytes_19 rfl (lv_at hl 2 rfl) ?_
          refine zw_get (pc := 20) (ref := RX2) (index := 19) hx hb hts hin2 hown hW 0 rfl rfl 0 (by decide) (List.mem_of_getElem? (i := 1) rfl) (fun _ h9 => h9) rfl dX2_addBytes_20 ?_
          refine zv_if_lt (pc := 23) (tgt := 59) hx hb dX2_addBytes_23 (by decide) ⟨by omega, by omega⟩ (fun c23 => absurd c23 (by omega)) (fun c23 => ?_)
          refine lv_aload_n (pc := 26) hx hb dX2_addBytes_26 rfl (lv_at hl 2 rfl) ?_
          refine zw_get (pc := 27) (ref := RX2) (index := 19) hx hb hts hin2 hown hW 0 rfl rfl 0 (by decide) (List.mem_of_getElem? (i := 1) rfl) (fun _ h9 => h9) rfl dX2_addBytes_27 ?_
          refine lv_aload_n (pc := 30) hx hb dX2_addBytes_30 rfl (lv_at hl 2 rfl) ?_
          refine zw_get (pc := 31) (ref := RX2) (index := 15) hx hb hts hin2 hown hW 0 rfl rfl 2 (by decide) (List.mem_of_getElem? (i := 2) rfl) (fun _ h9 => h9) rfl dX2_addBytes_31 ?_
          refine zw_alen (pc := 34) hx hb hW 1 2 rfl rfl dX2_addBytes_34 ?_
          refine zv_as (b := 600) (pc := 35) rfl ?_
          refine zv_icmp_ge (pc := 35) (tgt := 59) hx hb dX2_addBytes_35 (by decide) ⟨by omega, by omega⟩ ⟨by omega, by omega⟩ (fun c35 => absurd c35 (by omega)) (fun c35 => ?_)
          refine lv_aload_n (pc := 38) hx hb dX2_addBytes_38 rfl (lv_at hl 2 rfl) ?_
          refine zw_get (pc := 39) (ref := RX2) (index := 15) hx hb hts hin2 hown hW 0 rfl rfl 2 (by decide) (List.mem_of_getElem? (i := 2) rfl) (fun _ h9 => h9) rfl dX2_addBytes_39 ?_
          refine lv_aload_n (pc := 42) hx hb dX2_addBytes_42 rfl (lv_at hl 2 rfl) ?_
          refine zw_get (pc := 43) (ref := RX2) (index := 19) hx hb hts hin2 hown hW 0 rfl rfl 0 (by decide) (List.mem_of_getElem? (i := 1) rfl) (fun _ h9 => h9) rfl dX2_addBytes_43 ?_
          refine lv_iload_n (pc := 46) hx hb dX2_addBytes_46 rfl (lv_at hl 0 rfl) ?_
          refine zv_i2c (pc := 47) hx hb dX2_addBytes_47 (by omega) (by omega) ?_
          refine zw_cast (pc := 48) (ws' := [(rd, .inr (2, [.int (zI n9), .int (zI ea), .ref rb, .int (zI P), .int (zI ta), .int (zI er), .int (zI nu), .long (zL na)])), (rb, .inl (zk G 2, 600, .inl (zA (zU f9 n9 v14))))]) hx hb hW 1 rfl (by omega) (by omega) (by decide) (by omega) (by omega) rfl dX2_addBytes_48 (fun H locs hW => ?_)
          refine lv_aload_n (pc := 49) hx hb dX2_addBytes_49 rfl (lv_at hl 2 rfl) ?_
          refine lv_dup (pc := 50) hx hb dX2_addBytes_50 rfl ?_
          refine zw_get (pc := 51) (ref := RX2) (index := 19) hx hb hts hin2 hown hW 0 rfl rfl 0 (by decide) (List.mem_of_getElem? (i := 1) rfl) (fun _ h9 => h9) rfl dX2_addBytes_51 ?_
          refine zv_iconst (pc := 54) (n := 1) hx hb dX2_addBytes_54 ?_
          refine zv_iadd (pc := 55) hx hb dX2_addBytes_55 ?_
          refine zw_put (pc := 56) (ws' := [(rd, .inr (2, [.int (zI (n9 + 1)), .int (zI ea), .ref rb, .int (zI P), .int (zI ta), .int (zI er), .int (zI nu), .long (zL na)])), (rb, .inl (zk G 2, 600, .inl (zA (zU f9 n9 v14))))]) (ref := RX2) (index := 19) hx hb hts hin2 tyX2 tyX2_ok nmX2 hown hW 0 rfl rfl 0 (by decide) (List.mem_of_getElem? (i := 1) rfl) (fun _ h9 => h9) rfl (tyX2_ok 0 (by decide)) rfl rfl (Nat.le_of_ble_eq_true rfl) rfl dX2_addBytes_56 (fun H locs hW => ?_)
          refine zv_iinc (pc := 59) (lv' := [(2, .int (zI (k9 + (-8)))), (3, .int (zI v14)), (0, .ref rd), (1, .int (zI v))]) hx hb dX2_addBytes_59 hl (k := 1) rfl (by decide) rfl (fun ls hl => ?_)
          refine lv_goto (pc := 62) (tgt := 3) hx hb dX2_addBytes_62 (by decide) ?_
          exact ih3 (i9 + 1) (k9 + (-8)) (n9 + 1) (zU f9 n9 v14) (by omega) (by omega) (by omega) (by first | exact hb0 | omega | (rw [hf4, zbn_no (by rw [eB, ← hv14]; exact c16)] at hb9; exact hb9)) (by first | rfl | (rw [← hz8, hf4]; exact hz9.symm) | (rw [← hz8, hf4]; exact (zap_no (by rw [eB, ← hv14]; exact c16)).symm)) (by omega) _ _ _ hW (lv_sub hl [0, 2, 3] rfl)
  exact J3 (((24 + 9 : Int).toNat) + 1) 0 24 n fb (by omega) (by omega) (by omega) (by first | exact hb0 | omega | (rw [hf4, zbn_no (by rw [eB, ← hv14]; exact c16)] at hb9; exact hb9)) (by first | rfl | (rw [← hz8, hf4]; exact hz9.symm) | (rw [← hz8, hf4]; exact (zap_no (by rw [eB, ← hv14]; exact c16)).symm)) (Nat.lt_succ_self _) _ _ _ hW (lv_sub hl [0, 1, 2] rfl)

set_option maxHeartbeats 1000000 in
set_option maxRecDepth 100000 in
/-- append -/
theorem kX6_append (G : zG) (l : Launch) (hst : l.stackTraces = false) (wo : Nat) (dq : Nat) (pp : Nat) (sv : Nat) (txt : Nat) (tb : Nat) (sp : Nat) (op : Nat) (q : Nat) (rd : Nat) (n : Int) (ea : Int) (rb : Nat) (P : Int) (ta : Int) (er : Int) (nu : Int) (na : Int) (fb : Int → Int) (va : Int) (vb : Int) (vc : Int) (vd : Int) (ve : Int) (ht : qtext fb n) : zMx G l yX6_append wsX6_append { frames := 6, cells := 1, slots := 6, locals := 89 } [.ref wo, .int (zI va), .int (zI vb), .int (zI vc), .int (zI vd), .int (zI ve)] [(wo, .inr (6, [.ref q, .ref dq, .ref pp, .ref sv, .ref rd, .ref txt, .ref tb, .ref sp, .ref op])), (rd, .inr (2, [.int (zI n), .int (zI ea), .ref rb, .int (zI P), .int (zI ta), .int (zI er), .int (zI nu), .long (zL na)])), (rb, .inl (zk G 2, 600, .inl (zA fb)))] (S := Unit) (zri (fun _ => (zap (zB20 va vb vc vd ve) 20 0 n fb).1)) (fun _ => n + zbn (zB20 va vb vc vd ve) 20 0 ≤ 600) (fun _ => [(wo, .inr (6, [.ref q, .ref dq, .ref pp, .ref sv, .ref rd, .ref txt, .ref tb, .ref sp, .ref op])), (rd, .inr (2, [.int (zI ((zap (zB20 va vb vc vd ve) 20 0 n fb).1)), .int (zI ea), .ref rb, .int (zI P), .int (zI ta), .int (zI er), .int (zI nu), .long (zL na)])), (rb, .inl (zk G 2, 600, .inl (zA ((zap (zB20 va vb vc vd ve) 20 0 n fb).2))))]) (SX := Unit) (fun E _ => (E = "java/lang/IllegalStateException" ∧ 600 < n + zbn (zB20 va vb vc vd ve) 20 0)) (fun _ => [(wo, .inr (6, [.ref q, .ref dq, .ref pp, .ref sv, .ref rd, .ref txt, .ref tb, .ref sp, .ref op])), (rd, .inr (2, [.int (zI n), .int (zI ea), .ref rb, .int (zI P), .int (zI ta), .int (zI er), .int (zI nu), .long (zL na)])), (rb, .inl (zk G 2, 600, .inl (zA fb)))]) 1 6 := by
  refine zMx.of (cc := cX6_append) (maxL := 7) (ret := (some .int)) (by decide) rfl (Nat.le_of_ble_eq_true rfl) (l0 := [(0, .ref wo), (1, .int (zI va)), (2, .int (zI vb)), (3, .int (zI vc)), (4, .int (zI vd)), (5, .int (zI ve))]) rfl ?_
  intro p e s m args below meth c ls F hr hlk hnm hex hW hl
  obtain ⟨hx, hb, hml, hown, hts⟩ := id F
  have hin2 : ∀ w ∈ wsX20, w ∈ wsX6_append := fun _ h => List.mem_cons_of_mem _ (List.mem_append_left _ (List.mem_append_right _ (h)))
  have hin6 : ∀ w ∈ wsX60, w ∈ wsX6_append := fun _ h => List.mem_cons_of_mem _ (List.mem_append_left _ (List.mem_append_left _ (List.mem_append_right _ (h))))
  obtain ⟨⟨n0, n6⟩, hx8⟩ := id ht
  have b09 := zbn_4 (v := va)
  have z09 := zbn_in (B := zB4 va) 4 0
  have b19 := zbn_4 (v := vb)
  have z19 := zbn_in (B := zB4 vb) 4 0
  have b29 := zbn_4 (v := vc)
  have z29 := zbn_in (B := zB4 vc) 4 0
  have b39 := zbn_4 (v := vd)
  have z39 := zbn_in (B := zB4 vd) 4 0
  have b49 := zbn_4 (v := ve)
  have z49 := zbn_in (B := zB4 ve) 4 0
  have b209 := zbn_20 (a := va) (b := vb) (c := vc) (d := vd) (e := ve)
  have y00 := zbc_in va 0
  have y01 := zbc_in va 8
  have y02 := zbc_in va 16
  have y03 := zbc_in va 24
  have y10 := zbc_in vb 0
  have y11 := zbc_in vb 8
  have y12 := zbc_in vb 16
  have y13 := zbc_in vb 24
  have y20 := zbc_in vc 0
  have y21 := zbc_in vc 8
  have y22 := zbc_in vc 16
  have y23 := zbc_in vc 24
  have y30 := zbc_in vd 0
  have y31 := zbc_in vd 8
  have y32 := zbc_in vd 16
  have y33 := zbc_in vd 24
  have y40 := zbc_in ve 0
  have y41 := zbc_in ve 8
  have y42 := zbc_in ve 16
  have y43 := zbc_in ve 24
  refine lv_iload_n (pc := 0) hx hb dX6_append_0 rfl (lv_at hl 1 rfl) ?_
  refine z_S (pc := 1) (As := [.int (zI va)]) (rest := []) (wn := (fun _ => [(wo, .inr (6, [.ref q, .ref dq, .ref pp, .ref sv, .ref rd, .ref txt, .ref tb, .ref sp, .ref op])), (rd, .inr (2, [.int (zI n), .int (zI ea), .ref rb, .int (zI P), .int (zI ta), .int (zI er), .int (zI nu), .long (zL na)])), (rb, .inl (zk G 2, 600, .inl (zA fb)))])) (wr := [(wo, .inr (6, [.ref q, .ref dq, .ref pp, .ref sv, .ref rd, .ref txt, .ref tb, .ref sp, .ref op])), (rd, .inr (2, [.int (zI n), .int (zI ea), .ref rb, .int (zI P), .int (zI ta), .int (zI er), .int (zI nu), .long (zL na)])), (rb, .inl (zk G 2, 600, .inl (zA fb)))]) F (kX6_bytesIn G l va) (va_cwS 1 hts gX6_append_X6_bytesIn rfl rfl rfl (by decide +kernel) ⟨Nat.le_of_ble_eq_true rfl, Nat.le_of_ble_eq_true rfl⟩) hW [] [0, 1, 2] (by decide) rfl rfl rfl (by decide) (by decide) [0, 1, 2] (by decide) (fun _ => rfl) (fun _ => rfl) rfl hl.1 rfl (Nat.le_of_ble_eq_true rfl) dX6_append_1 ⟨Nat.le_of_ble_eq_true rfl, Nat.le_of_ble_eq_true rfl⟩ (fun _ H locs _ hW => ?_)
  show W p l e _ s m args below meth c H locs _ _ _ (F0 m 4 ls [.int (zI (zbc va 24 + zbc va 16 + zbc va 8 + zbc va 0))])
  refine lv_iload_n (pc := 4) hx hb dX6_append_4 rfl (lv_at hl 2 rfl) ?_
  refine z_S (pc := 5) (As := [.int (zI vb)]) (rest := [.int (zI (zbc va 24 + zbc va 16 + zbc va 8 + zbc va 0))]) (wn := (fun _ => [(wo, .inr (6, [.ref q, .ref dq, .ref pp, .ref sv, .ref rd, .ref txt, .ref tb, .ref sp, .ref op])), (rd, .inr (2, [.int (zI n), .int (zI ea), .ref rb, .int (zI P), .int (zI ta), .int (zI er), .int (zI nu), .long (zL na)])), (rb, .inl (zk G 2, 600, .inl (zA fb)))])) (wr := [(wo, .inr (6, [.ref q, .ref dq, .ref pp, .ref sv, .ref rd, .ref txt, .ref tb, .ref sp, .ref op])), (rd, .inr (2, [.int (zI n), .int (zI ea), .ref rb, .int (zI P), .int (zI ta), .int (zI er), .int (zI nu), .long (zL na)])), (rb, .inl (zk G 2, 600, .inl (zA fb)))]) F (kX6_bytesIn G l vb) (va_cwS 1 hts gX6_append_X6_bytesIn rfl rfl rfl (by decide +kernel) ⟨Nat.le_of_ble_eq_true rfl, Nat.le_of_ble_eq_true rfl⟩) hW [] [0, 1, 2] (by decide) rfl rfl rfl (by decide) (by decide) [0, 1, 2] (by decide) (fun _ => rfl) (fun _ => rfl) rfl hl.1 rfl (Nat.le_of_ble_eq_true rfl) dX6_append_5 ⟨Nat.le_of_ble_eq_true rfl, Nat.le_of_ble_eq_true rfl⟩ (fun _ H locs _ hW => ?_)
  show W p l e _ s m args below meth c H locs _ _ _ (F0 m 8 ls [.int (zI (zbc vb 24 + zbc vb 16 + zbc vb 8 + zbc vb 0)), .int (zI (zbc va 24 + zbc va 16 + zbc va 8 + zbc va 0))])
  refine zv_iadd (pc := 8) hx hb dX6_append_8 ?_
  refine lv_iload_n (pc := 9) hx hb dX6_append_9 rfl (lv_at hl 3 rfl) ?_
  refine z_S (pc := 10) (As := [.int (zI vc)]) (rest := [.int (zI ((zbc va 24 + zbc va 16 + zbc va 8 + zbc va 0) + (zbc vb 24 + zbc vb 16 + zbc vb 8 + zbc vb 0)))]) (wn := (fun _ => [(wo, .inr (6, [.ref q, .ref dq, .ref pp, .ref sv, .ref rd, .ref txt, .ref tb, .ref sp, .ref op])), (rd, .inr (2, [.int (zI n), .int (zI ea), .ref rb, .int (zI P), .int (zI ta), .int (zI er), .int (zI nu), .long (zL na)])), (rb, .inl (zk G 2, 600, .inl (zA fb)))])) (wr := [(wo, .inr (6, [.ref q, .ref dq, .ref pp, .ref sv, .ref rd, .ref txt, .ref tb, .ref sp, .ref op])), (rd, .inr (2, [.int (zI n), .int (zI ea), .ref rb, .int (zI P), .int (zI ta), .int (zI er), .int (zI nu), .long (zL na)])), (rb, .inl (zk G 2, 600, .inl (zA fb)))]) F (kX6_bytesIn G l vc) (va_cwS 1 hts gX6_append_X6_bytesIn rfl rfl rfl (by decide +kernel) ⟨Nat.le_of_ble_eq_true rfl, Nat.le_of_ble_eq_true rfl⟩) hW [] [0, 1, 2] (by decide) rfl rfl rfl (by decide) (by decide) [0, 1, 2] (by decide) (fun _ => rfl) (fun _ => rfl) rfl hl.1 rfl (Nat.le_of_ble_eq_true rfl) dX6_append_10 ⟨Nat.le_of_ble_eq_true rfl, Nat.le_of_ble_eq_true rfl⟩ (fun _ H locs _ hW => ?_)
  show W p l e _ s m args below meth c H locs _ _ _ (F0 m 13 ls [.int (zI (zbc vc 24 + zbc vc 16 + zbc vc 8 + zbc vc 0)), .int (zI ((zbc va 24 + zbc va 16 + zbc va 8 + zbc va 0) + (zbc vb 24 + zbc vb 16 + zbc vb 8 + zbc vb 0)))])
  refine zv_iadd (pc := 13) hx hb dX6_append_13 ?_
  refine lv_iload (pc := 14) hx hb dX6_append_14 (lv_at hl 4 rfl) ?_
  refine z_S (pc := 16) (As := [.int (zI vd)]) (rest := [.int (zI (((zbc va 24 + zbc va 16 + zbc va 8 + zbc va 0) + (zbc vb 24 + zbc vb 16 + zbc vb 8 + zbc vb 0)) + (zbc vc 24 + zbc vc 16 + zbc vc 8 + zbc vc 0)))]) (wn := (fun _ => [(wo, .inr (6, [.ref q, .ref dq, .ref pp, .ref sv, .ref rd, .ref txt, .ref tb, .ref sp, .ref op])), (rd, .inr (2, [.int (zI n), .int (zI ea), .ref rb, .int (zI P), .int (zI ta), .int (zI er), .int (zI nu), .long (zL na)])), (rb, .inl (zk G 2, 600, .inl (zA fb)))])) (wr := [(wo, .inr (6, [.ref q, .ref dq, .ref pp, .ref sv, .ref rd, .ref txt, .ref tb, .ref sp, .ref op])), (rd, .inr (2, [.int (zI n), .int (zI ea), .ref rb, .int (zI P), .int (zI ta), .int (zI er), .int (zI nu), .long (zL na)])), (rb, .inl (zk G 2, 600, .inl (zA fb)))]) F (kX6_bytesIn G l vd) (va_cwS 1 hts gX6_append_X6_bytesIn rfl rfl rfl (by decide +kernel) ⟨Nat.le_of_ble_eq_true rfl, Nat.le_of_ble_eq_true rfl⟩) hW [] [0, 1, 2] (by decide) rfl rfl rfl (by decide) (by decide) [0, 1, 2] (by decide) (fun _ => rfl) (fun _ => rfl) rfl hl.1 rfl (Nat.le_of_ble_eq_true rfl) dX6_append_16 ⟨Nat.le_of_ble_eq_true rfl, Nat.le_of_ble_eq_true rfl⟩ (fun _ H locs _ hW => ?_)
  show W p l e _ s m args below meth c H locs _ _ _ (F0 m 19 ls [.int (zI (zbc vd 24 + zbc vd 16 + zbc vd 8 + zbc vd 0)), .int (zI (((zbc va 24 + zbc va 16 + zbc va 8 + zbc va 0) + (zbc vb 24 + zbc vb 16 + zbc vb 8 + zbc vb 0)) + (zbc vc 24 + zbc vc 16 + zbc vc 8 + zbc vc 0)))])
  refine zv_iadd (pc := 19) hx hb dX6_append_19 ?_
  refine lv_iload (pc := 20) hx hb dX6_append_20 (lv_at hl 5 rfl) ?_
  refine z_S (pc := 22) (As := [.int (zI ve)]) (rest := [.int (zI ((((zbc va 24 + zbc va 16 + zbc va 8 + zbc va 0) + (zbc vb 24 + zbc vb 16 + zbc vb 8 + zbc vb 0)) + (zbc vc 24 + zbc vc 16 + zbc vc 8 + zbc vc 0)) + (zbc vd 24 + zbc vd 16 + zbc vd 8 + zbc vd 0)))]) (wn := (fun _ => [(wo, .inr (6, [.ref q, .ref dq, .ref pp, .ref sv, .ref rd, .ref txt, .ref tb, .ref sp, .ref op])), (rd, .inr (2, [.int (zI n), .int (zI ea), .ref rb, .int (zI P), .int (zI ta), .int (zI er), .int (zI nu), .long (zL na)])), (rb, .inl (zk G 2, 600, .inl (zA fb)))])) (wr := [(wo, .inr (6, [.ref q, .ref dq, .ref pp, .ref sv, .ref rd, .ref txt, .ref tb, .ref sp, .ref op])), (rd, .inr (2, [.int (zI n), .int (zI ea), .ref rb, .int (zI P), .int (zI ta), .int (zI er), .int (zI nu), .long (zL na)])), (rb, .inl (zk G 2, 600, .inl (zA fb)))]) F (kX6_bytesIn G l ve) (va_cwS 1 hts gX6_append_X6_bytesIn rfl rfl rfl (by decide +kernel) ⟨Nat.le_of_ble_eq_true rfl, Nat.le_of_ble_eq_true rfl⟩) hW [] [0, 1, 2] (by decide) rfl rfl rfl (by decide) (by decide) [0, 1, 2] (by decide) (fun _ => rfl) (fun _ => rfl) rfl hl.1 rfl (Nat.le_of_ble_eq_true rfl) dX6_append_22 ⟨Nat.le_of_ble_eq_true rfl, Nat.le_of_ble_eq_true rfl⟩ (fun _ H locs _ hW => ?_)
  show W p l e _ s m args below meth c H locs _ _ _ (F0 m 25 ls [.int (zI (zbc ve 24 + zbc ve 16 + zbc ve 8 + zbc ve 0)), .int (zI ((((zbc va 24 + zbc va 16 + zbc va 8 + zbc va 0) + (zbc vb 24 + zbc vb 16 + zbc vb 8 + zbc vb 0)) + (zbc vc 24 + zbc vc 16 + zbc vc 8 + zbc vc 0)) + (zbc vd 24 + zbc vd 16 + zbc vd 8 + zbc vd 0)))])
  refine zv_iadd (pc := 25) hx hb dX6_append_25 ?_
  refine zv_name (fun v26 hv26 => ?_)
  refine lv_istore (pc := 26) (lv' := [(6, .int (zI v26)), (0, .ref wo), (1, .int (zI va)), (2, .int (zI vb)), (3, .int (zI vc)), (4, .int (zI vd)), (5, .int (zI ve))]) hx hb dX6_append_26 hl (by decide) rfl (fun ls hl => ?_)
  refine lv_aload_n (pc := 28) hx hb dX6_append_28 rfl (lv_at hl 1 rfl) ?_
  refine zw_get (pc := 29) (ref := RX6) (index := 33) hx hb hts hin6 hown hW 0 rfl rfl 4 (by decide) (List.mem_of_getElem? (i := 3) rfl) (fun _ h9 => h9) rfl dX6_append_29 ?_
  refine zw_get (pc := 32) (ref := RX2) (index := 65) hx hb hts hin2 hown hW 1 rfl rfl 0 (by decide) (List.mem_of_getElem? (i := 4) rfl) (fun _ h9 => h9) rfl dX6_append_32 ?_
  refine lv_iload (pc := 35) hx hb dX6_append_35 (lv_at hl 0 rfl) ?_
  refine zv_iadd (pc := 37) hx hb dX6_append_37 ?_
  refine zv_sipush (pc := 38) (n := 600) hx hb dX6_append_38 (by decide) ?_
  refine zv_icmp_le (pc := 41) (tgt := 52) hx hb dX6_append_41 (by decide) ⟨by omega, by omega⟩ ⟨by omega, by omega⟩ (fun c41 => ?_) (fun c41 => ?_)
  · have n19 : (zap4 va (n, fb)).1 = (n, fb).1 + zbn (zB4 va) 4 0 := zap_n 4 0 _ _
    have n29 : (zap4 vb (zap4 va (n, fb))).1 = (zap4 va (n, fb)).1 + zbn (zB4 vb) 4 0 := zap_n 4 0 _ _
    have n39 : (zap4 vc (zap4 vb (zap4 va (n, fb)))).1 = (zap4 vb (zap4 va (n, fb))).1 + zbn (zB4 vc) 4 0 := zap_n 4 0 _ _
    have n49 : (zap4 vd (zap4 vc (zap4 vb (zap4 va (n, fb))))).1 = (zap4 vc (zap4 vb (zap4 va (n, fb)))).1 + zbn (zB4 vd) 4 0 := zap_n 4 0 _ _
    have n59 : (zap4 ve (zap4 vd (zap4 vc (zap4 vb (zap4 va (n, fb)))))).1 = (zap4 vd (zap4 vc (zap4 vb (zap4 va (n, fb))))).1 + zbn (zB4 ve) 4 0 := zap_n 4 0 _ _
    replace n19 : (zap4 va (n, fb)).1 = n + zbn (zB4 va) 4 0 := n19
    have hz20 := zap_20 (a := va) (b := vb) (c := vc) (d := vd) (e := ve) (n := n) (f := fb)
    refine lv_aload_n (pc := 52) hx hb dX6_append_52 rfl (lv_at hl 1 rfl) ?_
    refine zw_get (pc := 53) (ref := RX6) (index := 33) hx hb hts hin6 hown hW 0 rfl rfl 4 (by decide) (List.mem_of_getElem? (i := 3) rfl) (fun _ h9 => h9) rfl dX6_append_53 ?_
    refine lv_iload_n (pc := 56) hx hb dX6_append_56 rfl (lv_at hl 2 rfl) ?_
    refine z_V (pc := 57) (As := [.int (zI va)]) (rest := []) (wn := (fun _ => [(wo, .inr (6, [.ref q, .ref dq, .ref pp, .ref sv, .ref rd, .ref txt, .ref tb, .ref sp, .ref op])), (rd, .inr (2, [.int (zI ((zap4 va (n, fb)).1)), .int (zI ea), .ref rb, .int (zI P), .int (zI ta), .int (zI er), .int (zI nu), .long (zL na)])), (rb, .inl (zk G 2, 600, .inl (zA ((zap4 va (n, fb)).2))))])) (wr := [(wo, .inr (6, [.ref q, .ref dq, .ref pp, .ref sv, .ref rd, .ref txt, .ref tb, .ref sp, .ref op]))]) F (kX2_addBytes G l rd n ea rb P ta er nu na fb va (by first | assumption | omega) (by first | assumption | omega)) (cwV 1 hts gX6_append_X2_addBytes rfl rfl rfl (by decide +kernel) ⟨Nat.le_of_ble_eq_true rfl, Nat.le_of_ble_eq_true rfl⟩) hW 1 rfl rfl [1, 2] [0] (by decide) rfl rfl rfl (by decide) (by decide) [0, 1, 2] (by decide) (fun _ => rfl) (fun _ => rfl) rfl hl.1 rfl (Nat.le_of_ble_eq_true rfl) dX6_append_57 ⟨Nat.le_of_ble_eq_true rfl, Nat.le_of_ble_eq_true rfl⟩ (fun _ H locs _ hW => ?_)
    replace hW : zW G _ s H _ [(wo, .inr (6, [.ref q, .ref dq, .ref pp, .ref sv, .ref rd, .ref txt, .ref tb, .ref sp, .ref op])), (rd, .inr (2, [.int (zI ((zap4 va (n, fb)).1)), .int (zI ea), .ref rb, .int (zI P), .int (zI ta), .int (zI er), .int (zI nu), .long (zL na)])), (rb, .inl (zk G 2, 600, .inl (zA ((zap4 va (n, fb)).2))))] := hW
    refine lv_aload_n (pc := 60) hx hb dX6_append_60 rfl (lv_at hl 1 rfl) ?_
    refine zw_get (pc := 61) (ref := RX6) (index := 33) hx hb hts hin6 hown hW 0 rfl rfl 4 (by decide) (List.mem_of_getElem? (i := 3) rfl) (fun _ h9 => h9) rfl dX6_append_61 ?_
    refine lv_iload_n (pc := 64) hx hb dX6_append_64 rfl (lv_at hl 3 rfl) ?_
    refine z_V (pc := 65) (As := [.int (zI vb)]) (rest := []) (wn := (fun _ => [(wo, .inr (6, [.ref q, .ref dq, .ref pp, .ref sv, .ref rd, .ref txt, .ref tb, .ref sp, .ref op])), (rd, .inr (2, [.int (zI ((zap4 vb (((zap4 va (n, fb)).1), ((zap4 va (n, fb)).2))).1)), .int (zI ea), .ref rb, .int (zI P), .int (zI ta), .int (zI er), .int (zI nu), .long (zL na)])), (rb, .inl (zk G 2, 600, .inl (zA ((zap4 vb (((zap4 va (n, fb)).1), ((zap4 va (n, fb)).2))).2))))])) (wr := [(wo, .inr (6, [.ref q, .ref dq, .ref pp, .ref sv, .ref rd, .ref txt, .ref tb, .ref sp, .ref op]))]) F (kX2_addBytes G l rd ((zap4 va (n, fb)).1) ea rb P ta er nu na ((zap4 va (n, fb)).2) vb (by first | assumption | omega) (by first | assumption | omega)) (cwV 1 hts gX6_append_X2_addBytes rfl rfl rfl (by decide +kernel) ⟨Nat.le_of_ble_eq_true rfl, Nat.le_of_ble_eq_true rfl⟩) hW 1 rfl rfl [1, 2] [0] (by decide) rfl rfl rfl (by decide) (by decide) [0, 1, 2] (by decide) (fun _ => rfl) (fun _ => rfl) rfl hl.1 rfl (Nat.le_of_ble_eq_true rfl) dX6_append_65 ⟨Nat.le_of_ble_eq_true rfl, Nat.le_of_ble_eq_true rfl⟩ (fun _ H locs _ hW => ?_)
    replace hW : zW G _ s H _ [(wo, .inr (6, [.ref q, .ref dq, .ref pp, .ref sv, .ref rd, .ref txt, .ref tb, .ref sp, .ref op])), (rd, .inr (2, [.int (zI ((zap4 vb (zap4 va (n, fb))).1)), .int (zI ea), .ref rb, .int (zI P), .int (zI ta), .int (zI er), .int (zI nu), .long (zL na)])), (rb, .inl (zk G 2, 600, .inl (zA ((zap4 vb (zap4 va (n, fb))).2))))] := hW
    refine lv_aload_n (pc := 68) hx hb dX6_append_68 rfl (lv_at hl 1 rfl) ?_
    refine zw_get (pc := 69) (ref := RX6) (index := 33) hx hb hts hin6 hown hW 0 rfl rfl 4 (by decide) (List.mem_of_getElem? (i := 3) rfl) (fun _ h9 => h9) rfl dX6_append_69 ?_
    refine lv_iload_n (pc := 72) hx hb dX6_append_72 rfl (lv_at hl 4 rfl) ?_
    refine z_V (pc := 73) (As := [.int (zI vc)]) (rest := []) (wn := (fun _ => [(wo, .inr (6, [.ref q, .ref dq, .ref pp, .ref sv, .ref rd, .ref txt, .ref tb, .ref sp, .ref op])), (rd, .inr (2, [.int (zI ((zap4 vc (((zap4 vb (zap4 va (n, fb))).1), ((zap4 vb (zap4 va (n, fb))).2))).1)), .int (zI ea), .ref rb, .int (zI P), .int (zI ta), .int (zI er), .int (zI nu), .long (zL na)])), (rb, .inl (zk G 2, 600, .inl (zA ((zap4 vc (((zap4 vb (zap4 va (n, fb))).1), ((zap4 vb (zap4 va (n, fb))).2))).2))))])) (wr := [(wo, .inr (6, [.ref q, .ref dq, .ref pp, .ref sv, .ref rd, .ref txt, .ref tb, .ref sp, .ref op]))]) F (kX2_addBytes G l rd ((zap4 vb (zap4 va (n, fb))).1) ea rb P ta er nu na ((zap4 vb (zap4 va (n, fb))).2) vc (by first | assumption | omega) (by first | assumption | omega)) (cwV 1 hts gX6_append_X2_addBytes rfl rfl rfl (by decide +kernel) ⟨Nat.le_of_ble_eq_true rfl, Nat.le_of_ble_eq_true rfl⟩) hW 1 rfl rfl [1, 2] [0] (by decide) rfl rfl rfl (by decide) (by decide) [0, 1, 2] (by decide) (fun _ => rfl) (fun _ => rfl) rfl hl.1 rfl (Nat.le_of_ble_eq_true rfl) dX6_append_73 ⟨Nat.le_of_ble_eq_true rfl, Nat.le_of_ble_eq_true rfl⟩ (fun _ H locs _ hW => ?_)
    replace hW : zW G _ s H _ [(wo, .inr (6, [.ref q, .ref dq, .ref pp, .ref sv, .ref rd, .ref txt, .ref tb, .ref sp, .ref op])), (rd, .inr (2, [.int (zI ((zap4 vc (zap4 vb (zap4 va (n, fb)))).1)), .int (zI ea), .ref rb, .int (zI P), .int (zI ta), .int (zI er), .int (zI nu), .long (zL na)])), (rb, .inl (zk G 2, 600, .inl (zA ((zap4 vc (zap4 vb (zap4 va (n, fb)))).2))))] := hW
    refine lv_aload_n (pc := 76) hx hb dX6_append_76 rfl (lv_at hl 1 rfl) ?_
    refine zw_get (pc := 77) (ref := RX6) (index := 33) hx hb hts hin6 hown hW 0 rfl rfl 4 (by decide) (List.mem_of_getElem? (i := 3) rfl) (fun _ h9 => h9) rfl dX6_append_77 ?_
    refine lv_iload (pc := 80) hx hb dX6_append_80 (lv_at hl 5 rfl) ?_
    refine z_V (pc := 82) (As := [.int (zI vd)]) (rest := []) (wn := (fun _ => [(wo, .inr (6, [.ref q, .ref dq, .ref pp, .ref sv, .ref rd, .ref txt, .ref tb, .ref sp, .ref op])), (rd, .inr (2, [.int (zI ((zap4 vd (((zap4 vc (zap4 vb (zap4 va (n, fb)))).1), ((zap4 vc (zap4 vb (zap4 va (n, fb)))).2))).1)), .int (zI ea), .ref rb, .int (zI P), .int (zI ta), .int (zI er), .int (zI nu), .long (zL na)])), (rb, .inl (zk G 2, 600, .inl (zA ((zap4 vd (((zap4 vc (zap4 vb (zap4 va (n, fb)))).1), ((zap4 vc (zap4 vb (zap4 va (n, fb)))).2))).2))))])) (wr := [(wo, .inr (6, [.ref q, .ref dq, .ref pp, .ref sv, .ref rd, .ref txt, .ref tb, .ref sp, .ref op]))]) F (kX2_addBytes G l rd ((zap4 vc (zap4 vb (zap4 va (n, fb)))).1) ea rb P ta er nu na ((zap4 vc (zap4 vb (zap4 va (n, fb)))).2) vd (by first | assumption | omega) (by first | assumption | omega)) (cwV 1 hts gX6_append_X2_addBytes rfl rfl rfl (by decide +kernel) ⟨Nat.le_of_ble_eq_true rfl, Nat.le_of_ble_eq_true rfl⟩) hW 1 rfl rfl [1, 2] [0] (by decide) rfl rfl rfl (by decide) (by decide) [0, 1, 2] (by decide) (fun _ => rfl) (fun _ => rfl) rfl hl.1 rfl (Nat.le_of_ble_eq_true rfl) dX6_append_82 ⟨Nat.le_of_ble_eq_true rfl, Nat.le_of_ble_eq_true rfl⟩ (fun _ H locs _ hW => ?_)
    replace hW : zW G _ s H _ [(wo, .inr (6, [.ref q, .ref dq, .ref pp, .ref sv, .ref rd, .ref txt, .ref tb, .ref sp, .ref op])), (rd, .inr (2, [.int (zI ((zap4 vd (zap4 vc (zap4 vb (zap4 va (n, fb))))).1)), .int (zI ea), .ref rb, .int (zI P), .int (zI ta), .int (zI er), .int (zI nu), .long (zL na)])), (rb, .inl (zk G 2, 600, .inl (zA ((zap4 vd (zap4 vc (zap4 vb (zap4 va (n, fb))))).2))))] := hW
    refine lv_aload_n (pc := 85) hx hb dX6_append_85 rfl (lv_at hl 1 rfl) ?_
    refine zw_get (pc := 86) (ref := RX6) (index := 33) hx hb hts hin6 hown hW 0 rfl rfl 4 (by decide) (List.mem_of_getElem? (i := 3) rfl) (fun _ h9 => h9) rfl dX6_append_86 ?_
    refine lv_iload (pc := 89) hx hb dX6_append_89 (lv_at hl 6 rfl) ?_
    refine z_V (pc := 91) (As := [.int (zI ve)]) (rest := []) (wn := (fun _ => [(wo, .inr (6, [.ref q, .ref dq, .ref pp, .ref sv, .ref rd, .ref txt, .ref tb, .ref sp, .ref op])), (rd, .inr (2, [.int (zI ((zap4 ve (((zap4 vd (zap4 vc (zap4 vb (zap4 va (n, fb))))).1), ((zap4 vd (zap4 vc (zap4 vb (zap4 va (n, fb))))).2))).1)), .int (zI ea), .ref rb, .int (zI P), .int (zI ta), .int (zI er), .int (zI nu), .long (zL na)])), (rb, .inl (zk G 2, 600, .inl (zA ((zap4 ve (((zap4 vd (zap4 vc (zap4 vb (zap4 va (n, fb))))).1), ((zap4 vd (zap4 vc (zap4 vb (zap4 va (n, fb))))).2))).2))))])) (wr := [(wo, .inr (6, [.ref q, .ref dq, .ref pp, .ref sv, .ref rd, .ref txt, .ref tb, .ref sp, .ref op]))]) F (kX2_addBytes G l rd ((zap4 vd (zap4 vc (zap4 vb (zap4 va (n, fb))))).1) ea rb P ta er nu na ((zap4 vd (zap4 vc (zap4 vb (zap4 va (n, fb))))).2) ve (by first | assumption | omega) (by first | assumption | omega)) (cwV 1 hts gX6_append_X2_addBytes rfl rfl rfl (by decide +kernel) ⟨Nat.le_of_ble_eq_true rfl, Nat.le_of_ble_eq_true rfl⟩) hW 1 rfl rfl [1, 2] [0] (by decide) rfl rfl rfl (by decide) (by decide) [0, 1, 2] (by decide) (fun _ => rfl) (fun _ => rfl) rfl hl.1 rfl (Nat.le_of_ble_eq_true rfl) dX6_append_91 ⟨Nat.le_of_ble_eq_true rfl, Nat.le_of_ble_eq_true rfl⟩ (fun _ H locs _ hW => ?_)
    replace hW : zW G _ s H _ [(wo, .inr (6, [.ref q, .ref dq, .ref pp, .ref sv, .ref rd, .ref txt, .ref tb, .ref sp, .ref op])), (rd, .inr (2, [.int (zI ((zap4 ve (zap4 vd (zap4 vc (zap4 vb (zap4 va (n, fb)))))).1)), .int (zI ea), .ref rb, .int (zI P), .int (zI ta), .int (zI er), .int (zI nu), .long (zL na)])), (rb, .inl (zk G 2, 600, .inl (zA ((zap4 ve (zap4 vd (zap4 vc (zap4 vb (zap4 va (n, fb)))))).2))))] := hW
    refine lv_aload_n (pc := 94) hx hb dX6_append_94 rfl (lv_at hl 1 rfl) ?_
    refine zw_get (pc := 95) (ref := RX6) (index := 33) hx hb hts hin6 hown hW 0 rfl rfl 4 (by decide) (List.mem_of_getElem? (i := 3) rfl) (fun _ h9 => h9) rfl dX6_append_95 ?_
    refine zw_get (pc := 98) (ref := RX2) (index := 65) hx hb hts hin2 hown hW 1 rfl rfl 0 (by decide) (List.mem_of_getElem? (i := 4) rfl) (fun _ h9 => h9) rfl dX6_append_98 ?_
    refine zwide (k := 1) (n := 6) (Nat.le_of_ble_eq_true rfl) (Nat.le_of_ble_eq_true rfl) ?_
    refine zv_as (pc := 101) (a := (zap4 ve (zap4 vd (zap4 vc (zap4 vb (zap4 va (n, fb)))))).1) (b := (zap (zB20 va vb vc vd ve) 20 0 n fb).1) (by rw [hz20]) ?_
    exact vx_ret (ze_i (pc := 101) hx hb hr hlk hW () rfl (by omega) (by rw [hz20]) dX6_append_101)
  · exact zx_throw (pc := 44) (own := RX6) (cls := "java/lang/IllegalStateException") (names := ["java/lang/RuntimeException", "java/lang/Exception"]) (ik := 69) (ic := 71) hx hb hst hown (by decide +kernel) (by decide +kernel) (hts _ (List.mem_of_getElem? (i := 1) rfl)) (hts _ (List.mem_of_getElem? (i := 2) rfl)) (zat hW hts 0 rfl (fun _ h => List.mem_cons_of_mem _ (List.mem_append_right _ (h))) (by decide +kernel)) (by decide +kernel) hex hlk (hl.1.trans hml.symm) dX6_append_44 dX6_append_47 dX6_append_48 dX6_append_51 (Nat.le_of_ble_eq_true rfl) (Nat.le_of_ble_eq_true rfl) (Nat.le_of_ble_eq_true rfl) (Nat.le_of_ble_eq_true rfl) hW () (by first | exact ⟨rfl, by omega⟩ | exact .inl ⟨rfl, by omega⟩ | exact .inr ⟨rfl, by omega⟩ | exact .inr (.inl ⟨rfl, by omega⟩) | exact .inr (.inr ⟨rfl, by omega⟩)) rfl (Nat.le_of_ble_eq_true rfl) (Nat.le_of_ble_eq_true rfl)

set_option maxHeartbeats 1000000 in
set_option maxRecDepth 100000 in
/-- byteOf -/
theorem kX7_byteOf (G : zG) (l : Launch) (i : Int) (va : Int) (vb : Int) (vc : Int) (vd : Int) (ve : Int) (i0 : 0 ≤ i) (i1 : i < 20) : zM G l yX7_byteOf wsX7_byteOf { frames := 0, cells := 0, slots := 0, locals := 0 } [.int (zI i), .int (zI va), .int (zI vb), .int (zI vc), .int (zI vd), .int (zI ve)] [] (S := Unit) (zri (fun _ => zB20 va vb vc vd ve i)) (fun _ => True) (fun _ => []) 0 0 := by
  refine zM.of (cc := cX7_byteOf) (maxL := 7) (ret := (some .int)) (by decide) rfl (Nat.le_of_ble_eq_true rfl) (l0 := [(0, .int (zI i)), (1, .int (zI va)), (2, .int (zI vb)), (3, .int (zI vc)), (4, .int (zI vd)), (5, .int (zI ve))]) rfl ?_
  intro p e s m args below meth c ls F hr hlk hnm hW hl
  obtain ⟨hx, hb, hml, hown, hts⟩ := id F
  refine lv_iload_n (pc := 0) hx hb dX7_byteOf_0 rfl (lv_at hl 0 rfl) ?_
  refine zv_iconst (pc := 1) (n := 4) hx hb dX7_byteOf_1 ?_
  refine zv_icmp_ge (pc := 2) (tgt := 9) hx hb dX7_byteOf_2 (by decide) ⟨by omega, by omega⟩ ⟨by omega, by omega⟩ (fun c2 => ?_) (fun c2 => ?_)
  · refine lv_iload_n (pc := 9) hx hb dX7_byteOf_9 rfl (lv_at hl 0 rfl) ?_
    refine zv_bipush (pc := 10) (n := 8) hx hb dX7_byteOf_10 (by decide) ?_
    refine zv_icmp_ge (pc := 12) (tgt := 19) hx hb dX7_byteOf_12 (by decide) ⟨by omega, by omega⟩ ⟨by omega, by omega⟩ (fun c12 => ?_) (fun c12 => ?_)
    · refine lv_iload_n (pc := 19) hx hb dX7_byteOf_19 rfl (lv_at hl 0 rfl) ?_
      refine zv_bipush (pc := 20) (n := 12) hx hb dX7_byteOf_20 (by decide) ?_
      refine zv_icmp_ge (pc := 22) (tgt := 29) hx hb dX7_byteOf_22 (by decide) ⟨by omega, by omega⟩ ⟨by omega, by omega⟩ (fun c22 => ?_) (fun c22 => ?_)
      · refine lv_iload_n (pc := 29) hx hb dX7_byteOf_29 rfl (lv_at hl 0 rfl) ?_
        refine zv_bipush (pc := 30) (n := 16) hx hb dX7_byteOf_30 (by decide) ?_
        refine zv_icmp_ge (pc := 32) (tgt := 40) hx hb dX7_byteOf_32 (by decide) ⟨by omega, by omega⟩ ⟨by omega, by omega⟩ (fun c32 => ?_) (fun c32 => ?_)
        · refine lv_iload (pc := 40) hx hb dX7_byteOf_40 (lv_at hl 5 rfl) ?_
          refine lv_istore (pc := 42) (lv' := [(6, .int (zI ve)), (0, .int (zI i)), (1, .int (zI va)), (2, .int (zI vb)), (3, .int (zI vc)), (4, .int (zI vd)), (5, .int (zI ve))]) hx hb dX7_byteOf_42 hl (by decide) rfl (fun ls hl => ?_)
          refine lv_iload (pc := 44) hx hb dX7_byteOf_44 (lv_at hl 0 rfl) ?_
          refine zv_bipush (pc := 46) (n := 24) hx hb dX7_byteOf_46 (by decide) ?_
          refine zv_bipush (pc := 48) (n := 8) hx hb dX7_byteOf_48 (by decide) ?_
          refine lv_iload_n (pc := 50) hx hb dX7_byteOf_50 rfl (lv_at hl 1 rfl) ?_
          refine zv_iconst (pc := 51) (n := 4) hx hb dX7_byteOf_51 ?_
          refine zv_irem (pc := 52) hx hb dX7_byteOf_52 ⟨by omega, by omega⟩ ⟨by omega, by omega⟩ (by omega) ?_
          refine zv_as (pc := 53) (a := Int.tmod i 4) (b := i % 4) (Int.tmod_eq_emod_of_nonneg (by omega)) ?_
          refine zv_imul (pc := 53) hx hb dX7_byteOf_53 ?_
          refine zv_isub (pc := 54) hx hb dX7_byteOf_54 ?_
          refine zv_ishr (pc := 55) hx hb dX7_byteOf_55 ?_
          refine zv_sipush (pc := 56) (n := 255) hx hb dX7_byteOf_56 (by decide) ?_
          refine zv_iand (pc := 59) hx hb dX7_byteOf_59 ?_
          refine zv_as (pc := 60) (a := zand (zshr ve (24 - (8 * (i % 4)))) 255) (b := zB20 va vb vc vd ve i) (by unfold zB20 zb5 zbt; first | rw [if_pos (by omega)] | rw [if_neg (by omega), if_pos (by omega)] | rw [if_neg (by omega), if_neg (by omega), if_pos (by omega)] | rw [if_neg (by omega), if_neg (by omega), if_neg (by omega), if_pos (by omega)] | rw [if_neg (by omega), if_neg (by omega), if_neg (by omega), if_neg (by omega)]) ?_
          exact ze_i (pc := 60) hx hb hr hlk hW () rfl trivial rfl dX7_byteOf_60
        · refine lv_iload (pc := 35) hx hb dX7_byteOf_35 (lv_at hl 4 rfl) ?_
          refine lv_goto (pc := 37) (tgt := 42) hx hb dX7_byteOf_37 (by decide) ?_
          refine lv_istore (pc := 42) (lv' := [(6, .int (zI vd)), (0, .int (zI i)), (1, .int (zI va)), (2, .int (zI vb)), (3, .int (zI vc)), (4, .int (zI vd)), (5, .int (zI ve))]) hx hb dX7_byteOf_42 hl (by decide) rfl (fun ls hl => ?_)
          refine lv_iload (pc := 44) hx hb dX7_byteOf_44 (lv_at hl 0 rfl) ?_
          refine zv_bipush (pc := 46) (n := 24) hx hb dX7_byteOf_46 (by decide) ?_
          refine zv_bipush (pc := 48) (n := 8) hx hb dX7_byteOf_48 (by decide) ?_
          refine lv_iload_n (pc := 50) hx hb dX7_byteOf_50 rfl (lv_at hl 1 rfl) ?_
          refine zv_iconst (pc := 51) (n := 4) hx hb dX7_byteOf_51 ?_
          refine zv_irem (pc := 52) hx hb dX7_byteOf_52 ⟨by omega, by omega⟩ ⟨by omega, by omega⟩ (by omega) ?_
          refine zv_as (pc := 53) (a := Int.tmod i 4) (b := i % 4) (Int.tmod_eq_emod_of_nonneg (by omega)) ?_
          refine zv_imul (pc := 53) hx hb dX7_byteOf_53 ?_
          refine zv_isub (pc := 54) hx hb dX7_byteOf_54 ?_
          refine zv_ishr (pc := 55) hx hb dX7_byteOf_55 ?_
          refine zv_sipush (pc := 56) (n := 255) hx hb dX7_byteOf_56 (by decide) ?_
          refine zv_iand (pc := 59) hx hb dX7_byteOf_59 ?_
          refine zv_as (pc := 60) (a := zand (zshr vd (24 - (8 * (i % 4)))) 255) (b := zB20 va vb vc vd ve i) (by unfold zB20 zb5 zbt; first | rw [if_pos (by omega)] | rw [if_neg (by omega), if_pos (by omega)] | rw [if_neg (by omega), if_neg (by omega), if_pos (by omega)] | rw [if_neg (by omega), if_neg (by omega), if_neg (by omega), if_pos (by omega)] | rw [if_neg (by omega), if_neg (by omega), if_neg (by omega), if_neg (by omega)]) ?_
          exact ze_i (pc := 60) hx hb hr hlk hW () rfl trivial rfl dX7_byteOf_60
      · refine lv_iload_n (pc := 25) hx hb dX7_byteOf_25 rfl (lv_at hl 3 rfl) ?_
        refine lv_goto (pc := 26) (tgt := 42) hx hb dX7_byteOf_26 (by decide) ?_
        refine lv_istore (pc := 42) (lv' := [(6, .int (zI vc)), (0, .int (zI i)), (1, .int (zI va)), (2, .int (zI vb)), (3, .int (zI vc)), (4, .int (zI vd)), (5, .int (zI ve))]) hx hb dX7_byteOf_42 hl (by decide) rfl (fun ls hl => ?_)
        refine lv_iload (pc := 44) hx hb dX7_byteOf_44 (lv_at hl 0 rfl) ?_
        refine zv_bipush (pc := 46) (n := 24) hx hb dX7_byteOf_46 (by decide) ?_
        refine zv_bipush (pc := 48) (n := 8) hx hb dX7_byteOf_48 (by decide) ?_
        refine lv_iload_n (pc := 50) hx hb dX7_byteOf_50 rfl (lv_at hl 1 rfl) ?_
        refine zv_iconst (pc := 51) (n := 4) hx hb dX7_byteOf_51 ?_
        refine zv_irem (pc := 52) hx hb dX7_byteOf_52 ⟨by omega, by omega⟩ ⟨by omega, by omega⟩ (by omega) ?_
        refine zv_as (pc := 53) (a := Int.tmod i 4) (b := i % 4) (Int.tmod_eq_emod_of_nonneg (by omega)) ?_
        refine zv_imul (pc := 53) hx hb dX7_byteOf_53 ?_
        refine zv_isub (pc := 54) hx hb dX7_byteOf_54 ?_
        refine zv_ishr (pc := 55) hx hb dX7_byteOf_55 ?_
        refine zv_sipush (pc := 56) (n := 255) hx hb dX7_byteOf_56 (by decide) ?_
        refine zv_iand (pc := 59) hx hb dX7_byteOf_59 ?_
        refine zv_as (pc := 60) (a := zand (zshr vc (24 - (8 * (i % 4)))) 255) (b := zB20 va vb vc vd ve i) (by unfold zB20 zb5 zbt; first | rw [if_pos (by omega)] | rw [if_neg (by omega), if_pos (by omega)] | rw [if_neg (by omega), if_neg (by omega), if_pos (by omega)] | rw [if_neg (by omega), if_neg (by omega), if_neg (by omega), if_pos (by omega)] | rw [if_neg (by omega), if_neg (by omega), if_neg (by omega), if_neg (by omega)]) ?_
        exact ze_i (pc := 60) hx hb hr hlk hW () rfl trivial rfl dX7_byteOf_60
    · refine lv_iload_n (pc := 15) hx hb dX7_byteOf_15 rfl (lv_at hl 2 rfl) ?_
      refine lv_goto (pc := 16) (tgt := 42) hx hb dX7_byteOf_16 (by decide) ?_
      refine lv_istore (pc := 42) (lv' := [(6, .int (zI vb)), (0, .int (zI i)), (1, .int (zI va)), (2, .int (zI vb)), (3, .int (zI vc)), (4, .int (zI vd)), (5, .int (zI ve))]) hx hb dX7_byteOf_42 hl (by decide) rfl (fun ls hl => ?_)
      refine lv_iload (pc := 44) hx hb dX7_byteOf_44 (lv_at hl 0 rfl) ?_
      refine zv_bipush (pc := 46) (n := 24) hx hb dX7_byteOf_46 (by decide) ?_
      refine zv_bipush (pc := 48) (n := 8) hx hb dX7_byteOf_48 (by decide) ?_
      refine lv_iload_n (pc := 50) hx hb dX7_byteOf_50 rfl (lv_at hl 1 rfl) ?_
      refine zv_iconst (pc := 51) (n := 4) hx hb dX7_byteOf_51 ?_
      refine zv_irem (pc := 52) hx hb dX7_byteOf_52 ⟨by omega, by omega⟩ ⟨by omega, by omega⟩ (by omega) ?_
      refine zv_as (pc := 53) (a := Int.tmod i 4) (b := i % 4) (Int.tmod_eq_emod_of_nonneg (by omega)) ?_
      refine zv_imul (pc := 53) hx hb dX7_byteOf_53 ?_
      refine zv_isub (pc := 54) hx hb dX7_byteOf_54 ?_
      refine zv_ishr (pc := 55) hx hb dX7_byteOf_55 ?_
      refine zv_sipush (pc := 56) (n := 255) hx hb dX7_byteOf_56 (by decide) ?_
      refine zv_iand (pc := 59) hx hb dX7_byteOf_59 ?_
      refine zv_as (pc := 60) (a := zand (zshr vb (24 - (8 * (i % 4)))) 255) (b := zB20 va vb vc vd ve i) (by unfold zB20 zb5 zbt; first | rw [if_pos (by omega)] | rw [if_neg (by omega), if_pos (by omega)] | rw [if_neg (by omega), if_neg (by omega), if_pos (by omega)] | rw [if_neg (by omega), if_neg (by omega), if_neg (by omega), if_pos (by omega)] | rw [if_neg (by omega), if_neg (by omega), if_neg (by omega), if_neg (by omega)]) ?_
      exact ze_i (pc := 60) hx hb hr hlk hW () rfl trivial rfl dX7_byteOf_60
  · refine lv_iload_n (pc := 5) hx hb dX7_byteOf_5 rfl (lv_at hl 1 rfl) ?_
    refine lv_goto (pc := 6) (tgt := 42) hx hb dX7_byteOf_6 (by decide) ?_
    refine lv_istore (pc := 42) (lv' := [(6, .int (zI va)), (0, .int (zI i)), (1, .int (zI va)), (2, .int (zI vb)), (3, .int (zI vc)), (4, .int (zI vd)), (5, .int (zI ve))]) hx hb dX7_byteOf_42 hl (by decide) rfl (fun ls hl => ?_)
    refine lv_iload (pc := 44) hx hb dX7_byteOf_44 (lv_at hl 0 rfl) ?_
    refine zv_bipush (pc := 46) (n := 24) hx hb dX7_byteOf_46 (by decide) ?_
    refine zv_bipush (pc := 48) (n := 8) hx hb dX7_byteOf_48 (by decide) ?_
    refine lv_iload_n (pc := 50) hx hb dX7_byteOf_50 rfl (lv_at hl 1 rfl) ?_
    refine zv_iconst (pc := 51) (n := 4) hx hb dX7_byteOf_51 ?_
    refine zv_irem (pc := 52) hx hb dX7_byteOf_52 ⟨by omega, by omega⟩ ⟨by omega, by omega⟩ (by omega) ?_
    refine zv_as (pc := 53) (a := Int.tmod i 4) (b := i % 4) (Int.tmod_eq_emod_of_nonneg (by omega)) ?_
    refine zv_imul (pc := 53) hx hb dX7_byteOf_53 ?_
    refine zv_isub (pc := 54) hx hb dX7_byteOf_54 ?_
    refine zv_ishr (pc := 55) hx hb dX7_byteOf_55 ?_
    refine zv_sipush (pc := 56) (n := 255) hx hb dX7_byteOf_56 (by decide) ?_
    refine zv_iand (pc := 59) hx hb dX7_byteOf_59 ?_
    refine zv_as (pc := 60) (a := zand (zshr va (24 - (8 * (i % 4)))) 255) (b := zB20 va vb vc vd ve i) (by unfold zB20 zb5 zbt; first | rw [if_pos (by omega)] | rw [if_neg (by omega), if_pos (by omega)] | rw [if_neg (by omega), if_neg (by omega), if_pos (by omega)] | rw [if_neg (by omega), if_neg (by omega), if_neg (by omega), if_pos (by omega)] | rw [if_neg (by omega), if_neg (by omega), if_neg (by omega), if_neg (by omega)]) ?_
    exact ze_i (pc := 60) hx hb hr hlk hW () rfl trivial rfl dX7_byteOf_60

set_option maxHeartbeats 1000000 in
set_option maxRecDepth 100000 in
/-- append -/
theorem kX7_append (G : zG) (l : Launch) (z : Nat) (r0 : Nat) (r1 : Nat) (r2 : Nat) (r3 : Nat) (r4 : Nat) (km : Int) (th : Int) (r7 : Nat) (bu : Int) (pa : Int) (pb : Int) (ki : Int) (nu : Int) (wr : Int) (wa : Int) (ea : Int) (lx : Int) (ly : Int) (lh : Int) (lz : Int) (r20 : Nat) (go : Int) (iT : Int) (iM : Int) (iK : Int) (r25 : Nat) (wm : Int) (tm : Int) (te : Bool) (fbf : Int → Int) (va : Int) (vb : Int) (vc : Int) (vd : Int) (ve : Int) (ht : qtext fbf bu) : zM G l yX7_append wsX7_append { frames := 1, cells := 0, slots := 0, locals := 26 } [.ref z, .int (zI va), .int (zI vb), .int (zI vc), .int (zI vd), .int (zI ve)] [(z, .inr (7, [.ref r0, .ref r1, .ref r2, .ref r3, .ref r4, .int (zI km), .int (zI th), .ref r7, .int (zI bu), .int (zI pa), .int (zI pb), .int (zI ki), .int (zI nu), .int (zI wr), .int (zI wa), .int (zI ea), .long (zL lx), .long (zL ly), .long (zL lh), .long (zL lz), .ref r20, .int (zI go), .int (zI iT), .int (zI iM), .int (zI iK), .ref r25, .int (zI wm), .int (zI tm), .int (zI (zb te))])), (r7, .inl (zk G 0, 600, .inl (zA fbf)))] (S := Int × (Int → Int)) (zri (fun u => if zc1 (bu + zbn (zB20 va vb vc vd ve) 20 0 ≤ 600) = 0 then u.1 else 0)) (fun u => ((bu + zbn (zB20 va vb vc vd ve) 20 0 ≤ 600) → (u.1, u.2) = (zap (zB20 va vb vc vd ve) 20 0 bu fbf)) ∧ (¬ (bu + zbn (zB20 va vb vc vd ve) 20 0 ≤ 600) → u.1 = bu ∧ u.2 = fbf)) (fun u => [(z, .inr (7, [.ref r0, .ref r1, .ref r2, .ref r3, .ref r4, .int (zI km), .int (zI (zc1 (bu + zbn (zB20 va vb vc vd ve) 20 0 ≤ 600))), .ref r7, .int (zI u.1), .int (zI pa), .int (zI pb), .int (zI ki), .int (zI nu), .int (zI wr), .int (zI wa), .int (zI ea), .long (zL lx), .long (zL ly), .long (zL lh), .long (zL lz), .ref r20, .int (zI go), .int (zI iT), .int (zI iM), .int (zI iK), .ref r25, .int (zI wm), .int (zI tm), .int (zI (zb te))])), (r7, .inl (zk G 0, 600, .inl (zA u.2)))]) 0 0 := by
  refine zM.of (cc := cX7_append) (maxL := 9) (ret := (some .int)) (by decide) rfl (Nat.le_of_ble_eq_true rfl) (l0 := [(0, .ref z), (1, .int (zI va)), (2, .int (zI vb)), (3, .int (zI vc)), (4, .int (zI vd)), (5, .int (zI ve))]) rfl ?_
  intro p e s m args below meth c ls F hr hlk hnm hW hl
  obtain ⟨hx, hb, hml, hown, hts⟩ := id F
  have hin7 : ∀ w ∈ wsX70, w ∈ wsX7_append := fun _ h => List.mem_cons_of_mem _ (List.mem_append_right _ (h))
  obtain ⟨⟨n0, n6⟩, hx8⟩ := id ht
  have hcd := zc1_sp (bu + zbn (zB20 va vb vc vd ve) 20 0 ≤ 600)
  have z209 := zbn_in (B := (zB20 va vb vc vd ve)) 20 0
  refine zv_iconst (pc := 0) (n := 0) hx hb dX7_append_0 ?_
  refine lv_istore (pc := 1) (lv' := [(6, .int (zI 0)), (0, .ref z), (1, .int (zI va)), (2, .int (zI vb)), (3, .int (zI vc)), (4, .int (zI vd)), (5, .int (zI ve))]) hx hb dX7_append_1 hl (by decide) rfl (fun ls hl => ?_)
  refine zv_iconst (pc := 3) (n := 0) hx hb dX7_append_3 ?_
  refine lv_istore (pc := 4) (lv' := [(7, .int (zI 0)), (6, .int (zI 0)), (0, .ref z), (1, .int (zI va)), (2, .int (zI vb)), (3, .int (zI vc)), (4, .int (zI vd)), (5, .int (zI ve))]) hx hb dX7_append_4 hl (by decide) rfl (fun ls hl => ?_)
  have J6 : ∀ (fuel6 : Nat) (n9 : Int) (k9 : Int) (k0 : 0 ≤ k9 ∧ k9 ≤ 20) (n90 : 0 ≤ n9) (hn9 : n9 + zbn (zB20 va vb vc vd ve) (20 - k9).toNat k9 = zbn (zB20 va vb vc vd ve) 20 0) (hfu6 : (20 - k9).toNat < fuel6) (H : Heap) (locs : List Loc) (ls : Array Slot) (hW : zW G (va_A [(z, .inr (7, [.ref r0, .ref r1, .ref r2, .ref r3, .ref r4, .int (zI km), .int (zI th), .ref r7, .int (zI bu), .int (zI pa), .int (zI pb), .int (zI ki), .int (zI nu), .int (zI wr), .int (zI wa), .int (zI ea), .long (zL lx), .long (zL ly), .long (zL lh), .long (zL lz), .ref r20, .int (zI go), .int (zI iT), .int (zI iM), .int (zI iK), .ref r25, .int (zI wm), .int (zI tm), .int (zI (zb te))])), (r7, .inl (zk G 0, 600, .inl (zA fbf)))] s.heap.size) s H locs [(z, .inr (7, [.ref r0, .ref r1, .ref r2, .ref r3, .ref r4, .int (zI km), .int (zI th), .ref r7, .int (zI bu), .int (zI pa), .int (zI pb), .int (zI ki), .int (zI nu), .int (zI wr), .int (zI wa), .int (zI ea), .long (zL lx), .long (zL ly), .long (zL lh), .long (zL lz), .ref r20, .int (zI go), .int (zI iT), .int (zI iM), .int (zI iK), .ref r25, .int (zI wm), .int (zI tm), .int (zI (zb te))])), (r7, .inl (zk G 0, 600, .inl (zA fbf)))]) (hl : lv_has ls 9 [(7, .int (zI k9)), (6, .int (zI n9)), (0, .ref z), (1, .int (zI va)), (2, .int (zI vb)), (3, .int (zI vc)), (4, .int (zI vd)), (5, .int (zI ve))]), W p l e ({ frames := 1, cells := 0, slots := 0, locals := 26 } : Room) s m args below meth c H locs 0 0 (MQ below (zQ (S := Int × (Int → Int)) (zri (fun u => if zc1 (bu + zbn (zB20 va vb vc vd ve) 20 0 ≤ 600) = 0 then u.1 else 0)) (fun u => ((bu + zbn (zB20 va vb vc vd ve) 20 0 ≤ 600) → (u.1, u.2) = (zap (zB20 va vb vc vd ve) 20 0 bu fbf)) ∧ (¬ (bu + zbn (zB20 va vb vc vd ve) 20 0 ≤ 600) → u.1 = bu ∧ u.2 = fbf)) (zPost G [(z, .inr (7, [.ref r0, .ref r1, .ref r2, .ref r3, .ref r4, .int (zI km), .int (zI th), .ref r7, .int (zI bu), .int (zI pa), .int (zI pb), .int (zI ki), .int (zI nu), .int (zI wr), .int (zI wa), .int (zI ea), .long (zL lx), .long (zL ly), .long (zL lh), .long (zL lz), .ref r20, .int (zI go), .int (zI iT), .int (zI iM), .int (zI iK), .ref r25, .int (zI wm), .int (zI tm), .int (zI (zb te))])), (r7, .inl (zk G 0, 600, .inl (zA fbf)))] s.heap.size (fun u => [(z, .inr (7, [.ref r0, .ref r1, .ref r2, .ref r3, .ref r4, .int (zI km), .int (zI (zc1 (bu + zbn (zB20 va vb vc vd ve) 20 0 ≤ 600))), .ref r7, .int (zI u.1), .int (zI pa), .int (zI pb), .int (zI ki), .int (zI nu), .int (zI wr), .int (zI wa), .int (zI ea), .long (zL lx), .long (zL ly), .long (zL lh), .long (zL lz), .ref r20, .int (zI go), .int (zI iT), .int (zI iM), .int (zI iK), .ref r25, .int (zI wm), .int (zI tm), .int (zI (zb te))])), (r7, .inl (zk G 0, 600, .inl (zA u.2)))])) (va_A [(z, .inr (7, [.ref r0, .ref r1, .ref r2, .ref r3, .ref r4, .int (zI km), .int (zI th), .ref r7, .int (zI bu), .int (zI pa), .int (zI pb), .int (zI ki), .int (zI nu), .int (zI wr), .int (zI wa), .int (zI ea), .long (zL lx), .long (zL ly), .long (zL lh), .long (zL lz), .ref r20, .int (zI go), .int (zI iT), .int (zI iM), .int (zI iK), .ref r25, .int (zI wm), .int (zI tm), .int (zI (zb te))])), (r7, .inl (zk G 0, 600, .inl (zA fbf)))] s.heap.size)) args s 0 0 (va_A [(z, .inr (7, [.ref r0, .ref r1, .ref r2, .ref r3, .ref r4, .int (zI km), .int (zI th), .ref r7, .int (zI bu), .int (zI pa), .int (zI pb), .int (zI ki), .int (zI nu), .int (zI wr), .int (zI wa), .int (zI ea), .long (zL lx), .long (zL ly), .long (zL lh), .long (zL lz), .ref r20, .int (zI go), .int (zI iT), .int (zI iM), .int (zI iK), .ref r25, .int (zI wm), .int (zI tm), .int (zI (zb te))])), (r7, .inl (zk G 0, 600, .inl (zA fbf)))] s.heap.size)) (F0 m 6 ls []) := by
    intro fuel6
    induction fuel6 with
    | zero =>
      intro n9 k9 k0 n90 hn9 hfu6
      exact absurd hfu6 (Nat.not_lt_zero _)
    | succ fuel6 ih6 =>
      intro n9 k9 k0 n90 hn9 hfu6 H locs ls hW hl
      refine lv_iload (pc := 6) hx hb dX7_append_6 (lv_at hl 0 rfl) ?_
      refine zv_bipush (pc := 8) (n := 20) hx hb dX7_append_8 (by decide) ?_
      refine zv_icmp_ge (pc := 10) (tgt := 44) hx hb dX7_append_10 (by decide) ⟨by omega, by omega⟩ ⟨by omega, by omega⟩ (fun c10 => ?_) (fun c10 => ?_)
      · have e44 : n9 = zbn (zB20 va vb vc vd ve) 20 0 := by rw [← hn9, show (20 - k9).toNat = 0 by omega]; exact (Int.add_zero _).symm
        refine lv_aload_n (pc := 44) hx hb dX7_append_44 rfl (lv_at hl 2 rfl) ?_
        refine lv_aload_n (pc := 45) hx hb dX7_append_45 rfl (lv_at hl 2 rfl) ?_
        refine zw_get (pc := 46) (ref := RX7) (index := 64) hx hb hts hin7 hown hW 0 rfl rfl 8 (by decide) (List.mem_of_getElem? (i := 1) rfl) (fun _ h9 => h9) rfl dX7_append_46 ?_
        refine lv_iload (pc := 49) hx hb dX7_append_49 (lv_at hl 1 rfl) ?_
        refine zv_iadd (pc := 51) hx hb dX7_append_51 ?_
        refine zv_sipush (pc := 52) (n := 600) hx hb dX7_append_52 (by decide) ?_
        have J63 : ∀ (cd9 : Int) (hcd9 : cd9 = zc1 (bu + zbn (zB20 va vb vc vd ve) 20 0 ≤ 600)) (H : Heap) (locs : List Loc) (ls : Array Slot) (hW : zW G (va_A [(z, .inr (7, [.ref r0, .ref r1, .ref r2, .ref r3, .ref r4, .int (zI km), .int (zI th), .ref r7, .int (zI bu), .int (zI pa), .int (zI pb), .int (zI ki), .int (zI nu), .int (zI wr), .int (zI wa), .int (zI ea), .long (zL lx), .long (zL ly), .long (zL lh), .long (zL lz), .ref r20, .int (zI go), .int (zI iT), .int (zI iM), .int (zI iK), .ref r25, .int (zI wm), .int (zI tm), .int (zI (zb te))])), (r7, .inl (zk G 0, 600, .inl (zA fbf)))] s.heap.size) s H locs [(z, .inr (7, [.ref r0, .ref r1, .ref r2, .ref r3, .ref r4, .int (zI km), .int (zI th), .ref r7, .int (zI bu), .int (zI pa), .int (zI pb), .int (zI ki), .int (zI nu), .int (zI wr), .int (zI wa), .int (zI ea), .long (zL lx), .long (zL ly), .long (zL lh), .long (zL lz), .ref r20, .int (zI go), .int (zI iT), .int (zI iM), .int (zI iK), .ref r25, .int (zI wm), .int (zI tm), .int (zI (zb te))])), (r7, .inl (zk G 0, 600, .inl (zA fbf)))]) (hl : lv_has ls 9 [(7, .int (zI k9)), (6, .int (zI n9)), (0, .ref z), (1, .int (zI va)), (2, .int (zI vb)), (3, .int (zI vc)), (4, .int (zI vd)), (5, .int (zI ve))]), W p l e ({ frames := 1, cells := 0, slots := 0, locals := 26 } : Room) s m args below meth c H locs 0 0 (MQ below (zQ (S := Int × (Int → Int)) (zri (fun u => if zc1 (bu + zbn (zB20 va vb vc vd ve) 20 0 ≤ 600) = 0 then u.1 else 0)) (fun u => ((bu + zbn (zB20 va vb vc vd ve) 20 0 ≤ 600) → (u.1, u.2) = (zap (zB20 va vb vc vd ve) 20 0 bu fbf)) ∧ (¬ (bu + zbn (zB20 va vb vc vd ve) 20 0 ≤ 600) → u.1 = bu ∧ u.2 = fbf)) (zPost G [(z, .inr (7, [.ref r0, .ref r1, .ref r2, .ref r3, .ref r4, .int (zI km), .int (zI th), .ref r7, .int (zI bu), .int (zI pa), .int (zI pb), .int (zI ki), .int (zI nu), .int (zI wr), .int (zI wa), .int (zI ea), .long (zL lx), .long (zL ly), .long (zL lh), .long (zL lz), .ref r20, .int (zI go), .int (zI iT), .int (zI iM), .int (zI iK), .ref r25, .int (zI wm), .int (zI tm), .int (zI (zb te))])), (r7, .inl (zk G 0, 600, .inl (zA fbf)))] s.heap.size (fun u => [(z, .inr (7, [.ref r0, .ref r1, .ref r2, .ref r3, .ref r4, .int (zI km), .int (zI (zc1 (bu + zbn (zB20 va vb vc vd ve) 20 0 ≤ 600))), .ref r7, .int (zI u.1), .int (zI pa), .int (zI pb), .int (zI ki), .int (zI nu), .int (zI wr), .int (zI wa), .int (zI ea), .long (zL lx), .long (zL ly), .long (zL lh), .long (zL lz), .ref r20, .int (zI go), .int (zI iT), .int (zI iM), .int (zI iK), .ref r25, .int (zI wm), .int (zI tm), .int (zI (zb te))])), (r7, .inl (zk G 0, 600, .inl (zA u.2)))])) (va_A [(z, .inr (7, [.ref r0, .ref r1, .ref r2, .ref r3, .ref r4, .int (zI km), .int (zI th), .ref r7, .int (zI bu), .int (zI pa), .int (zI pb), .int (zI ki), .int (zI nu), .int (zI wr), .int (zI wa), .int (zI ea), .long (zL lx), .long (zL ly), .long (zL lh), .long (zL lz), .ref r20, .int (zI go), .int (zI iT), .int (zI iM), .int (zI iK), .ref r25, .int (zI wm), .int (zI tm), .int (zI (zb te))])), (r7, .inl (zk G 0, 600, .inl (zA fbf)))] s.heap.size)) args s 0 0 (va_A [(z, .inr (7, [.ref r0, .ref r1, .ref r2, .ref r3, .ref r4, .int (zI km), .int (zI th), .ref r7, .int (zI bu), .int (zI pa), .int (zI pb), .int (zI ki), .int (zI nu), .int (zI wr), .int (zI wa), .int (zI ea), .long (zL lx), .long (zL ly), .long (zL lh), .long (zL lz), .ref r20, .int (zI go), .int (zI iT), .int (zI iM), .int (zI iK), .ref r25, .int (zI wm), .int (zI tm), .int (zI (zb te))])), (r7, .inl (zk G 0, 600, .inl (zA fbf)))] s.heap.size)) (F0 m 63 ls [.int (zI cd9), .ref z]) := by
          intro cd9 hcd9 H locs ls hW hl
          refine zv_as (pc := 63) (a := cd9) (b := zc1 (bu + zbn (zB20 va vb vc vd ve) 20 0 ≤ 600)) (hcd9) ?_
          refine zw_put (pc := 63) (ws' := [(z, .inr (7, [.ref r0, .ref r1, .ref r2, .ref r3, .ref r4, .int (zI km), .int (zI (zc1 (bu + zbn (zB20 va vb vc vd ve) 20 0 ≤ 600))), .ref r7, .int (zI bu), .int (zI pa), .int (zI pb), .int (zI ki), .int (zI nu), .int (zI wr), .int (zI wa), .int (zI ea), .long (zL lx), .long (zL ly), .long (zL lh), .long (zL lz), .ref r20, .int (zI go), .int (zI iT), .int (zI iM), .int (zI iK), .ref r25, .int (zI wm), .int (zI tm), .int (zI (zb te))])), (r7, .inl (zk G 0, 600, .inl (zA fbf)))]) (ref := RX7) (index := 42) hx hb hts hin7 tyX7 tyX7_ok nmX7 hown hW 0 rfl rfl 6 (by decide) (List.mem_of_getElem? (i := 2) rfl) (fun _ h9 => h9) rfl (tyX7_ok 6 (by decide)) rfl rfl (Nat.le_of_ble_eq_true rfl) rfl dX7_append_63 (fun H locs hW => ?_)
          refine lv_aload_n (pc := 66) hx hb dX7_append_66 rfl (lv_at hl 2 rfl) ?_
          refine zw_get (pc := 67) (ref := RX7) (index := 42) hx hb hts hin7 hown hW 0 rfl rfl 6 (by decide) (List.mem_of_getElem? (i := 2) rfl) (fun _ h9 => h9) rfl dX7_append_67 ?_
          refine zv_if_le (pc := 70) (tgt := 75) hx hb dX7_append_70 (by decide) ⟨by omega, by omega⟩ (fun c70 => ?_) (fun c70 => ?_)
          · refine zv_iconst (pc := 75) (n := 0) hx hb dX7_append_75 ?_
            refine lv_istore (pc := 76) (lv' := [(7, .int (zI 0)), (6, .int (zI n9)), (0, .ref z), (1, .int (zI va)), (2, .int (zI vb)), (3, .int (zI vc)), (4, .int (zI vd)), (5, .int (zI ve))]) hx hb dX7_append_76 hl (by decide) rfl (fun ls hl => ?_)
            have J78 : ∀ (fuel78 : Nat) (k9 : Int) (n9 : Int) (f9 : Int → Int) (k0 : 0 ≤ k9 ∧ k9 ≤ 20) (n90 : 0 ≤ n9) (hb9 : n9 + zbn (zB20 va vb vc vd ve) (20 - k9).toNat k9 ≤ 600) (hz9 : zap (zB20 va vb vc vd ve) (20 - k9).toNat k9 n9 f9 = (zap (zB20 va vb vc vd ve) 20 0 bu fbf)) (hfu78 : (20 - k9).toNat < fuel78) (H : Heap) (locs : List Loc) (ls : Array Slot) (hW : zW G (va_A [(z, .inr (7, [.ref r0, .ref r1, .ref r2, .ref r3, .ref r4, .int (zI km), .int (zI th), .ref r7, .int (zI bu), .int (zI pa), .int (zI pb), .int (zI ki), .int (zI nu), .int (zI wr), .int (zI wa), .int (zI ea), .long (zL lx), .long (zL ly), .long (zL lh), .long (zL lz), .ref r20, .int (zI go), .int (zI iT), .int (zI iM), .int (zI iK), .ref r25, .int (zI wm), .int (zI tm), .int (zI (zb te))])), (r7, .inl (zk G 0, 600, .inl (zA fbf)))] s.heap.size) s H locs [(z, .inr (7, [.ref r0, .ref r1, .ref r2, .ref r3, .ref r4, .int (zI km), .int (zI (zc1 (bu + zbn (zB20 va vb vc vd ve) 20 0 ≤ 600))), .ref r7, .int (zI n9), .int (zI pa), .int (zI pb), .int (zI ki), .int (zI nu), .int (zI wr), .int (zI wa), .int (zI ea), .long (zL lx), .long (zL ly), .long (zL lh), .long (zL lz), .ref r20, .int (zI go), .int (zI iT), .int (zI iM), .int (zI iK), .ref r25, .int (zI wm), .int (zI tm), .int (zI (zb te))])), (r7, .inl (zk G 0, 600, .inl (zA f9)))]) (hl : lv_has ls 9 [(7, .int (zI k9)), (0, .ref z), (1, .int (zI va)), (2, .int (zI vb)), (3, .int (zI vc)), (4, .int (zI vd)), (5, .int (zI ve))]), W p l e ({ frames := 1, cells := 0, slots := 0, locals := 26 } : Room) s m args below meth c H locs 0 0 (MQ below (zQ (S := Int × (Int → Int)) (zri (fun u => if zc1 (bu + zbn (zB20 va vb vc vd ve) 20 0 ≤ 600) = 0 then u.1 else 0)) (fun u => ((bu + zbn (zB20 va vb vc vd ve) 20 0 ≤ 600) → (u.1, u.2) = (zap (zB20 va vb vc vd ve) 20 0 bu fbf)) ∧ (¬ (bu + zbn (zB20 va vb vc vd ve) 20 0 ≤ 600) → u.1 = bu ∧ u.2 = fbf)) (zPost G [(z, .inr (7, [.ref r0, .ref r1, .ref r2, .ref r3, .ref r4, .int (zI km), .int (zI th), .ref r7, .int (zI bu), .int (zI pa), .int (zI pb), .int (zI ki), .int (zI nu), .int (zI wr), .int (zI wa), .int (zI ea), .long (zL lx), .long (zL ly), .long (zL lh), .long (zL lz), .ref r20, .int (zI go), .int (zI iT), .int (zI iM), .int (zI iK), .ref r25, .int (zI wm), .int (zI tm), .int (zI (zb te))])), (r7, .inl (zk G 0, 600, .inl (zA fbf)))] s.heap.size (fun u => [(z, .inr (7, [.ref r0, .ref r1, .ref r2, .ref r3, .ref r4, .int (zI km), .int (zI (zc1 (bu + zbn (zB20 va vb vc vd ve) 20 0 ≤ 600))), .ref r7, .int (zI u.1), .int (zI pa), .int (zI pb), .int (zI ki), .int (zI nu), .int (zI wr), .int (zI wa), .int (zI ea), .long (zL lx), .long (zL ly), .long (zL lh), .long (zL lz), .ref r20, .int (zI go), .int (zI iT), .int (zI iM), .int (zI iK), .ref r25, .int (zI wm), .int (zI tm), .int (zI (zb te))])), (r7, .inl (zk G 0, 600, .inl (zA u.2)))])) (va_A [(z, .inr (7, [.ref r0, .ref r1, .ref r2, .ref r3, .ref r4, .int (zI km), .int (zI th), .ref r7, .int (zI bu), .int (zI pa), .int (zI pb), .int (zI ki), .int (zI nu), .int (zI wr), .int (zI wa), .int (zI ea), .long (zL lx), .long (zL ly), .long (zL lh), .long (zL lz), .ref r20, .int (zI go), .int (zI iT), .int (zI iM), .int (zI iK), .ref r25, .int (zI wm), .int (zI tm), .int (zI (zb te))])), (r7, .inl (zk G 0, 600, .inl (zA fbf)))] s.heap.size)) args s 0 0 (va_A [(z, .inr (7, [.ref r0, .ref r1, .ref r2, .ref r3, .ref r4, .int (zI km), .int (zI th), .ref r7, .int (zI bu), .int (zI pa), .int (zI pb), .int (zI ki), .int (zI nu), .int (zI wr), .int (zI wa), .int (zI ea), .long (zL lx), .long (zL ly), .long (zL lh), .long (zL lz), .ref r20, .int (zI go), .int (zI iT), .int (zI iM), .int (zI iK), .ref r25, .int (zI wm), .int (zI tm), .int (zI (zb te))])), (r7, .inl (zk G 0, 600, .inl (zA fbf)))] s.heap.size)) (F0 m 78 ls []) := by
              intro fuel78
              induction fuel78 with
              | zero =>
                intro k9 n9 f9 k0 n90 hb9 hz9 hfu78
                exact absurd hfu78 (Nat.not_lt_zero _)
              | succ fuel78 ih78 =>
                intro k9 n9 f9 k0 n90 hb9 hz9 hfu78 H locs ls hW hl
                refine lv_iload (pc := 78) hx hb dX7_append_78 (lv_at hl 0 rfl) ?_
                refine zv_bipush (pc := 80) (n := 20) hx hb dX7_append_80 (by decide) ?_
                refine zv_icmp_ge (pc := 82) (tgt := 134) hx hb dX7_append_82 (by decide) ⟨by omega, by omega⟩ ⟨by omega, by omega⟩ (fun c82 => ?_) (fun c82 => ?_)
                · have hz4 : (n9, f9) = (zap (zB20 va vb vc vd ve) 20 0 bu fbf) := by rw [← hz9, show (20 - k9).toNat = 0 by omega]; rfl
                  refine lv_aload_n (pc := 134) hx hb dX7_append_134 rfl (lv_at hl 1 rfl) ?_
                  refine zw_get (pc := 135) (ref := RX7) (index := 64) hx hb hts hin7 hown hW 0 rfl rfl 8 (by decide) (List.mem_of_getElem? (i := 1) rfl) (fun _ h9 => h9) rfl dX7_append_135 ?_
                  refine zv_as (pc := 138) (a := n9) (b := if zc1 (bu + zbn (zB20 va vb vc vd ve) 20 0 ≤ 600) = 0 then n9 else 0) (by first | (rw [if_pos (by omega)]; done) | (rw [if_neg (by omega)]; done)) ?_
                  exact ze_i (pc := 138) hx hb hr hlk hW (n9, f9) rfl (by first | exact ⟨fun h9 => absurd h9 (by omega), fun _ => ⟨rfl, rfl⟩⟩ | exact ⟨fun _ => hz4, fun h9 => absurd (by omega) h9⟩) rfl dX7_append_138
                · have hf1 : (20 - k9).toNat = (20 - (k9 + 1)).toNat + 1 := by omega
                  have z9 := zbn_in (B := (zB20 va vb vc vd ve)) (20 - (k9 + 1)).toNat (k9 + 1)
                  refine lv_iload (pc := 85) hx hb dX7_append_85 (lv_at hl 0 rfl) ?_
                  refine lv_iload_n (pc := 87) hx hb dX7_append_87 rfl (lv_at hl 2 rfl) ?_
                  refine lv_iload_n (pc := 88) hx hb dX7_append_88 rfl (lv_at hl 3 rfl) ?_
                  refine lv_iload_n (pc := 89) hx hb dX7_append_89 rfl (lv_at hl 4 rfl) ?_
                  refine lv_iload (pc := 90) hx hb dX7_append_90 (lv_at hl 5 rfl) ?_
                  refine lv_iload (pc := 92) hx hb dX7_append_92 (lv_at hl 6 rfl) ?_
                  refine z_S (pc := 94) (As := [.int (zI k9), .int (zI va), .int (zI vb), .int (zI vc), .int (zI vd), .int (zI ve)]) (rest := []) (wn := (fun _ => [(z, .inr (7, [.ref r0, .ref r1, .ref r2, .ref r3, .ref r4, .int (zI km), .int (zI (zc1 (bu + zbn (zB20 va vb vc vd ve) 20 0 ≤ 600))), .ref r7, .int (zI n9), .int (zI pa), .int (zI pb), .int (zI ki), .int (zI nu), .int (zI wr), .int (zI wa), .int (zI ea), .long (zL lx), .long (zL ly), .long (zL lh), .long (zL lz), .ref r20, .int (zI go), .int (zI iT), .int (zI iM), .int (zI iK), .ref r25, .int (zI wm), .int (zI tm), .int (zI (zb te))])), (r7, .inl (zk G 0, 600, .inl (zA f9)))])) (wr := [(z, .inr (7, [.ref r0, .ref r1, .ref r2, .ref r3, .ref r4, .int (zI km), .int (zI (zc1 (bu + zbn (zB20 va vb vc vd ve) 20 0 ≤ 600))), .ref r7, .int (zI n9), .int (zI pa), .int (zI pb), .int (zI ki), .int (zI nu), .int (zI wr), .int (zI wa), .int (zI ea), .long (zL lx), .long (zL ly), .long (zL lh), .long (zL lz), .ref r20, .int (zI go), .int (zI iT), .int (zI iM), .int (zI iK), .ref r25, .int (zI wm), .int (zI tm), .int (zI (zb te))])), (r7, .inl (zk G 0, 600, .inl (zA f9)))]) F (kX7_byteOf G l k9 va vb vc vd ve (by first | assumption | omega) (by first | assumption | omega)) (va_cwS 6 hts gX7_append_X7_byteOf rfl rfl rfl (by decide +kernel) ⟨Nat.le_of_ble_eq_true rfl, Nat.le_of_ble_eq_true rfl⟩) hW [] [0, 1] (by decide) rfl rfl rfl (by decide) (by decide) [0, 1] (by decide) (fun _ => rfl) (fun _ => rfl) rfl hl.1 rfl (Nat.le_of_ble_eq_true rfl) dX7_append_94 ⟨Nat.le_of_ble_eq_true rfl, Nat.le_of_ble_eq_true rfl⟩ (fun _ H locs _ hW => ?_)
                  show W p l e _ s m args below meth c H locs _ _ _ (F0 m 97 ls [.int (zI (zB20 va vb vc vd ve k9))])
                  have bo94 := zbt_in (zb5 (va) (vb) (vc) (vd) (ve) (k9)) (24 - 8 * ((k9) % 4))
                  replace bo94 : 0 ≤ zB20 (va) (vb) (vc) (vd) (ve) (k9) ∧ zB20 (va) (vb) (vc) (vd) (ve) (k9) ≤ 255 := bo94
                  refine zv_name (fun v97 hv97 => ?_)
                  refine lv_istore (pc := 97) (lv' := [(8, .int (zI v97)), (7, .int (zI k9)), (0, .ref z), (1, .int (zI va)), (2, .int (zI vb)), (3, .int (zI vc)), (4, .int (zI vd)), (5, .int (zI ve))]) hx hb dX7_append_97 hl (by decide) rfl (fun ls hl => ?_)
                  refine lv_iload (pc := 99) hx hb dX7_append_99 (lv_at hl 0 rfl) ?_
                  refine zv_if_ne (pc := 101) (tgt := 107) hx hb dX7_append_101 (by decide) ⟨by omega, by omega⟩ (fun c101 => ?_) (fun c101 => ?_)
                  · have hne : (zB20 va vb vc vd ve) k9 ≠ 0 := by rw [← hv97]; exact c101
                    rw [hf1, zbn_yes hne] at hb9
                    refine lv_aload_n (pc := 107) hx hb dX7_append_107 rfl (lv_at hl 2 rfl) ?_
                    refine zw_get (pc := 108) (ref := RX7) (index := 26) hx hb hts hin7 hown hW 0 rfl rfl 7 (by decide) (List.mem_of_getElem? (i := 3) rfl) (fun _ h9 => h9) rfl dX7_append_108 ?_
                    refine lv_aload_n (pc := 111) hx hb dX7_append_111 rfl (lv_at hl 2 rfl) ?_
                    refine zw_get (pc := 112) (ref := RX7) (index := 64) hx hb hts hin7 hown hW 0 rfl rfl 8 (by decide) (List.mem_of_getElem? (i := 1) rfl) (fun _ h9 => h9) rfl dX7_append_112 ?_
                    refine lv_iload (pc := 115) hx hb dX7_append_115 (lv_at hl 0 rfl) ?_
                    refine zw_iast (pc := 117) (ws' := [(z, .inr (7, [.ref r0, .ref r1, .ref r2, .ref r3, .ref r4, .int (zI km), .int (zI (zc1 (bu + zbn (zB20 va vb vc vd ve) 20 0 ≤ 600))), .ref r7, .int (zI n9), .int (zI pa), .int (zI pb), .int (zI ki), .int (zI nu), .int (zI wr), .int (zI wa), .int (zI ea), .long (zL lx), .long (zL ly), .long (zL lh), .long (zL lz), .ref r20, .int (zI go), .int (zI iT), .int (zI iM), .int (zI iK), .ref r25, .int (zI wm), .int (zI tm), .int (zI (zb te))])), (r7, .inl (zk G 0, 600, .inl (zA (zU f9 n9 v97))))]) hx hb hW 1 rfl (by omega) (by omega) (by decide) rfl dX7_append_117 (fun H locs hW => ?_)
                    refine lv_aload_n (pc := 118) hx hb dX7_append_118 rfl (lv_at hl 2 rfl) ?_
                    refine lv_dup (pc := 119) hx hb dX7_append_119 rfl ?_
                    refine zw_get (pc := 120) (ref := RX7) (index := 64) hx hb hts hin7 hown hW 0 rfl rfl 8 (by decide) (List.mem_of_getElem? (i := 1) rfl) (fun _ h9 => h9) rfl dX7_append_120 ?_
                    refine zv_iconst (pc := 123) (n := 1) hx hb dX7_append_123 ?_
                    refine zv_iadd (pc := 124) hx hb dX7_append_124 ?_
                    refine zw_put (pc := 125) (ws' := [(z, .inr (7, [.ref r0, .ref r1, .ref r2, .ref r3, .ref r4, .int (zI km), .int (zI (zc1 (bu + zbn (zB20 va vb vc vd ve) 20 0 ≤ 600))), .ref r7, .int (zI (n9 + 1)), .int (zI pa), .int (zI pb), .int (zI ki), .int (zI nu), .int (zI wr), .int (zI wa), .int (zI ea), .long (zL lx), .long (zL ly), .long (zL lh), .long (zL lz), .ref r20, .int (zI go), .int (zI iT), .int (zI iM), .int (zI iK), .ref r25, .int (zI wm), .int (zI tm), .int (zI (zb te))])), (r7, .inl (zk G 0, 600, .inl (zA (zU f9 n9 v97))))]) (ref := RX7) (index := 64) hx hb hts hin7 tyX7 tyX7_ok nmX7 hown hW 0 rfl rfl 8 (by decide) (List.mem_of_getElem? (i := 1) rfl) (fun _ h9 => h9) rfl (tyX7_ok 8 (by decide)) rfl rfl (Nat.le_of_ble_eq_true rfl) rfl dX7_append_125 (fun H locs hW => ?_)
                    refine zv_iinc (pc := 128) (lv' := [(7, .int (zI (k9 + 1))), (8, .int (zI v97)), (0, .ref z), (1, .int (zI va)), (2, .int (zI vb)), (3, .int (zI vc)), (4, .int (zI vd)), (5, .int (zI ve))]) hx hb dX7_append_128 hl (k := 1) rfl (by decide) rfl (fun ls hl => ?_)
                    refine lv_goto (pc := 131) (tgt := 78) hx hb dX7_append_131 (by decide) ?_
                    exact ih78 (k9 + 1) (n9 + 1) (zU f9 n9 v97) (by omega) (by omega) (by first | omega | (rw [hf1, zbn_no (by rw [← hv97]; exact c101)] at hb9; exact hb9) | (show bu + zbn (zB20 va vb vc vd ve) 20 0 ≤ 600; omega)) (by first | rfl | (rw [← hz9, hf1, zap_yes hne, hv97]) | (rw [← hz9, hf1]; exact (zap_no (by rw [← hv97]; exact c101)).symm)) (by omega) _ _ _ hW (lv_sub hl [0, 2, 3, 4, 5, 6, 7] rfl)
                  · refine lv_goto (pc := 104) (tgt := 128) hx hb dX7_append_104 (by decide) ?_
                    refine zv_iinc (pc := 128) (lv' := [(7, .int (zI (k9 + 1))), (8, .int (zI v97)), (0, .ref z), (1, .int (zI va)), (2, .int (zI vb)), (3, .int (zI vc)), (4, .int (zI vd)), (5, .int (zI ve))]) hx hb dX7_append_128 hl (k := 1) rfl (by decide) rfl (fun ls hl => ?_)
                    refine lv_goto (pc := 131) (tgt := 78) hx hb dX7_append_131 (by decide) ?_
                    exact ih78 (k9 + 1) n9 f9 (by omega) (by omega) (by first | omega | (rw [hf1, zbn_no (by rw [← hv97]; exact c101)] at hb9; exact hb9) | (show bu + zbn (zB20 va vb vc vd ve) 20 0 ≤ 600; omega)) (by first | rfl | (rw [← hz9, hf1, zap_yes hne, hv97]) | (rw [← hz9, hf1]; exact (zap_no (by rw [← hv97]; exact c101)).symm)) (by omega) _ _ _ hW (lv_sub hl [0, 2, 3, 4, 5, 6, 7] rfl)
            exact J78 (((20 - 0 : Int).toNat) + 1) 0 bu fbf (by omega) (by omega) (by first | omega | (rw [hf1, zbn_no (by rw [← hv97]; exact c101)] at hb9; exact hb9) | (show bu + zbn (zB20 va vb vc vd ve) 20 0 ≤ 600; omega)) (by first | rfl | (rw [← hz9, hf1, zap_yes hne, hv97]) | (rw [← hz9, hf1]; exact (zap_no (by rw [← hv97]; exact c101)).symm)) (Nat.lt_succ_self _) _ _ _ hW (lv_sub hl [0, 2, 3, 4, 5, 6, 7] rfl)
          · refine zv_iconst (pc := 73) (n := 0) hx hb dX7_append_73 ?_
            refine zv_as (pc := 74) (a := 0) (b := if zc1 (bu + zbn (zB20 va vb vc vd ve) 20 0 ≤ 600) = 0 then bu else 0) (by first | (rw [if_pos (by omega)]; done) | (rw [if_neg (by omega)]; done)) ?_
            exact ze_i (pc := 74) hx hb hr hlk hW (bu, fbf) rfl (by first | exact ⟨fun h9 => absurd h9 (by omega), fun _ => ⟨rfl, rfl⟩⟩ | exact ⟨fun _ => hz4, fun h9 => absurd (by omega) h9⟩) rfl dX7_append_74
        refine zv_icmp_le (pc := 55) (tgt := 62) hx hb dX7_append_55 (by decide) ⟨by omega, by omega⟩ ⟨by omega, by omega⟩ (fun c55 => ?_) (fun c55 => ?_)
        · refine zv_iconst (pc := 62) (n := 0) hx hb dX7_append_62 ?_
          exact J63 0 (by omega) _ _ _ hW (lv_sub hl [0, 1, 2, 3, 4, 5, 6, 7] rfl)
        · refine zv_iconst (pc := 58) (n := 1) hx hb dX7_append_58 ?_
          refine lv_goto (pc := 59) (tgt := 63) hx hb dX7_append_59 (by decide) ?_
          exact J63 1 (by omega) _ _ _ hW (lv_sub hl [0, 1, 2, 3, 4, 5, 6, 7] rfl)
      · have hf1 : (20 - k9).toNat = (20 - (k9 + 1)).toNat + 1 := by omega
        refine lv_iload (pc := 13) hx hb dX7_append_13 (lv_at hl 1 rfl) ?_
        refine lv_iload (pc := 15) hx hb dX7_append_15 (lv_at hl 0 rfl) ?_
        refine lv_iload_n (pc := 17) hx hb dX7_append_17 rfl (lv_at hl 3 rfl) ?_
        refine lv_iload_n (pc := 18) hx hb dX7_append_18 rfl (lv_at hl 4 rfl) ?_
        refine lv_iload_n (pc := 19) hx hb dX7_append_19 rfl (lv_at hl 5 rfl) ?_
        refine lv_iload (pc := 20) hx hb dX7_append_20 (lv_at hl 6 rfl) ?_
        refine lv_iload (pc := 22) hx hb dX7_append_22 (lv_at hl 7 rfl) ?_
        refine z_S (pc := 24) (As := [.int (zI k9), .int (zI va), .int (zI vb), .int (zI vc), .int (zI vd), .int (zI ve)]) (rest := [.int (zI n9)]) (wn := (fun _ => [(z, .inr (7, [.ref r0, .ref r1, .ref r2, .ref r3, .ref r4, .int (zI km), .int (zI th), .ref r7, .int (zI bu), .int (zI pa), .int (zI pb), .int (zI ki), .int (zI nu), .int (zI wr), .int (zI wa), .int (zI ea), .long (zL lx), .long (zL ly), .long (zL lh), .long (zL lz), .ref r20, .int (zI go), .int (zI iT), .int (zI iM), .int (zI iK), .ref r25, .int (zI wm), .int (zI tm), .int (zI (zb te))])), (r7, .inl (zk G 0, 600, .inl (zA fbf)))])) (wr := [(z, .inr (7, [.ref r0, .ref r1, .ref r2, .ref r3, .ref r4, .int (zI km), .int (zI th), .ref r7, .int (zI bu), .int (zI pa), .int (zI pb), .int (zI ki), .int (zI nu), .int (zI wr), .int (zI wa), .int (zI ea), .long (zL lx), .long (zL ly), .long (zL lh), .long (zL lz), .ref r20, .int (zI go), .int (zI iT), .int (zI iM), .int (zI iK), .ref r25, .int (zI wm), .int (zI tm), .int (zI (zb te))])), (r7, .inl (zk G 0, 600, .inl (zA fbf)))]) F (kX7_byteOf G l k9 va vb vc vd ve (by first | assumption | omega) (by first | assumption | omega)) (va_cwS 6 hts gX7_append_X7_byteOf rfl rfl rfl (by decide +kernel) ⟨Nat.le_of_ble_eq_true rfl, Nat.le_of_ble_eq_true rfl⟩) hW [] [0, 1] (by decide) rfl rfl rfl (by decide) (by decide) [0, 1] (by decide) (fun _ => rfl) (fun _ => rfl) rfl hl.1 rfl (Nat.le_of_ble_eq_true rfl) dX7_append_24 ⟨Nat.le_of_ble_eq_true rfl, Nat.le_of_ble_eq_true rfl⟩ (fun _ H locs _ hW => ?_)
        show W p l e _ s m args below meth c H locs _ _ _ (F0 m 27 ls [.int (zI (zB20 va vb vc vd ve k9)), .int (zI n9)])
        have bo24 := zbt_in (zb5 (va) (vb) (vc) (vd) (ve) (k9)) (24 - 8 * ((k9) % 4))
        replace bo24 : 0 ≤ zB20 (va) (vb) (vc) (vd) (ve) (k9) ∧ zB20 (va) (vb) (vc) (vd) (ve) (k9) ≤ 255 := bo24
        refine zv_if_ne (pc := 27) (tgt := 34) hx hb dX7_append_27 (by decide) ⟨by omega, by omega⟩ (fun c27 => ?_) (fun c27 => ?_)
        · refine zv_iconst (pc := 34) (n := 1) hx hb dX7_append_34 ?_
          refine zv_iadd (pc := 35) hx hb dX7_append_35 ?_
          refine lv_istore (pc := 36) (lv' := [(6, .int (zI (n9 + 1))), (7, .int (zI k9)), (0, .ref z), (1, .int (zI va)), (2, .int (zI vb)), (3, .int (zI vc)), (4, .int (zI vd)), (5, .int (zI ve))]) hx hb dX7_append_36 hl (by decide) rfl (fun ls hl => ?_)
          refine zv_iinc (pc := 38) (lv' := [(7, .int (zI (k9 + 1))), (6, .int (zI (n9 + 1))), (0, .ref z), (1, .int (zI va)), (2, .int (zI vb)), (3, .int (zI vc)), (4, .int (zI vd)), (5, .int (zI ve))]) hx hb dX7_append_38 hl (k := 1) rfl (by decide) rfl (fun ls hl => ?_)
          refine lv_goto (pc := 41) (tgt := 6) hx hb dX7_append_41 (by decide) ?_
          exact ih6 (n9 + 1) (k9 + 1) (by omega) (by omega) (by first | exact Int.zero_add _ | (rw [← hn9, hf1, zbn_no c27]; omega) | (rw [← hn9, hf1, zbn_yes c27]; omega)) (by omega) _ _ _ hW (lv_sub hl [0, 1, 2, 3, 4, 5, 6, 7] rfl)
        · refine zv_iconst (pc := 30) (n := 0) hx hb dX7_append_30 ?_
          refine lv_goto (pc := 31) (tgt := 35) hx hb dX7_append_31 (by decide) ?_
          refine zv_iadd (pc := 35) hx hb dX7_append_35 ?_
          refine lv_istore (pc := 36) (lv' := [(6, .int (zI (n9 + 0))), (7, .int (zI k9)), (0, .ref z), (1, .int (zI va)), (2, .int (zI vb)), (3, .int (zI vc)), (4, .int (zI vd)), (5, .int (zI ve))]) hx hb dX7_append_36 hl (by decide) rfl (fun ls hl => ?_)
          refine zv_iinc (pc := 38) (lv' := [(7, .int (zI (k9 + 1))), (6, .int (zI (n9 + 0))), (0, .ref z), (1, .int (zI va)), (2, .int (zI vb)), (3, .int (zI vc)), (4, .int (zI vd)), (5, .int (zI ve))]) hx hb dX7_append_38 hl (k := 1) rfl (by decide) rfl (fun ls hl => ?_)
          refine lv_goto (pc := 41) (tgt := 6) hx hb dX7_append_41 (by decide) ?_
          exact ih6 (n9 + 0) (k9 + 1) (by omega) (by omega) (by first | exact Int.zero_add _ | (rw [← hn9, hf1, zbn_no c27]; omega) | (rw [← hn9, hf1, zbn_yes c27]; omega)) (by omega) _ _ _ hW (lv_sub hl [0, 1, 2, 3, 4, 5, 6, 7] rfl)
  exact J6 (((20 - 0 : Int).toNat) + 1) 0 0 (by omega) (by omega) (by first | exact Int.zero_add _ | (rw [← hn9, hf1, zbn_no c27]; omega) | (rw [← hn9, hf1, zbn_yes c27]; omega)) (Nat.lt_succ_self _) _ _ _ hW (lv_sub hl [0, 1, 2, 3, 4, 5, 6, 7] rfl)
