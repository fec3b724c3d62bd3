set_option maxHeartbeats 1000000 in
set_option maxRecDepth 100000 in
/-- byteAt -/
theorem kX2_byteAt (G : zG) (l : Launch) (rd : Nat) (n : Int) (ea : Int) (rb : Nat) (P : Int) (ta : Int) (er : Int) (nu : Int) (na : Int) (fb : Int → Int) (i : Int) (ht : qtext fb n) (i1 : -2147483648 ≤ i) (i2 : i ≤ 2147483647) : zM G l yX2_byteAt wsX2_byteAt { frames := 0, cells := 0, slots := 0, locals := 0 } [.ref rd, .int (zI i)] [(rd, .inr (2, [.int (zI n), .int (zI ea), .ref rb, .int (zI P), .int (zI ta), .int (zI er), .int (zI nu), .long (zL na)])), (rb, .inl (zk G 2, 600, .inl (zA fb)))] (S := Unit) (zri (fun _ => zTt fb n i)) (fun _ => True) (fun _ => [(rd, .inr (2, [.int (zI n), .int (zI ea), .ref rb, .int (zI P), .int (zI ta), .int (zI er), .int (zI nu), .long (zL na)])), (rb, .inl (zk G 2, 600, .inl (zA fb)))]) 0 0 := by
  refine zM.of (cc := cX2_byteAt) (maxL := 2) (ret := (some .int)) (by decide) rfl (Nat.le_of_ble_eq_true rfl) (l0 := [(0, .ref rd), (1, .int (zI i))]) rfl ?_
  intro p e s m args below meth c ls F hr hlk hnm hW hl
  obtain ⟨hx, hb, hml, hown, hts⟩ := id F
  have hin2 : ∀ w ∈ wsX20, w ∈ wsX2_byteAt := fun _ h => List.mem_cons_of_mem _ (List.mem_append_right _ (h))
  obtain ⟨⟨n0, n6⟩, hx8⟩ := id ht
  refine lv_iload_n (pc := 0) hx hb dX2_byteAt_0 rfl (lv_at hl 1 rfl) ?_
  refine zv_if_lt (pc := 1) (tgt := 30) hx hb dX2_byteAt_1 (by decide) ⟨by omega, by omega⟩ (fun c1 => ?_) (fun c1 => ?_)
  · refine zv_iconst (pc := 30) (n := 0) hx hb dX2_byteAt_30 ?_
    refine zv_as (pc := 31) (a := 0) (b := zTt fb n i) (by first | exact (zTt_at (by omega) (by omega)).symm | exact (zTt_out (by omega)).symm) ?_
    exact ze_i (pc := 31) hx hb hr hlk hW () rfl trivial rfl dX2_byteAt_31
  · refine lv_iload_n (pc := 4) hx hb dX2_byteAt_4 rfl (lv_at hl 1 rfl) ?_
    refine lv_aload_n (pc := 5) hx hb dX2_byteAt_5 rfl (lv_at hl 0 rfl) ?_
    refine zw_get (pc := 6) (ref := RX2) (index := 19) hx hb hts hin2 hown hW 0 rfl rfl 0 (by decide) (List.mem_of_getElem? (i := 1) rfl) (fun _ h9 => h9) rfl dX2_byteAt_6 ?_
    refine zv_icmp_ge (pc := 9) (tgt := 30) hx hb dX2_byteAt_9 (by decide) ⟨by omega, by omega⟩ ⟨by omega, by omega⟩ (fun c9 => ?_) (fun c9 => ?_)
    · refine zv_iconst (pc := 30) (n := 0) hx hb dX2_byteAt_30 ?_
      refine zv_as (pc := 31) (a := 0) (b := zTt fb n i) (by first | exact (zTt_at (by omega) (by omega)).symm | exact (zTt_out (by omega)).symm) ?_
      exact ze_i (pc := 31) hx hb hr hlk hW () rfl trivial rfl dX2_byteAt_31
    · refine lv_iload_n (pc := 12) hx hb dX2_byteAt_12 rfl (lv_at hl 1 rfl) ?_
      refine lv_aload_n (pc := 13) hx hb dX2_byteAt_13 rfl (lv_at hl 0 rfl) ?_
      refine zw_get (pc := 14) (ref := RX2) (index := 15) hx hb hts hin2 hown hW 0 rfl rfl 2 (by decide) (List.mem_of_getElem? (i := 2) rfl) (fun _ h9 => h9) rfl dX2_byteAt_14 ?_
      refine zw_alen (pc := 17) hx hb hW 1 2 rfl rfl dX2_byteAt_17 ?_
      refine zv_as (b := 600) (pc := 18) rfl ?_
      refine zv_icmp_ge (pc := 18) (tgt := 30) hx hb dX2_byteAt_18 (by decide) ⟨by omega, by omega⟩ ⟨by omega, by omega⟩ (fun c18 => absurd c18 (by omega)) (fun c18 => ?_)
      refine lv_aload_n (pc := 21) hx hb dX2_byteAt_21 rfl (lv_at hl 0 rfl) ?_
      refine zw_get (pc := 22) (ref := RX2) (index := 15) hx hb hts hin2 hown hW 0 rfl rfl 2 (by decide) (List.mem_of_getElem? (i := 2) rfl) (fun _ h9 => h9) rfl dX2_byteAt_22 ?_
      refine lv_iload_n (pc := 25) hx hb dX2_byteAt_25 rfl (lv_at hl 1 rfl) ?_
      refine zw_cald (pc := 26) hx hb hW 1 rfl (by omega) (by omega) (by decide) dX2_byteAt_26 ?_
      refine lv_goto (pc := 27) (tgt := 31) hx hb dX2_byteAt_27 (by decide) ?_
      refine zv_as (pc := 31) (a := fb i) (b := zTt fb n i) (by first | exact (zTt_at (by omega) (by omega)).symm | exact (zTt_out (by omega)).symm) ?_
      exact ze_i (pc := 31) hx hb hr hlk hW () rfl trivial rfl dX2_byteAt_31

set_option maxHeartbeats 1000000 in
set_option maxRecDepth 100000 in
/-- isDigit -/
theorem kX2_isDigit (G : zG) (l : Launch) (v : Int) (v0 : 0 ≤ v) (v1 : v ≤ 65535) : zM G l yX2_isDigit wsX2_isDigit { frames := 0, cells := 0, slots := 0, locals := 0 } [.int (zI v)] [] (S := Unit) (zri (fun _ => zb (decide (48 ≤ v ∧ v ≤ 57)))) (fun _ => True) (fun _ => []) 0 0 := by
  refine zM.of (cc := cX2_isDigit) (maxL := 1) (ret := (some .boolean)) (by decide) rfl (Nat.le_of_ble_eq_true rfl) (l0 := [(0, .int (zI v))]) rfl ?_
  intro p e s m args below meth c ls F hr hlk hnm hW hl
  obtain ⟨hx, hb, hml, hown, hts⟩ := id F
  refine lv_iload_n (pc := 0) hx hb dX2_isDigit_0 rfl (lv_at hl 0 rfl) ?_
  refine zv_bipush (pc := 1) (n := 48) hx hb dX2_isDigit_1 (by decide) ?_
  refine zv_icmp_lt (pc := 3) (tgt := 16) hx hb dX2_isDigit_3 (by decide) ⟨by omega, by omega⟩ ⟨by omega, by omega⟩ (fun c3 => ?_) (fun c3 => ?_)
  · refine zv_iconst (pc := 16) (n := 0) hx hb dX2_isDigit_16 ?_
    refine zv_as (pc := 17) (a := 0) (b := zb (decide (48 ≤ v ∧ v ≤ 57))) (by first | (rw [decide_eq_true (show 48 ≤ v ∧ v ≤ 57 by omega)]; rfl) | (rw [decide_eq_false (show ¬ (48 ≤ v ∧ v ≤ 57) by omega)]; rfl)) ?_
    exact ze_z (pc := 17) hx hb hr hlk hW () rfl trivial rfl dX2_isDigit_17
  · refine lv_iload_n (pc := 6) hx hb dX2_isDigit_6 rfl (lv_at hl 0 rfl) ?_
    refine zv_bipush (pc := 7) (n := 57) hx hb dX2_isDigit_7 (by decide) ?_
    refine zv_icmp_gt (pc := 9) (tgt := 16) hx hb dX2_isDigit_9 (by decide) ⟨by omega, by omega⟩ ⟨by omega, by omega⟩ (fun c9 => ?_) (fun c9 => ?_)
    · refine zv_iconst (pc := 16) (n := 0) hx hb dX2_isDigit_16 ?_
      refine zv_as (pc := 17) (a := 0) (b := zb (decide (48 ≤ v ∧ v ≤ 57))) (by first | (rw [decide_eq_true (show 48 ≤ v ∧ v ≤ 57 by omega)]; rfl) | (rw [decide_eq_false (show ¬ (48 ≤ v ∧ v ≤ 57) by omega)]; rfl)) ?_
      exact ze_z (pc := 17) hx hb hr hlk hW () rfl trivial rfl dX2_isDigit_17
    · refine zv_iconst (pc := 12) (n := 1) hx hb dX2_isDigit_12 ?_
      refine lv_goto (pc := 13) (tgt := 17) hx hb dX2_isDigit_13 (by decide) ?_
      refine zv_as (pc := 17) (a := 1) (b := zb (decide (48 ≤ v ∧ v ≤ 57))) (by first | (rw [decide_eq_true (show 48 ≤ v ∧ v ≤ 57 by omega)]; rfl) | (rw [decide_eq_false (show ¬ (48 ≤ v ∧ v ≤ 57) by omega)]; rfl)) ?_
      exact ze_z (pc := 17) hx hb hr hlk hW () rfl trivial rfl dX2_isDigit_17

set_option maxHeartbeats 1000000 in
set_option maxRecDepth 100000 in
/-- skipSpaces -/
theorem kX2_skipSpaces (G : zG) (l : Launch) (rd : Nat) (n : Int) (ea : Int) (rb : Nat) (P : Int) (ta : Int) (er : Int) (nu : Int) (na : Int) (fb : Int → Int) (ht : qtext fb n) (P0 : 0 ≤ P) (P1 : P ≤ n) : zM G l yX2_skipSpaces wsX2_skipSpaces { frames := 0, cells := 0, slots := 0, locals := 0 } [.ref rd] [(rd, .inr (2, [.int (zI n), .int (zI ea), .ref rb, .int (zI P), .int (zI ta), .int (zI er), .int (zI nu), .long (zL na)])), (rb, .inl (zk G 2, 600, .inl (zA fb)))] (S := Unit) zrv (fun _ => True) (fun _ => [(rd, .inr (2, [.int (zI n), .int (zI ea), .ref rb, .int (zI (qsp (zTt fb n) n P)), .int (zI (qsp (zTt fb n) n P)), .int (zI er), .int (zI nu), .long (zL na)])), (rb, .inl (zk G 2, 600, .inl (zA fb)))]) 0 0 := by
  refine zM.of (cc := cX2_skipSpaces) (maxL := 1) (ret := none) (by decide) rfl (Nat.le_of_ble_eq_true rfl) (l0 := [(0, .ref rd)]) rfl ?_
  intro p e s m args below meth c ls F hr hlk hnm hW hl
  obtain ⟨hx, hb, hml, hown, hts⟩ := id F
  have hin2 : ∀ w ∈ wsX20, w ∈ wsX2_skipSpaces := fun _ h => List.mem_cons_of_mem _ (List.mem_append_right _ (h))
  have J0 : ∀ (fuel0 : Nat) (p9 : Int) (p0 : P ≤ p9) (p1 : p9 ≤ n) (hk9 : qsp (zTt fb n) n p9 = qsp (zTt fb n) n P) (hfu0 : (n - p9).toNat < fuel0) (H : Heap) (locs : List Loc) (ls : Array Slot) (hW : zW G (va_A [(rd, .inr (2, [.int (zI n), .int (zI ea), .ref rb, .int (zI P), .int (zI ta), .int (zI er), .int (zI nu), .long (zL na)])), (rb, .inl (zk G 2, 600, .inl (zA fb)))] s.heap.size) s H locs [(rd, .inr (2, [.int (zI n), .int (zI ea), .ref rb, .int (zI p9), .int (zI ta), .int (zI er), .int (zI nu), .long (zL na)])), (rb, .inl (zk G 2, 600, .inl (zA fb)))]) (hl : lv_has ls 1 [(0, .ref rd)]), W p l e ({ frames := 0, cells := 0, slots := 0, locals := 0 } : Room) s m args below meth c H locs 0 0 (MQ below (zQ (S := Unit) zrv (fun _ => True) (zPost G [(rd, .inr (2, [.int (zI n), .int (zI ea), .ref rb, .int (zI P), .int (zI ta), .int (zI er), .int (zI nu), .long (zL na)])), (rb, .inl (zk G 2, 600, .inl (zA fb)))] s.heap.size (fun _ => [(rd, .inr (2, [.int (zI n), .int (zI ea), .ref rb, .int (zI (qsp (zTt fb n) n P)), .int (zI (qsp (zTt fb n) n P)), .int (zI er), .int (zI nu), .long (zL na)])), (rb, .inl (zk G 2, 600, .inl (zA fb)))])) (va_A [(rd, .inr (2, [.int (zI n), .int (zI ea), .ref rb, .int (zI P), .int (zI ta), .int (zI er), .int (zI nu), .long (zL na)])), (rb, .inl (zk G 2, 600, .inl (zA fb)))] s.heap.size)) args s 0 0 (va_A [(rd, .inr (2, [.int (zI n), .int (zI ea), .ref rb, .int (zI P), .int (zI ta), .int (zI er), .int (zI nu), .long (zL na)])), (rb, .inl (zk G 2, 600, .inl (zA fb)))] s.heap.size)) (F0 m 0 ls []) := by
    intro fuel0
    induction fuel0 with
    | zero =>
      intro p9 p0 p1 hk9 hfu0
      exact absurd hfu0 (Nat.not_lt_zero _)
    | succ fuel0 ih0 =>
      intro p9 p0 p1 hk9 hfu0 H locs ls hW hl
      obtain ⟨⟨n0, n6⟩, hx8⟩ := id ht
      have hX := zTt_end (tx := fb) (n := n)
      have hsp := qsp_in (X := zTt fb n) (n := n) (P := P) P1
      refine lv_aload_n (pc := 0) hx hb dX2_skipSpaces_0 rfl (lv_at hl 0 rfl) ?_
      refine zw_get (pc := 1) (ref := RX2) (index := 47) hx hb hts hin2 hown hW 0 rfl rfl 3 (by decide) (List.mem_of_getElem? (i := 1) rfl) (fun _ h9 => h9) rfl dX2_skipSpaces_1 ?_
      refine zv_if_lt (pc := 4) (tgt := 57) hx hb dX2_skipSpaces_4 (by decide) ⟨by omega, by omega⟩ (fun c4 => absurd c4 (by omega)) (fun c4 => ?_)
      refine lv_aload_n (pc := 7) hx hb dX2_skipSpaces_7 rfl (lv_at hl 0 rfl) ?_
      refine zw_get (pc := 8) (ref := RX2) (index := 47) hx hb hts hin2 hown hW 0 rfl rfl 3 (by decide) (List.mem_of_getElem? (i := 1) rfl) (fun _ h9 => h9) rfl dX2_skipSpaces_8 ?_
      refine lv_aload_n (pc := 11) hx hb dX2_skipSpaces_11 rfl (lv_at hl 0 rfl) ?_
      refine zw_get (pc := 12) (ref := RX2) (index := 19) hx hb hts hin2 hown hW 0 rfl rfl 0 (by decide) (List.mem_of_getElem? (i := 2) rfl) (fun _ h9 => h9) rfl dX2_skipSpaces_12 ?_
      refine zv_icmp_ge (pc := 15) (tgt := 57) hx hb dX2_skipSpaces_15 (by decide) ⟨by omega, by omega⟩ ⟨by omega, by omega⟩ (fun c15 => ?_) (fun c15 => ?_)
      · obtain rfl : p9 = qsp (zTt fb n) n P := by first | (rw [← hk9]; exact (zrun_end (by omega)).symm) | (rw [← hk9]; exact (zrun_no (decide_eq_false (by rw [zTt_at (by omega) (by omega)]; exact c41))).symm)
        refine lv_aload_n (pc := 57) hx hb dX2_skipSpaces_57 rfl (lv_at hl 0 rfl) ?_
        refine lv_aload_n (pc := 58) hx hb dX2_skipSpaces_58 rfl (lv_at hl 0 rfl) ?_
        refine zw_get (pc := 59) (ref := RX2) (index := 47) hx hb hts hin2 hown hW 0 rfl rfl 3 (by decide) (List.mem_of_getElem? (i := 1) rfl) (fun _ h9 => h9) rfl dX2_skipSpaces_59 ?_
        refine zw_put (pc := 62) (ws' := [(rd, .inr (2, [.int (zI n), .int (zI ea), .ref rb, .int (zI (qsp (zTt fb n) n P)), .int (zI (qsp (zTt fb n) n P)), .int (zI er), .int (zI nu), .long (zL na)])), (rb, .inl (zk G 2, 600, .inl (zA fb)))]) (ref := RX2) (index := 50) hx hb hts hin2 tyX2 tyX2_ok nmX2 hown hW 0 rfl rfl 4 (by decide) (List.mem_of_getElem? (i := 4) rfl) (fun _ h9 => h9) rfl (tyX2_ok 4 (by decide)) rfl rfl (Nat.le_of_ble_eq_true rfl) rfl dX2_skipSpaces_62 (fun H locs hW => ?_)
        exact ze_v (pc := 65) hx hb hr hlk hW () rfl trivial rfl dX2_skipSpaces_65
      · refine lv_aload_n (pc := 18) hx hb dX2_skipSpaces_18 rfl (lv_at hl 0 rfl) ?_
        refine zw_get (pc := 19) (ref := RX2) (index := 47) hx hb hts hin2 hown hW 0 rfl rfl 3 (by decide) (List.mem_of_getElem? (i := 1) rfl) (fun _ h9 => h9) rfl dX2_skipSpaces_19 ?_
        refine lv_aload_n (pc := 22) hx hb dX2_skipSpaces_22 rfl (lv_at hl 0 rfl) ?_
        refine zw_get (pc := 23) (ref := RX2) (index := 15) hx hb hts hin2 hown hW 0 rfl rfl 2 (by decide) (List.mem_of_getElem? (i := 3) rfl) (fun _ h9 => h9) rfl dX2_skipSpaces_23 ?_
        refine zw_alen (pc := 26) hx hb hW 1 2 rfl rfl dX2_skipSpaces_26 ?_
        refine zv_as (b := 600) (pc := 27) rfl ?_
        refine zv_icmp_ge (pc := 27) (tgt := 57) hx hb dX2_skipSpaces_27 (by decide) ⟨by omega, by omega⟩ ⟨by omega, by omega⟩ (fun c27 => absurd c27 (by omega)) (fun c27 => ?_)
        refine lv_aload_n (pc := 30) hx hb dX2_skipSpaces_30 rfl (lv_at hl 0 rfl) ?_
        refine zw_get (pc := 31) (ref := RX2) (index := 15) hx hb hts hin2 hown hW 0 rfl rfl 2 (by decide) (List.mem_of_getElem? (i := 3) rfl) (fun _ h9 => h9) rfl dX2_skipSpaces_31 ?_
        refine lv_aload_n (pc := 34) hx hb dX2_skipSpaces_34 rfl (lv_at hl 0 rfl) ?_
        refine zw_get (pc := 35) (ref := RX2) (index := 47) hx hb hts hin2 hown hW 0 rfl rfl 3 (by decide) (List.mem_of_getElem? (i := 1) rfl) (fun _ h9 => h9) rfl dX2_skipSpaces_35 ?_
        refine zw_cald (pc := 38) hx hb hW 1 rfl (by omega) (by omega) (by decide) dX2_skipSpaces_38 ?_
        refine zv_bipush (pc := 39) (n := 32) hx hb dX2_skipSpaces_39 (by decide) ?_
        refine zv_icmp_ne (pc := 41) (tgt := 57) hx hb dX2_skipSpaces_41 (by decide) (by have h9 := hx8 p9 (by omega) (by omega); exact ⟨by omega, by omega⟩) ⟨by omega, by omega⟩ (fun c41 => ?_) (fun c41 => ?_)
        · obtain rfl : p9 = qsp (zTt fb n) n P := by first | (rw [← hk9]; exact (zrun_end (by omega)).symm) | (rw [← hk9]; exact (zrun_no (decide_eq_false (by rw [zTt_at (by omega) (by omega)]; exact c41))).symm)
          refine lv_aload_n (pc := 57) hx hb dX2_skipSpaces_57 rfl (lv_at hl 0 rfl) ?_
          refine lv_aload_n (pc := 58) hx hb dX2_skipSpaces_58 rfl (lv_at hl 0 rfl) ?_
          refine zw_get (pc := 59) (ref := RX2) (index := 47) hx hb hts hin2 hown hW 0 rfl rfl 3 (by decide) (List.mem_of_getElem? (i := 1) rfl) (fun _ h9 => h9) rfl dX2_skipSpaces_59 ?_
          refine zw_put (pc := 62) (ws' := [(rd, .inr (2, [.int (zI n), .int (zI ea), .ref rb, .int (zI (qsp (zTt fb n) n P)), .int (zI (qsp (zTt fb n) n P)), .int (zI er), .int (zI nu), .long (zL na)])), (rb, .inl (zk G 2, 600, .inl (zA fb)))]) (ref := RX2) (index := 50) hx hb hts hin2 tyX2 tyX2_ok nmX2 hown hW 0 rfl rfl 4 (by decide) (List.mem_of_getElem? (i := 4) rfl) (fun _ h9 => h9) rfl (tyX2_ok 4 (by decide)) rfl rfl (Nat.le_of_ble_eq_true rfl) rfl dX2_skipSpaces_62 (fun H locs hW => ?_)
          exact ze_v (pc := 65) hx hb hr hlk hW () rfl trivial rfl dX2_skipSpaces_65
        · refine lv_aload_n (pc := 44) hx hb dX2_skipSpaces_44 rfl (lv_at hl 0 rfl) ?_
          refine lv_dup (pc := 45) hx hb dX2_skipSpaces_45 rfl ?_
          refine zw_get (pc := 46) (ref := RX2) (index := 47) hx hb hts hin2 hown hW 0 rfl rfl 3 (by decide) (List.mem_of_getElem? (i := 1) rfl) (fun _ h9 => h9) rfl dX2_skipSpaces_46 ?_
          refine zv_iconst (pc := 49) (n := 1) hx hb dX2_skipSpaces_49 ?_
          refine zv_iadd (pc := 50) hx hb dX2_skipSpaces_50 ?_
          refine zw_put (pc := 51) (ws' := [(rd, .inr (2, [.int (zI n), .int (zI ea), .ref rb, .int (zI (p9 + 1)), .int (zI ta), .int (zI er), .int (zI nu), .long (zL na)])), (rb, .inl (zk G 2, 600, .inl (zA fb)))]) (ref := RX2) (index := 47) hx hb hts hin2 tyX2 tyX2_ok nmX2 hown hW 0 rfl rfl 3 (by decide) (List.mem_of_getElem? (i := 1) rfl) (fun _ h9 => h9) rfl (tyX2_ok 3 (by decide)) rfl rfl (Nat.le_of_ble_eq_true rfl) rfl dX2_skipSpaces_51 (fun H locs hW => ?_)
          refine lv_goto (pc := 54) (tgt := 0) hx hb dX2_skipSpaces_54 (by decide) ?_
          exact ih0 (p9 + 1) (by omega) (by omega) (by first | rfl | (rw [← hk9]; exact (zrun_go (by omega) (decide_eq_true (by rw [zTt_at (by omega) (by omega)]; exact c41))).symm)) (by omega) _ _ _ hW (lv_sub hl [0] rfl)
  exact J0 (((n - P : Int).toNat) + 1) P (by omega) (by omega) (by first | rfl | (rw [← hk9]; exact (zrun_go (by omega) (decide_eq_true (by rw [zTt_at (by omega) (by omega)]; exact c41))).symm)) (Nat.lt_succ_self _) _ _ _ hW (lv_sub hl [0] rfl)

set_option maxHeartbeats 1000000 in
set_option maxRecDepth 100000 in
/-- wordEnd -/
theorem kX2_wordEnd (G : zG) (l : Launch) (rd : Nat) (n : Int) (ea : Int) (rb : Nat) (P : Int) (ta : Int) (er : Int) (nu : Int) (na : Int) (fb : Int → Int) (ht : qtext fb n) (P0 : 0 ≤ P) (P1 : P ≤ n) : zM G l yX2_wordEnd wsX2_wordEnd { frames := 0, cells := 0, slots := 0, locals := 0 } [.ref rd] [(rd, .inr (2, [.int (zI n), .int (zI ea), .ref rb, .int (zI P), .int (zI ta), .int (zI er), .int (zI nu), .long (zL na)])), (rb, .inl (zk G 2, 600, .inl (zA fb)))] (S := Unit) (zri (fun _ => qwe (zTt fb n) n P)) (fun _ => True) (fun _ => [(rd, .inr (2, [.int (zI n), .int (zI ea), .ref rb, .int (zI P), .int (zI ta), .int (zI er), .int (zI nu), .long (zL na)])), (rb, .inl (zk G 2, 600, .inl (zA fb)))]) 0 0 := by
  refine zM.of (cc := cX2_wordEnd) (maxL := 2) (ret := (some .int)) (by decide) rfl (Nat.le_of_ble_eq_true rfl) (l0 := [(0, .ref rd)]) rfl ?_
  intro p e s m args below meth c ls F hr hlk hnm hW hl
  obtain ⟨hx, hb, hml, hown, hts⟩ := id F
  have hin2 : ∀ w ∈ wsX20, w ∈ wsX2_wordEnd := fun _ h => List.mem_cons_of_mem _ (List.mem_append_right _ (h))
  obtain ⟨⟨n0, n6⟩, hx8⟩ := id ht
  have hX := zTt_end (tx := fb) (n := n)
  have hsp := qsp_in (X := zTt fb n) (n := n) (P := P) P1
  refine lv_aload_n (pc := 0) hx hb dX2_wordEnd_0 rfl (lv_at hl 0 rfl) ?_
  refine zw_get (pc := 1) (ref := RX2) (index := 47) hx hb hts hin2 hown hW 0 rfl rfl 3 (by decide) (List.mem_of_getElem? (i := 1) rfl) (fun _ h9 => h9) rfl dX2_wordEnd_1 ?_
  refine lv_istore_n (pc := 4) (lv' := [(1, .int (zI P)), (0, .ref rd)]) hx hb dX2_wordEnd_4 rfl hl (by decide) rfl (fun ls hl => ?_)
  have J5 : ∀ (fuel5 : Nat) (e9 : Int) (p0 : P ≤ e9) (p1 : e9 ≤ n) (hk9 : qwe (zTt fb n) n e9 = qwe (zTt fb n) n P) (hfu5 : (n - e9).toNat < fuel5) (H : Heap) (locs : List Loc) (ls : Array Slot) (hW : zW G (va_A [(rd, .inr (2, [.int (zI n), .int (zI ea), .ref rb, .int (zI P), .int (zI ta), .int (zI er), .int (zI nu), .long (zL na)])), (rb, .inl (zk G 2, 600, .inl (zA fb)))] s.heap.size) s H locs [(rd, .inr (2, [.int (zI n), .int (zI ea), .ref rb, .int (zI P), .int (zI ta), .int (zI er), .int (zI nu), .long (zL na)])), (rb, .inl (zk G 2, 600, .inl (zA fb)))]) (hl : lv_has ls 2 [(1, .int (zI e9)), (0, .ref rd)]), W p l e ({ frames := 0, cells := 0, slots := 0, locals := 0 } : Room) s m args below meth c H locs 0 0 (MQ below (zQ (S := Unit) (zri (fun _ => qwe (zTt fb n) n P)) (fun _ => True) (zPost G [(rd, .inr (2, [.int (zI n), .int (zI ea), .ref rb, .int (zI P), .int (zI ta), .int (zI er), .int (zI nu), .long (zL na)])), (rb, .inl (zk G 2, 600, .inl (zA fb)))] s.heap.size (fun _ => [(rd, .inr (2, [.int (zI n), .int (zI ea), .ref rb, .int (zI P), .int (zI ta), .int (zI er), .int (zI nu), .long (zL na)])), (rb, .inl (zk G 2, 600, .inl (zA fb)))])) (va_A [(rd, .inr (2, [.int (zI n), .int (zI ea), .ref rb, .int (zI P), .int (zI ta), .int (zI er), .int (zI nu), .long (zL na)])), (rb, .inl (zk G 2, 600, .inl (zA fb)))] s.heap.size)) args s 0 0 (va_A [(rd, .inr (2, [.int (zI n), .int (zI ea), .ref rb, .int (zI P), .int (zI ta), .int (zI er), .int (zI nu), .long (zL na)])), (rb, .inl (zk G 2, 600, .inl (zA fb)))] s.heap.size)) (F0 m 5 ls []) := by
    intro fuel5
    induction fuel5 with
    | zero =>
      intro e9 p0 p1 hk9 hfu5
      exact absurd hfu5 (Nat.not_lt_zero _)
    | succ fuel5 ih5 =>
      intro e9 p0 p1 hk9 hfu5 H locs ls hW hl
      refine lv_iload_n (pc := 5) hx hb dX2_wordEnd_5 rfl (lv_at hl 0 rfl) ?_
      refine zv_if_lt (pc := 6) (tgt := 54) hx hb dX2_wordEnd_6 (by decide) ⟨by omega, by omega⟩ (fun c6 => absurd c6 (by omega)) (fun c6 => ?_)
      refine lv_iload_n (pc := 9) hx hb dX2_wordEnd_9 rfl (lv_at hl 0 rfl) ?_
      refine lv_aload_n (pc := 10) hx hb dX2_wordEnd_10 rfl (lv_at hl 1 rfl) ?_
      refine zw_get (pc := 11) (ref := RX2) (index := 19) hx hb hts hin2 hown hW 0 rfl rfl 0 (by decide) (List.mem_of_getElem? (i := 2) rfl) (fun _ h9 => h9) rfl dX2_wordEnd_11 ?_
      refine zv_icmp_ge (pc := 14) (tgt := 54) hx hb dX2_wordEnd_14 (by decide) ⟨by omega, by omega⟩ ⟨by omega, by omega⟩ (fun c14 => ?_) (fun c14 => ?_)
      · refine lv_iload_n (pc := 54) hx hb dX2_wordEnd_54 rfl (lv_at hl 0 rfl) ?_
        refine zv_as (pc := 55) (a := e9) (b := qwe (zTt fb n) n P) (by first | (rw [← hk9]; exact (zrun_end (by omega)).symm) | (rw [← hk9]; exact (qwe_no (by rw [zTt_at (by omega) (by omega)]; omega)).symm)) ?_
        exact ze_i (pc := 55) hx hb hr hlk hW () rfl trivial rfl dX2_wordEnd_55
      · refine lv_iload_n (pc := 17) hx hb dX2_wordEnd_17 rfl (lv_at hl 0 rfl) ?_
        refine lv_aload_n (pc := 18) hx hb dX2_wordEnd_18 rfl (lv_at hl 1 rfl) ?_
        refine zw_get (pc := 19) (ref := RX2) (index := 15) hx hb hts hin2 hown hW 0 rfl rfl 2 (by decide) (List.mem_of_getElem? (i := 3) rfl) (fun _ h9 => h9) rfl dX2_wordEnd_19 ?_
        refine zw_alen (pc := 22) hx hb hW 1 2 rfl rfl dX2_wordEnd_22 ?_
        refine zv_as (b := 600) (pc := 23) rfl ?_
        refine zv_icmp_ge (pc := 23) (tgt := 54) hx hb dX2_wordEnd_23 (by decide) ⟨by omega, by omega⟩ ⟨by omega, by omega⟩ (fun c23 => absurd c23 (by omega)) (fun c23 => ?_)
        refine lv_aload_n (pc := 26) hx hb dX2_wordEnd_26 rfl (lv_at hl 1 rfl) ?_
        refine zw_get (pc := 27) (ref := RX2) (index := 15) hx hb hts hin2 hown hW 0 rfl rfl 2 (by decide) (List.mem_of_getElem? (i := 3) rfl) (fun _ h9 => h9) rfl dX2_wordEnd_27 ?_
        refine lv_iload_n (pc := 30) hx hb dX2_wordEnd_30 rfl (lv_at hl 0 rfl) ?_
        refine zw_cald (pc := 31) hx hb hW 1 rfl (by omega) (by omega) (by decide) dX2_wordEnd_31 ?_
        refine zv_bipush (pc := 32) (n := 97) hx hb dX2_wordEnd_32 (by decide) ?_
        refine zv_icmp_lt (pc := 34) (tgt := 54) hx hb dX2_wordEnd_34 (by decide) (by have h9 := hx8 e9 (by omega) (by omega); exact ⟨by omega, by omega⟩) ⟨by omega, by omega⟩ (fun c34 => ?_) (fun c34 => ?_)
        · refine lv_iload_n (pc := 54) hx hb dX2_wordEnd_54 rfl (lv_at hl 0 rfl) ?_
          refine zv_as (pc := 55) (a := e9) (b := qwe (zTt fb n) n P) (by first | (rw [← hk9]; exact (zrun_end (by omega)).symm) | (rw [← hk9]; exact (qwe_no (by rw [zTt_at (by omega) (by omega)]; omega)).symm)) ?_
          exact ze_i (pc := 55) hx hb hr hlk hW () rfl trivial rfl dX2_wordEnd_55
        · refine lv_aload_n (pc := 37) hx hb dX2_wordEnd_37 rfl (lv_at hl 1 rfl) ?_
          refine zw_get (pc := 38) (ref := RX2) (index := 15) hx hb hts hin2 hown hW 0 rfl rfl 2 (by decide) (List.mem_of_getElem? (i := 3) rfl) (fun _ h9 => h9) rfl dX2_wordEnd_38 ?_
          refine lv_iload_n (pc := 41) hx hb dX2_wordEnd_41 rfl (lv_at hl 0 rfl) ?_
          refine zw_cald (pc := 42) hx hb hW 1 rfl (by omega) (by omega) (by decide) dX2_wordEnd_42 ?_
          refine zv_bipush (pc := 43) (n := 122) hx hb dX2_wordEnd_43 (by decide) ?_
          refine zv_icmp_gt (pc := 45) (tgt := 54) hx hb dX2_wordEnd_45 (by decide) (by have h9 := hx8 e9 (by omega) (by omega); exact ⟨by omega, by omega⟩) ⟨by omega, by omega⟩ (fun c45 => ?_) (fun c45 => ?_)
          · refine lv_iload_n (pc := 54) hx hb dX2_wordEnd_54 rfl (lv_at hl 0 rfl) ?_
            refine zv_as (pc := 55) (a := e9) (b := qwe (zTt fb n) n P) (by first | (rw [← hk9]; exact (zrun_end (by omega)).symm) | (rw [← hk9]; exact (qwe_no (by rw [zTt_at (by omega) (by omega)]; omega)).symm)) ?_
            exact ze_i (pc := 55) hx hb hr hlk hW () rfl trivial rfl dX2_wordEnd_55
          · refine zv_iinc (pc := 48) (lv' := [(1, .int (zI (e9 + 1))), (0, .ref rd)]) hx hb dX2_wordEnd_48 hl (k := 0) rfl (by decide) rfl (fun ls hl => ?_)
            refine lv_goto (pc := 51) (tgt := 5) hx hb dX2_wordEnd_51 (by decide) ?_
            exact ih5 (e9 + 1) (by omega) (by omega) (by first | rfl | (rw [← hk9]; exact (zrun_go (by omega) (decide_eq_true (by rw [zTt_at (by omega) (by omega)]; exact ⟨by omega, by omega⟩))).symm)) (by omega) _ _ _ hW (lv_sub hl [0, 1] rfl)
  exact J5 (((n - P : Int).toNat) + 1) P (by omega) (by omega) (by first | rfl | (rw [← hk9]; exact (zrun_go (by omega) (decide_eq_true (by rw [zTt_at (by omega) (by omega)]; exact ⟨by omega, by omega⟩))).symm)) (Nat.lt_succ_self _) _ _ _ hW (lv_sub hl [0, 1] rfl)

set_option maxHeartbeats 1000000 in
set_option maxRecDepth 100000 in
/-- begin -/
theorem kX2_begin (G : zG) (l : Launch) (rd : Nat) (n : Int) (ea : Int) (rb : Nat) (P : Int) (ta : Int) (er : Int) (nu : Int) (na : Int) (fb : Int → Int) : zM G l yX2_begin wsX2_begin { frames := 0, cells := 0, slots := 0, locals := 0 } [.ref rd] [(rd, .inr (2, [.int (zI n), .int (zI ea), .ref rb, .int (zI P), .int (zI ta), .int (zI er), .int (zI nu), .long (zL na)])), (rb, .inl (zk G 2, 600, .inl (zA fb)))] (S := Unit) zrv (fun _ => True) (fun _ => [(rd, .inr (2, [.int (zI n), .int (zI (-1)), .ref rb, .int (zI 0), .int (zI ta), .int (zI 0), .int (zI nu), .long (zL na)])), (rb, .inl (zk G 2, 600, .inl (zA fb)))]) 0 0 := by
  refine zM.of (cc := cX2_begin) (maxL := 1) (ret := none) (by decide) rfl (Nat.le_of_ble_eq_true rfl) (l0 := [(0, .ref rd)]) rfl ?_
  intro p e s m args below meth c ls F hr hlk hnm hW hl
  obtain ⟨hx, hb, hml, hown, hts⟩ := id F
  have hin2 : ∀ w ∈ wsX20, w ∈ wsX2_begin := fun _ h => List.mem_cons_of_mem _ (List.mem_append_right _ (h))
  refine lv_aload_n (pc := 0) hx hb dX2_begin_0 rfl (lv_at hl 0 rfl) ?_
  refine zv_iconst (pc := 1) (n := 0) hx hb dX2_begin_1 ?_
  refine zw_put (pc := 2) (ws' := [(rd, .inr (2, [.int (zI n), .int (zI ea), .ref rb, .int (zI 0), .int (zI ta), .int (zI er), .int (zI nu), .long (zL na)])), (rb, .inl (zk G 2, 600, .inl (zA fb)))]) (ref := RX2) (index := 47) hx hb hts hin2 tyX2 tyX2_ok nmX2 hown hW 0 rfl rfl 3 (by decide) (List.mem_of_getElem? (i := 1) rfl) (fun _ h9 => h9) rfl (tyX2_ok 3 (by decide)) rfl rfl (Nat.le_of_ble_eq_true rfl) rfl dX2_begin_2 (fun H locs hW => ?_)
  refine lv_aload_n (pc := 5) hx hb dX2_begin_5 rfl (lv_at hl 0 rfl) ?_
  refine zv_iconst (pc := 6) (n := 0) hx hb dX2_begin_6 ?_
  refine zw_put (pc := 7) (ws' := [(rd, .inr (2, [.int (zI n), .int (zI ea), .ref rb, .int (zI 0), .int (zI ta), .int (zI 0), .int (zI nu), .long (zL na)])), (rb, .inl (zk G 2, 600, .inl (zA fb)))]) (ref := RX2) (index := 44) hx hb hts hin2 tyX2 tyX2_ok nmX2 hown hW 0 rfl rfl 5 (by decide) (List.mem_of_getElem? (i := 2) rfl) (fun _ h9 => h9) rfl (tyX2_ok 5 (by decide)) rfl rfl (Nat.le_of_ble_eq_true rfl) rfl dX2_begin_7 (fun H locs hW => ?_)
  refine lv_aload_n (pc := 10) hx hb dX2_begin_10 rfl (lv_at hl 0 rfl) ?_
  refine zv_iconst (pc := 11) (n := -1) hx hb dX2_begin_11 ?_
  refine zw_put (pc := 12) (ws' := [(rd, .inr (2, [.int (zI n), .int (zI (-1)), .ref rb, .int (zI 0), .int (zI ta), .int (zI 0), .int (zI nu), .long (zL na)])), (rb, .inl (zk G 2, 600, .inl (zA fb)))]) (ref := RX2) (index := 9) hx hb hts hin2 tyX2 tyX2_ok nmX2 hown hW 0 rfl rfl 1 (by decide) (List.mem_of_getElem? (i := 3) rfl) (fun _ h9 => h9) rfl (tyX2_ok 1 (by decide)) rfl rfl (Nat.le_of_ble_eq_true rfl) rfl dX2_begin_12 (fun H locs hW => ?_)
  exact ze_v (pc := 15) hx hb hr hlk hW () rfl trivial rfl dX2_begin_15

set_option maxHeartbeats 1000000 in
set_option maxRecDepth 100000 in
/-- fail -/
theorem kX2_fail (G : zG) (l : Launch) (rd : Nat) (n : Int) (ea : Int) (rb : Nat) (P : Int) (ta : Int) (er : Int) (nu : Int) (na : Int) (fb : Int → Int) (cd : Int) : zM G l yX2_fail wsX2_fail { frames := 0, cells := 0, slots := 0, locals := 0 } [.ref rd, .int (zI cd)] [(rd, .inr (2, [.int (zI n), .int (zI ea), .ref rb, .int (zI P), .int (zI ta), .int (zI er), .int (zI nu), .long (zL na)])), (rb, .inl (zk G 2, 600, .inl (zA fb)))] (S := Unit) (zri (fun _ => zb false)) (fun _ => True) (fun _ => [(rd, .inr (2, [.int (zI n), .int (zI ta), .ref rb, .int (zI P), .int (zI ta), .int (zI cd), .int (zI nu), .long (zL na)])), (rb, .inl (zk G 2, 600, .inl (zA fb)))]) 0 0 := by
  refine zM.of (cc := cX2_fail) (maxL := 2) (ret := (some .boolean)) (by decide) rfl (Nat.le_of_ble_eq_true rfl) (l0 := [(0, .ref rd), (1, .int (zI cd))]) rfl ?_
  intro p e s m args below meth c ls F hr hlk hnm hW hl
  obtain ⟨hx, hb, hml, hown, hts⟩ := id F
  have hin2 : ∀ w ∈ wsX20, w ∈ wsX2_fail := fun _ h => List.mem_cons_of_mem _ (List.mem_append_right _ (h))
  refine lv_aload_n (pc := 0) hx hb dX2_fail_0 rfl (lv_at hl 0 rfl) ?_
  refine lv_iload_n (pc := 1) hx hb dX2_fail_1 rfl (lv_at hl 1 rfl) ?_
  refine zw_put (pc := 2) (ws' := [(rd, .inr (2, [.int (zI n), .int (zI ea), .ref rb, .int (zI P), .int (zI ta), .int (zI cd), .int (zI nu), .long (zL na)])), (rb, .inl (zk G 2, 600, .inl (zA fb)))]) (ref := RX2) (index := 44) hx hb hts hin2 tyX2 tyX2_ok nmX2 hown hW 0 rfl rfl 5 (by decide) (List.mem_of_getElem? (i := 1) rfl) (fun _ h9 => h9) rfl (tyX2_ok 5 (by decide)) rfl rfl (Nat.le_of_ble_eq_true rfl) rfl dX2_fail_2 (fun H locs hW => ?_)
  refine lv_aload_n (pc := 5) hx hb dX2_fail_5 rfl (lv_at hl 0 rfl) ?_
  refine lv_aload_n (pc := 6) hx hb dX2_fail_6 rfl (lv_at hl 0 rfl) ?_
  refine zw_get (pc := 7) (ref := RX2) (index := 50) hx hb hts hin2 hown hW 0 rfl rfl 4 (by decide) (List.mem_of_getElem? (i := 2) rfl) (fun _ h9 => h9) rfl dX2_fail_7 ?_
  refine zw_put (pc := 10) (ws' := [(rd, .inr (2, [.int (zI n), .int (zI ta), .ref rb, .int (zI P), .int (zI ta), .int (zI cd), .int (zI nu), .long (zL na)])), (rb, .inl (zk G 2, 600, .inl (zA fb)))]) (ref := RX2) (index := 9) hx hb hts hin2 tyX2 tyX2_ok nmX2 hown hW 0 rfl rfl 1 (by decide) (List.mem_of_getElem? (i := 3) rfl) (fun _ h9 => h9) rfl (tyX2_ok 1 (by decide)) rfl rfl (Nat.le_of_ble_eq_true rfl) rfl dX2_fail_10 (fun H locs hW => ?_)
  refine zv_iconst (pc := 13) (n := 0) hx hb dX2_fail_13 ?_
  refine zv_as (pc := 14) (a := 0) (b := zb false) (rfl) ?_
  exact ze_z (pc := 14) hx hb hr hlk hW () rfl trivial rfl dX2_fail_14

set_option maxHeartbeats 1000000 in
set_option maxRecDepth 100000 in
/-- comesWord -/
theorem kX2_comesWord (G : zG) (l : Launch) (rd : Nat) (n : Int) (ea : Int) (rb : Nat) (P : Int) (ta : Int) (er : Int) (nu : Int) (na : Int) (fb : Int → Int) (k : Nat) (ht : qtext fb n) (P0 : 0 ≤ P) (P1 : P ≤ n) (hk : k < 9) : zM G l yX2_comesWord wsX2_comesWord { frames := 4, cells := 0, slots := 0, locals := 85 } [.ref rd, .ref (zsk G k)] [(rd, .inr (2, [.int (zI n), .int (zI ea), .ref rb, .int (zI P), .int (zI ta), .int (zI er), .int (zI nu), .long (zL na)])), (rb, .inl (zk G 2, 600, .inl (zA fb)))] (S := Unit) (zri (fun _ => zb (qis (zTt fb n) n (qsp (zTt fb n) n P) k))) (fun _ => True) (fun _ => [(rd, .inr (2, [.int (zI n), .int (zI ea), .ref rb, .int (zI (qsp (zTt fb n) n P)), .int (zI (qsp (zTt fb n) n P)), .int (zI er), .int (zI nu), .long (zL na)])), (rb, .inl (zk G 2, 600, .inl (zA fb)))]) 0 0 := by
  refine zM.of (cc := cX2_comesWord) (maxL := 3) (ret := (some .boolean)) (by decide) rfl (Nat.le_of_ble_eq_true rfl) (l0 := [(0, .ref rd), (1, .ref (zsk G k))]) rfl ?_
  intro p e s m args below meth c ls F hr hlk hnm hW hl
  obtain ⟨hx, hb, hml, hown, hts⟩ := id F
  have hin2 : ∀ w ∈ wsX20, w ∈ wsX2_comesWord := fun _ h => List.mem_cons_of_mem _ (List.mem_append_right _ (h))
  obtain ⟨⟨n0, n6⟩, hx8⟩ := id ht
  have hX := zTt_end (tx := fb) (n := n)
  have hsp := qsp_in (X := zTt fb n) (n := n) (P := P) P1
  refine lv_aload_n (pc := 0) hx hb dX2_comesWord_0 rfl (lv_at hl 0 rfl) ?_
  refine z_V (pc := 1) (As := []) (rest := []) (wn := (fun _ => [(rd, .inr (2, [.int (zI n), .int (zI ea), .ref rb, .int (zI (qsp (zTt fb n) n P)), .int (zI (qsp (zTt fb n) n P)), .int (zI er), .int (zI nu), .long (zL na)])), (rb, .inl (zk G 2, 600, .inl (zA fb)))])) (wr := []) F (kX2_skipSpaces G l rd n ea rb P ta er nu na fb (by first | assumption | omega) (by first | assumption | omega) (by first | assumption | omega)) (cwV 0 hts gX2_comesWord_X2_skipSpaces rfl rfl rfl (by decide +kernel) ⟨Nat.le_of_ble_eq_true rfl, Nat.le_of_ble_eq_true rfl⟩) hW 0 rfl rfl [0, 1] [] (by decide) rfl rfl rfl (by decide) (by decide) [0, 1] (by decide) (fun _ => rfl) (fun _ => rfl) rfl hl.1 rfl (Nat.le_of_ble_eq_true rfl) dX2_comesWord_1 ⟨Nat.le_of_ble_eq_true rfl, Nat.le_of_ble_eq_true rfl⟩ (fun _ H locs _ hW => ?_)
  have hsp1 := qsp_in (X := zTt fb n) (n := n) (P := P) (by omega)
  refine lv_aload_n (pc := 4) hx hb dX2_comesWord_4 rfl (lv_at hl 0 rfl) ?_
  refine z_V (pc := 5) (As := []) (rest := []) (wn := (fun _ => [(rd, .inr (2, [.int (zI n), .int (zI ea), .ref rb, .int (zI (qsp (zTt fb n) n P)), .int (zI (qsp (zTt fb n) n P)), .int (zI er), .int (zI nu), .long (zL na)])), (rb, .inl (zk G 2, 600, .inl (zA fb)))])) (wr := []) F (kX2_wordEnd G l rd n ea rb (qsp (zTt fb n) n P) (qsp (zTt fb n) n P) er nu na fb (by first | assumption | omega) (by first | assumption | omega) (by first | assumption | omega)) (cwV 0 hts gX2_comesWord_X2_wordEnd rfl rfl rfl (by decide +kernel) ⟨Nat.le_of_ble_eq_true rfl, Nat.le_of_ble_eq_true rfl⟩) hW 0 rfl rfl [0, 1] [] (by decide) rfl rfl rfl (by decide) (by decide) [0, 1] (by decide) (fun _ => rfl) (fun _ => rfl) rfl hl.1 rfl (Nat.le_of_ble_eq_true rfl) dX2_comesWord_5 ⟨Nat.le_of_ble_eq_true rfl, Nat.le_of_ble_eq_true rfl⟩ (fun _ H locs _ hW => ?_)
  show W p l e _ s m args below meth c H locs _ _ _ (F0 m 8 ls [.int (zI (qwe (zTt fb n) n (qsp (zTt fb n) n P)))])
  have hwe5 := qwe_in (X := zTt fb n) (n := n) (P := (qsp (zTt fb n) n P)) (by omega)
  refine lv_aload_n (pc := 8) hx hb dX2_comesWord_8 rfl (lv_at hl 0 rfl) ?_
  refine zw_get (pc := 9) (ref := RX2) (index := 47) hx hb hts hin2 hown hW 0 rfl rfl 3 (by decide) (List.mem_of_getElem? (i := 1) rfl) (fun _ h9 => h9) rfl dX2_comesWord_9 ?_
  refine zv_isub (pc := 12) hx hb dX2_comesWord_12 ?_
  refine lv_aload_n (pc := 13) hx hb dX2_comesWord_13 rfl (lv_at hl 1 rfl) ?_
  refine z_VS (pc := 14) (As := []) (rest := [.int (zI ((qwe (zTt fb n) n (qsp (zTt fb n) n P)) - (qsp (zTt fb n) n P)))]) F (by first | assumption | omega | decide) (kJ0_length_8abf5 G l k (by first | assumption | omega | decide)) (cwV 0 hts gX2_comesWord_J0_length_8abf5 rfl rfl rfl (by decide +kernel) ⟨Nat.le_of_ble_eq_true rfl, Nat.le_of_ble_eq_true rfl⟩) hW rfl hl.1 rfl (Nat.le_of_ble_eq_true rfl) dX2_comesWord_14 ⟨Nat.le_of_ble_eq_true rfl, Nat.le_of_ble_eq_true rfl⟩ (fun _ H locs _ hW => ?_)
  show W p l e _ s m args below meth c H locs _ _ _ (F0 m 17 ls [.int (zI (wln k)), .int (zI ((qwe (zTt fb n) n (qsp (zTt fb n) n P)) - (qsp (zTt fb n) n P)))])
  have wl14 := wln_in (k) (by first | assumption | omega | decide)
  refine zv_icmp_eq (pc := 17) (tgt := 22) hx hb dX2_comesWord_17 (by decide) ⟨by omega, by omega⟩ ⟨by omega, by omega⟩ (fun c17 => ?_) (fun c17 => ?_)
  · have hwl := wln_in k (by omega)
    refine zv_iconst (pc := 22) (n := 0) hx hb dX2_comesWord_22 ?_
    refine lv_istore_n (pc := 23) (lv' := [(2, .int (zI 0)), (0, .ref rd), (1, .ref (zsk G k))]) hx hb dX2_comesWord_23 rfl hl (by decide) rfl (fun ls hl => ?_)
    have J24 : ∀ (fuel24 : Nat) (j9 : Int) (j0 : 0 ≤ j9) (j1 : j9 ≤ wln k) (hz9 : zfind (fun j => decide ((zTt fb n) (qsp (zTt fb n) n P + j) ≠ wch k j)) j9 (wln k) = zfind (fun j => decide ((zTt fb n) (qsp (zTt fb n) n P + j) ≠ wch k j)) 0 (wln k)) (hfu24 : (wln k - j9).toNat < fuel24) (H : Heap) (locs : List Loc) (ls : Array Slot) (hW : zW G (va_A [(rd, .inr (2, [.int (zI n), .int (zI ea), .ref rb, .int (zI P), .int (zI ta), .int (zI er), .int (zI nu), .long (zL na)])), (rb, .inl (zk G 2, 600, .inl (zA fb)))] s.heap.size) s H locs [(rd, .inr (2, [.int (zI n), .int (zI ea), .ref rb, .int (zI (qsp (zTt fb n) n P)), .int (zI (qsp (zTt fb n) n P)), .int (zI er), .int (zI nu), .long (zL na)])), (rb, .inl (zk G 2, 600, .inl (zA fb)))]) (hl : lv_has ls 3 [(2, .int (zI j9)), (0, .ref rd), (1, .ref (zsk G k))]), W p l e ({ frames := 4, cells := 0, slots := 0, locals := 85 } : Room) s m args below meth c H locs 0 0 (MQ below (zQ (S := Unit) (zri (fun _ => zb (qis (zTt fb n) n (qsp (zTt fb n) n P) k))) (fun _ => True) (zPost G [(rd, .inr (2, [.int (zI n), .int (zI ea), .ref rb, .int (zI P), .int (zI ta), .int (zI er), .int (zI nu), .long (zL na)])), (rb, .inl (zk G 2, 600, .inl (zA fb)))] s.heap.size (fun _ => [(rd, .inr (2, [.int (zI n), .int (zI ea), .ref rb, .int (zI (qsp (zTt fb n) n P)), .int (zI (qsp (zTt fb n) n P)), .int (zI er), .int (zI nu), .long (zL na)])), (rb, .inl (zk G 2, 600, .inl (zA fb)))])) (va_A [(rd, .inr (2, [.int (zI n), .int (zI ea), .ref rb, .int (zI P), .int (zI ta), .int (zI er), .int (zI nu), .long (zL na)])), (rb, .inl (zk G 2, 600, .inl (zA fb)))] s.heap.size)) args s 0 0 (va_A [(rd, .inr (2, [.int (zI n), .int (zI ea), .ref rb, .int (zI P), .int (zI ta), .int (zI er), .int (zI nu), .long (zL na)])), (rb, .inl (zk G 2, 600, .inl (zA fb)))] s.heap.size)) (F0 m 24 ls []) := by
      intro fuel24
      induction fuel24 with
      | zero =>
        intro j9 j0 j1 hz9 hfu24
        exact absurd hfu24 (Nat.not_lt_zero _)
      | succ fuel24 ih24 =>
        intro j9 j0 j1 hz9 hfu24 H locs ls hW hl
        refine lv_iload_n (pc := 24) hx hb dX2_comesWord_24 rfl (lv_at hl 0 rfl) ?_
        refine lv_aload_n (pc := 25) hx hb dX2_comesWord_25 rfl (lv_at hl 2 rfl) ?_
        refine z_VS (pc := 26) (As := []) (rest := [.int (zI j9)]) F (by first | assumption | omega | decide) (kJ0_length_8abf5 G l k (by first | assumption | omega | decide)) (cwV 0 hts gX2_comesWord_J0_length_8abf5 rfl rfl rfl (by decide +kernel) ⟨Nat.le_of_ble_eq_true rfl, Nat.le_of_ble_eq_true rfl⟩) hW rfl hl.1 rfl (Nat.le_of_ble_eq_true rfl) dX2_comesWord_26 ⟨Nat.le_of_ble_eq_true rfl, Nat.le_of_ble_eq_true rfl⟩ (fun _ H locs _ hW => ?_)
        show W p l e _ s m args below meth c H locs _ _ _ (F0 m 29 ls [.int (zI (wln k)), .int (zI j9)])
        have wl26 := wln_in (k) (by first | assumption | omega | decide)
        refine zv_icmp_ge (pc := 29) (tgt := 58) hx hb dX2_comesWord_29 (by decide) ⟨by omega, by omega⟩ ⟨by omega, by omega⟩ (fun c29 => ?_) (fun c29 => ?_)
        · refine zv_iconst (pc := 58) (n := 1) hx hb dX2_comesWord_58 ?_
          refine zv_as (pc := 59) (a := 1) (b := zb (qis (zTt fb n) n (qsp (zTt fb n) n P) k)) (by first | exact (congrArg zb (qis_no (by omega))).symm | exact (congrArg zb (qis_miss (by rw [← hz9, zfind_hit (by omega) (decide_eq_true c47)]; omega))).symm | exact (congrArg zb (qis_hit (by omega) (by rw [← hz9, zfind_end (by omega)]))).symm) ?_
          exact ze_z (pc := 59) hx hb hr hlk hW () rfl trivial rfl dX2_comesWord_59
        · refine lv_aload_n (pc := 32) hx hb dX2_comesWord_32 rfl (lv_at hl 1 rfl) ?_
          refine lv_aload_n (pc := 33) hx hb dX2_comesWord_33 rfl (lv_at hl 1 rfl) ?_
          refine zw_get (pc := 34) (ref := RX2) (index := 47) hx hb hts hin2 hown hW 0 rfl rfl 3 (by decide) (List.mem_of_getElem? (i := 1) rfl) (fun _ h9 => h9) rfl dX2_comesWord_34 ?_
          refine lv_iload_n (pc := 37) hx hb dX2_comesWord_37 rfl (lv_at hl 0 rfl) ?_
          refine zv_iadd (pc := 38) hx hb dX2_comesWord_38 ?_
          refine z_V (pc := 39) (As := [.int (zI ((qsp (zTt fb n) n P) + j9))]) (rest := []) (wn := (fun _ => [(rd, .inr (2, [.int (zI n), .int (zI ea), .ref rb, .int (zI (qsp (zTt fb n) n P)), .int (zI (qsp (zTt fb n) n P)), .int (zI er), .int (zI nu), .long (zL na)])), (rb, .inl (zk G 2, 600, .inl (zA fb)))])) (wr := []) F (kX2_byteAt G l rd n ea rb (qsp (zTt fb n) n P) (qsp (zTt fb n) n P) er nu na fb ((qsp (zTt fb n) n P) + j9) (by first | assumption | omega) (by first | assumption | omega) (by first | assumption | omega)) (cwV 1 hts gX2_comesWord_X2_byteAt rfl rfl rfl (by decide +kernel) ⟨Nat.le_of_ble_eq_true rfl, Nat.le_of_ble_eq_true rfl⟩) hW 0 rfl rfl [0, 1] [] (by decide) rfl rfl rfl (by decide) (by decide) [0, 1] (by decide) (fun _ => rfl) (fun _ => rfl) rfl hl.1 rfl (Nat.le_of_ble_eq_true rfl) dX2_comesWord_39 ⟨Nat.le_of_ble_eq_true rfl, Nat.le_of_ble_eq_true rfl⟩ (fun _ H locs _ hW => ?_)
          show W p l e _ s m args below meth c H locs _ _ _ (F0 m 42 ls [.int (zI (zTt fb n ((qsp (zTt fb n) n P) + j9)))])
          have xb39 := zTt_in (tx := fb) (n := n) (by assumption) (((qsp (zTt fb n) n P) + j9))
          refine lv_aload_n (pc := 42) hx hb dX2_comesWord_42 rfl (lv_at hl 2 rfl) ?_
          refine lv_iload_n (pc := 43) hx hb dX2_comesWord_43 rfl (lv_at hl 0 rfl) ?_
          refine z_VS (pc := 44) (As := [.int (zI j9)]) (rest := [.int (zI (zTt fb n ((qsp (zTt fb n) n P) + j9)))]) F (by first | assumption | omega | decide) (kJ0_charAt_5068e G l k j9 (by first | assumption | omega | decide) (by first | assumption | omega | decide) (by first | assumption | omega | decide)) (cwV 1 hts gX2_comesWord_J0_charAt_5068e rfl rfl rfl (by decide +kernel) ⟨Nat.le_of_ble_eq_true rfl, Nat.le_of_ble_eq_true rfl⟩) hW rfl hl.1 rfl (Nat.le_of_ble_eq_true rfl) dX2_comesWord_44 ⟨Nat.le_of_ble_eq_true rfl, Nat.le_of_ble_eq_true rfl⟩ (fun _ H locs _ hW => ?_)
          show W p l e _ s m args below meth c H locs _ _ _ (F0 m 47 ls [.int (zI (wch k j9)), .int (zI (zTt fb n ((qsp (zTt fb n) n P) + j9)))])
          have wc44 := wch_in (k := k) (j := j9) (by first | assumption | omega | decide) (by omega) (by omega)
          have hwc := wch_in (k := k) (j := j9) (by omega) (by omega) (by omega)
          refine zv_icmp_eq (pc := 47) (tgt := 52) hx hb dX2_comesWord_47 (by decide) ⟨by omega, by omega⟩ ⟨by omega, by omega⟩ (fun c47 => ?_) (fun c47 => ?_)
          · refine zv_iinc (pc := 52) (lv' := [(2, .int (zI (j9 + 1))), (0, .ref rd), (1, .ref (zsk G k))]) hx hb dX2_comesWord_52 hl (k := 0) rfl (by decide) rfl (fun ls hl => ?_)
            refine lv_goto (pc := 55) (tgt := 24) hx hb dX2_comesWord_55 (by decide) ?_
            exact ih24 (j9 + 1) (by omega) (by omega) (by first | rfl | (rw [← hz9]; exact (zfind_next (by omega) (decide_eq_false (fun z => z c47))).symm)) (by omega) _ _ _ hW (lv_sub hl [0, 1, 2] rfl)
          · refine zv_iconst (pc := 50) (n := 0) hx hb dX2_comesWord_50 ?_
            refine zv_as (pc := 51) (a := 0) (b := zb (qis (zTt fb n) n (qsp (zTt fb n) n P) k)) (by first | exact (congrArg zb (qis_no (by omega))).symm | exact (congrArg zb (qis_miss (by rw [← hz9, zfind_hit (by omega) (decide_eq_true c47)]; omega))).symm | exact (congrArg zb (qis_hit (by omega) (by rw [← hz9, zfind_end (by omega)]))).symm) ?_
            exact ze_z (pc := 51) hx hb hr hlk hW () rfl trivial rfl dX2_comesWord_51
    exact J24 (((wln k - 0 : Int).toNat) + 1) 0 (by omega) (by omega) (by first | rfl | (rw [← hz9]; exact (zfind_next (by omega) (decide_eq_false (fun z => z c47))).symm)) (Nat.lt_succ_self _) _ _ _ hW (lv_sub hl [0, 1, 2] rfl)
  · refine zv_iconst (pc := 20) (n := 0) hx hb dX2_comesWord_20 ?_
    refine zv_as (pc := 21) (a := 0) (b := zb (qis (zTt fb n) n (qsp (zTt fb n) n P) k)) (by first | exact (congrArg zb (qis_no (by omega))).symm | exact (congrArg zb (qis_miss (by rw [← hz9, zfind_hit (by omega) (decide_eq_true c47)]; omega))).symm | exact (congrArg zb (qis_hit (by omega) (by rw [← hz9, zfind_end (by omega)]))).symm) ?_
    exact ze_z (pc := 21) hx hb hr hlk hW () rfl trivial rfl dX2_comesWord_21

set_option maxHeartbeats 1000000 in
set_option maxRecDepth 100000 in
/-- skipWord -/
theorem kX2_skipWord (G : zG) (l : Launch) (rd : Nat) (n : Int) (ea : Int) (rb : Nat) (P : Int) (ta : Int) (er : Int) (nu : Int) (na : Int) (fb : Int → Int) (k : Nat) (ht : qtext fb n) (P0 : 0 ≤ P) (P1 : P ≤ n) (hk : k < 9) : zM G l yX2_skipWord wsX2_skipWord { frames := 5, cells := 0, slots := 0, locals := 107 } [.ref rd, .ref (zsk G k)] [(rd, .inr (2, [.int (zI n), .int (zI ea), .ref rb, .int (zI P), .int (zI ta), .int (zI er), .int (zI nu), .long (zL na)])), (rb, .inl (zk G 2, 600, .inl (zA fb)))] (S := Int) (zri (fun u => zb (qis (zTt fb n) n (qsp (zTt fb n) n P) k))) (fun u => (qis (zTt fb n) n (qsp (zTt fb n) n P) k = true → u = qsp (zTt fb n) n P + wln k) ∧ (qis (zTt fb n) n (qsp (zTt fb n) n P) k = false → u = qsp (zTt fb n) n P)) (fun u => [(rd, .inr (2, [.int (zI n), .int (zI ea), .ref rb, .int (zI u), .int (zI (qsp (zTt fb n) n P)), .int (zI er), .int (zI nu), .long (zL na)])), (rb, .inl (zk G 2, 600, .inl (zA fb)))]) 0 0 := by
  refine zM.of (cc := cX2_skipWord) (maxL := 3) (ret := (some .boolean)) (by decide) rfl (Nat.le_of_ble_eq_true rfl) (l0 := [(0, .ref rd), (1, .ref (zsk G k))]) rfl ?_
  intro p e s m args below meth c ls F hr hlk hnm hW hl
  obtain ⟨hx, hb, hml, hown, hts⟩ := id F
  have hin2 : ∀ w ∈ wsX20, w ∈ wsX2_skipWord := fun _ h => List.mem_cons_of_mem _ (List.mem_append_right _ (h))
  obtain ⟨⟨n0, n6⟩, hx8⟩ := id ht
  have hX := zTt_end (tx := fb) (n := n)
  have hsp := qsp_in (X := zTt fb n) (n := n) (P := P) P1
  refine lv_aload_n (pc := 0) hx hb dX2_skipWord_0 rfl (lv_at hl 0 rfl) ?_
  refine lv_aload_n (pc := 1) hx hb dX2_skipWord_1 rfl (lv_at hl 1 rfl) ?_
  refine z_V (pc := 2) (As := [.ref (zsk G k)]) (rest := []) (wn := (fun _ => [(rd, .inr (2, [.int (zI n), .int (zI ea), .ref rb, .int (zI (qsp (zTt fb n) n P)), .int (zI (qsp (zTt fb n) n P)), .int (zI er), .int (zI nu), .long (zL na)])), (rb, .inl (zk G 2, 600, .inl (zA fb)))])) (wr := []) F (kX2_comesWord G l rd n ea rb P ta er nu na fb k (by first | assumption | omega) (by first | assumption | omega) (by first | assumption | omega) (by first | assumption | omega)) (cwV 1 hts gX2_skipWord_X2_comesWord rfl rfl rfl (by decide +kernel) ⟨Nat.le_of_ble_eq_true rfl, Nat.le_of_ble_eq_true rfl⟩) hW 0 rfl rfl [0, 1] [] (by decide) rfl rfl rfl (by decide) (by decide) [0, 1] (by decide) (fun _ => rfl) (fun _ => rfl) rfl hl.1 rfl (Nat.le_of_ble_eq_true rfl) dX2_skipWord_2 ⟨Nat.le_of_ble_eq_true rfl, Nat.le_of_ble_eq_true rfl⟩ (fun _ H locs _ hW => ?_)
  show W p l e _ s m args below meth c H locs _ _ _ (F0 m 5 ls [.int (zI (zb (qis (zTt fb n) n (qsp (zTt fb n) n P) k)))])
  have hsp2 := qsp_in (X := zTt fb n) (n := n) (P := P) (by omega)
  refine lv_istore_n (pc := 5) (lv' := [(2, .int (zI (zb (qis (zTt fb n) n (qsp (zTt fb n) n P) k)))), (0, .ref rd), (1, .ref (zsk G k))]) hx hb dX2_skipWord_5 rfl hl (by decide) rfl (fun ls hl => ?_)
  refine lv_iload_n (pc := 6) hx hb dX2_skipWord_6 rfl (lv_at hl 0 rfl) ?_
  refine zv_b_eq (pc := 7) (tgt := 23) hx hb dX2_skipWord_7 (by decide) (fun c7 => ?_) (fun c7 => ?_)
  · refine lv_iload_n (pc := 23) hx hb dX2_skipWord_23 rfl (lv_at hl 0 rfl) ?_
    exact ze_z (pc := 24) hx hb hr hlk hW (qsp (zTt fb n) n P) rfl (by constructor <;> intro h9 <;> first | rfl | (rw [c7] at h9; cases h9)) rfl dX2_skipWord_24
  · refine lv_aload_n (pc := 10) hx hb dX2_skipWord_10 rfl (lv_at hl 1 rfl) ?_
    refine lv_dup (pc := 11) hx hb dX2_skipWord_11 rfl ?_
    refine zw_get (pc := 12) (ref := RX2) (index := 47) hx hb hts hin2 hown hW 0 rfl rfl 3 (by decide) (List.mem_of_getElem? (i := 1) rfl) (fun _ h9 => h9) rfl dX2_skipWord_12 ?_
    refine lv_aload_n (pc := 15) hx hb dX2_skipWord_15 rfl (lv_at hl 2 rfl) ?_
    refine z_VS (pc := 16) (As := []) (rest := [.int (zI (qsp (zTt fb n) n P)), .ref rd]) F (by omega) (kJ0_length_8abf5 G l k (by omega)) (cwV 0 hts gX2_skipWord_J0_length_8abf5 rfl rfl rfl (by decide +kernel) ⟨Nat.le_of_ble_eq_true rfl, Nat.le_of_ble_eq_true rfl⟩) hW rfl hl.1 rfl (Nat.le_of_ble_eq_true rfl) dX2_skipWord_16 ⟨Nat.le_of_ble_eq_true rfl, Nat.le_of_ble_eq_true rfl⟩ (fun _ H locs _ hW => ?_)
    show W p l e _ s m args below meth c H locs _ _ _ (F0 m 19 ls [.int (zI (wln k)), .int (zI (qsp (zTt fb n) n P)), .ref rd])
    have wl16 := wln_in (k) (by first | assumption | omega | decide)
    refine zv_iadd (pc := 19) hx hb dX2_skipWord_19 ?_
    refine zw_put (pc := 20) (ws' := [(rd, .inr (2, [.int (zI n), .int (zI ea), .ref rb, .int (zI ((qsp (zTt fb n) n P) + (wln k))), .int (zI (qsp (zTt fb n) n P)), .int (zI er), .int (zI nu), .long (zL na)])), (rb, .inl (zk G 2, 600, .inl (zA fb)))]) (ref := RX2) (index := 47) hx hb hts hin2 tyX2 tyX2_ok nmX2 hown hW 0 rfl rfl 3 (by decide) (List.mem_of_getElem? (i := 1) rfl) (fun _ h9 => h9) rfl (tyX2_ok 3 (by decide)) rfl rfl (Nat.le_of_ble_eq_true rfl) rfl dX2_skipWord_20 (fun H locs hW => ?_)
    refine lv_iload_n (pc := 23) hx hb dX2_skipWord_23 rfl (lv_at hl 0 rfl) ?_
    exact ze_z (pc := 24) hx hb hr hlk hW ((qsp (zTt fb n) n P) + (wln k)) rfl (by constructor <;> intro h9 <;> first | rfl | (rw [c7] at h9; cases h9)) rfl dX2_skipWord_24

set_option maxHeartbeats 1000000 in
set_option maxRecDepth 100000 in
/-- takeWord -/
theorem kX2_takeWord (G : zG) (l : Launch) (rd : Nat) (n : Int) (ea : Int) (rb : Nat) (P : Int) (ta : Int) (er : Int) (nu : Int) (na : Int) (fb : Int → Int) (k : Nat) (ht : qtext fb n) (P0 : 0 ≤ P) (P1 : P ≤ n) (hk : k < 9) : zM G l yX2_takeWord wsX2_takeWord { frames := 6, cells := 0, slots := 0, locals := 129 } [.ref rd, .ref (zsk G k)] [(rd, .inr (2, [.int (zI n), .int (zI ea), .ref rb, .int (zI P), .int (zI ta), .int (zI er), .int (zI nu), .long (zL na)])), (rb, .inl (zk G 2, 600, .inl (zA fb)))] (S := Bool × Int × Int × Int × Int) (zri (fun u => zb u.1)) (fun u => qR (qWord (zTt fb n) n k P) u.1 er ea u.2.2.2.1 u.2.2.2.2 (fun x => x = u.2.1)) (fun u => [(rd, .inr (2, [.int (zI n), .int (zI u.2.2.2.2), .ref rb, .int (zI u.2.1), .int (zI u.2.2.1), .int (zI u.2.2.2.1), .int (zI nu), .long (zL na)])), (rb, .inl (zk G 2, 600, .inl (zA fb)))]) 0 0 := by
  refine zM.of (cc := cX2_takeWord) (maxL := 2) (ret := (some .boolean)) (by decide) rfl (Nat.le_of_ble_eq_true rfl) (l0 := [(0, .ref rd), (1, .ref (zsk G k))]) rfl ?_
  intro p e s m args below meth c ls F hr hlk hnm hW hl
  obtain ⟨hx, hb, hml, hown, hts⟩ := id F
  obtain ⟨⟨n0, n6⟩, hx8⟩ := id ht
  have hX := zTt_end (tx := fb) (n := n)
  have hsp := qsp_in (X := zTt fb n) (n := n) (P := P) P1
  refine lv_aload_n (pc := 0) hx hb dX2_takeWord_0 rfl (lv_at hl 0 rfl) ?_
  refine lv_aload_n (pc := 1) hx hb dX2_takeWord_1 rfl (lv_at hl 1 rfl) ?_
  refine z_V (pc := 2) (As := [.ref (zsk G k)]) (rest := []) (wn := (fun u2 => [(rd, .inr (2, [.int (zI n), .int (zI ea), .ref rb, .int (zI u2), .int (zI (qsp (zTt fb n) n P)), .int (zI er), .int (zI nu), .long (zL na)])), (rb, .inl (zk G 2, 600, .inl (zA fb)))])) (wr := []) F (kX2_skipWord G l rd n ea rb P ta er nu na fb k (by first | assumption | omega) (by first | assumption | omega) (by first | assumption | omega) (by first | assumption | omega)) (cwV 1 hts gX2_takeWord_X2_skipWord rfl rfl rfl (by decide +kernel) ⟨Nat.le_of_ble_eq_true rfl, Nat.le_of_ble_eq_true rfl⟩) hW 0 rfl rfl [0, 1] [] (by decide) rfl rfl rfl (by decide) (by decide) [0, 1] (by decide) (fun _ => rfl) (fun _ => rfl) rfl hl.1 rfl (Nat.le_of_ble_eq_true rfl) dX2_takeWord_2 ⟨Nat.le_of_ble_eq_true rfl, Nat.le_of_ble_eq_true rfl⟩ (fun u2 H locs q2 hW => ?_)
  obtain ⟨p22, ep22⟩ : ∃ z, z = u2 := ⟨_, rfl⟩; subst ep22
  have q2 : (qis (zTt fb n) n (qsp (zTt fb n) n P) k = true → p22 = qsp (zTt fb n) n P + wln k) ∧ (qis (zTt fb n) n (qsp (zTt fb n) n P) k = false → p22 = qsp (zTt fb n) n P) := q2
  show W p l e _ s m args below meth c H locs _ _ _ (F0 m 5 ls [.int (zI (zb (qis (zTt fb n) n (qsp (zTt fb n) n P) k)))])
  have hsp2 := qsp_in (X := zTt fb n) (n := n) (P := P) (by omega)
  have hwl2 := wln_in (k) (by omega)
  have hwe2 := qwe_in (X := zTt fb n) (n := n) (P := qsp (zTt fb n) n P) (by omega)
  refine zv_b_ne (pc := 5) (tgt := 17) hx hb dX2_takeWord_5 (by decide) (fun c5 => ?_) (fun c5 => ?_)
  · refine zv_iconst (pc := 17) (n := 1) hx hb dX2_takeWord_17 ?_
    refine lv_goto (pc := 18) (tgt := 22) hx hb dX2_takeWord_18 (by decide) ?_
    refine zv_as (pc := 22) (a := 1) (b := zb true) (rfl) ?_
    exact ze_z (pc := 22) hx hb hr hlk hW (true, p22, qsp (zTt fb n) n P, er, ea) rfl (by first | exact qR_ok (if_pos c5) ⟨rfl, rfl, (q2.1 c5).symm⟩ | exact qR_er (if_neg (by rw [c5]; decide)) ⟨rfl, rfl, (by show (-2 : Int) < 0; decide)⟩) rfl dX2_takeWord_22
  · refine lv_aload_n (pc := 8) hx hb dX2_takeWord_8 rfl (lv_at hl 0 rfl) ?_
    refine zv_bipush (pc := 9) (n := (-2)) hx hb dX2_takeWord_9 (by decide) ?_
    refine z_V (pc := 11) (As := [.int (zI (-2))]) (rest := []) (wn := (fun _ => [(rd, .inr (2, [.int (zI n), .int (zI (qsp (zTt fb n) n P)), .ref rb, .int (zI p22), .int (zI (qsp (zTt fb n) n P)), .int (zI (-2)), .int (zI nu), .long (zL na)])), (rb, .inl (zk G 2, 600, .inl (zA fb)))])) (wr := []) F (kX2_fail G l rd n ea rb p22 (qsp (zTt fb n) n P) er nu na fb (-2)) (cwV 1 hts gX2_takeWord_X2_fail rfl rfl rfl (by decide +kernel) ⟨Nat.le_of_ble_eq_true rfl, Nat.le_of_ble_eq_true rfl⟩) hW 0 rfl rfl [0, 1] [] (by decide) rfl rfl rfl (by decide) (by decide) [0, 1] (by decide) (fun _ => rfl) (fun _ => rfl) rfl hl.1 rfl (Nat.le_of_ble_eq_true rfl) dX2_takeWord_11 ⟨Nat.le_of_ble_eq_true rfl, Nat.le_of_ble_eq_true rfl⟩ (fun _ H locs _ hW => ?_)
    show W p l e _ s m args below meth c H locs _ _ _ (F0 m 14 ls [.int (zI (zb false))])
    refine zv_b_eq (pc := 14) (tgt := 21) hx hb dX2_takeWord_14 (by decide) (fun c14 => ?_) (fun c14 => absurd c14 (by decide))
    refine zv_iconst (pc := 21) (n := 0) hx hb dX2_takeWord_21 ?_
    refine zv_as (pc := 22) (a := 0) (b := zb false) (rfl) ?_
    exact ze_z (pc := 22) hx hb hr hlk hW (false, p22, (qsp (zTt fb n) n P), (-2), (qsp (zTt fb n) n P)) rfl (by first | exact qR_ok (if_pos c5) ⟨rfl, rfl, (q2.1 c5).symm⟩ | exact qR_er (if_neg (by rw [c5]; decide)) ⟨rfl, rfl, (by show (-2 : Int) < 0; decide)⟩) rfl dX2_takeWord_22

set_option maxHeartbeats 1000000 in
set_option maxRecDepth 100000 in
/-- skipSign -/
theorem kX2_skipSign (G : zG) (l : Launch) (rd : Nat) (n : Int) (ea : Int) (rb : Nat) (P : Int) (ta : Int) (er : Int) (nu : Int) (na : Int) (fb : Int → Int) (cg : Int) (ht : qtext fb n) (P0 : 0 ≤ P) (P1 : P ≤ n) (hc0 : 0 < cg) (hc1 : cg < 256) : zM G l yX2_skipSign wsX2_skipSign { frames := 1, cells := 0, slots := 0, locals := 21 } [.ref rd, .int (zI cg)] [(rd, .inr (2, [.int (zI n), .int (zI ea), .ref rb, .int (zI P), .int (zI ta), .int (zI er), .int (zI nu), .long (zL na)])), (rb, .inl (zk G 2, 600, .inl (zA fb)))] (S := Int) (zri (fun u => zb (decide ((zTt fb n) (qsp (zTt fb n) n P) = cg)))) (fun u => ((zTt fb n) (qsp (zTt fb n) n P) = cg → u = qsp (zTt fb n) n P + 1) ∧ ((zTt fb n) (qsp (zTt fb n) n P) ≠ cg → u = qsp (zTt fb n) n P)) (fun u => [(rd, .inr (2, [.int (zI n), .int (zI ea), .ref rb, .int (zI u), .int (zI (qsp (zTt fb n) n P)), .int (zI er), .int (zI nu), .long (zL na)])), (rb, .inl (zk G 2, 600, .inl (zA fb)))]) 0 0 := by
  refine zM.of (cc := cX2_skipSign) (maxL := 3) (ret := (some .boolean)) (by decide) rfl (Nat.le_of_ble_eq_true rfl) (l0 := [(0, .ref rd), (1, .int (zI cg))]) rfl ?_
  intro p e s m args below meth c ls F hr hlk hnm hW hl
  obtain ⟨hx, hb, hml, hown, hts⟩ := id F
  have hin2 : ∀ w ∈ wsX20, w ∈ wsX2_skipSign := fun _ h => List.mem_cons_of_mem _ (List.mem_append_right _ (h))
  obtain ⟨⟨n0, n6⟩, hx8⟩ := id ht
  have hX := zTt_end (tx := fb) (n := n)
  have hsp := qsp_in (X := zTt fb n) (n := n) (P := P) P1
  refine lv_aload_n (pc := 0) hx hb dX2_skipSign_0 rfl (lv_at hl 0 rfl) ?_
  refine z_V (pc := 1) (As := []) (rest := []) (wn := (fun _ => [(rd, .inr (2, [.int (zI n), .int (zI ea), .ref rb, .int (zI (qsp (zTt fb n) n P)), .int (zI (qsp (zTt fb n) n P)), .int (zI er), .int (zI nu), .long (zL na)])), (rb, .inl (zk G 2, 600, .inl (zA fb)))])) (wr := []) F (kX2_skipSpaces G l rd n ea rb P ta er nu na fb (by first | assumption | omega) (by first | assumption | omega) (by first | assumption | omega)) (cwV 0 hts gX2_skipSign_X2_skipSpaces rfl rfl rfl (by decide +kernel) ⟨Nat.le_of_ble_eq_true rfl, Nat.le_of_ble_eq_true rfl⟩) hW 0 rfl rfl [0, 1] [] (by decide) rfl rfl rfl (by decide) (by decide) [0, 1] (by decide) (fun _ => rfl) (fun _ => rfl) rfl hl.1 rfl (Nat.le_of_ble_eq_true rfl) dX2_skipSign_1 ⟨Nat.le_of_ble_eq_true rfl, Nat.le_of_ble_eq_true rfl⟩ (fun _ H locs _ hW => ?_)
  have hsp1 := qsp_in (X := zTt fb n) (n := n) (P := P) (by omega)
  refine lv_aload_n (pc := 4) hx hb dX2_skipSign_4 rfl (lv_at hl 0 rfl) ?_
  refine lv_aload_n (pc := 5) hx hb dX2_skipSign_5 rfl (lv_at hl 0 rfl) ?_
  refine zw_get (pc := 6) (ref := RX2) (index := 47) hx hb hts hin2 hown hW 0 rfl rfl 3 (by decide) (List.mem_of_getElem? (i := 1) rfl) (fun _ h9 => h9) rfl dX2_skipSign_6 ?_
  refine z_V (pc := 9) (As := [.int (zI (qsp (zTt fb n) n P))]) (rest := []) (wn := (fun _ => [(rd, .inr (2, [.int (zI n), .int (zI ea), .ref rb, .int (zI (qsp (zTt fb n) n P)), .int (zI (qsp (zTt fb n) n P)), .int (zI er), .int (zI nu), .long (zL na)])), (rb, .inl (zk G 2, 600, .inl (zA fb)))])) (wr := []) F (kX2_byteAt G l rd n ea rb (qsp (zTt fb n) n P) (qsp (zTt fb n) n P) er nu na fb (qsp (zTt fb n) n P) (by first | assumption | omega) (by first | assumption | omega) (by first | assumption | omega)) (cwV 1 hts gX2_skipSign_X2_byteAt rfl rfl rfl (by decide +kernel) ⟨Nat.le_of_ble_eq_true rfl, Nat.le_of_ble_eq_true rfl⟩) hW 0 rfl rfl [0, 1] [] (by decide) rfl rfl rfl (by decide) (by decide) [0, 1] (by decide) (fun _ => rfl) (fun _ => rfl) rfl hl.1 rfl (Nat.le_of_ble_eq_true rfl) dX2_skipSign_9 ⟨Nat.le_of_ble_eq_true rfl, Nat.le_of_ble_eq_true rfl⟩ (fun _ H locs _ hW => ?_)
  show W p l e _ s m args below meth c H locs _ _ _ (F0 m 12 ls [.int (zI (zTt fb n (qsp (zTt fb n) n P)))])
  have xb9 := zTt_in (tx := fb) (n := n) (by assumption) ((qsp (zTt fb n) n P))
  refine lv_iload_n (pc := 12) hx hb dX2_skipSign_12 rfl (lv_at hl 1 rfl) ?_
  refine zv_icmp_ne (pc := 13) (tgt := 20) hx hb dX2_skipSign_13 (by decide) ⟨by omega, by omega⟩ ⟨by omega, by omega⟩ (fun c13 => ?_) (fun c13 => ?_)
  · refine zv_iconst (pc := 20) (n := 0) hx hb dX2_skipSign_20 ?_
    refine lv_istore_n (pc := 21) (lv' := [(2, .int (zI 0)), (0, .ref rd), (1, .int (zI cg))]) hx hb dX2_skipSign_21 rfl hl (by decide) rfl (fun ls hl => ?_)
    refine lv_iload_n (pc := 22) hx hb dX2_skipSign_22 rfl (lv_at hl 0 rfl) ?_
    refine zv_if_eq (pc := 23) (tgt := 36) hx hb dX2_skipSign_23 (by decide) ⟨by omega, by omega⟩ (fun c23 => ?_) (fun c23 => absurd c23 (by omega))
    refine lv_iload_n (pc := 36) hx hb dX2_skipSign_36 rfl (lv_at hl 0 rfl) ?_
    refine zv_as (pc := 37) (a := 0) (b := zb (decide ((zTt fb n) (qsp (zTt fb n) n P) = cg))) (by first | (rw [decide_eq_true c13]; rfl) | (rw [decide_eq_false c13]; rfl)) ?_
    exact ze_z (pc := 37) hx hb hr hlk hW (qsp (zTt fb n) n P) rfl (by constructor <;> intro h9 <;> first | rfl | exact absurd h9 c13 | exact absurd c13 h9) rfl dX2_skipSign_37
  · refine zv_iconst (pc := 16) (n := 1) hx hb dX2_skipSign_16 ?_
    refine lv_goto (pc := 17) (tgt := 21) hx hb dX2_skipSign_17 (by decide) ?_
    refine lv_istore_n (pc := 21) (lv' := [(2, .int (zI 1)), (0, .ref rd), (1, .int (zI cg))]) hx hb dX2_skipSign_21 rfl hl (by decide) rfl (fun ls hl => ?_)
    refine lv_iload_n (pc := 22) hx hb dX2_skipSign_22 rfl (lv_at hl 0 rfl) ?_
    refine zv_if_eq (pc := 23) (tgt := 36) hx hb dX2_skipSign_23 (by decide) ⟨by omega, by omega⟩ (fun c23 => absurd c23 (by omega)) (fun c23 => ?_)
    refine lv_aload_n (pc := 26) hx hb dX2_skipSign_26 rfl (lv_at hl 1 rfl) ?_
    refine lv_dup (pc := 27) hx hb dX2_skipSign_27 rfl ?_
    refine zw_get (pc := 28) (ref := RX2) (index := 47) hx hb hts hin2 hown hW 0 rfl rfl 3 (by decide) (List.mem_of_getElem? (i := 1) rfl) (fun _ h9 => h9) rfl dX2_skipSign_28 ?_
    refine zv_iconst (pc := 31) (n := 1) hx hb dX2_skipSign_31 ?_
    refine zv_iadd (pc := 32) hx hb dX2_skipSign_32 ?_
    refine zw_put (pc := 33) (ws' := [(rd, .inr (2, [.int (zI n), .int (zI ea), .ref rb, .int (zI ((qsp (zTt fb n) n P) + 1)), .int (zI (qsp (zTt fb n) n P)), .int (zI er), .int (zI nu), .long (zL na)])), (rb, .inl (zk G 2, 600, .inl (zA fb)))]) (ref := RX2) (index := 47) hx hb hts hin2 tyX2 tyX2_ok nmX2 hown hW 0 rfl rfl 3 (by decide) (List.mem_of_getElem? (i := 1) rfl) (fun _ h9 => h9) rfl (tyX2_ok 3 (by decide)) rfl rfl (Nat.le_of_ble_eq_true rfl) rfl dX2_skipSign_33 (fun H locs hW => ?_)
    refine lv_iload_n (pc := 36) hx hb dX2_skipSign_36 rfl (lv_at hl 0 rfl) ?_
    refine zv_as (pc := 37) (a := 1) (b := zb (decide ((zTt fb n) (qsp (zTt fb n) n P) = cg))) (by first | (rw [decide_eq_true c13]; rfl) | (rw [decide_eq_false c13]; rfl)) ?_
    exact ze_z (pc := 37) hx hb hr hlk hW ((qsp (zTt fb n) n P) + 1) rfl (by constructor <;> intro h9 <;> first | rfl | exact absurd h9 c13 | exact absurd c13 h9) rfl dX2_skipSign_37

set_option maxHeartbeats 1000000 in
set_option maxRecDepth 100000 in
/-- takeSign -/
theorem kX2_takeSign (G : zG) (l : Launch) (rd : Nat) (n : Int) (ea : Int) (rb : Nat) (P : Int) (ta : Int) (er : Int) (nu : Int) (na : Int) (fb : Int → Int) (cg : Int) (ht : qtext fb n) (P0 : 0 ≤ P) (P1 : P ≤ n) (hc0 : 0 < cg) (hc1 : cg < 256) : zM G l yX2_takeSign wsX2_takeSign { frames := 2, cells := 0, slots := 0, locals := 43 } [.ref rd, .int (zI cg)] [(rd, .inr (2, [.int (zI n), .int (zI ea), .ref rb, .int (zI P), .int (zI ta), .int (zI er), .int (zI nu), .long (zL na)])), (rb, .inl (zk G 2, 600, .inl (zA fb)))] (S := Bool × Int × Int × Int × Int) (zri (fun u => zb u.1)) (fun u => qR (qSign (zTt fb n) n cg P) u.1 er ea u.2.2.2.1 u.2.2.2.2 (fun x => x = u.2.1 ∧ u.2.2.1 = qsp (zTt fb n) n P)) (fun u => [(rd, .inr (2, [.int (zI n), .int (zI u.2.2.2.2), .ref rb, .int (zI u.2.1), .int (zI u.2.2.1), .int (zI u.2.2.2.1), .int (zI nu), .long (zL na)])), (rb, .inl (zk G 2, 600, .inl (zA fb)))]) 0 0 := by
  refine zM.of (cc := cX2_takeSign) (maxL := 2) (ret := (some .boolean)) (by decide) rfl (Nat.le_of_ble_eq_true rfl) (l0 := [(0, .ref rd), (1, .int (zI cg))]) rfl ?_
  intro p e s m args below meth c ls F hr hlk hnm hW hl
  obtain ⟨hx, hb, hml, hown, hts⟩ := id F
  obtain ⟨⟨n0, n6⟩, hx8⟩ := id ht
  have hX := zTt_end (tx := fb) (n := n)
  have hsp := qsp_in (X := zTt fb n) (n := n) (P := P) P1
  refine lv_aload_n (pc := 0) hx hb dX2_takeSign_0 rfl (lv_at hl 0 rfl) ?_
  refine lv_iload_n (pc := 1) hx hb dX2_takeSign_1 rfl (lv_at hl 1 rfl) ?_
  refine z_V (pc := 2) (As := [.int (zI cg)]) (rest := []) (wn := (fun u2 => [(rd, .inr (2, [.int (zI n), .int (zI ea), .ref rb, .int (zI u2), .int (zI (qsp (zTt fb n) n P)), .int (zI er), .int (zI nu), .long (zL na)])), (rb, .inl (zk G 2, 600, .inl (zA fb)))])) (wr := []) F (kX2_skipSign G l rd n ea rb P ta er nu na fb cg (by first | assumption | omega) (by first | assumption | omega) (by first | assumption | omega) (by first | assumption | omega) (by first | assumption | omega)) (cwV 1 hts gX2_takeSign_X2_skipSign rfl rfl rfl (by decide +kernel) ⟨Nat.le_of_ble_eq_true rfl, Nat.le_of_ble_eq_true rfl⟩) hW 0 rfl rfl [0, 1] [] (by decide) rfl rfl rfl (by decide) (by decide) [0, 1] (by decide) (fun _ => rfl) (fun _ => rfl) rfl hl.1 rfl (Nat.le_of_ble_eq_true rfl) dX2_takeSign_2 ⟨Nat.le_of_ble_eq_true rfl, Nat.le_of_ble_eq_true rfl⟩ (fun u2 H locs q2 hW => ?_)
  obtain ⟨p22, ep22⟩ : ∃ z, z = u2 := ⟨_, rfl⟩; subst ep22
  have q2 : ((zTt fb n) (qsp (zTt fb n) n P) = cg → p22 = qsp (zTt fb n) n P + 1) ∧ ((zTt fb n) (qsp (zTt fb n) n P) ≠ cg → p22 = qsp (zTt fb n) n P) := q2
  show W p l e _ s m args below meth c H locs _ _ _ (F0 m 5 ls [.int (zI (zb (decide ((zTt fb n) (qsp (zTt fb n) n P) = cg))))])
  have hsp2 := qsp_in (X := zTt fb n) (n := n) (P := P) (by omega)
  refine zv_b_ne (pc := 5) (tgt := 17) hx hb dX2_takeSign_5 (by decide) (fun c5 => ?_) (fun c5 => ?_)
  · replace c5 := of_decide_eq_true c5
    refine zv_iconst (pc := 17) (n := 1) hx hb dX2_takeSign_17 ?_
    refine lv_goto (pc := 18) (tgt := 22) hx hb dX2_takeSign_18 (by decide) ?_
    refine zv_as (pc := 22) (a := 1) (b := zb true) (rfl) ?_
    exact ze_z (pc := 22) hx hb hr hlk hW (true, p22, qsp (zTt fb n) n P, er, ea) rfl (by first | exact qR_ok (if_pos c5) ⟨rfl, rfl, (q2.1 c5).symm, rfl⟩ | exact qR_er (if_neg c5) ⟨rfl, rfl, (by show (-2 : Int) < 0; decide)⟩) rfl dX2_takeSign_22
  · replace c5 := of_decide_eq_false c5
    refine lv_aload_n (pc := 8) hx hb dX2_takeSign_8 rfl (lv_at hl 0 rfl) ?_
    refine zv_bipush (pc := 9) (n := (-2)) hx hb dX2_takeSign_9 (by decide) ?_
    refine z_V (pc := 11) (As := [.int (zI (-2))]) (rest := []) (wn := (fun _ => [(rd, .inr (2, [.int (zI n), .int (zI (qsp (zTt fb n) n P)), .ref rb, .int (zI p22), .int (zI (qsp (zTt fb n) n P)), .int (zI (-2)), .int (zI nu), .long (zL na)])), (rb, .inl (zk G 2, 600, .inl (zA fb)))])) (wr := []) F (kX2_fail G l rd n ea rb p22 (qsp (zTt fb n) n P) er nu na fb (-2)) (cwV 1 hts gX2_takeSign_X2_fail rfl rfl rfl (by decide +kernel) ⟨Nat.le_of_ble_eq_true rfl, Nat.le_of_ble_eq_true rfl⟩) hW 0 rfl rfl [0, 1] [] (by decide) rfl rfl rfl (by decide) (by decide) [0, 1] (by decide) (fun _ => rfl) (fun _ => rfl) rfl hl.1 rfl (Nat.le_of_ble_eq_true rfl) dX2_takeSign_11 ⟨Nat.le_of_ble_eq_true rfl, Nat.le_of_ble_eq_true rfl⟩ (fun _ H locs _ hW => ?_)
    show W p l e _ s m args below meth c H locs _ _ _ (F0 m 14 ls [.int (zI (zb false))])
    refine zv_b_eq (pc := 14) (tgt := 21) hx hb dX2_takeSign_14 (by decide) (fun c14 => ?_) (fun c14 => absurd c14 (by decide))
    refine zv_iconst (pc := 21) (n := 0) hx hb dX2_takeSign_21 ?_
    refine zv_as (pc := 22) (a := 0) (b := zb false) (rfl) ?_
    exact ze_z (pc := 22) hx hb hr hlk hW (false, p22, (qsp (zTt fb n) n P), (-2), (qsp (zTt fb n) n P)) rfl (by first | exact qR_ok (if_pos c5) ⟨rfl, rfl, (q2.1 c5).symm, rfl⟩ | exact qR_er (if_neg c5) ⟨rfl, rfl, (by show (-2 : Int) < 0; decide)⟩) rfl dX2_takeSign_22

set_option maxHeartbeats 1000000 in
set_option maxRecDepth 100000 in
/-- takeNumber -/
theorem kX2_takeNumber (G : zG) (l : Launch) (rd : Nat) (n : Int) (ea : Int) (rb : Nat) (P : Int) (ta : Int) (er : Int) (nu : Int) (na : Int) (fb : Int → Int) (lo : Int) (hi : Int) (ht : qtext fb n) (P0 : 0 ≤ P) (P1 : P ≤ n) (l1 : -2147483648 ≤ lo) (l2 : lo ≤ 2147483647) (h1 : -2147483648 ≤ hi) (h2 : hi ≤ 2147483647) : zM G l yX2_takeNumber wsX2_takeNumber { frames := 1, cells := 0, slots := 0, locals := 22 } [.ref rd, .int (zI lo), .int (zI hi)] [(rd, .inr (2, [.int (zI n), .int (zI ea), .ref rb, .int (zI P), .int (zI ta), .int (zI er), .int (zI nu), .long (zL na)])), (rb, .inl (zk G 2, 600, .inl (zA fb)))] (S := Bool × Int × Int × Int × Int × Int) (zri (fun u => zb u.1)) (fun u => qR (qNum (zTt fb n) n lo hi P) u.1 er ea u.2.2.2.1 u.2.2.2.2.1 (fun x => x = (u.2.1, u.2.2.2.2.2) ∧ u.2.2.1 = qsp (zTt fb n) n P)) (fun u => [(rd, .inr (2, [.int (zI n), .int (zI u.2.2.2.2.1), .ref rb, .int (zI u.2.1), .int (zI u.2.2.1), .int (zI u.2.2.2.1), .int (zI u.2.2.2.2.2), .long (zL na)])), (rb, .inl (zk G 2, 600, .inl (zA fb)))]) 0 0 := by
  refine zM.of (cc := cX2_takeNumber) (maxL := 4) (ret := (some .boolean)) (by decide) rfl (Nat.le_of_ble_eq_true rfl) (l0 := [(0, .ref rd), (1, .int (zI lo)), (2, .int (zI hi))]) rfl ?_
  intro p e s m args below meth c ls F hr hlk hnm hW hl
  obtain ⟨hx, hb, hml, hown, hts⟩ := id F
  have hin2 : ∀ w ∈ wsX20, w ∈ wsX2_takeNumber := fun _ h => List.mem_cons_of_mem _ (List.mem_append_right _ (h))
  obtain ⟨⟨n0, n6⟩, hx8⟩ := id ht
  have hX := zTt_end (tx := fb) (n := n)
  have hsp := qsp_in (X := zTt fb n) (n := n) (P := P) P1
  refine lv_aload_n (pc := 0) hx hb dX2_takeNumber_0 rfl (lv_at hl 0 rfl) ?_
  refine z_V (pc := 1) (As := []) (rest := []) (wn := (fun _ => [(rd, .inr (2, [.int (zI n), .int (zI ea), .ref rb, .int (zI (qsp (zTt fb n) n P)), .int (zI (qsp (zTt fb n) n P)), .int (zI er), .int (zI nu), .long (zL na)])), (rb, .inl (zk G 2, 600, .inl (zA fb)))])) (wr := []) F (kX2_skipSpaces G l rd n ea rb P ta er nu na fb (by first | assumption | omega) (by first | assumption | omega) (by first | assumption | omega)) (cwV 0 hts gX2_takeNumber_X2_skipSpaces rfl rfl rfl (by decide +kernel) ⟨Nat.le_of_ble_eq_true rfl, Nat.le_of_ble_eq_true rfl⟩) hW 0 rfl rfl [0, 1] [] (by decide) rfl rfl rfl (by decide) (by decide) [0, 1] (by decide) (fun _ => rfl) (fun _ => rfl) rfl hl.1 rfl (Nat.le_of_ble_eq_true rfl) dX2_takeNumber_1 ⟨Nat.le_of_ble_eq_true rfl, Nat.le_of_ble_eq_true rfl⟩ (fun _ H locs _ hW => ?_)
  have hsp1 := qsp_in (X := zTt fb n) (n := n) (P := P) (by omega)
  refine zv_iconst (pc := 4) (n := 0) hx hb dX2_takeNumber_4 ?_
  refine lv_istore_n (pc := 5) (lv' := [(3, .int (zI 0)), (0, .ref rd), (1, .int (zI lo)), (2, .int (zI hi))]) hx hb dX2_takeNumber_5 rfl hl (by decide) rfl (fun ls hl => ?_)
  have J6 : ∀ (fuel6 : Nat) (p9 : Int) (v9 : Int) (p0 : qsp (zTt fb n) n P ≤ p9) (p1 : p9 ≤ n) (v0 : 0 ≤ v9 ∧ v9 ≤ 10000000) (hd9 : qde (zTt fb n) n p9 = qde (zTt fb n) n (qsp (zTt fb n) n P)) (hn9 : qnum (zTt fb n) p9 (qde (zTt fb n) n (qsp (zTt fb n) n P)) v9 = qnum (zTt fb n) (qsp (zTt fb n) n P) (qde (zTt fb n) n (qsp (zTt fb n) n P)) 0) (hfu6 : (n - p9).toNat < fuel6) (H : Heap) (locs : List Loc) (ls : Array Slot) (hW : zW G (va_A [(rd, .inr (2, [.int (zI n), .int (zI ea), .ref rb, .int (zI P), .int (zI ta), .int (zI er), .int (zI nu), .long (zL na)])), (rb, .inl (zk G 2, 600, .inl (zA fb)))] s.heap.size) s H locs [(rd, .inr (2, [.int (zI n), .int (zI ea), .ref rb, .int (zI p9), .int (zI (qsp (zTt fb n) n P)), .int (zI er), .int (zI nu), .long (zL na)])), (rb, .inl (zk G 2, 600, .inl (zA fb)))]) (hl : lv_has ls 4 [(3, .int (zI v9)), (0, .ref rd), (1, .int (zI lo)), (2, .int (zI hi))]), W p l e ({ frames := 1, cells := 0, slots := 0, locals := 22 } : Room) s m args below meth c H locs 0 0 (MQ below (zQ (S := Bool × Int × Int × Int × Int × Int) (zri (fun u => zb u.1)) (fun u => qR (qNum (zTt fb n) n lo hi P) u.1 er ea u.2.2.2.1 u.2.2.2.2.1 (fun x => x = (u.2.1, u.2.2.2.2.2) ∧ u.2.2.1 = qsp (zTt fb n) n P)) (zPost G [(rd, .inr (2, [.int (zI n), .int (zI ea), .ref rb, .int (zI P), .int (zI ta), .int (zI er), .int (zI nu), .long (zL na)])), (rb, .inl (zk G 2, 600, .inl (zA fb)))] s.heap.size (fun u => [(rd, .inr (2, [.int (zI n), .int (zI u.2.2.2.2.1), .ref rb, .int (zI u.2.1), .int (zI u.2.2.1), .int (zI u.2.2.2.1), .int (zI u.2.2.2.2.2), .long (zL na)])), (rb, .inl (zk G 2, 600, .inl (zA fb)))])) (va_A [(rd, .inr (2, [.int (zI n), .int (zI ea), .ref rb, .int (zI P), .int (zI ta), .int (zI er), .int (zI nu), .long (zL na)])), (rb, .inl (zk G 2, 600, .inl (zA fb)))] s.heap.size)) args s 0 0 (va_A [(rd, .inr (2, [.int (zI n), .int (zI ea), .ref rb, .int (zI P), .int (zI ta), .int (zI er), .int (zI nu), .long (zL na)])), (rb, .inl (zk G 2, 600, .inl (zA fb)))] s.heap.size)) (F0 m 6 ls []) := by
    intro fuel6
    induction fuel6 with
    | zero =>
      intro p9 v9 p0 p1 v0 hd9 hn9 hfu6
      exact absurd hfu6 (Nat.not_lt_zero _)
    | succ fuel6 ih6 =>
      intro p9 v9 p0 p1 v0 hd9 hn9 hfu6 H locs ls hW hl
      refine lv_aload_n (pc := 6) hx hb dX2_takeNumber_6 rfl (lv_at hl 1 rfl) ?_
      refine zw_get (pc := 7) (ref := RX2) (index := 47) hx hb hts hin2 hown hW 0 rfl rfl 3 (by decide) (List.mem_of_getElem? (i := 1) rfl) (fun _ h9 => h9) rfl dX2_takeNumber_7 ?_
      refine lv_aload_n (pc := 10) hx hb dX2_takeNumber_10 rfl (lv_at hl 1 rfl) ?_
      refine zw_get (pc := 11) (ref := RX2) (index := 19) hx hb hts hin2 hown hW 0 rfl rfl 0 (by decide) (List.mem_of_getElem? (i := 2) rfl) (fun _ h9 => h9) rfl dX2_takeNumber_11 ?_
      refine zv_icmp_ge (pc := 14) (tgt := 66) hx hb dX2_takeNumber_14 (by decide) ⟨by omega, by omega⟩ ⟨by omega, by omega⟩ (fun c14 => ?_) (fun c14 => ?_)
      · obtain ⟨rfl, e67⟩ : p9 = qde (zTt fb n) n (qsp (zTt fb n) n P) ∧ v9 = qnum (zTt fb n) (qsp (zTt fb n) n P) (qde (zTt fb n) n (qsp (zTt fb n) n P)) 0 := by
          have e68 : p9 = qde (zTt fb n) n (qsp (zTt fb n) n P) := by first | (rw [← hd9]; exact (zrun_end (by omega)).symm) | (rw [← hd9]; exact (qde_no (by have h9 := of_decide_eq_false c28; omega)).symm)
          exact ⟨e68, by rw [← hn9, qnum_end (by omega)]⟩
        subst e67
        refine lv_aload_n (pc := 66) hx hb dX2_takeNumber_66 rfl (lv_at hl 1 rfl) ?_
        refine zw_get (pc := 67) (ref := RX2) (index := 47) hx hb hts hin2 hown hW 0 rfl rfl 3 (by decide) (List.mem_of_getElem? (i := 1) rfl) (fun _ h9 => h9) rfl dX2_takeNumber_67 ?_
        refine lv_aload_n (pc := 70) hx hb dX2_takeNumber_70 rfl (lv_at hl 1 rfl) ?_
        refine zw_get (pc := 71) (ref := RX2) (index := 50) hx hb hts hin2 hown hW 0 rfl rfl 4 (by decide) (List.mem_of_getElem? (i := 8) rfl) (fun _ h9 => h9) rfl dX2_takeNumber_71 ?_
        refine zv_icmp_ne (pc := 74) (tgt := 84) hx hb dX2_takeNumber_74 (by decide) ⟨by omega, by omega⟩ ⟨by omega, by omega⟩ (fun c74 => ?_) (fun c74 => ?_)
        · refine lv_aload_n (pc := 84) hx hb dX2_takeNumber_84 rfl (lv_at hl 1 rfl) ?_
          refine lv_iload_n (pc := 85) hx hb dX2_takeNumber_85 rfl (lv_at hl 0 rfl) ?_
          refine zw_put (pc := 86) (ws' := [(rd, .inr (2, [.int (zI n), .int (zI ea), .ref rb, .int (zI (qde (zTt fb n) n (qsp (zTt fb n) n P))), .int (zI (qsp (zTt fb n) n P)), .int (zI er), .int (zI (qnum (zTt fb n) (qsp (zTt fb n) n P) (qde (zTt fb n) n (qsp (zTt fb n) n P)) 0)), .long (zL na)])), (rb, .inl (zk G 2, 600, .inl (zA fb)))]) (ref := RX2) (index := 63) hx hb hts hin2 tyX2 tyX2_ok nmX2 hown hW 0 rfl rfl 6 (by decide) (List.mem_of_getElem? (i := 9) rfl) (fun _ h9 => h9) rfl (tyX2_ok 6 (by decide)) rfl rfl (Nat.le_of_ble_eq_true rfl) rfl dX2_takeNumber_86 (fun H locs hW => ?_)
          refine lv_iload_n (pc := 89) hx hb dX2_takeNumber_89 rfl (lv_at hl 0 rfl) ?_
          refine lv_iload_n (pc := 90) hx hb dX2_takeNumber_90 rfl (lv_at hl 2 rfl) ?_
          refine zv_icmp_lt (pc := 91) (tgt := 99) hx hb dX2_takeNumber_91 (by decide) ⟨by omega, by omega⟩ ⟨by omega, by omega⟩ (fun c91 => ?_) (fun c91 => ?_)
          · refine lv_aload_n (pc := 99) hx hb dX2_takeNumber_99 rfl (lv_at hl 1 rfl) ?_
            refine zv_bipush (pc := 100) (n := (-3)) hx hb dX2_takeNumber_100 (by decide) ?_
            refine z_V (pc := 102) (As := [.int (zI (-3))]) (rest := []) (wn := (fun _ => [(rd, .inr (2, [.int (zI n), .int (zI (qsp (zTt fb n) n P)), .ref rb, .int (zI (qde (zTt fb n) n (qsp (zTt fb n) n P))), .int (zI (qsp (zTt fb n) n P)), .int (zI (-3)), .int (zI (qnum (zTt fb n) (qsp (zTt fb n) n P) (qde (zTt fb n) n (qsp (zTt fb n) n P)) 0)), .long (zL na)])), (rb, .inl (zk G 2, 600, .inl (zA fb)))])) (wr := []) F (kX2_fail G l rd n ea rb (qde (zTt fb n) n (qsp (zTt fb n) n P)) (qsp (zTt fb n) n P) er (qnum (zTt fb n) (qsp (zTt fb n) n P) (qde (zTt fb n) n (qsp (zTt fb n) n P)) 0) na fb (-3)) (cwV 1 hts gX2_takeNumber_X2_fail rfl rfl rfl (by decide +kernel) ⟨Nat.le_of_ble_eq_true rfl, Nat.le_of_ble_eq_true rfl⟩) hW 0 rfl rfl [0, 1] [] (by decide) rfl rfl rfl (by decide) (by decide) [0, 1] (by decide) (fun _ => rfl) (fun _ => rfl) rfl hl.1 rfl (Nat.le_of_ble_eq_true rfl) dX2_takeNumber_102 ⟨Nat.le_of_ble_eq_true rfl, Nat.le_of_ble_eq_true rfl⟩ (fun _ H locs _ hW => ?_)
            show W p l e _ s m args below meth c H locs _ _ _ (F0 m 105 ls [.int (zI (zb false))])
            refine zv_b_eq (pc := 105) (tgt := 112) hx hb dX2_takeNumber_105 (by decide) (fun c105 => ?_) (fun c105 => absurd c105 (by decide))
            refine zv_iconst (pc := 112) (n := 0) hx hb dX2_takeNumber_112 ?_
            refine zv_as (pc := 113) (a := 0) (b := zb false) (rfl) ?_
            exact ze_z (pc := 113) hx hb hr hlk hW (false, (qde (zTt fb n) n (qsp (zTt fb n) n P)), (qsp (zTt fb n) n P), (-3), (qsp (zTt fb n) n P), (qnum (zTt fb n) (qsp (zTt fb n) n P) (qde (zTt fb n) n (qsp (zTt fb n) n P)) 0)) rfl (by first | exact qR_er (if_pos c74) ⟨rfl, rfl, (by show (-2 : Int) < 0; decide)⟩ | exact qR_ok ((if_neg c74).trans (if_pos ⟨by omega, by omega⟩)) ⟨rfl, rfl, rfl, rfl⟩ | exact qR_er ((if_neg c74).trans (if_neg (by omega))) ⟨rfl, rfl, (by show (-3 : Int) < 0; decide)⟩) rfl dX2_takeNumber_113
          · refine lv_iload_n (pc := 94) hx hb dX2_takeNumber_94 rfl (lv_at hl 0 rfl) ?_
            refine lv_iload_n (pc := 95) hx hb dX2_takeNumber_95 rfl (lv_at hl 3 rfl) ?_
            refine zv_icmp_le (pc := 96) (tgt := 108) hx hb dX2_takeNumber_96 (by decide) ⟨by omega, by omega⟩ ⟨by omega, by omega⟩ (fun c96 => ?_) (fun c96 => ?_)
            · refine zv_iconst (pc := 108) (n := 1) hx hb dX2_takeNumber_108 ?_
              refine lv_goto (pc := 109) (tgt := 113) hx hb dX2_takeNumber_109 (by decide) ?_
              refine zv_as (pc := 113) (a := 1) (b := zb true) (rfl) ?_
              exact ze_z (pc := 113) hx hb hr hlk hW (true, qde (zTt fb n) n (qsp (zTt fb n) n P), qsp (zTt fb n) n P, er, ea, qnum (zTt fb n) (qsp (zTt fb n) n P) (qde (zTt fb n) n (qsp (zTt fb n) n P)) 0) rfl (by first | exact qR_er (if_pos c74) ⟨rfl, rfl, (by show (-2 : Int) < 0; decide)⟩ | exact qR_ok ((if_neg c74).trans (if_pos ⟨by omega, by omega⟩)) ⟨rfl, rfl, rfl, rfl⟩ | exact qR_er ((if_neg c74).trans (if_neg (by omega))) ⟨rfl, rfl, (by show (-3 : Int) < 0; decide)⟩) rfl dX2_takeNumber_113
            · refine lv_aload_n (pc := 99) hx hb dX2_takeNumber_99 rfl (lv_at hl 1 rfl) ?_
              refine zv_bipush (pc := 100) (n := (-3)) hx hb dX2_takeNumber_100 (by decide) ?_
              refine z_V (pc := 102) (As := [.int (zI (-3))]) (rest := []) (wn := (fun _ => [(rd, .inr (2, [.int (zI n), .int (zI (qsp (zTt fb n) n P)), .ref rb, .int (zI (qde (zTt fb n) n (qsp (zTt fb n) n P))), .int (zI (qsp (zTt fb n) n P)), .int (zI (-3)), .int (zI (qnum (zTt fb n) (qsp (zTt fb n) n P) (qde (zTt fb n) n (qsp (zTt fb n) n P)) 0)), .long (zL na)])), (rb, .inl (zk G 2, 600, .inl (zA fb)))])) (wr := []) F (kX2_fail G l rd n ea rb (qde (zTt fb n) n (qsp (zTt fb n) n P)) (qsp (zTt fb n) n P) er (qnum (zTt fb n) (qsp (zTt fb n) n P) (qde (zTt fb n) n (qsp (zTt fb n) n P)) 0) na fb (-3)) (cwV 1 hts gX2_takeNumber_X2_fail rfl rfl rfl (by decide +kernel) ⟨Nat.le_of_ble_eq_true rfl, Nat.le_of_ble_eq_true rfl⟩) hW 0 rfl rfl [0, 1] [] (by decide) rfl rfl rfl (by decide) (by decide) [0, 1] (by decide) (fun _ => rfl) (fun _ => rfl) rfl hl.1 rfl (Nat.le_of_ble_eq_true rfl) dX2_takeNumber_102 ⟨Nat.le_of_ble_eq_true rfl, Nat.le_of_ble_eq_true rfl⟩ (fun _ H locs _ hW => ?_)
              show W p l e _ s m args below meth c H locs _ _ _ (F0 m 105 ls [.int (zI (zb false))])
              refine zv_b_eq (pc := 105) (tgt := 112) hx hb dX2_takeNumber_105 (by decide) (fun c105 => ?_) (fun c105 => absurd c105 (by decide))
              refine zv_iconst (pc := 112) (n := 0) hx hb dX2_takeNumber_112 ?_
              refine zv_as (pc := 113) (a := 0) (b := zb false) (rfl) ?_
              exact ze_z (pc := 113) hx hb hr hlk hW (false, (qde (zTt fb n) n (qsp (zTt fb n) n P)), (qsp (zTt fb n) n P), (-3), (qsp (zTt fb n) n P), (qnum (zTt fb n) (qsp (zTt fb n) n P) (qde (zTt fb n) n (qsp (zTt fb n) n P)) 0)) rfl (by first | exact qR_er (if_pos c74) ⟨rfl, rfl, (by show (-2 : Int) < 0; decide)⟩ | exact qR_ok ((if_neg c74).trans (if_pos ⟨by omega, by omega⟩)) ⟨rfl, rfl, rfl, rfl⟩ | exact qR_er ((if_neg c74).trans (if_neg (by omega))) ⟨rfl, rfl, (by show (-3 : Int) < 0; decide)⟩) rfl dX2_takeNumber_113
        · refine lv_aload_n (pc := 77) hx hb dX2_takeNumber_77 rfl (lv_at hl 1 rfl) ?_
          refine zv_bipush (pc := 78) (n := (-2)) hx hb dX2_takeNumber_78 (by decide) ?_
          refine z_V (pc := 80) (As := [.int (zI (-2))]) (rest := []) (wn := (fun _ => [(rd, .inr (2, [.int (zI n), .int (zI (qsp (zTt fb n) n P)), .ref rb, .int (zI (qde (zTt fb n) n (qsp (zTt fb n) n P))), .int (zI (qsp (zTt fb n) n P)), .int (zI (-2)), .int (zI nu), .long (zL na)])), (rb, .inl (zk G 2, 600, .inl (zA fb)))])) (wr := []) F (kX2_fail G l rd n ea rb (qde (zTt fb n) n (qsp (zTt fb n) n P)) (qsp (zTt fb n) n P) er nu na fb (-2)) (cwV 1 hts gX2_takeNumber_X2_fail rfl rfl rfl (by decide +kernel) ⟨Nat.le_of_ble_eq_true rfl, Nat.le_of_ble_eq_true rfl⟩) hW 0 rfl rfl [0, 1] [] (by decide) rfl rfl rfl (by decide) (by decide) [0, 1] (by decide) (fun _ => rfl) (fun _ => rfl) rfl hl.1 rfl (Nat.le_of_ble_eq_true rfl) dX2_takeNumber_80 ⟨Nat.le_of_ble_eq_true rfl, Nat.le_of_ble_eq_true rfl⟩ (fun _ H locs _ hW => ?_)
          show W p l e _ s m args below meth c H locs _ _ _ (F0 m 83 ls [.int (zI (zb false))])
          exact ze_z (pc := 83) hx hb hr hlk hW (false, (qde (zTt fb n) n (qsp (zTt fb n) n P)), (qsp (zTt fb n) n P), (-2), (qsp (zTt fb n) n P), nu) rfl (by first | exact qR_er (if_pos c74) ⟨rfl, rfl, (by show (-2 : Int) < 0; decide)⟩ | exact qR_ok ((if_neg c74).trans (if_pos ⟨by omega, by omega⟩)) ⟨rfl, rfl, rfl, rfl⟩ | exact qR_er ((if_neg c74).trans (if_neg (by omega))) ⟨rfl, rfl, (by show (-3 : Int) < 0; decide)⟩) rfl dX2_takeNumber_83
      · refine lv_aload_n (pc := 17) hx hb dX2_takeNumber_17 rfl (lv_at hl 1 rfl) ?_
        refine lv_aload_n (pc := 18) hx hb dX2_takeNumber_18 rfl (lv_at hl 1 rfl) ?_
        refine zw_get (pc := 19) (ref := RX2) (index := 47) hx hb hts hin2 hown hW 0 rfl rfl 3 (by decide) (List.mem_of_getElem? (i := 1) rfl) (fun _ h9 => h9) rfl dX2_takeNumber_19 ?_
        refine z_V (pc := 22) (As := [.int (zI p9)]) (rest := []) (wn := (fun _ => [(rd, .inr (2, [.int (zI n), .int (zI ea), .ref rb, .int (zI p9), .int (zI (qsp (zTt fb n) n P)), .int (zI er), .int (zI nu), .long (zL na)])), (rb, .inl (zk G 2, 600, .inl (zA fb)))])) (wr := []) F (kX2_byteAt G l rd n ea rb p9 (qsp (zTt fb n) n P) er nu na fb p9 (by first | assumption | omega) (by first | assumption | omega) (by first | assumption | omega)) (cwV 1 hts gX2_takeNumber_X2_byteAt rfl rfl rfl (by decide +kernel) ⟨Nat.le_of_ble_eq_true rfl, Nat.le_of_ble_eq_true rfl⟩) hW 0 rfl rfl [0, 1] [] (by decide) rfl rfl rfl (by decide) (by decide) [0, 1] (by decide) (fun _ => rfl) (fun _ => rfl) rfl hl.1 rfl (Nat.le_of_ble_eq_true rfl) dX2_takeNumber_22 ⟨Nat.le_of_ble_eq_true rfl, Nat.le_of_ble_eq_true rfl⟩ (fun _ H locs _ hW => ?_)
        show W p l e _ s m args below meth c H locs _ _ _ (F0 m 25 ls [.int (zI (zTt fb n p9))])
        have xb22 := zTt_in (tx := fb) (n := n) (by assumption) (p9)
        refine z_S (pc := 25) (As := [.int (zI (zTt fb n p9))]) (rest := []) (wn := (fun _ => [(rd, .inr (2, [.int (zI n), .int (zI ea), .ref rb, .int (zI p9), .int (zI (qsp (zTt fb n) n P)), .int (zI er), .int (zI nu), .long (zL na)])), (rb, .inl (zk G 2, 600, .inl (zA fb)))])) (wr := [(rd, .inr (2, [.int (zI n), .int (zI ea), .ref rb, .int (zI p9), .int (zI (qsp (zTt fb n) n P)), .int (zI er), .int (zI nu), .long (zL na)])), (rb, .inl (zk G 2, 600, .inl (zA fb)))]) F (kX2_isDigit G l (zTt fb n p9) (by first | assumption | omega) (by first | assumption | omega)) (va_cwS 1 hts gX2_takeNumber_X2_isDigit rfl rfl rfl (by decide +kernel) ⟨Nat.le_of_ble_eq_true rfl, Nat.le_of_ble_eq_true rfl⟩) hW [] [0, 1] (by decide) rfl rfl rfl (by decide) (by decide) [0, 1] (by decide) (fun _ => rfl) (fun _ => rfl) rfl hl.1 rfl (Nat.le_of_ble_eq_true rfl) dX2_takeNumber_25 ⟨Nat.le_of_ble_eq_true rfl, Nat.le_of_ble_eq_true rfl⟩ (fun _ H locs _ hW => ?_)
        show W p l e _ s m args below meth c H locs _ _ _ (F0 m 28 ls [.int (zI (zb (decide (48 ≤ (zTt fb n p9) ∧ (zTt fb n p9) ≤ 57))))])
        refine zv_b_eq (pc := 28) (tgt := 66) hx hb dX2_takeNumber_28 (by decide) (fun c28 => ?_) (fun c28 => ?_)
        · obtain ⟨rfl, e67⟩ : p9 = qde (zTt fb n) n (qsp (zTt fb n) n P) ∧ v9 = qnum (zTt fb n) (qsp (zTt fb n) n P) (qde (zTt fb n) n (qsp (zTt fb n) n P)) 0 := by
            have e68 : p9 = qde (zTt fb n) n (qsp (zTt fb n) n P) := by first | (rw [← hd9]; exact (zrun_end (by omega)).symm) | (rw [← hd9]; exact (qde_no (by have h9 := of_decide_eq_false c28; omega)).symm)
            exact ⟨e68, by rw [← hn9, qnum_end (by omega)]⟩
          subst e67
          refine lv_aload_n (pc := 66) hx hb dX2_takeNumber_66 rfl (lv_at hl 1 rfl) ?_
          refine zw_get (pc := 67) (ref := RX2) (index := 47) hx hb hts hin2 hown hW 0 rfl rfl 3 (by decide) (List.mem_of_getElem? (i := 1) rfl) (fun _ h9 => h9) rfl dX2_takeNumber_67 ?_
          refine lv_aload_n (pc := 70) hx hb dX2_takeNumber_70 rfl (lv_at hl 1 rfl) ?_
          refine zw_get (pc := 71) (ref := RX2) (index := 50) hx hb hts hin2 hown hW 0 rfl rfl 4 (by decide) (List.mem_of_getElem? (i := 8) rfl) (fun _ h9 => h9) rfl dX2_takeNumber_71 ?_
          refine zv_icmp_ne (pc := 74) (tgt := 84) hx hb dX2_takeNumber_74 (by decide) ⟨by omega, by omega⟩ ⟨by omega, by omega⟩ (fun c74 => ?_) (fun c74 => ?_)
          · refine lv_aload_n (pc := 84) hx hb dX2_takeNumber_84 rfl (lv_at hl 1 rfl) ?_
            refine lv_iload_n (pc := 85) hx hb dX2_takeNumber_85 rfl (lv_at hl 0 rfl) ?_
            refine zw_put (pc := 86) (ws' := [(rd, .inr (2, [.int (zI n), .int (zI ea), .ref rb, .int (zI (qde (zTt fb n) n (qsp (zTt fb n) n P))), .int (zI (qsp (zTt fb n) n P)), .int (zI er), .int (zI (qnum (zTt fb n) (qsp (zTt fb n) n P) (qde (zTt fb n) n (qsp (zTt fb n) n P)) 0)), .long (zL na)])), (rb, .inl (zk G 2, 600, .inl (zA fb)))]) (ref := RX2) (index := 63) hx hb hts hin2 tyX2 tyX2_ok nmX2 hown hW 0 rfl rfl 6 (by decide) (List.mem_of_getElem? (i := 9) rfl) (fun _ h9 => h9) rfl (tyX2_ok 6 (by decide)) rfl rfl (Nat.le_of_ble_eq_true rfl) rfl dX2_takeNumber_86 (fun H locs hW => ?_)
            refine lv_iload_n (pc := 89) hx hb dX2_takeNumber_89 rfl (lv_at hl 0 rfl) ?_
            refine lv_iload_n (pc := 90) hx hb dX2_takeNumber_90 rfl (lv_at hl 2 rfl) ?_
            refine zv_icmp_lt (pc := 91) (tgt := 99) hx hb dX2_takeNumber_91 (by decide) ⟨by omega, by omega⟩ ⟨by omega, by omega⟩ (fun c91 => ?_) (fun c91 => ?_)
            · refine lv_aload_n (pc := 99) hx hb dX2_takeNumber_99 rfl (lv_at hl 1 rfl) ?_
              refine zv_bipush (pc := 100) (n := (-3)) hx hb dX2_takeNumber_100 (by decide) ?_
              refine z_V (pc := 102) (As := [.int (zI (-3))]) (rest := []) (wn := (fun _ => [(rd, .inr (2, [.int (zI n), .int (zI (qsp (zTt fb n) n P)), .ref rb, .int (zI (qde (zTt fb n) n (qsp (zTt fb n) n P))), .int (zI (qsp (zTt fb n) n P)), .int (zI (-3)), .int (zI (qnum (zTt fb n) (qsp (zTt fb n) n P) (qde (zTt fb n) n (qsp (zTt fb n) n P)) 0)), .long (zL na)])), (rb, .inl (zk G 2, 600, .inl (zA fb)))])) (wr := []) F (kX2_fail G l rd n ea rb (qde (zTt fb n) n (qsp (zTt fb n) n P)) (qsp (zTt fb n) n P) er (qnum (zTt fb n) (qsp (zTt fb n) n P) (qde (zTt fb n) n (qsp (zTt fb n) n P)) 0) na fb (-3)) (cwV 1 hts gX2_takeNumber_X2_fail rfl rfl rfl (by decide +kernel) ⟨Nat.le_of_ble_eq_true rfl, Nat.le_of_ble_eq_true rfl⟩) hW 0 rfl rfl [0, 1] [] (by decide) rfl rfl rfl (by decide) (by decide) [0, 1] (by decide) (fun _ => rfl) (fun _ => rfl) rfl hl.1 rfl (Nat.le_of_ble_eq_true rfl) dX2_takeNumber_102 ⟨Nat.le_of_ble_eq_true rfl, Nat.le_of_ble_eq_true rfl⟩ (fun _ H locs _ hW => ?_)
              show W p l e _ s m args below meth c H locs _ _ _ (F0 m 105 ls [.int (zI (zb false))])
              refine zv_b_eq (pc := 105) (tgt := 112) hx hb dX2_takeNumber_105 (by decide) (fun c105 => ?_) (fun c105 => absurd c105 (by decide))
              refine zv_iconst (pc := 112) (n := 0) hx hb dX2_takeNumber_112 ?_
              refine zv_as (pc := 113) (a := 0) (b := zb false) (rfl) ?_
              exact ze_z (pc := 113) hx hb hr hlk hW (false, (qde (zTt fb n) n (qsp (zTt fb n) n P)), (qsp (zTt fb n) n P), (-3), (qsp (zTt fb n) n P), (qnum (zTt fb n) (qsp (zTt fb n) n P) (qde (zTt fb n) n (qsp (zTt fb n) n P)) 0)) rfl (by first | exact qR_er (if_pos c74) ⟨rfl, rfl, (by show (-2 : Int) < 0; decide)⟩ | exact qR_ok ((if_neg c74).trans (if_pos ⟨by omega, by omega⟩)) ⟨rfl, rfl, rfl, rfl⟩ | exact qR_er ((if_neg c74).trans (if_neg (by omega))) ⟨rfl, rfl, (by show (-3 : Int) < 0; decide)⟩) rfl dX2_takeNumber_113
            · refine lv_iload_n (pc := 94) hx hb dX2_takeNumber_94 rfl (lv_at hl 0 rfl) ?_
              refine lv_iload_n (pc := 95) hx hb dX2_takeNumber_95 rfl (lv_at hl 3 rfl) ?_
              refine zv_icmp_le (pc := 96) (tgt := 108) hx hb dX2_takeNumber_96 (by decide) ⟨by omega, by omega⟩ ⟨by omega, by omega⟩ (fun c96 => ?_) (fun c96 => ?_)
              · refine zv_iconst (pc := 108) (n := 1) hx hb dX2_takeNumber_108 ?_
                refine lv_goto (pc := 109) (tgt := 113) hx hb dX2_takeNumber_109 (by decide) ?_
                refine zv_as (pc := 113) (a := 1) (b := zb true) (rfl) ?_
                exact ze_z (pc := 113) hx hb hr hlk hW (true, qde (zTt fb n) n (qsp (zTt fb n) n P), (qsp (zTt fb n) n P), er, ea, qnum (zTt fb n) (qsp (zTt fb n) n P) (qde (zTt fb n) n (qsp (zTt fb n) n P)) 0) rfl (by first | exact qR_er (if_pos c74) ⟨rfl, rfl, (by show (-2 : Int) < 0; decide)⟩ | exact qR_ok ((if_neg c74).trans (if_pos ⟨by omega, by omega⟩)) ⟨rfl, rfl, rfl, rfl⟩ | exact qR_er ((if_neg c74).trans (if_neg (by omega))) ⟨rfl, rfl, (by show (-3 : Int) < 0; decide)⟩) rfl dX2_takeNumber_113
              · refine lv_aload_n (pc := 99) hx hb dX2_takeNumber_99 rfl (lv_at hl 1 rfl) ?_
                refine zv_bipush (pc := 100) (n := (-3)) hx hb dX2_takeNumber_100 (by decide) ?_
                refine z_V (pc := 102) (As := [.int (zI (-3))]) (rest := []) (wn := (fun _ => [(rd, .inr (2, [.int (zI n), .int (zI (qsp (zTt fb n) n P)), .ref rb, .int (zI (qde (zTt fb n) n (qsp (zTt fb n) n P))), .int (zI (qsp (zTt fb n) n P)), .int (zI (-3)), .int (zI (qnum (zTt fb n) (qsp (zTt fb n) n P) (qde (zTt fb n) n (qsp (zTt fb n) n P)) 0)), .long (zL na)])), (rb, .inl (zk G 2, 600, .inl (zA fb)))])) (wr := []) F (kX2_fail G l rd n ea rb (qde (zTt fb n) n (qsp (zTt fb n) n P)) (qsp (zTt fb n) n P) er (qnum (zTt fb n) (qsp (zTt fb n) n P) (qde (zTt fb n) n (qsp (zTt fb n) n P)) 0) na fb (-3)) (cwV 1 hts gX2_takeNumber_X2_fail rfl rfl rfl (by decide +kernel) ⟨Nat.le_of_ble_eq_true rfl, Nat.le_of_ble_eq_true rfl⟩) hW 0 rfl rfl [0, 1] [] (by decide) rfl rfl rfl (by decide) (by decide) [0, 1] (by decide) (fun _ => rfl) (fun _ => rfl) rfl hl.1 rfl (Nat.le_of_ble_eq_true rfl) dX2_takeNumber_102 ⟨Nat.le_of_ble_eq_true rfl, Nat.le_of_ble_eq_true rfl⟩ (fun _ H locs _ hW => ?_)
                show W p l e _ s m args below meth c H locs _ _ _ (F0 m 105 ls [.int (zI (zb false))])
                refine zv_b_eq (pc := 105) (tgt := 112) hx hb dX2_takeNumber_105 (by decide) (fun c105 => ?_) (fun c105 => absurd c105 (by decide))
                refine zv_iconst (pc := 112) (n := 0) hx hb dX2_takeNumber_112 ?_
                refine zv_as (pc := 113) (a := 0) (b := zb false) (rfl) ?_
                exact ze_z (pc := 113) hx hb hr hlk hW (false, (qde (zTt fb n) n (qsp (zTt fb n) n P)), (qsp (zTt fb n) n P), (-3), (qsp (zTt fb n) n P), (qnum (zTt fb n) (qsp (zTt fb n) n P) (qde (zTt fb n) n (qsp (zTt fb n) n P)) 0)) rfl (by first | exact qR_er (if_pos c74) ⟨rfl, rfl, (by show (-2 : Int) < 0; decide)⟩ | exact qR_ok ((if_neg c74).trans (if_pos ⟨by omega, by omega⟩)) ⟨rfl, rfl, rfl, rfl⟩ | exact qR_er ((if_neg c74).trans (if_neg (by omega))) ⟨rfl, rfl, (by show (-3 : Int) < 0; decide)⟩) rfl dX2_takeNumber_113
          · refine lv_aload_n (pc := 77) hx hb dX2_takeNumber_77 rfl (lv_at hl 1 rfl) ?_
            refine zv_bipush (pc := 78) (n := (-2)) hx hb dX2_takeNumber_78 (by decide) ?_
            refine z_V (pc := 80) (As := [.int (zI (-2))]) (rest := []) (wn := (fun _ => [(rd, .inr (2, [.int (zI n), .int (zI (qsp (zTt fb n) n P)), .ref rb, .int (zI (qde (zTt fb n) n (qsp (zTt fb n) n P))), .int (zI (qsp (zTt fb n) n P)), .int (zI (-2)), .int (zI nu), .long (zL na)])), (rb, .inl (zk G 2, 600, .inl (zA fb)))])) (wr := []) F (kX2_fail G l rd n ea rb (qde (zTt fb n) n (qsp (zTt fb n) n P)) (qsp (zTt fb n) n P) er nu na fb (-2)) (cwV 1 hts gX2_takeNumber_X2_fail rfl rfl rfl (by decide +kernel) ⟨Nat.le_of_ble_eq_true rfl, Nat.le_of_ble_eq_true rfl⟩) hW 0 rfl rfl [0, 1] [] (by decide) rfl rfl rfl (by decide) (by decide) [0, 1] (by decide) (fun _ => rfl) (fun _ => rfl) rfl hl.1 rfl (Nat.le_of_ble_eq_true rfl) dX2_takeNumber_80 ⟨Nat.le_of_ble_eq_true rfl, Nat.le_of_ble_eq_true rfl⟩ (fun _ H locs _ hW => ?_)
            show W p l e _ s m args below meth c H locs _ _ _ (F0 m 83 ls [.int (zI (zb false))])
            exact ze_z (pc := 83) hx hb hr hlk hW (false, (qde (zTt fb n) n (qsp (zTt fb n) n P)), (qsp (zTt fb n) n P), (-2), (qsp (zTt fb n) n P), nu) rfl (by first | exact qR_er (if_pos c74) ⟨rfl, rfl, (by show (-2 : Int) < 0; decide)⟩ | exact qR_ok ((if_neg c74).trans (if_pos ⟨by omega, by omega⟩)) ⟨rfl, rfl, rfl, rfl⟩ | exact qR_er ((if_neg c74).trans (if_neg (by omega))) ⟨rfl, rfl, (by show (-3 : Int) < 0; decide)⟩) rfl dX2_takeNumber_83
        · replace c28 := of_decide_eq_true c28
          refine zv_bipush (pc := 31) (n := 10) hx hb dX2_takeNumber_31 (by decide) ?_
          refine lv_iload_n (pc := 33) hx hb dX2_takeNumber_33 rfl (lv_at hl 0 rfl) ?_
          refine zv_imul (pc := 34) hx hb dX2_takeNumber_34 ?_
          refine lv_aload_n (pc := 35) hx hb dX2_takeNumber_35 rfl (lv_at hl 1 rfl) ?_
          refine lv_aload_n (pc := 36) hx hb dX2_takeNumber_36 rfl (lv_at hl 1 rfl) ?_
          refine zw_get (pc := 37) (ref := RX2) (index := 47) hx hb hts hin2 hown hW 0 rfl rfl 3 (by decide) (List.mem_of_getElem? (i := 1) rfl) (fun _ h9 => h9) rfl dX2_takeNumber_37 ?_
          refine z_V (pc := 40) (As := [.int (zI p9)]) (rest := [.int (zI (10 * v9))]) (wn := (fun _ => [(rd, .inr (2, [.int (zI n), .int (zI ea), .ref rb, .int (zI p9), .int (zI (qsp (zTt fb n) n P)), .int (zI er), .int (zI nu), .long (zL na)])), (rb, .inl (zk G 2, 600, .inl (zA fb)))])) (wr := []) F (kX2_byteAt G l rd n ea rb p9 (qsp (zTt fb n) n P) er nu na fb p9 (by first | assumption | omega) (by first | assumption | omega) (by first | assumption | omega)) (cwV 1 hts gX2_takeNumber_X2_byteAt rfl rfl rfl (by decide +kernel) ⟨Nat.le_of_ble_eq_true rfl, Nat.le_of_ble_eq_true rfl⟩) hW 0 rfl rfl [0, 1] [] (by decide) rfl rfl rfl (by decide) (by decide) [0, 1] (by decide) (fun _ => rfl) (fun _ => rfl) rfl hl.1 rfl (Nat.le_of_ble_eq_true rfl) dX2_takeNumber_40 ⟨Nat.le_of_ble_eq_true rfl, Nat.le_of_ble_eq_true rfl⟩ (fun _ H locs _ hW => ?_)
          show W p l e _ s m args below meth c H locs _ _ _ (F0 m 43 ls [.int (zI (zTt fb n p9)), .int (zI (10 * v9))])
          have xb40 := zTt_in (tx := fb) (n := n) (by assumption) (p9)
          refine zv_iadd (pc := 43) hx hb dX2_takeNumber_43 ?_
          refine zv_bipush (pc := 44) (n := 48) hx hb dX2_takeNumber_44 (by decide) ?_
          refine zv_isub (pc := 46) hx hb dX2_takeNumber_46 ?_
          refine zv_ldc (pc := 47) (v := 10000000) hx hb hown (hts _ (List.mem_of_getElem? (i := 3) rfl)) rfl dX2_takeNumber_47 ?_
          refine zv_min (pc := 49) hx hb (hml.trans hl.1.symm) hown (hts _ (List.mem_of_getElem? (i := 4) rfl)) (hts _ (List.mem_of_getElem? (i := 5) rfl)) (hts _ (List.mem_of_getElem? (i := 6) rfl)) (hts _ (List.mem_of_getElem? (i := 7) rfl)) (Nat.le_of_ble_eq_true rfl) (Nat.le_of_ble_eq_true rfl) (Nat.le_of_ble_eq_true rfl) (Nat.le_of_ble_eq_true rfl) dX2_takeNumber_49 ⟨by omega, by omega⟩ ⟨by omega, by omega⟩ ?_
          refine lv_istore_n (pc := 52) (lv' := [(3, .int (zI (min (((10 * v9) + (zTt fb n p9)) - 48) 10000000))), (0, .ref rd), (1, .int (zI lo)), (2, .int (zI hi))]) hx hb dX2_takeNumber_52 rfl hl (by decide) rfl (fun ls hl => ?_)
          refine lv_aload_n (pc := 53) hx hb dX2_takeNumber_53 rfl (lv_at hl 1 rfl) ?_
          refine lv_dup (pc := 54) hx hb dX2_takeNumber_54 rfl ?_
          refine zw_get (pc := 55) (ref := RX2) (index := 47) hx hb hts hin2 hown hW 0 rfl rfl 3 (by decide) (List.mem_of_getElem? (i := 1) rfl) (fun _ h9 => h9) rfl dX2_takeNumber_55 ?_
          refine zv_iconst (pc := 58) (n := 1) hx hb dX2_takeNumber_58 ?_
          refine zv_iadd (pc := 59) hx hb dX2_takeNumber_59 ?_
          refine zw_put (pc := 60) (ws' := [(rd, .inr (2, [.int (zI n), .int (zI ea), .ref rb, .int (zI (p9 + 1)), .int (zI (qsp (zTt fb n) n P)), .int (zI er), .int (zI nu), .long (zL na)])), (rb, .inl (zk G 2, 600, .inl (zA fb)))]) (ref := RX2) (index := 47) hx hb hts hin2 tyX2 tyX2_ok nmX2 hown hW 0 rfl rfl 3 (by decide) (List.mem_of_getElem? (i := 1) rfl) (fun _ h9 => h9) rfl (tyX2_ok 3 (by decide)) rfl rfl (Nat.le_of_ble_eq_true rfl) rfl dX2_takeNumber_60 (fun H locs hW => ?_)
          refine lv_goto (pc := 63) (tgt := 6) hx hb dX2_takeNumber_63 (by decide) ?_
          exact ih6 (p9 + 1) (min (((10 * v9) + (zTt fb n p9)) - 48) 10000000) (by omega) (by omega) (by omega) (by first | rfl | (rw [← hd9]; exact (zrun_go (by omega) (decide_eq_true (by omega))).symm)) (by first | rfl | (rw [← hn9]; exact (qnum_next (by have h9 := qde_in (X := zTt fb n) (n := n) (P := p9 + 1) (by omega); rw [← hd9, show qde (zTt fb n) n p9 = qde (zTt fb n) n (p9 + 1) from zrun_go (by omega) (decide_eq_true (by omega))]; omega)).symm)) (by omega) _ _ _ hW (lv_sub hl [0, 1, 2, 3] rfl)
  exact J6 (((n - (qsp (zTt fb n) n P)).toNat) + 1) (qsp (zTt fb n) n P) 0 (by omega) (by omega) (by omega) (by first | rfl | (rw [← hd9]; exact (zrun_go (by omega) (decide_eq_true (by omega))).symm)) (by first | rfl | (rw [← hn9]; exact (qnum_next (by have h9 := qde_in (X := zTt fb n) (n := n) (P := p9 + 1) (by omega); rw [← hd9, show qde (zTt fb n) n p9 = qde (zTt fb n) n (p9 + 1) from zrun_go (by omega) (decide_eq_true (by omega))]; omega)).symm)) (Nat.lt_succ_self _) _ _ _ hW (lv_sub hl [0, 1, 2, 3] rfl)
