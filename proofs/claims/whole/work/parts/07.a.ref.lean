set_option maxHeartbeats 4000000 in
set_option maxRecDepth 100000 in
/-- isIn -/
theorem kX7_isIn (G : zG) (l : Launch) (v : Int) (lo : Int) (hi : Int) (v1 : -2147483648 ≤ v) (v2 : v ≤ 2147483647) (lo1 : -2147483648 ≤ lo) (lo2 : lo ≤ 2147483647) (hi1 : -2147483648 ≤ hi) (hi2 : hi ≤ 2147483647) : zM G l yX7_isIn wsX7_isIn { frames := 0, cells := 0, slots := 0, locals := 0 } [.int (zI v), .int (zI lo), .int (zI hi)] [] (S := Unit) (zri (fun _ => zb (decide (lo ≤ v ∧ v ≤ hi)))) (fun _ => True) (fun _ => []) 0 0 := by
  refine zM.of (cc := cX7_isIn) (maxL := 3) (ret := (some .boolean)) (by decide) rfl (Nat.le_of_ble_eq_true rfl) (l0 := [(0, .int (zI v)), (1, .int (zI lo)), (2, .int (zI hi))]) rfl ?_
  intro p e s m args below meth c ls F hr hlk hnm hW hl
  obtain ⟨hx, hb, hml, hown, hts⟩ := id F
  refine lv_iload_n (pc := 0) hx hb dX7_isIn_0 rfl (lv_at hl 0 rfl) ?_
  refine lv_iload_n (pc := 1) hx hb dX7_isIn_1 rfl (lv_at hl 1 rfl) ?_
  refine zv_icmp_lt (pc := 2) (tgt := 14) hx hb dX7_isIn_2 (by decide) ⟨by omega, by omega⟩ ⟨by omega, by omega⟩ (fun c2 => ?_) (fun c2 => ?_)
  · refine zv_iconst (pc := 14) (n := 0) hx hb dX7_isIn_14 ?_
    refine zv_as (pc := 15) (a := 0) (b := zb (decide (lo ≤ v ∧ v ≤ hi))) (by first | (rw [decide_eq_true (show lo ≤ v ∧ v ≤ hi by omega)]; rfl) | (rw [decide_eq_false (show ¬ (lo ≤ v ∧ v ≤ hi) by omega)]; rfl)) ?_
    exact ze_z (pc := 15) hx hb hr hlk hW () rfl trivial rfl dX7_isIn_15
  · refine lv_iload_n (pc := 5) hx hb dX7_isIn_5 rfl (lv_at hl 0 rfl) ?_
    refine lv_iload_n (pc := 6) hx hb dX7_isIn_6 rfl (lv_at hl 2 rfl) ?_
    refine zv_icmp_gt (pc := 7) (tgt := 14) hx hb dX7_isIn_7 (by decide) ⟨by omega, by omega⟩ ⟨by omega, by omega⟩ (fun c7 => ?_) (fun c7 => ?_)
    · refine zv_iconst (pc := 14) (n := 0) hx hb dX7_isIn_14 ?_
      refine zv_as (pc := 15) (a := 0) (b := zb (decide (lo ≤ v ∧ v ≤ hi))) (by first | (rw [decide_eq_true (show lo ≤ v ∧ v ≤ hi by omega)]; rfl) | (rw [decide_eq_false (show ¬ (lo ≤ v ∧ v ≤ hi) by omega)]; rfl)) ?_
      exact ze_z (pc := 15) hx hb hr hlk hW () rfl trivial rfl dX7_isIn_15
    · refine zv_iconst (pc := 10) (n := 1) hx hb dX7_isIn_10 ?_
      refine lv_goto (pc := 11) (tgt := 15) hx hb dX7_isIn_11 (by decide) ?_
      refine zv_as (pc := 15) (a := 1) (b := zb (decide (lo ≤ v ∧ v ≤ hi))) (by first | (rw [decide_eq_true (show lo ≤ v ∧ v ≤ hi by omega)]; rfl) | (rw [decide_eq_false (show ¬ (lo ≤ v ∧ v ≤ hi) by omega)]; rfl)) ?_
      exact ze_z (pc := 15) hx hb hr hlk hW () rfl trivial rfl dX7_isIn_15

set_option maxHeartbeats 4000000 in
set_option maxRecDepth 100000 in
/-- isTime -/
theorem kX7_isTime (G : zG) (l : Launch) (t : Int) (t1 : -2147483648 ≤ t) (t2 : t ≤ 2147483647) : zM G l yX7_isTime wsX7_isTime { frames := 1, cells := 0, slots := 0, locals := 22 } [.int (zI t)] [] (S := Unit) (zri (fun _ => zb (decide (0 ≤ t ∧ t ≤ 1000000)))) (fun _ => True) (fun _ => []) 0 0 := by
  refine zM.of (cc := cX7_isTime) (maxL := 1) (ret := (some .boolean)) (by decide) rfl (Nat.le_of_ble_eq_true rfl) (l0 := [(0, .int (zI t))]) rfl ?_
  intro p e s m args below meth c ls F hr hlk hnm hW hl
  obtain ⟨hx, hb, hml, hown, hts⟩ := id F
  refine lv_iload_n (pc := 0) hx hb dX7_isTime_0 rfl (lv_at hl 0 rfl) ?_
  refine zv_iconst (pc := 1) (n := 0) hx hb dX7_isTime_1 ?_
  refine zv_ldc (pc := 2) (v := 1000000) hx hb hown (hts _ (List.mem_of_getElem? (i := 1) rfl)) rfl dX7_isTime_2 ?_
  refine z_S (pc := 4) (As := [.int (zI t), .int (zI 0), .int (zI 1000000)]) (rest := []) (wn := (fun _ => [])) (wr := []) F (kX7_isIn G l t 0 1000000 (by first | assumption | omega) (by first | assumption | omega) (by first | assumption | omega) (by first | assumption | omega) (by first | assumption | omega) (by first | assumption | omega)) (va_cwS 3 hts gX7_isTime_X7_isIn rfl rfl rfl (by decide +kernel) ⟨Nat.le_of_ble_eq_true rfl, Nat.le_of_ble_eq_true rfl⟩) hW [] [] (by decide) rfl rfl rfl (by decide) (by decide) [] (by decide) (fun _ => rfl) (fun _ => rfl) rfl hl.1 rfl (Nat.le_of_ble_eq_true rfl) dX7_isTime_4 ⟨Nat.le_of_ble_eq_true rfl, Nat.le_of_ble_eq_true rfl⟩ (fun _ H locs _ hW => ?_)
  show W p l e _ s m args below meth c H locs _ _ _ (F0 m 7 ls [.int (zI (zb (decide (0 ≤ t ∧ t ≤ 1000000))))])
  exact ze_z (pc := 7) hx hb hr hlk hW () rfl trivial rfl dX7_isTime_7

set_option maxHeartbeats 4000000 in
set_option maxRecDepth 100000 in
/-- the sine, up to half a round -/
theorem kX7_sineOf0 (G : zG) (l : Launch) (a : Int) (ha1 : 0 ≤ a) (ha2 : a ≤ 18000) : zM G l yX7_sineOf wsX7_sineOf { frames := 1, cells := 0, slots := 0, locals := 22 } [.int (zI a)] [] (S := Unit) (zri (fun _ => zs a)) (fun _ => True) (fun _ => []) 0 0 := by
  refine zM.of (cc := cX7_sineOf) (maxL := 4) (ret := (some .int)) (by decide) rfl (Nat.le_of_ble_eq_true rfl) (l0 := [(0, .int (zI a))]) rfl ?_
  intro p e s m args below meth c ls F hr hlk hnm hW hl
  obtain ⟨hx, hb, hml, hown, hts⟩ := id F
  refine lv_iload_n (pc := 0) hx hb dX7_sineOf_0 rfl (lv_at hl 0 rfl) ?_
  refine zv_ldc (pc := 1) (v := 36000) hx hb hown (hts _ (List.mem_of_getElem? (i := 1) rfl)) rfl dX7_sineOf_1 ?_
  refine z_S (pc := 3) (As := [.int (zI a), .int (zI 36000)]) (rest := []) (wn := (fun _ => [])) (wr := []) F (kJ9_floorMod_7cf53 G l a 36000 (by first | assumption | omega) (by first | assumption | omega) (by first | assumption | omega) (by first | assumption | omega)) (va_cwS 2 hts gX7_sineOf_J9_floorMod_7cf53 rfl rfl rfl (by decide +kernel) ⟨Nat.le_of_ble_eq_true rfl, Nat.le_of_ble_eq_true rfl⟩) hW [] [] (by decide) rfl rfl rfl (by decide) (by decide) [] (by decide) (fun _ => rfl) (fun _ => rfl) rfl hl.1 rfl (Nat.le_of_ble_eq_true rfl) dX7_sineOf_3 ⟨Nat.le_of_ble_eq_true rfl, Nat.le_of_ble_eq_true rfl⟩ (fun _ H locs _ hW => ?_)
  show W p l e _ s m args below meth c H locs _ _ _ (F0 m 6 ls [.int (zI (a % 36000))])
  have fm3 := Int.emod_nonneg (a) (show (36000) ≠ 0 by omega)
  have fl3 := Int.emod_lt_of_pos (a) (show 0 < (36000) by omega)
  refine zv_name (fun t ht => ?_)
  refine lv_istore_n (pc := 6) (lv' := [(1, .int (zI t)), (0, .int (zI a))]) hx hb dX7_sineOf_6 rfl hl (by decide) rfl (fun ls hl => ?_)
  refine lv_iload_n (pc := 7) hx hb dX7_sineOf_7 rfl (lv_at hl 0 rfl) ?_
  refine zv_sipush (pc := 8) (n := 18000) hx hb dX7_sineOf_8 (by decide) ?_
  refine zv_icmp_le (pc := 11) (tgt := 24) hx hb dX7_sineOf_11 (by decide) ⟨by omega, by omega⟩ ⟨by omega, by omega⟩ (fun c11 => ?_) (fun c11 => absurd c11 (by omega))
  refine lv_iload_n (pc := 24) hx hb dX7_sineOf_24 rfl (lv_at hl 0 rfl) ?_
  refine zv_i2l (pc := 25) hx hb dX7_sineOf_25 ⟨by omega, by omega⟩ ?_
  refine zv_sipush (pc := 26) (n := 18000) hx hb dX7_sineOf_26 (by decide) ?_
  refine lv_iload_n (pc := 29) hx hb dX7_sineOf_29 rfl (lv_at hl 0 rfl) ?_
  refine zv_isub (pc := 30) hx hb dX7_sineOf_30 ?_
  refine zv_i2l (pc := 31) hx hb dX7_sineOf_31 ⟨by omega, by omega⟩ ?_
  refine zv_lmul (pc := 32) hx hb dX7_sineOf_32 ?_
  have hP := zprod (p := t) (by omega) (by omega)
  refine zv_nameL (fun pp hpp => ?_)
  refine lv_lstore_n (pc := 33) (lv' := [(2, .long (zL pp)), (1, .int (zI t)), (0, .int (zI a))]) hx hb dX7_sineOf_33 rfl hl (by decide) rfl (fun ls hl => ?_)
  rw [← hpp] at hP
  refine zv_ldc2 (pc := 34) (v := 40000) hx hb hown (hts _ (List.mem_of_getElem? (i := 2) rfl)) rfl dX7_sineOf_34 ?_
  refine lv_lload_n (pc := 37) hx hb dX7_sineOf_37 rfl (lv_at hl 0 rfl) ?_
  refine zv_lmul (pc := 38) hx hb dX7_sineOf_38 ?_
  refine zv_ldc2 (pc := 39) (v := 405000000) hx hb hown (hts _ (List.mem_of_getElem? (i := 3) rfl)) rfl dX7_sineOf_39 ?_
  refine lv_lload_n (pc := 42) hx hb dX7_sineOf_42 rfl (lv_at hl 0 rfl) ?_
  refine zv_lsub (pc := 43) hx hb dX7_sineOf_43 ?_
  refine zv_ldiv (pc := 44) hx hb dX7_sineOf_44 ⟨by omega, by omega⟩ ⟨by omega, by omega⟩ (by omega) ?_
  refine zv_l2i (pc := 45) hx hb dX7_sineOf_45 ?_
  refine zv_as (pc := 46) (a := Int.tdiv (40000 * pp) (405000000 - pp)) (b := zs a) (by unfold zs zsp; rw [← ht, if_pos (by omega), hpp]) ?_
  exact ze_i (pc := 46) hx hb hr hlk hW () rfl trivial rfl dX7_sineOf_46

set_option maxHeartbeats 4000000 in
set_option maxRecDepth 100000 in
/-- the sine -/
theorem kX7_sineOf (G : zG) (l : Launch) (a : Int) (a1 : -2147483648 ≤ a) (a2 : a ≤ 2147483647) : zM G l yX7_sineOf wsX7_sineOf { frames := 2, cells := 0, slots := 0, locals := 45 } [.int (zI a)] [] (S := Unit) (zri (fun _ => zs a)) (fun _ => True) (fun _ => []) 0 0 := by
  refine zM.of (cc := cX7_sineOf) (maxL := 4) (ret := (some .int)) (by decide) rfl (Nat.le_of_ble_eq_true rfl) (l0 := [(0, .int (zI a))]) rfl ?_
  intro p e s m args below meth c ls F hr hlk hnm hW hl
  obtain ⟨hx, hb, hml, hown, hts⟩ := id F
  refine lv_iload_n (pc := 0) hx hb dX7_sineOf_0 rfl (lv_at hl 0 rfl) ?_
  refine zv_ldc (pc := 1) (v := 36000) hx hb hown (hts _ (List.mem_of_getElem? (i := 1) rfl)) rfl dX7_sineOf_1 ?_
  refine z_S (pc := 3) (As := [.int (zI a), .int (zI 36000)]) (rest := []) (wn := (fun _ => [])) (wr := []) F (kJ9_floorMod_7cf53 G l a 36000 (by first | assumption | omega) (by first | assumption | omega) (by first | assumption | omega) (by first | assumption | omega)) (va_cwS 2 hts gX7_sineOf_J9_floorMod_7cf53 rfl rfl rfl (by decide +kernel) ⟨Nat.le_of_ble_eq_true rfl, Nat.le_of_ble_eq_true rfl⟩) hW [] [] (by decide) rfl rfl rfl (by decide) (by decide) [] (by decide) (fun _ => rfl) (fun _ => rfl) rfl hl.1 rfl (Nat.le_of_ble_eq_true rfl) dX7_sineOf_3 ⟨Nat.le_of_ble_eq_true rfl, Nat.le_of_ble_eq_true rfl⟩ (fun _ H locs _ hW => ?_)
  show W p l e _ s m args below meth c H locs _ _ _ (F0 m 6 ls [.int (zI (a % 36000))])
  have fm3 := Int.emod_nonneg (a) (show (36000) ≠ 0 by omega)
  have fl3 := Int.emod_lt_of_pos (a) (show 0 < (36000) by omega)
  refine zv_name (fun t ht => ?_)
  refine lv_istore_n (pc := 6) (lv' := [(1, .int (zI t)), (0, .int (zI a))]) hx hb dX7_sineOf_6 rfl hl (by decide) rfl (fun ls hl => ?_)
  refine lv_iload_n (pc := 7) hx hb dX7_sineOf_7 rfl (lv_at hl 0 rfl) ?_
  refine zv_sipush (pc := 8) (n := 18000) hx hb dX7_sineOf_8 (by decide) ?_
  refine zv_icmp_le (pc := 11) (tgt := 24) hx hb dX7_sineOf_11 (by decide) ⟨by omega, by omega⟩ ⟨by omega, by omega⟩ (fun c11 => ?_) (fun c11 => ?_)
  · refine lv_iload_n (pc := 24) hx hb dX7_sineOf_24 rfl (lv_at hl 0 rfl) ?_
    refine zv_i2l (pc := 25) hx hb dX7_sineOf_25 ⟨by omega, by omega⟩ ?_
    refine zv_sipush (pc := 26) (n := 18000) hx hb dX7_sineOf_26 (by decide) ?_
    refine lv_iload_n (pc := 29) hx hb dX7_sineOf_29 rfl (lv_at hl 0 rfl) ?_
    refine zv_isub (pc := 30) hx hb dX7_sineOf_30 ?_
    refine zv_i2l (pc := 31) hx hb dX7_sineOf_31 ⟨by omega, by omega⟩ ?_
    refine zv_lmul (pc := 32) hx hb dX7_sineOf_32 ?_
    have hP := zprod (p := t) (by omega) (by omega)
    refine zv_nameL (fun pp hpp => ?_)
    refine lv_lstore_n (pc := 33) (lv' := [(2, .long (zL pp)), (1, .int (zI t)), (0, .int (zI a))]) hx hb dX7_sineOf_33 rfl hl (by decide) rfl (fun ls hl => ?_)
    rw [← hpp] at hP
    refine zv_ldc2 (pc := 34) (v := 40000) hx hb hown (hts _ (List.mem_of_getElem? (i := 2) rfl)) rfl dX7_sineOf_34 ?_
    refine lv_lload_n (pc := 37) hx hb dX7_sineOf_37 rfl (lv_at hl 0 rfl) ?_
    refine zv_lmul (pc := 38) hx hb dX7_sineOf_38 ?_
    refine zv_ldc2 (pc := 39) (v := 405000000) hx hb hown (hts _ (List.mem_of_getElem? (i := 3) rfl)) rfl dX7_sineOf_39 ?_
    refine lv_lload_n (pc := 42) hx hb dX7_sineOf_42 rfl (lv_at hl 0 rfl) ?_
    refine zv_lsub (pc := 43) hx hb dX7_sineOf_43 ?_
    refine zv_ldiv (pc := 44) hx hb dX7_sineOf_44 ⟨by omega, by omega⟩ ⟨by omega, by omega⟩ (by omega) ?_
    refine zv_l2i (pc := 45) hx hb dX7_sineOf_45 ?_
    refine zv_as (pc := 46) (a := Int.tdiv (40000 * pp) (405000000 - pp)) (b := zs a) (by first | (unfold zs zsp; rw [← ht, if_pos (by omega), hpp]; done) | (rw [show zs a = -zsp (t - 18000) from by unfold zs; rw [← ht, if_neg (by omega)], show zs (t - 18000) = zsp (t - 18000) from by unfold zs; rw [show (t - 18000) % 36000 = t - 18000 by omega, if_pos (by omega)]])) ?_
    exact ze_i (pc := 46) hx hb hr hlk hW () rfl trivial rfl dX7_sineOf_46
  · refine lv_iload_n (pc := 14) hx hb dX7_sineOf_14 rfl (lv_at hl 0 rfl) ?_
    refine zv_sipush (pc := 15) (n := 18000) hx hb dX7_sineOf_15 (by decide) ?_
    refine zv_isub (pc := 18) hx hb dX7_sineOf_18 ?_
    refine z_S (pc := 19) (As := [.int (zI (t - 18000))]) (rest := []) (wn := (fun _ => [])) (wr := []) F (kX7_sineOf0 G l (t - 18000) (by first | assumption | omega) (by first | assumption | omega)) (va_cwS 1 hts gX7_sineOf_X7_sineOf rfl rfl rfl (by decide +kernel) ⟨Nat.le_of_ble_eq_true rfl, Nat.le_of_ble_eq_true rfl⟩) hW [] [] (by decide) rfl rfl rfl (by decide) (by decide) [] (by decide) (fun _ => rfl) (fun _ => rfl) rfl hl.1 rfl (Nat.le_of_ble_eq_true rfl) dX7_sineOf_19 ⟨Nat.le_of_ble_eq_true rfl, Nat.le_of_ble_eq_true rfl⟩ (fun _ H locs _ hW => ?_)
    show W p l e _ s m args below meth c H locs _ _ _ (F0 m 22 ls [.int (zI (zs (t - 18000)))])
    refine zv_ineg (pc := 22) hx hb dX7_sineOf_22 ?_
    refine zv_as (pc := 23) (a := -(zs (t - 18000))) (b := zs a) (by first | (unfold zs zsp; rw [← ht, if_pos (by omega), hpp]; done) | (rw [show zs a = -zsp (t - 18000) from by unfold zs; rw [← ht, if_neg (by omega)], show zs (t - 18000) = zsp (t - 18000) from by unfold zs; rw [show (t - 18000) % 36000 = t - 18000 by omega, if_pos (by omega)]])) ?_
    exact ze_i (pc := 23) hx hb hr hlk hW () rfl trivial rfl dX7_sineOf_23

set_option maxHeartbeats 4000000 in
set_option maxRecDepth 100000 in
/-- the cosine -/
theorem kX7_cosineOf (G : zG) (l : Launch) (a : Int) (a1 : -2147483648 ≤ a) (a2 : a ≤ 2147483647) : zM G l yX7_cosineOf wsX7_cosineOf { frames := 3, cells := 0, slots := 0, locals := 68 } [.int (zI a)] [] (S := Unit) (zri (fun _ => zs (a + 9000))) (fun _ => True) (fun _ => []) 0 0 := by
  refine zM.of (cc := cX7_cosineOf) (maxL := 1) (ret := (some .int)) (by decide) rfl (Nat.le_of_ble_eq_true rfl) (l0 := [(0, .int (zI a))]) rfl ?_
  intro p e s m args below meth c ls F hr hlk hnm hW hl
  obtain ⟨hx, hb, hml, hown, hts⟩ := id F
  refine lv_iload_n (pc := 0) hx hb dX7_cosineOf_0 rfl (lv_at hl 0 rfl) ?_
  refine zv_ldc (pc := 1) (v := 36000) hx hb hown (hts _ (List.mem_of_getElem? (i := 1) rfl)) rfl dX7_cosineOf_1 ?_
  refine z_S (pc := 3) (As := [.int (zI a), .int (zI 36000)]) (rest := []) (wn := (fun _ => [])) (wr := []) F (kJ9_floorMod_7cf53 G l a 36000 (by first | assumption | omega) (by first | assumption | omega) (by first | assumption | omega) (by first | assumption | omega)) (va_cwS 2 hts gX7_cosineOf_J9_floorMod_7cf53 rfl rfl rfl (by decide +kernel) ⟨Nat.le_of_ble_eq_true rfl, Nat.le_of_ble_eq_true rfl⟩) hW [] [] (by decide) rfl rfl rfl (by decide) (by decide) [] (by decide) (fun _ => rfl) (fun _ => rfl) rfl hl.1 rfl (Nat.le_of_ble_eq_true rfl) dX7_cosineOf_3 ⟨Nat.le_of_ble_eq_true rfl, Nat.le_of_ble_eq_true rfl⟩ (fun _ H locs _ hW => ?_)
  show W p l e _ s m args below meth c H locs _ _ _ (F0 m 6 ls [.int (zI (a % 36000))])
  have fm3 := Int.emod_nonneg (a) (show (36000) ≠ 0 by omega)
  have fl3 := Int.emod_lt_of_pos (a) (show 0 < (36000) by omega)
  refine zv_sipush (pc := 6) (n := 9000) hx hb dX7_cosineOf_6 (by decide) ?_
  refine zv_iadd (pc := 9) hx hb dX7_cosineOf_9 ?_
  refine z_S (pc := 10) (As := [.int (zI ((a % 36000) + 9000))]) (rest := []) (wn := (fun _ => [])) (wr := []) F (kX7_sineOf G l ((a % 36000) + 9000) (by first | assumption | omega) (by first | assumption | omega)) (va_cwS 1 hts gX7_cosineOf_X7_sineOf rfl rfl rfl (by decide +kernel) ⟨Nat.le_of_ble_eq_true rfl, Nat.le_of_ble_eq_true rfl⟩) hW [] [] (by decide) rfl rfl rfl (by decide) (by decide) [] (by decide) (fun _ => rfl) (fun _ => rfl) rfl hl.1 rfl (Nat.le_of_ble_eq_true rfl) dX7_cosineOf_10 ⟨Nat.le_of_ble_eq_true rfl, Nat.le_of_ble_eq_true rfl⟩ (fun _ H locs _ hW => ?_)
  show W p l e _ s m args below meth c H locs _ _ _ (F0 m 13 ls [.int (zI (zs ((a % 36000) + 9000)))])
  have zr10 := zs_in (((a % 36000) + 9000))
  refine zv_as (pc := 13) (a := zs ((a % 36000) + 9000)) (b := zs (a + 9000)) (zs_mod (by omega)) ?_
  exact ze_i (pc := 13) hx hb hr hlk hW () rfl trivial rfl dX7_cosineOf_13

set_option maxHeartbeats 4000000 in
set_option maxRecDepth 100000 in
/-- lightAt -/
theorem kX7_lightAt (G : zG) (l : Launch) (z : Nat) (r0 : Nat) (r1 : Nat) (r2 : Nat) (r3 : Nat) (r4 : Nat) (km : Int) (th : Int) (r7 : Nat) (bu : Int) (pa : Int) (pb : Int) (ki : Int) (nu : Int) (wr : Int) (wa : Int) (ea : Int) (lx : Int) (ly : Int) (lh : Int) (lz : Int) (r20 : Nat) (go : Int) (iT : Int) (iM : Int) (iK : Int) (r25 : Nat) (wm : Int) (tm : Int) (te : Bool) (fa : Int → Int) (t : Int) (hd1 : 0 ≤ fa 1) (hd2 : fa 1 ≤ 359) (hr1 : -999 ≤ fa 2) (hr2 : fa 2 ≤ 999) (ht1 : 0 ≤ t) (ht2 : t ≤ 1000000) : zM G l yX7_lightAt wsX7_lightAt { frames := 1, cells := 0, slots := 0, locals := 22 } [.ref z, .int (zI t)] [(z, .inr (7, [.ref r0, .ref r1, .ref r2, .ref r3, .ref r4, .int (zI km), .int (zI th), .ref r7, .int (zI bu), .int (zI pa), .int (zI pb), .int (zI ki), .int (zI nu), .int (zI wr), .int (zI wa), .int (zI ea), .long (zL lx), .long (zL ly), .long (zL lh), .long (zL lz), .ref r20, .int (zI go), .int (zI iT), .int (zI iM), .int (zI iK), .ref r25, .int (zI wm), .int (zI tm), .int (zI (zb te))])), (r0, .inl (zk G 0, 179, .inl (zA fa)))] (S := Unit) (zri (fun _ => zli (fa 1) (fa 2) t % 36000)) (fun _ => True) (fun _ => [(z, .inr (7, [.ref r0, .ref r1, .ref r2, .ref r3, .ref r4, .int (zI km), .int (zI th), .ref r7, .int (zI bu), .int (zI pa), .int (zI pb), .int (zI ki), .int (zI nu), .int (zI wr), .int (zI wa), .int (zI ea), .long (zL lx), .long (zL ly), .long (zL lh), .long (zL lz), .ref r20, .int (zI go), .int (zI iT), .int (zI iM), .int (zI iK), .ref r25, .int (zI wm), .int (zI tm), .int (zI (zb te))])), (r0, .inl (zk G 0, 179, .inl (zA fa)))]) 0 0 := by
  refine zM.of (cc := cX7_lightAt) (maxL := 2) (ret := (some .int)) (by decide) rfl (Nat.le_of_ble_eq_true rfl) (l0 := [(0, .ref z), (1, .int (zI t))]) rfl ?_
  intro p e s m args below meth c ls F hr hlk hnm hW hl
  obtain ⟨hx, hb, hml, hown, hts⟩ := id F
  have hin7 : ∀ w ∈ wsX70, w ∈ wsX7_lightAt := fun _ h => List.mem_cons_of_mem _ (List.mem_append_right _ (h))
  have bli := zli_in (di := fa 1) (dr := fa 2) (t := t) ⟨hd1, hd2⟩ ⟨hr1, hr2⟩ ⟨ht1, ht2⟩
  refine zv_bipush (pc := 0) (n := 100) hx hb dX7_lightAt_0 (by decide) ?_
  refine lv_aload_n (pc := 2) hx hb dX7_lightAt_2 rfl (lv_at hl 0 rfl) ?_
  refine zw_get (pc := 3) (ref := RX7) (index := 7) hx hb hts hin7 hown hW 0 rfl rfl 0 (by decide) (List.mem_of_getElem? (i := 1) rfl) (fun _ h9 => h9) rfl dX7_lightAt_3 ?_
  refine zv_iconst (pc := 6) (n := 1) hx hb dX7_lightAt_6 ?_
  refine zw_iald (pc := 7) hx hb hW 1 rfl (by omega) (by omega) (by decide) dX7_lightAt_7 ?_
  refine zv_imul (pc := 8) hx hb dX7_lightAt_8 ?_
  refine lv_aload_n (pc := 9) hx hb dX7_lightAt_9 rfl (lv_at hl 0 rfl) ?_
  refine zw_get (pc := 10) (ref := RX7) (index := 7) hx hb hts hin7 hown hW 0 rfl rfl 0 (by decide) (List.mem_of_getElem? (i := 1) rfl) (fun _ h9 => h9) rfl dX7_lightAt_10 ?_
  refine zv_iconst (pc := 13) (n := 2) hx hb dX7_lightAt_13 ?_
  refine zw_iald (pc := 14) hx hb hW 1 rfl (by omega) (by omega) (by decide) dX7_lightAt_14 ?_
  refine lv_iload_n (pc := 15) hx hb dX7_lightAt_15 rfl (lv_at hl 1 rfl) ?_
  refine zv_imul (pc := 16) hx hb dX7_lightAt_16 ?_
  refine zv_iadd (pc := 17) hx hb dX7_lightAt_17 ?_
  refine zv_as (pc := 18) (a := (100 * (fa 1)) + ((fa 2) * t)) (b := zli (fa 1) (fa 2) t) (rfl) ?_
  refine zv_ldc (pc := 18) (v := 36000) hx hb hown (hts _ (List.mem_of_getElem? (i := 2) rfl)) rfl dX7_lightAt_18 ?_
  refine z_S (pc := 20) (As := [.int (zI (zli (fa 1) (fa 2) t)), .int (zI 36000)]) (rest := []) (wn := (fun _ => [(z, .inr (7, [.ref r0, .ref r1, .ref r2, .ref r3, .ref r4, .int (zI km), .int (zI th), .ref r7, .int (zI bu), .int (zI pa), .int (zI pb), .int (zI ki), .int (zI nu), .int (zI wr), .int (zI wa), .int (zI ea), .long (zL lx), .long (zL ly), .long (zL lh), .long (zL lz), .ref r20, .int (zI go), .int (zI iT), .int (zI iM), .int (zI iK), .ref r25, .int (zI wm), .int (zI tm), .int (zI (zb te))])), (r0, .inl (zk G 0, 179, .inl (zA fa)))])) (wr := [(z, .inr (7, [.ref r0, .ref r1, .ref r2, .ref r3, .ref r4, .int (zI km), .int (zI th), .ref r7, .int (zI bu), .int (zI pa), .int (zI pb), .int (zI ki), .int (zI nu), .int (zI wr), .int (zI wa), .int (zI ea), .long (zL lx), .long (zL ly), .long (zL lh), .long (zL lz), .ref r20, .int (zI go), .int (zI iT), .int (zI iM), .int (zI iK), .ref r25, .int (zI wm), .int (zI tm), .int (zI (zb te))])), (r0, .inl (zk G 0, 179, .inl (zA fa)))]) F (kJ9_floorMod_7cf53 G l (zli (fa 1) (fa 2) t) 36000 (by first | assumption | omega) (by first | assumption | omega) (by first | assumption | omega) (by first | assumption | omega)) (va_cwS 2 hts gX7_lightAt_J9_floorMod_7cf53 rfl rfl rfl (by decide +kernel) ⟨Nat.le_of_ble_eq_true rfl, Nat.le_of_ble_eq_true rfl⟩) hW [] [0, 1] (by decide) rfl rfl rfl (by decide) (by decide) [0, 1] (by decide) (fun _ => rfl) (fun _ => rfl) rfl hl.1 rfl (Nat.le_of_ble_eq_true rfl) dX7_lightAt_20 ⟨Nat.le_of_ble_eq_true rfl, Nat.le_of_ble_eq_true rfl⟩ (fun _ H locs _ hW => ?_)
  show W p l e _ s m args below meth c H locs _ _ _ (F0 m 23 ls [.int (zI ((zli (fa 1) (fa 2) t) % 36000))])
  have fm20 := Int.emod_nonneg ((zli (fa 1) (fa 2) t)) (show (36000) ≠ 0 by omega)
  have fl20 := Int.emod_lt_of_pos ((zli (fa 1) (fa 2) t)) (show 0 < (36000) by omega)
  refine zv_as (pc := 23) (a := (zli (fa 1) (fa 2) t) % 36000) (b := zli (fa 1) (fa 2) t % 36000) (by omega) ?_
  exact ze_i (pc := 23) hx hb hr hlk hW () rfl trivial rfl dX7_lightAt_23

set_option maxHeartbeats 4000000 in
set_option maxRecDepth 100000 in
/-- of -/
theorem kX7_of (G : zG) (l : Launch) (z : Nat) (r0 : Nat) (r1 : Nat) (r2 : Nat) (r3 : Nat) (r4 : Nat) (km : Int) (th : Int) (r7 : Nat) (bu : Int) (pa : Int) (pb : Int) (ki : Int) (nu : Int) (wr : Int) (wa : Int) (ea : Int) (lx : Int) (ly : Int) (lh : Int) (lz : Int) (r20 : Nat) (go : Int) (iT : Int) (iM : Int) (iK : Int) (r25 : Nat) (wm : Int) (tm : Int) (te : Bool) (fa : Int → Int) (mo : Int) (wh : Int) (h1 : 0 ≤ mo) (h2 : mo < 6) (h3 : 0 ≤ wh) (h4 : wh < 14) : zM G l yX7_of wsX7_of { frames := 0, cells := 0, slots := 0, locals := 0 } [.ref z, .int (zI mo), .int (zI wh)] [(z, .inr (7, [.ref r0, .ref r1, .ref r2, .ref r3, .ref r4, .int (zI km), .int (zI th), .ref r7, .int (zI bu), .int (zI pa), .int (zI pb), .int (zI ki), .int (zI nu), .int (zI wr), .int (zI wa), .int (zI ea), .long (zL lx), .long (zL ly), .long (zL lh), .long (zL lz), .ref r20, .int (zI go), .int (zI iT), .int (zI iM), .int (zI iK), .ref r25, .int (zI wm), .int (zI tm), .int (zI (zb te))])), (r0, .inl (zk G 0, 179, .inl (zA fa)))] (S := Unit) (zri (fun _ => ya fa mo wh)) (fun _ => True) (fun _ => [(z, .inr (7, [.ref r0, .ref r1, .ref r2, .ref r3, .ref r4, .int (zI km), .int (zI th), .ref r7, .int (zI bu), .int (zI pa), .int (zI pb), .int (zI ki), .int (zI nu), .int (zI wr), .int (zI wa), .int (zI ea), .long (zL lx), .long (zL ly), .long (zL lh), .long (zL lz), .ref r20, .int (zI go), .int (zI iT), .int (zI iM), .int (zI iK), .ref r25, .int (zI wm), .int (zI tm), .int (zI (zb te))])), (r0, .inl (zk G 0, 179, .inl (zA fa)))]) 0 0 := by
  refine zM.of (cc := cX7_of) (maxL := 3) (ret := (some .int)) (by decide) rfl (Nat.le_of_ble_eq_true rfl) (l0 := [(0, .ref z), (1, .int (zI mo)), (2, .int (zI wh))]) rfl ?_
  intro p e s m args below meth c ls F hr hlk hnm hW hl
  obtain ⟨hx, hb, hml, hown, hts⟩ := id F
  have hin7 : ∀ w ∈ wsX70, w ∈ wsX7_of := fun _ h => List.mem_cons_of_mem _ (List.mem_append_right _ (h))
  refine lv_aload_n (pc := 0) hx hb dX7_of_0 rfl (lv_at hl 0 rfl) ?_
  refine zw_get (pc := 1) (ref := RX7) (index := 7) hx hb hts hin7 hown hW 0 rfl rfl 0 (by decide) (List.mem_of_getElem? (i := 1) rfl) (fun _ h9 => h9) rfl dX7_of_1 ?_
  refine zv_iconst (pc := 4) (n := 5) hx hb dX7_of_4 ?_
  refine zv_bipush (pc := 5) (n := 14) hx hb dX7_of_5 (by decide) ?_
  refine lv_iload_n (pc := 7) hx hb dX7_of_7 rfl (lv_at hl 1 rfl) ?_
  refine zv_imul (pc := 8) hx hb dX7_of_8 ?_
  refine zv_iadd (pc := 9) hx hb dX7_of_9 ?_
  refine lv_iload_n (pc := 10) hx hb dX7_of_10 rfl (lv_at hl 2 rfl) ?_
  refine zv_iadd (pc := 11) hx hb dX7_of_11 ?_
  refine zw_iald (pc := 12) hx hb hW 1 rfl (by omega) (by omega) (by decide) dX7_of_12 ?_
  refine zv_as (pc := 13) (a := fa ((5 + (14 * mo)) + wh)) (b := ya fa mo wh) (rfl) ?_
  exact ze_i (pc := 13) hx hb hr hlk hW () rfl trivial rfl dX7_of_13

set_option maxHeartbeats 4000000 in
set_option maxRecDepth 100000 in
/-- puts -/
theorem kX7_puts (G : zG) (l : Launch) (z : Nat) (r0 : Nat) (r1 : Nat) (r2 : Nat) (r3 : Nat) (r4 : Nat) (km : Int) (th : Int) (r7 : Nat) (bu : Int) (pa : Int) (pb : Int) (ki : Int) (nu : Int) (wr : Int) (wa : Int) (ea : Int) (lx : Int) (ly : Int) (lh : Int) (lz : Int) (r20 : Nat) (go : Int) (iT : Int) (iM : Int) (iK : Int) (r25 : Nat) (wm : Int) (tm : Int) (te : Bool) (fa : Int → Int) (mo : Int) (wh : Int) (v : Int) (h1 : 0 ≤ mo) (h2 : mo < 6) (h3 : 0 ≤ wh) (h4 : wh < 14) : zM G l yX7_puts wsX7_puts { frames := 0, cells := 0, slots := 0, locals := 0 } [.ref z, .int (zI mo), .int (zI wh), .int (zI v)] [(z, .inr (7, [.ref r0, .ref r1, .ref r2, .ref r3, .ref r4, .int (zI km), .int (zI th), .ref r7, .int (zI bu), .int (zI pa), .int (zI pb), .int (zI ki), .int (zI nu), .int (zI wr), .int (zI wa), .int (zI ea), .long (zL lx), .long (zL ly), .long (zL lh), .long (zL lz), .ref r20, .int (zI go), .int (zI iT), .int (zI iM), .int (zI iK), .ref r25, .int (zI wm), .int (zI tm), .int (zI (zb te))])), (r0, .inl (zk G 0, 179, .inl (zA fa)))] (S := Unit) zrv (fun _ => True) (fun _ => [(z, .inr (7, [.ref r0, .ref r1, .ref r2, .ref r3, .ref r4, .int (zI km), .int (zI th), .ref r7, .int (zI bu), .int (zI pa), .int (zI pb), .int (zI ki), .int (zI nu), .int (zI wr), .int (zI wa), .int (zI ea), .long (zL lx), .long (zL ly), .long (zL lh), .long (zL lz), .ref r20, .int (zI go), .int (zI iT), .int (zI iM), .int (zI iK), .ref r25, .int (zI wm), .int (zI tm), .int (zI (zb te))])), (r0, .inl (zk G 0, 179, .inl (zA (zU fa (5 + 14 * mo + wh) v))))]) 0 0 := by
  refine zM.of (cc := cX7_puts) (maxL := 4) (ret := none) (by decide) rfl (Nat.le_of_ble_eq_true rfl) (l0 := [(0, .ref z), (1, .int (zI mo)), (2, .int (zI wh)), (3, .int (zI v))]) rfl ?_
  intro p e s m args below meth c ls F hr hlk hnm hW hl
  obtain ⟨hx, hb, hml, hown, hts⟩ := id F
  have hin7 : ∀ w ∈ wsX70, w ∈ wsX7_puts := fun _ h => List.mem_cons_of_mem _ (List.mem_append_right _ (h))
  refine lv_aload_n (pc := 0) hx hb dX7_puts_0 rfl (lv_at hl 0 rfl) ?_
  refine zw_get (pc := 1) (ref := RX7) (index := 7) hx hb hts hin7 hown hW 0 rfl rfl 0 (by decide) (List.mem_of_getElem? (i := 1) rfl) (fun _ h9 => h9) rfl dX7_puts_1 ?_
  refine zv_iconst (pc := 4) (n := 5) hx hb dX7_puts_4 ?_
  refine zv_bipush (pc := 5) (n := 14) hx hb dX7_puts_5 (by decide) ?_
  refine lv_iload_n (pc := 7) hx hb dX7_puts_7 rfl (lv_at hl 1 rfl) ?_
  refine zv_imul (pc := 8) hx hb dX7_puts_8 ?_
  refine zv_iadd (pc := 9) hx hb dX7_puts_9 ?_
  refine lv_iload_n (pc := 10) hx hb dX7_puts_10 rfl (lv_at hl 2 rfl) ?_
  refine zv_iadd (pc := 11) hx hb dX7_puts_11 ?_
  refine lv_iload_n (pc := 12) hx hb dX7_puts_12 rfl (lv_at hl 3 rfl) ?_
  refine zw_iast (pc := 13) (ws' := [(z, .inr (7, [.ref r0, .ref r1, .ref r2, .ref r3, .ref r4, .int (zI km), .int (zI th), .ref r7, .int (zI bu), .int (zI pa), .int (zI pb), .int (zI ki), .int (zI nu), .int (zI wr), .int (zI wa), .int (zI ea), .long (zL lx), .long (zL ly), .long (zL lh), .long (zL lz), .ref r20, .int (zI go), .int (zI iT), .int (zI iM), .int (zI iK), .ref r25, .int (zI wm), .int (zI tm), .int (zI (zb te))])), (r0, .inl (zk G 0, 179, .inl (zA (zU fa ((5 + (14 * mo)) + wh) v))))]) hx hb hW 1 rfl (by omega) (by omega) (by decide) rfl dX7_puts_13 (fun H locs hW => ?_)
  exact ze_v (pc := 14) hx hb hr hlk hW () rfl trivial rfl dX7_puts_14

set_option maxHeartbeats 4000000 in
set_option maxRecDepth 100000 in
/-- isMoon -/
theorem kX7_isMoon (G : zG) (l : Launch) (z : Nat) (r0 : Nat) (r1 : Nat) (r2 : Nat) (r3 : Nat) (r4 : Nat) (km : Int) (th : Int) (r7 : Nat) (bu : Int) (pa : Int) (pb : Int) (ki : Int) (nu : Int) (wr : Int) (wa : Int) (ea : Int) (lx : Int) (ly : Int) (lh : Int) (lz : Int) (r20 : Nat) (go : Int) (iT : Int) (iM : Int) (iK : Int) (r25 : Nat) (wm : Int) (tm : Int) (te : Bool) (fa : Int → Int) (mo : Int) (mo1 : -2147483648 ≤ mo) (mo2 : mo ≤ 2147483647) (c0 : 0 ≤ fa 3) (c6 : fa 3 ≤ 6) : zM G l yX7_isMoon wsX7_isMoon { frames := 1, cells := 0, slots := 0, locals := 22 } [.ref z, .int (zI mo)] [(z, .inr (7, [.ref r0, .ref r1, .ref r2, .ref r3, .ref r4, .int (zI km), .int (zI th), .ref r7, .int (zI bu), .int (zI pa), .int (zI pb), .int (zI ki), .int (zI nu), .int (zI wr), .int (zI wa), .int (zI ea), .long (zL lx), .long (zL ly), .long (zL lh), .long (zL lz), .ref r20, .int (zI go), .int (zI iT), .int (zI iM), .int (zI iK), .ref r25, .int (zI wm), .int (zI tm), .int (zI (zb te))])), (r0, .inl (zk G 0, 179, .inl (zA fa)))] (S := Unit) (zri (fun _ => zb (decide (0 ≤ mo ∧ mo < fa 3)))) (fun _ => True) (fun _ => [(z, .inr (7, [.ref r0, .ref r1, .ref r2, .ref r3, .ref r4, .int (zI km), .int (zI th), .ref r7, .int (zI bu), .int (zI pa), .int (zI pb), .int (zI ki), .int (zI nu), .int (zI wr), .int (zI wa), .int (zI ea), .long (zL lx), .long (zL ly), .long (zL lh), .long (zL lz), .ref r20, .int (zI go), .int (zI iT), .int (zI iM), .int (zI iK), .ref r25, .int (zI wm), .int (zI tm), .int (zI (zb te))])), (r0, .inl (zk G 0, 179, .inl (zA fa)))]) 0 0 := by
  refine zM.of (cc := cX7_isMoon) (maxL := 2) (ret := (some .boolean)) (by decide) rfl (Nat.le_of_ble_eq_true rfl) (l0 := [(0, .ref z), (1, .int (zI mo))]) rfl ?_
  intro p e s m args below meth c ls F hr hlk hnm hW hl
  obtain ⟨hx, hb, hml, hown, hts⟩ := id F
  have hin7 : ∀ w ∈ wsX70, w ∈ wsX7_isMoon := fun _ h => List.mem_cons_of_mem _ (List.mem_append_right _ (h))
  refine lv_iload_n (pc := 0) hx hb dX7_isMoon_0 rfl (lv_at hl 1 rfl) ?_
  refine zv_iconst (pc := 1) (n := 0) hx hb dX7_isMoon_1 ?_
  refine lv_aload_n (pc := 2) hx hb dX7_isMoon_2 rfl (lv_at hl 0 rfl) ?_
  refine zw_get (pc := 3) (ref := RX7) (index := 7) hx hb hts hin7 hown hW 0 rfl rfl 0 (by decide) (List.mem_of_getElem? (i := 1) rfl) (fun _ h9 => h9) rfl dX7_isMoon_3 ?_
  refine zv_iconst (pc := 6) (n := 3) hx hb dX7_isMoon_6 ?_
  refine zw_iald (pc := 7) hx hb hW 1 rfl (by omega) (by omega) (by decide) dX7_isMoon_7 ?_
  refine zv_iconst (pc := 8) (n := 1) hx hb dX7_isMoon_8 ?_
  refine zv_isub (pc := 9) hx hb dX7_isMoon_9 ?_
  refine z_S (pc := 10) (As := [.int (zI mo), .int (zI 0), .int (zI ((fa 3) - 1))]) (rest := []) (wn := (fun _ => [(z, .inr (7, [.ref r0, .ref r1, .ref r2, .ref r3, .ref r4, .int (zI km), .int (zI th), .ref r7, .int (zI bu), .int (zI pa), .int (zI pb), .int (zI ki), .int (zI nu), .int (zI wr), .int (zI wa), .int (zI ea), .long (zL lx), .long (zL ly), .long (zL lh), .long (zL lz), .ref r20, .int (zI go), .int (zI iT), .int (zI iM), .int (zI iK), .ref r25, .int (zI wm), .int (zI tm), .int (zI (zb te))])), (r0, .inl (zk G 0, 179, .inl (zA fa)))])) (wr := [(z, .inr (7, [.ref r0, .ref r1, .ref r2, .ref r3, .ref r4, .int (zI km), .int (zI th), .ref r7, .int (zI bu), .int (zI pa), .int (zI pb), .int (zI ki), .int (zI nu), .int (zI wr), .int (zI wa), .int (zI ea), .long (zL lx), .long (zL ly), .long (zL lh), .long (zL lz), .ref r20, .int (zI go), .int (zI iT), .int (zI iM), .int (zI iK), .ref r25, .int (zI wm), .int (zI tm), .int (zI (zb te))])), (r0, .inl (zk G 0, 179, .inl (zA fa)))]) F (kX7_isIn G l mo 0 ((fa 3) - 1) (by first | assumption | omega) (by first | assumption | omega) (by first | assumption | omega) (by first | assumption | omega) (by first | assumption | omega) (by first | assumption | omega)) (va_cwS 3 hts gX7_isMoon_X7_isIn rfl rfl rfl (by decide +kernel) ⟨Nat.le_of_ble_eq_true rfl, Nat.le_of_ble_eq_true rfl⟩) hW [] [0, 1] (by decide) rfl rfl rfl (by decide) (by decide) [0, 1] (by decide) (fun _ => rfl) (fun _ => rfl) rfl hl.1 rfl (Nat.le_of_ble_eq_true rfl) dX7_isMoon_10 ⟨Nat.le_of_ble_eq_true rfl, Nat.le_of_ble_eq_true rfl⟩ (fun _ H locs _ hW => ?_)
  show W p l e _ s m args below meth c H locs _ _ _ (F0 m 13 ls [.int (zI (zb (decide (0 ≤ mo ∧ mo ≤ ((fa 3) - 1)))))])
  refine zv_as (pc := 13) (a := zb (decide (0 ≤ mo ∧ mo ≤ ((fa 3) - 1)))) (b := zb (decide (0 ≤ mo ∧ mo < fa 3))) (congrArg zb (decide_eq_decide.mpr (by omega))) ?_
  exact ze_z (pc := 13) hx hb hr hlk hW () rfl trivial rfl dX7_isMoon_13

set_option maxHeartbeats 4000000 in
set_option maxRecDepth 100000 in
/-- isMisfit -/
theorem kX7_isMisfit (G : zG) (l : Launch) (z : Nat) (r0 : Nat) (r1 : Nat) (r2 : Nat) (r3 : Nat) (r4 : Nat) (km : Int) (th : Int) (r7 : Nat) (bu : Int) (pa : Int) (pb : Int) (ki : Int) (nu : Int) (wr : Int) (wa : Int) (ea : Int) (lx : Int) (ly : Int) (lh : Int) (lz : Int) (r20 : Nat) (go : Int) (iT : Int) (iM : Int) (iK : Int) (r25 : Nat) (wm : Int) (tm : Int) (te : Bool) (fa : Int → Int) (mo : Int) (h1 : 0 ≤ mo) (h2 : mo < 6) (hp1 : 0 ≤ fa 0) (hp2 : fa 0 ≤ 999) (a1 : 0 ≤ ya fa mo 0) (a2 : ya fa mo 0 ≤ 9999) (f1 : 0 ≤ ya fa mo 1) (f2 : ya fa mo 1 ≤ 100) (q1 : 0 ≤ ya fa mo 5) (q2 : ya fa mo 5 ≤ 99) : zM G l yX7_isMisfit wsX7_isMisfit { frames := 1, cells := 0, slots := 0, locals := 22 } [.ref z, .int (zI mo)] [(z, .inr (7, [.ref r0, .ref r1, .ref r2, .ref r3, .ref r4, .int (zI km), .int (zI th), .ref r7, .int (zI bu), .int (zI pa), .int (zI pb), .int (zI ki), .int (zI nu), .int (zI wr), .int (zI wa), .int (zI ea), .long (zL lx), .long (zL ly), .long (zL lh), .long (zL lz), .ref r20, .int (zI go), .int (zI iT), .int (zI iM), .int (zI iK), .ref r25, .int (zI wm), .int (zI tm), .int (zI (zb te))])), (r0, .inl (zk G 0, 179, .inl (zA fa)))] (S := Unit) (zri (fun _ => zb (!(zfit (fa 0) (ya fa mo))))) (fun _ => True) (fun _ => [(z, .inr (7, [.ref r0, .ref r1, .ref r2, .ref r3, .ref r4, .int (zI km), .int (zI th), .ref r7, .int (zI bu), .int (zI pa), .int (zI pb), .int (zI ki), .int (zI nu), .int (zI wr), .int (zI wa), .int (zI ea), .long (zL lx), .long (zL ly), .long (zL lh), .long (zL lz), .ref r20, .int (zI go), .int (zI iT), .int (zI iM), .int (zI iK), .ref r25, .int (zI wm), .int (zI tm), .int (zI (zb te))])), (r0, .inl (zk G 0, 179, .inl (zA fa)))]) 0 0 := by
  refine zM.of (cc := cX7_isMisfit) (maxL := 2) (ret := (some .boolean)) (by decide) rfl (Nat.le_of_ble_eq_true rfl) (l0 := [(0, .ref z), (1, .int (zI mo))]) rfl ?_
  intro p e s m args below meth c ls F hr hlk hnm hW hl
  obtain ⟨hx, hb, hml, hown, hts⟩ := id F
  have hin7 : ∀ w ∈ wsX70, w ∈ wsX7_isMisfit := fun _ h => List.mem_cons_of_mem _ (List.mem_append_right _ (h))
  have hm := zmul_abs (a := ya fa mo 0) (b := 100 - ya fa mo 1) (A := 9999) (B := 100) (C := 999900) (by omega) (by omega) rfl
  have hd := ztdiv_abs (d := 100) (D := 9999) (by omega) hm rfl
  refine lv_aload_n (pc := 0) hx hb dX7_isMisfit_0 rfl (lv_at hl 0 rfl) ?_
  refine lv_iload_n (pc := 1) hx hb dX7_isMisfit_1 rfl (lv_at hl 1 rfl) ?_
  refine zv_iconst (pc := 2) (n := 0) hx hb dX7_isMisfit_2 ?_
  refine z_V (pc := 3) (As := [.int (zI mo), .int (zI 0)]) (rest := []) (wn := (fun _ => [(z, .inr (7, [.ref r0, .ref r1, .ref r2, .ref r3, .ref r4, .int (zI km), .int (zI th), .ref r7, .int (zI bu), .int (zI pa), .int (zI pb), .int (zI ki), .int (zI nu), .int (zI wr), .int (zI wa), .int (zI ea), .long (zL lx), .long (zL ly), .long (zL lh), .long (zL lz), .ref r20, .int (zI go), .int (zI iT), .int (zI iM), .int (zI iK), .ref r25, .int (zI wm), .int (zI tm), .int (zI (zb te))])), (r0, .inl (zk G 0, 179, .inl (zA fa)))])) (wr := []) F (kX7_of G l z r0 r1 r2 r3 r4 km th r7 bu pa pb ki nu wr wa ea lx ly lh lz r20 go iT iM iK r25 wm tm te fa mo 0 (by first | assumption | omega) (by first | assumption | omega) (by first | assumption | omega) (by first | assumption | omega)) (cwV 2 hts gX7_isMisfit_X7_of rfl rfl rfl (by decide +kernel) ⟨Nat.le_of_ble_eq_true rfl, Nat.le_of_ble_eq_true rfl⟩) hW 0 rfl rfl [0, 1] [] (by decide) rfl rfl rfl (by decide) (by decide) [0, 1] (by decide) (fun _ => rfl) (fun _ => rfl) rfl hl.1 rfl (Nat.le_of_ble_eq_true rfl) dX7_isMisfit_3 ⟨Nat.le_of_ble_eq_true rfl, Nat.le_of_ble_eq_true rfl⟩ (fun _ H locs _ hW => ?_)
  show W p l e _ s m args below meth c H locs _ _ _ (F0 m 6 ls [.int (zI (ya fa mo 0))])
  refine zv_bipush (pc := 6) (n := 100) hx hb dX7_isMisfit_6 (by decide) ?_
  refine lv_aload_n (pc := 8) hx hb dX7_isMisfit_8 rfl (lv_at hl 0 rfl) ?_
  refine lv_iload_n (pc := 9) hx hb dX7_isMisfit_9 rfl (lv_at hl 1 rfl) ?_
  refine zv_iconst (pc := 10) (n := 1) hx hb dX7_isMisfit_10 ?_
  refine z_V (pc := 11) (As := [.int (zI mo), .int (zI 1)]) (rest := [.int (zI 100), .int (zI (ya fa mo 0))]) (wn := (fun _ => [(z, .inr (7, [.ref r0, .ref r1, .ref r2, .ref r3, .ref r4, .int (zI km), .int (zI th), .ref r7, .int (zI bu), .int (zI pa), .int (zI pb), .int (zI ki), .int (zI nu), .int (zI wr), .int (zI wa), .int (zI ea), .long (zL lx), .long (zL ly), .long (zL lh), .long (zL lz), .ref r20, .int (zI go), .int (zI iT), .int (zI iM), .int (zI iK), .ref r25, .int (zI wm), .int (zI tm), .int (zI (zb te))])), (r0, .inl (zk G 0, 179, .inl (zA fa)))])) (wr := []) F (kX7_of G l z r0 r1 r2 r3 r4 km th r7 bu pa pb ki nu wr wa ea lx ly lh lz r20 go iT iM iK r25 wm tm te fa mo 1 (by first | assumption | omega) (by first | assumption | omega) (by first | assumption | omega) (by first | assumption | omega)) (cwV 2 hts gX7_isMisfit_X7_of rfl rfl rfl (by decide +kernel) ⟨Nat.le_of_ble_eq_true rfl, Nat.le_of_ble_eq_true rfl⟩) hW 0 rfl rfl [0, 1] [] (by decide) rfl rfl rfl (by decide) (by decide) [0, 1] (by decide) (fun _ => rfl) (fun _ => rfl) rfl hl.1 rfl (Nat.le_of_ble_eq_true rfl) dX7_isMisfit_11 ⟨Nat.le_of_ble_eq_true rfl, Nat.le_of_ble_eq_true rfl⟩ (fun _ H locs _ hW => ?_)
  show W p l e _ s m args below meth c H locs _ _ _ (F0 m 14 ls [.int (zI (ya fa mo 1)), .int (zI 100), .int (zI (ya fa mo 0))])
  refine zv_isub (pc := 14) hx hb dX7_isMisfit_14 ?_
  refine zv_imul (pc := 15) hx hb dX7_isMisfit_15 ?_
  refine zv_bipush (pc := 16) (n := 100) hx hb dX7_isMisfit_16 (by decide) ?_
  refine zv_idiv (pc := 18) hx hb dX7_isMisfit_18 ⟨by omega, by omega⟩ ⟨by omega, by omega⟩ (by omega) ?_
  refine lv_aload_n (pc := 19) hx hb dX7_isMisfit_19 rfl (lv_at hl 0 rfl) ?_
  refine zw_get (pc := 20) (ref := RX7) (index := 7) hx hb hts hin7 hown hW 0 rfl rfl 0 (by decide) (List.mem_of_getElem? (i := 1) rfl) (fun _ h9 => h9) rfl dX7_isMisfit_20 ?_
  refine zv_iconst (pc := 23) (n := 0) hx hb dX7_isMisfit_23 ?_
  refine zw_iald (pc := 24) hx hb hW 1 rfl (by omega) (by omega) (by decide) dX7_isMisfit_24 ?_
  refine lv_aload_n (pc := 25) hx hb dX7_isMisfit_25 rfl (lv_at hl 0 rfl) ?_
  refine lv_iload_n (pc := 26) hx hb dX7_isMisfit_26 rfl (lv_at hl 1 rfl) ?_
  refine zv_iconst (pc := 27) (n := 5) hx hb dX7_isMisfit_27 ?_
  refine z_V (pc := 28) (As := [.int (zI mo), .int (zI 5)]) (rest := [.int (zI (fa 0)), .int (zI (Int.tdiv ((ya fa mo 0) * (100 - (ya fa mo 1))) 100))]) (wn := (fun _ => [(z, .inr (7, [.ref r0, .ref r1, .ref r2, .ref r3, .ref r4, .int (zI km), .int (zI th), .ref r7, .int (zI bu), .int (zI pa), .int (zI pb), .int (zI ki), .int (zI nu), .int (zI wr), .int (zI wa), .int (zI ea), .long (zL lx), .long (zL ly), .long (zL lh), .long (zL lz), .ref r20, .int (zI go), .int (zI iT), .int (zI iM), .int (zI iK), .ref r25, .int (zI wm), .int (zI tm), .int (zI (zb te))])), (r0, .inl (zk G 0, 179, .inl (zA fa)))])) (wr := []) F (kX7_of G l z r0 r1 r2 r3 r4 km th r7 bu pa pb ki nu wr wa ea lx ly lh lz r20 go iT iM iK r25 wm tm te fa mo 5 (by first | assumption | omega) (by first | assumption | omega) (by first | assumption | omega) (by first | assumption | omega)) (cwV 2 hts gX7_isMisfit_X7_of rfl rfl rfl (by decide +kernel) ⟨Nat.le_of_ble_eq_true rfl, Nat.le_of_ble_eq_true rfl⟩) hW 0 rfl rfl [0, 1] [] (by decide) rfl rfl rfl (by decide) (by decide) [0, 1] (by decide) (fun _ => rfl) (fun _ => rfl) rfl hl.1 rfl (Nat.le_of_ble_eq_true rfl) dX7_isMisfit_28 ⟨Nat.le_of_ble_eq_true rfl, Nat.le_of_ble_eq_true rfl⟩ (fun _ H locs _ hW => ?_)
  show W p l e _ s m args below meth c H locs _ _ _ (F0 m 31 ls [.int (zI (ya fa mo 5)), .int (zI (fa 0)), .int (zI (Int.tdiv ((ya fa mo 0) * (100 - (ya fa mo 1))) 100))])
  refine zv_iadd (pc := 31) hx hb dX7_isMisfit_31 ?_
  refine zv_icmp_gt (pc := 32) (tgt := 39) hx hb dX7_isMisfit_32 (by decide) ⟨by omega, by omega⟩ ⟨by omega, by omega⟩ (fun c32 => ?_) (fun c32 => ?_)
  · refine zv_iconst (pc := 39) (n := 0) hx hb dX7_isMisfit_39 ?_
    refine zv_as (pc := 40) (a := 0) (b := zb (!(zfit (fa 0) (ya fa mo)))) (by unfold zfit; first | (rw [decide_eq_true (show fa 0 + ya fa mo 5 < Int.tdiv (ya fa mo 0 * (100 - ya fa mo 1)) 100 by omega)]; rfl) | (rw [decide_eq_false (show ¬ (fa 0 + ya fa mo 5 < Int.tdiv (ya fa mo 0 * (100 - ya fa mo 1)) 100) by omega)]; rfl)) ?_
    exact ze_z (pc := 40) hx hb hr hlk hW () rfl trivial rfl dX7_isMisfit_40
  · refine zv_iconst (pc := 35) (n := 1) hx hb dX7_isMisfit_35 ?_
    refine lv_goto (pc := 36) (tgt := 40) hx hb dX7_isMisfit_36 (by decide) ?_
    refine zv_as (pc := 40) (a := 1) (b := zb (!(zfit (fa 0) (ya fa mo)))) (by unfold zfit; first | (rw [decide_eq_true (show fa 0 + ya fa mo 5 < Int.tdiv (ya fa mo 0 * (100 - ya fa mo 1)) 100 by omega)]; rfl) | (rw [decide_eq_false (show ¬ (fa 0 + ya fa mo 5 < Int.tdiv (ya fa mo 0 * (100 - ya fa mo 1)) 100) by omega)]; rfl)) ?_
    exact ze_z (pc := 40) hx hb hr hlk hW () rfl trivial rfl dX7_isMisfit_40

set_option maxHeartbeats 4000000 in
set_option maxRecDepth 100000 in
/-- inSight -/
theorem kX7_inSight (G : zG) (l : Launch) (z : Nat) (r0 : Nat) (r1 : Nat) (r2 : Nat) (r3 : Nat) (r4 : Nat) (km : Int) (th : Int) (r7 : Nat) (bu : Int) (pa : Int) (pb : Int) (ki : Int) (nu : Int) (wr : Int) (wa : Int) (ea : Int) (lx : Int) (ly : Int) (lh : Int) (lz : Int) (r20 : Nat) (go : Int) (iT : Int) (iM : Int) (iK : Int) (r25 : Nat) (wm : Int) (tm : Int) (te : Bool) (fa : Int → Int) (si : Int) (wh : Int) (h1 : 0 ≤ si) (h2 : si < 30) (h3 : 0 ≤ wh) (h4 : wh < 3) : zM G l yX7_inSight wsX7_inSight { frames := 0, cells := 0, slots := 0, locals := 0 } [.ref z, .int (zI si), .int (zI wh)] [(z, .inr (7, [.ref r0, .ref r1, .ref r2, .ref r3, .ref r4, .int (zI km), .int (zI th), .ref r7, .int (zI bu), .int (zI pa), .int (zI pb), .int (zI ki), .int (zI nu), .int (zI wr), .int (zI wa), .int (zI ea), .long (zL lx), .long (zL ly), .long (zL lh), .long (zL lz), .ref r20, .int (zI go), .int (zI iT), .int (zI iM), .int (zI iK), .ref r25, .int (zI wm), .int (zI tm), .int (zI (zb te))])), (r0, .inl (zk G 0, 179, .inl (zA fa)))] (S := Unit) (zri (fun _ => fa (89 + 3 * si + wh))) (fun _ => True) (fun _ => [(z, .inr (7, [.ref r0, .ref r1, .ref r2, .ref r3, .ref r4, .int (zI km), .int (zI th), .ref r7, .int (zI bu), .int (zI pa), .int (zI pb), .int (zI ki), .int (zI nu), .int (zI wr), .int (zI wa), .int (zI ea), .long (zL lx), .long (zL ly), .long (zL lh), .long (zL lz), .ref r20, .int (zI go), .int (zI iT), .int (zI iM), .int (zI iK), .ref r25, .int (zI wm), .int (zI tm), .int (zI (zb te))])), (r0, .inl (zk G 0, 179, .inl (zA fa)))]) 0 0 := by
  refine zM.of (cc := cX7_inSight) (maxL := 3) (ret := (some .int)) (by decide) rfl (Nat.le_of_ble_eq_true rfl) (l0 := [(0, .ref z), (1, .int (zI si)), (2, .int (zI wh))]) rfl ?_
  intro p e s m args below meth c ls F hr hlk hnm hW hl
  obtain ⟨hx, hb, hml, hown, hts⟩ := id F
  have hin7 : ∀ w ∈ wsX70, w ∈ wsX7_inSight := fun _ h => List.mem_cons_of_mem _ (List.mem_append_right _ (h))
  refine lv_aload_n (pc := 0) hx hb dX7_inSight_0 rfl (lv_at hl 0 rfl) ?_
  refine zw_get (pc := 1) (ref := RX7) (index := 7) hx hb hts hin7 hown hW 0 rfl rfl 0 (by decide) (List.mem_of_getElem? (i := 1) rfl) (fun _ h9 => h9) rfl dX7_inSight_1 ?_
  refine zv_bipush (pc := 4) (n := 89) hx hb dX7_inSight_4 (by decide) ?_
  refine zv_iconst (pc := 6) (n := 3) hx hb dX7_inSight_6 ?_
  refine lv_iload_n (pc := 7) hx hb dX7_inSight_7 rfl (lv_at hl 1 rfl) ?_
  refine zv_imul (pc := 8) hx hb dX7_inSight_8 ?_
  refine zv_iadd (pc := 9) hx hb dX7_inSight_9 ?_
  refine lv_iload_n (pc := 10) hx hb dX7_inSight_10 rfl (lv_at hl 2 rfl) ?_
  refine zv_iadd (pc := 11) hx hb dX7_inSight_11 ?_
  refine zw_iald (pc := 12) hx hb hW 1 rfl (by omega) (by omega) (by decide) dX7_inSight_12 ?_
  refine zv_as (pc := 13) (a := fa ((89 + (3 * si)) + wh)) (b := fa (89 + 3 * si + wh)) (by omega) ?_
  exact ze_i (pc := 13) hx hb hr hlk hW () rfl trivial rfl dX7_inSight_13

set_option maxHeartbeats 4000000 in
set_option maxRecDepth 100000 in
/-- rootOf -/
theorem kX7_rootOf (G : zG) (l : Launch) (v : Int) (h0 : 0 ≤ v) (h1 : v ≤ 10000) : zM G l yX7_rootOf wsX7_rootOf { frames := 0, cells := 0, slots := 0, locals := 0 } [.int (zI v)] [] (S := Unit) (zri (fun _ => zwid v)) (fun _ => True) (fun _ => []) 0 0 := by
  refine zM.of (cc := cX7_rootOf) (maxL := 2) (ret := (some .int)) (by decide) rfl (Nat.le_of_ble_eq_true rfl) (l0 := [(0, .int (zI v))]) rfl ?_
  intro p e s m args below meth c ls F hr hlk hnm hW hl
  obtain ⟨hx, hb, hml, hown, hts⟩ := id F
  refine zv_iconst (pc := 0) (n := 0) hx hb dX7_rootOf_0 ?_
  refine lv_istore_n (pc := 1) (lv' := [(1, .int (zI 0)), (0, .int (zI v))]) hx hb dX7_rootOf_1 rfl hl (by decide) rfl (fun ls hl => ?_)
  have J2 : ∀ (fuel2 : Nat) (w : Int) (w0 : 0 ≤ w) (w1 : w * w ≤ v) (w2 : w ≤ 100) (hfu2 : (101 - w).toNat < fuel2) (H : Heap) (locs : List Loc) (ls : Array Slot) (hW : zW G (va_A [] s.heap.size) s H locs []) (hl : lv_has ls 2 [(1, .int (zI w)), (0, .int (zI v))]), W p l e ({ frames := 0, cells := 0, slots := 0, locals := 0 } : Room) s m args below meth c H locs 0 0 (MQ below (zQ (S := Unit) (zri (fun _ => zwid v)) (fun _ => True) (zPost G [] s.heap.size (fun _ => [])) (va_A [] s.heap.size)) args s 0 0 (va_A [] s.heap.size)) (F0 m 2 ls []) := by
    intro fuel2
    induction fuel2 with
    | zero =>
      intro w w0 w1 w2 hfu2
      exact absurd hfu2 (Nat.not_lt_zero _)
    | succ fuel2 ih2 =>
      intro w w0 w1 w2 hfu2 H locs ls hW hl
      refine lv_iload_n (pc := 2) hx hb dX7_rootOf_2 rfl (lv_at hl 0 rfl) ?_
      refine zv_iconst (pc := 3) (n := 1) hx hb dX7_rootOf_3 ?_
      refine zv_iadd (pc := 4) hx hb dX7_rootOf_4 ?_
      refine lv_iload_n (pc := 5) hx hb dX7_rootOf_5 rfl (lv_at hl 0 rfl) ?_
      refine zv_iconst (pc := 6) (n := 1) hx hb dX7_rootOf_6 ?_
      refine zv_iadd (pc := 7) hx hb dX7_rootOf_7 ?_
      refine zv_imul (pc := 8) hx hb dX7_rootOf_8 ?_
      refine lv_iload_n (pc := 9) hx hb dX7_rootOf_9 rfl (lv_at hl 1 rfl) ?_
      refine zv_icmp_gt (pc := 10) (tgt := 19) hx hb dX7_rootOf_10 (by decide) (have q := zmul_abs (a := w + 1) (b := w + 1) (A := 101) (B := 101) (by omega) (by omega) rfl; ⟨by omega, by omega⟩) ⟨by omega, by omega⟩ (fun c10 => ?_) (fun c10 => ?_)
      · refine lv_iload_n (pc := 19) hx hb dX7_rootOf_19 rfl (lv_at hl 0 rfl) ?_
        refine zv_as (pc := 20) (a := w) (b := zwid v) ((zwid_is w0 w2 w1 c10).symm) ?_
        exact ze_i (pc := 20) hx hb hr hlk hW () rfl trivial rfl dX7_rootOf_20
      · refine zv_iinc (pc := 13) (lv' := [(1, .int (zI (w + 1))), (0, .int (zI v))]) hx hb dX7_rootOf_13 hl (k := 0) rfl (by decide) rfl (fun ls hl => ?_)
        refine lv_goto (pc := 16) (tgt := 2) hx hb dX7_rootOf_16 (by decide) ?_
        exact ih2 (w + 1) (by omega) (by omega) (by first | omega | (have q := zsq_le (a := 101) (b := w + 1) (by omega); omega)) (by omega) _ _ _ hW (lv_sub hl [0, 1] rfl)
  exact J2 (((101 - 0 : Int).toNat) + 1) 0 (by omega) (by omega) (by first | omega | (have q := zsq_le (a := 101) (b := w + 1) (by omega); omega)) (Nat.lt_succ_self _) _ _ _ hW (lv_sub hl [0, 1] rfl)

set_option maxHeartbeats 4000000 in
set_option maxRecDepth 100000 in
/-- sizeOf -/
theorem kX7_sizeOf (G : zG) (l : Launch) (v : Int) (h0 : -9000000000000000 ≤ v) (h1 : v ≤ 9000000000000000) : zM G l yX7_sizeOf wsX7_sizeOf { frames := 0, cells := 0, slots := 0, locals := 0 } [.long (zL v)] [] (S := Unit) (zrl (fun _ => zabs v)) (fun _ => True) (fun _ => []) 0 0 := by
  refine zM.of (cc := cX7_sizeOf) (maxL := 2) (ret := (some .long)) (by decide) rfl (Nat.le_of_ble_eq_true rfl) (l0 := [(0, .long (zL v))]) rfl ?_
  intro p e s m args below meth c ls F hr hlk hnm hW hl
  obtain ⟨hx, hb, hml, hown, hts⟩ := id F
  refine lv_lload_n (pc := 0) hx hb dX7_sizeOf_0 rfl (lv_at hl 0 rfl) ?_
  refine zv_lconst (pc := 1) (v := 0) hx hb dX7_sizeOf_1 rfl ?_
  refine zv_lcmp_ge (pc := 2) (tgt := 11) hx hb dX7_sizeOf_2 dX7_sizeOf_3 (by decide) ⟨by omega, by omega⟩ ⟨by omega, by omega⟩ (fun c2 => ?_) (fun c2 => ?_)
  · refine lv_lload_n (pc := 11) hx hb dX7_sizeOf_11 rfl (lv_at hl 0 rfl) ?_
    refine zv_asL (pc := 12) (a := v) (b := zabs v) (by unfold zabs; first | rw [if_pos (by omega)] | rw [if_neg (by omega)]) ?_
    exact ze_l (pc := 12) hx hb hr hlk hW () rfl trivial rfl dX7_sizeOf_12
  · refine lv_lload_n (pc := 6) hx hb dX7_sizeOf_6 rfl (lv_at hl 0 rfl) ?_
    refine zv_lneg (pc := 7) hx hb dX7_sizeOf_7 ?_
    refine lv_goto (pc := 8) (tgt := 12) hx hb dX7_sizeOf_8 (by decide) ?_
    refine zv_asL (pc := 12) (a := -v) (b := zabs v) (by unfold zabs; first | rw [if_pos (by omega)] | rw [if_neg (by omega)]) ?_
    exact ze_l (pc := 12) hx hb hr hlk hW () rfl trivial rfl dX7_sizeOf_12

set_option maxHeartbeats 4000000 in
set_option maxRecDepth 100000 in
/-- lays -/
theorem kX7_lays (G : zG) (l : Launch) (z : Nat) (r0 : Nat) (r1 : Nat) (r2 : Nat) (r3 : Nat) (r4 : Nat) (km : Int) (th : Int) (r7 : Nat) (bu : Int) (pa : Int) (pb : Int) (ki : Int) (nu : Int) (wr : Int) (wa : Int) (ea : Int) (lx : Int) (ly : Int) (lh : Int) (lz : Int) (r20 : Nat) (go : Int) (iT : Int) (iM : Int) (iK : Int) (r25 : Nat) (wm : Int) (tm : Int) (te : Bool) (fa : Int → Int) (mo : Int) (t : Int) (h1 : 0 ≤ mo) (h2 : mo < 6) (hg : zgok (ya fa mo)) (hd1 : 0 ≤ fa 1) (hd2 : fa 1 ≤ 359) (hr1 : -999 ≤ fa 2) (hr2 : fa 2 ≤ 999) (ht1 : 0 ≤ t) (ht2 : t ≤ 1000000) : zM G l yX7_lays wsX7_lays { frames := 4, cells := 0, slots := 0, locals := 88 } [.ref z, .int (zI mo), .int (zI t)] [(z, .inr (7, [.ref r0, .ref r1, .ref r2, .ref r3, .ref r4, .int (zI km), .int (zI th), .ref r7, .int (zI bu), .int (zI pa), .int (zI pb), .int (zI ki), .int (zI nu), .int (zI wr), .int (zI wa), .int (zI ea), .long (zL lx), .long (zL ly), .long (zL lh), .long (zL lz), .ref r20, .int (zI go), .int (zI iT), .int (zI iM), .int (zI iK), .ref r25, .int (zI wm), .int (zI tm), .int (zI (zb te))])), (r0, .inl (zk G 0, 179, .inl (zA fa)))] (S := Unit) zrv (fun _ => True) (fun _ => [(z, .inr (7, [.ref r0, .ref r1, .ref r2, .ref r3, .ref r4, .int (zI km), .int (zI th), .ref r7, .int (zI bu), .int (zI pa), .int (zI pb), .int (zI ki), .int (zI nu), .int (zI wr), .int (zI wa), .int (zI ea), .long (zL (zlx (ya fa mo) t)), .long (zL (zly (ya fa mo) t)), .long (zL (zlh (fa 1) (fa 2) (ya fa mo) t)), .long (zL (zls (fa 1) (fa 2) (ya fa mo) t)), .ref r20, .int (zI go), .int (zI iT), .int (zI iM), .int (zI iK), .ref r25, .int (zI wm), .int (zI tm), .int (zI (zb te))])), (r0, .inl (zk G 0, 179, .inl (zA fa)))]) 0 0 := by
  refine zM.of (cc := cX7_lays) (maxL := 12) (ret := none) (by decide) rfl (Nat.le_of_ble_eq_true rfl) (l0 := [(0, .ref z), (1, .int (zI mo)), (2, .int (zI t))]) rfl ?_
  intro p e s m args below meth c ls F hr hlk hnm hW hl
  obtain ⟨hx, hb, hml, hown, hts⟩ := id F
  have hin7 : ∀ w ∈ wsX70, w ∈ wsX7_lays := fun _ h => List.mem_cons_of_mem _ (List.mem_append_right _ (h))
  obtain ⟨gf0, gf1, gf2, gf3, gf4, gf5⟩ : (2 ≤ (ya fa mo) 0 ∧ (ya fa mo) 0 ≤ 9999) ∧ (0 ≤ (ya fa mo) 1 ∧ (ya fa mo) 1 ≤ 60) ∧ (0 ≤ (ya fa mo) 2 ∧ (ya fa mo) 2 ≤ 359) ∧ (8 ≤ (ya fa mo) 3 ∧ (ya fa mo) 3 ≤ 99999) ∧ (0 ≤ (ya fa mo) 4 ∧ (ya fa mo) 4 ≤ 359) ∧ (0 ≤ (ya fa mo) 5 ∧ (ya fa mo) 5 ≤ 99) := id hg
  have bal := zal_in (t := t) hg
  have bac := zac_in (t := t) hg
  have bx := zlx_in (t := t) hg
  have by1 := zly_in (t := t) hg
  have bw := zac_mul hg
  have bn1 := zs_in (100 * ya fa mo 2)
  have bn2 := zs_in (100 * ya fa mo 2 + 9000)
  have bm1 := zmul_abs (B := 10000) bal bn2 rfl
  have bm2 := zmul_abs (B := 10000) bac bn1 rfl
  have bm3 := zmul_abs (B := 10000) bal bn1 rfl
  have bm4 := zmul_abs (B := 10000) bac bn2 rfl
  have hl1 : zs (zli (fa 1) (fa 2) t % 36000) = zs (zli (fa 1) (fa 2) t) := zs_mod (by omega)
  have hl2 : zs (zli (fa 1) (fa 2) t % 36000 + 9000) = zs (zli (fa 1) (fa 2) t + 9000) := zs_mod (by omega)
  have bl1 := zs_in (zli (fa 1) (fa 2) t % 36000)
  have bl2 := zs_in (zli (fa 1) (fa 2) t % 36000 + 9000)
  have bq1 := zmul_abs (B := 10000) bx bl2 rfl
  have bq2 := zmul_abs (B := 10000) by1 bl1 rfl
  have bq3 := zmul_abs (B := 10000) by1 bl2 rfl
  have bq4 := zmul_abs (B := 10000) bx bl1 rfl
  have htu1 : 0 ≤ Int.tdiv (36000 * t) (ya fa mo 3) := Int.tdiv_nonneg (by omega) (by omega)
  have htu2 := Int.natAbs_tdiv_le_natAbs (36000 * t) (ya fa mo 3)
  have hf2 := zmul_abs (a := ya fa mo 1) (b := ya fa mo 1) (A := 60) (B := 60) (by omega) (by omega) rfl
  have hf3 := Int.mul_nonneg gf1.1 gf1.1
  refine lv_aload_n (pc := 0) hx hb dX7_lays_0 rfl (lv_at hl 0 rfl) ?_
  refine lv_iload_n (pc := 1) hx hb dX7_lays_1 rfl (lv_at hl 1 rfl) ?_
  refine zv_iconst (pc := 2) (n := 1) hx hb dX7_lays_2 ?_
  refine z_V (pc := 3) (As := [.int (zI mo), .int (zI 1)]) (rest := []) (wn := (fun _ => [(z, .inr (7, [.ref r0, .ref r1, .ref r2, .ref r3, .ref r4, .int (zI km), .int (zI th), .ref r7, .int (zI bu), .int (zI pa), .int (zI pb), .int (zI ki), .int (zI nu), .int (zI wr), .int (zI wa), .int (zI ea), .long (zL lx), .long (zL ly), .long (zL lh), .long (zL lz), .ref r20, .int (zI go), .int (zI iT), .int (zI iM), .int (zI iK), .ref r25, .int (zI wm), .int (zI tm), .int (zI (zb te))])), (r0, .inl (zk G 0, 179, .inl (zA fa)))])) (wr := []) F (kX7_of G l z r0 r1 r2 r3 r4 km th r7 bu pa pb ki nu wr wa ea lx ly lh lz r20 go iT iM iK r25 wm tm te fa mo 1 (by first | assumption | omega) (by first | assumption | omega) (by first | assumption | omega) (by first | assumption | omega)) (cwV 2 hts gX7_lays_X7_of rfl rfl rfl (by decide +kernel) ⟨Nat.le_of_ble_eq_true rfl, Nat.le_of_ble_eq_true rfl⟩) hW 0 rfl rfl [0, 1] [] (by decide) rfl rfl rfl (by decide) (by decide) [0, 1] (by decide) (fun _ => rfl) (fun _ => rfl) rfl hl.1 rfl (Nat.le_of_ble_eq_true rfl) dX7_lays_3 ⟨Nat.le_of_ble_eq_true rfl, Nat.le_of_ble_eq_true rfl⟩ (fun _ H locs _ hW => ?_)
  show W p l e _ s m args below meth c H locs _ _ _ (F0 m 6 ls [.int (zI (ya fa mo 1))])
  refine lv_istore_n (pc := 6) (lv' := [(3, .int (zI (ya fa mo 1))), (0, .ref z), (1, .int (zI mo)), (2, .int (zI t))]) hx hb dX7_lays_6 rfl hl (by decide) rfl (fun ls hl => ?_)
  refine zv_ldc2 (pc := 7) (v := 100) hx hb hown (hts _ (List.mem_of_getElem? (i := 1) rfl)) rfl dX7_lays_7 ?_
  refine lv_aload_n (pc := 10) hx hb dX7_lays_10 rfl (lv_at hl 1 rfl) ?_
  refine lv_iload_n (pc := 11) hx hb dX7_lays_11 rfl (lv_at hl 2 rfl) ?_
  refine zv_iconst (pc := 12) (n := 4) hx hb dX7_lays_12 ?_
  refine z_V (pc := 13) (As := [.int (zI mo), .int (zI 4)]) (rest := [.long (zL 100)]) (wn := (fun _ => [(z, .inr (7, [.ref r0, .ref r1, .ref r2, .ref r3, .ref r4, .int (zI km), .int (zI th), .ref r7, .int (zI bu), .int (zI pa), .int (zI pb), .int (zI ki), .int (zI nu), .int (zI wr), .int (zI wa), .int (zI ea), .long (zL lx), .long (zL ly), .long (zL lh), .long (zL lz), .ref r20, .int (zI go), .int (zI iT), .int (zI iM), .int (zI iK), .ref r25, .int (zI wm), .int (zI tm), .int (zI (zb te))])), (r0, .inl (zk G 0, 179, .inl (zA fa)))])) (wr := []) F (kX7_of G l z r0 r1 r2 r3 r4 km th r7 bu pa pb ki nu wr wa ea lx ly lh lz r20 go iT iM iK r25 wm tm te fa mo 4 (by first | assumption | omega) (by first | assumption | omega) (by first | assumption | omega) (by first | assumption | omega)) (cwV 2 hts gX7_lays_X7_of rfl rfl rfl (by decide +kernel) ⟨Nat.le_of_ble_eq_true rfl, Nat.le_of_ble_eq_true rfl⟩) hW 0 rfl rfl [0, 1] [] (by decide) rfl rfl rfl (by decide) (by decide) [0, 1] (by decide) (fun _ => rfl) (fun _ => rfl) rfl hl.1 rfl (Nat.le_of_ble_eq_true rfl) dX7_lays_13 ⟨Nat.le_of_ble_eq_true rfl, Nat.le_of_ble_eq_true rfl⟩ (fun _ H locs _ hW => ?_)
  show W p l e _ s m args below meth c H locs _ _ _ (F0 m 16 ls [.int (zI (ya fa mo 4)), .long (zL 100)])
  refine zv_i2l (pc := 16) hx hb dX7_lays_16 ⟨by omega, by omega⟩ ?_
  refine zv_lmul (pc := 17) hx hb dX7_lays_17 ?_
  refine zv_ldc2 (pc := 18) (v := 36000) hx hb hown (hts _ (List.mem_of_getElem? (i := 2) rfl)) rfl dX7_lays_18 ?_
  refine lv_iload_n (pc := 21) hx hb dX7_lays_21 rfl (lv_at hl 3 rfl) ?_
  refine zv_i2l (pc := 22) hx hb dX7_lays_22 ⟨by omega, by omega⟩ ?_
  refine zv_lmul (pc := 23) hx hb dX7_lays_23 ?_
  refine lv_aload_n (pc := 24) hx hb dX7_lays_24 rfl (lv_at hl 1 rfl) ?_
  refine lv_iload_n (pc := 25) hx hb dX7_lays_25 rfl (lv_at hl 2 rfl) ?_
  refine zv_iconst (pc := 26) (n := 3) hx hb dX7_lays_26 ?_
  refine z_V (pc := 27) (As := [.int (zI mo), .int (zI 3)]) (rest := [.long (zL (36000 * t)), .long (zL (100 * (ya fa mo 4)))]) (wn := (fun _ => [(z, .inr (7, [.ref r0, .ref r1, .ref r2, .ref r3, .ref r4, .int (zI km), .int (zI th), .ref r7, .int (zI bu), .int (zI pa), .int (zI pb), .int (zI ki), .int (zI nu), .int (zI wr), .int (zI wa), .int (zI ea), .long (zL lx), .long (zL ly), .long (zL lh), .long (zL lz), .ref r20, .int (zI go), .int (zI iT), .int (zI iM), .int (zI iK), .ref r25, .int (zI wm), .int (zI tm), .int (zI (zb te))])), (r0, .inl (zk G 0, 179, .inl (zA fa)))])) (wr := []) F (kX7_of G l z r0 r1 r2 r3 r4 km th r7 bu pa pb ki nu wr wa ea lx ly lh lz r20 go iT iM iK r25 wm tm te fa mo 3 (by first | assumption | omega) (by first | assumption | omega) (by first | assumption | omega) (by first | assumption | omega)) (cwV 2 hts gX7_lays_X7_of rfl rfl rfl (by decide +kernel) ⟨Nat.le_of_ble_eq_true rfl, Nat.le_of_ble_eq_true rfl⟩) hW 0 rfl rfl [0, 1] [] (by decide) rfl rfl rfl (by decide) (by decide) [0, 1] (by decide) (fun _ => rfl) (fun _ => rfl) rfl hl.1 rfl (Nat.le_of_ble_eq_true rfl) dX7_lays_27 ⟨Nat.le_of_ble_eq_true rfl, Nat.le_of_ble_eq_true rfl⟩ (fun _ H locs _ hW => ?_)
  show W p l e _ s m args below meth c H locs _ _ _ (F0 m 30 ls [.int (zI (ya fa mo 3)), .long (zL (36000 * t)), .long (zL (100 * (ya fa mo 4)))])
  refine zv_i2l (pc := 30) hx hb dX7_lays_30 ⟨by omega, by omega⟩ ?_
  refine zv_ldiv (pc := 31) hx hb dX7_lays_31 ⟨by omega, by omega⟩ ⟨by omega, by omega⟩ (by omega) ?_
  refine zv_ladd (pc := 32) hx hb dX7_lays_32 ?_
  refine zv_ldc2 (pc := 33) (v := 36000) hx hb hown (hts _ (List.mem_of_getElem? (i := 2) rfl)) rfl dX7_lays_33 ?_
  refine zv_lrem (pc := 36) hx hb dX7_lays_36 ⟨by omega, by omega⟩ ⟨by omega, by omega⟩ (by omega) ?_
  refine zv_l2i (pc := 37) hx hb dX7_lays_37 ?_
  refine zv_as (pc := 38) (a := Int.tmod ((100 * (ya fa mo 4)) + (Int.tdiv (36000 * t) (ya fa mo 3))) 36000) (b := zmean (ya fa mo) t) (rfl) ?_
  refine zv_name (fun M hM => ?_)
  refine lv_istore (pc := 38) (lv' := [(4, .int (zI M)), (3, .int (zI (ya fa mo 1))), (0, .ref z), (1, .int (zI mo)), (2, .int (zI t))]) hx hb dX7_lays_38 hl (by decide) rfl (fun ls hl => ?_)
  have hMr := zmean_in (g := ya fa mo) (t := t) hg ht1
  rw [← hM] at hMr
  refine lv_iload (pc := 40) hx hb dX7_lays_40 (lv_at hl 0 rfl) ?_
  refine lv_istore (pc := 42) (lv' := [(5, .int (zI M)), (4, .int (zI M)), (3, .int (zI (ya fa mo 1))), (0, .ref z), (1, .int (zI mo)), (2, .int (zI t))]) hx hb dX7_lays_42 hl (by decide) rfl (fun ls hl => ?_)
  refine zv_iconst (pc := 44) (n := 0) hx hb dX7_lays_44 ?_
  refine lv_istore (pc := 45) (lv' := [(6, .int (zI 0)), (5, .int (zI M)), (4, .int (zI M)), (3, .int (zI (ya fa mo 1))), (0, .ref z), (1, .int (zI mo)), (2, .int (zI t))]) hx hb dX7_lays_45 hl (by decide) rfl (fun ls hl => ?_)
  have J47 : ∀ (fuel47 : Nat) (E : Int) (k : Int) (k0 : 0 ≤ k) (k1 : k ≤ 6) (hE : zit M (ya fa mo 1) (6 - k).toNat E = zang (ya fa mo) t) (hEr : -4000 ≤ E - M ∧ E - M ≤ 4000) (hfu47 : (6 - k).toNat < fuel47) (H : Heap) (locs : List Loc) (ls : Array Slot) (hW : zW G (va_A [(z, .inr (7, [.ref r0, .ref r1, .ref r2, .ref r3, .ref r4, .int (zI km), .int (zI th), .ref r7, .int (zI bu), .int (zI pa), .int (zI pb), .int (zI ki), .int (zI nu), .int (zI wr), .int (zI wa), .int (zI ea), .long (zL lx), .long (zL ly), .long (zL lh), .long (zL lz), .ref r20, .int (zI go), .int (zI iT), .int (zI iM), .int (zI iK), .ref r25, .int (zI wm), .int (zI tm), .int (zI (zb te))])), (r0, .inl (zk G 0, 179, .inl (zA fa)))] s.heap.size) s H locs [(z, .inr (7, [.ref r0, .ref r1, .ref r2, .ref r3, .ref r4, .int (zI km), .int (zI th), .ref r7, .int (zI bu), .int (zI pa), .int (zI pb), .int (zI ki), .int (zI nu), .int (zI wr), .int (zI wa), .int (zI ea), .long (zL lx), .long (zL ly), .long (zL lh), .long (zL lz), .ref r20, .int (zI go), .int (zI iT), .int (zI iM), .int (zI iK), .ref r25, .int (zI wm), .int (zI tm), .int (zI (zb te))])), (r0, .inl (zk G 0, 179, .inl (zA fa)))]) (hl : lv_has ls 12 [(6, .int (zI k)), (5, .int (zI E)), (4, .int (zI M)), (3, .int (zI (ya fa mo 1))), (0, .ref z), (1, .int (zI mo)), (2, .int (zI t))]), W p l e ({ frames := 4, cells := 0, slots := 0, locals := 88 } : Room) s m args below meth c H locs 0 0 (MQ below (zQ (S := Unit) zrv (fun _ => True) (zPost G [(z, .inr (7, [.ref r0, .ref r1, .ref r2, .ref r3, .ref r4, .int (zI km), .int (zI th), .ref r7, .int (zI bu), .int (zI pa), .int (zI pb), .int (zI ki), .int (zI nu), .int (zI wr), .int (zI wa), .int (zI ea), .long (zL lx), .long (zL ly), .long (zL lh), .long (zL lz), .ref r20, .int (zI go), .int (zI iT), .int (zI iM), .int (zI iK), .ref r25, .int (zI wm), .int (zI tm), .int (zI (zb te))])), (r0, .inl (zk G 0, 179, .inl (zA fa)))] s.heap.size (fun _ => [(z, .inr (7, [.ref r0, .ref r1, .ref r2, .ref r3, .ref r4, .int (zI km), .int (zI th), .ref r7, .int (zI bu), .int (zI pa), .int (zI pb), .int (zI ki), .int (zI nu), .int (zI wr), .int (zI wa), .int (zI ea), .long (zL (zlx (ya fa mo) t)), .long (zL (zly (ya fa mo) t)), .long (zL (zlh (fa 1) (fa 2) (ya fa mo) t)), .long (zL (zls (fa 1) (fa 2) (ya fa mo) t)), .ref r20, .int (zI go), .int (zI iT), .int (zI iM), .int (zI iK), .ref r25, .int (zI wm), .int (zI tm), .int (zI (zb te))])), (r0, .inl (zk G 0, 179, .inl (zA fa)))])) (va_A [(z, .inr (7, [.ref r0, .ref r1, .ref r2, .ref r3, .ref r4, .int (zI km), .int (zI th), .ref r7, .int (zI bu), .int (zI pa), .int (zI pb), .int (zI ki), .int (zI nu), .int (zI wr), .int (zI wa), .int (zI ea), .long (zL lx), .long (zL ly), .long (zL lh), .long (zL lz), .ref r20, .int (zI go), .int (zI iT), .int (zI iM), .int (zI iK), .ref r25, .int (zI wm), .int (zI tm), .int (zI (zb te))])), (r0, .inl (zk G 0, 179, .inl (zA fa)))] s.heap.size)) args s 0 0 (va_A [(z, .inr (7, [.ref r0, .ref r1, .ref r2, .ref r3, .ref r4, .int (zI km), .int (zI th), .ref r7, .int (zI bu), .int (zI pa), .int (zI pb), .int (zI ki), .int (zI nu), .int (zI wr), .int (zI wa), .int (zI ea), .long (zL lx), .long (zL ly), .long (zL lh), .long (zL lz), .ref r20, .int (zI go), .int (zI iT), .int (zI iM), .int (zI iK), .ref r25, .int (zI wm), .int (zI tm), .int (zI (zb te))])), (r0, .inl (zk G 0, 179, .inl (zA fa)))] s.heap.size)) (F0 m 47 ls []) := by
    intro fuel47
    induction fuel47 with
    | zero =>
      intro E k k0 k1 hE hEr hfu47
      exact absurd hfu47 (Nat.not_lt_zero _)
    | succ fuel47 ih47 =>
      intro E k k0 k1 hE hEr hfu47 H locs ls hW hl
      refine lv_iload (pc := 47) hx hb dX7_lays_47 (lv_at hl 0 rfl) ?_
      refine zv_bipush (pc := 49) (n := 6) hx hb dX7_lays_49 (by decide) ?_
      refine zv_icmp_ge (pc := 51) (tgt := 79) hx hb dX7_lays_51 (by decide) ⟨by omega, by omega⟩ ⟨by omega, by omega⟩ (fun c51 => ?_) (fun c51 => ?_)
      · have e1 : (6 - k).toNat = 0 := by omega
        rw [e1] at hE
        have hE6 : E = zang (ya fa mo) t := hE
        have hzr := zang_in (g := ya fa mo) (t := t) hg ht1
        rw [← hE6] at hzr
        have b97 := zs_in (E + 9000)
        have b98 := zmul_abs (a := ya fa mo 0) (b := zs (E + 9000) - 100 * ya fa mo 1) (A := 10000) (B := 16000) (by omega) (by omega) rfl
        have b99 := zmul_abs (B := 10000) bw.2 (zs_in E) rfl
        refine lv_aload_n (pc := 79) hx hb dX7_lays_79 rfl (lv_at hl 4 rfl) ?_
        refine lv_iload_n (pc := 80) hx hb dX7_lays_80 rfl (lv_at hl 5 rfl) ?_
        refine zv_iconst (pc := 81) (n := 0) hx hb dX7_lays_81 ?_
        refine z_V (pc := 82) (As := [.int (zI mo), .int (zI 0)]) (rest := []) (wn := (fun _ => [(z, .inr (7, [.ref r0, .ref r1, .ref r2, .ref r3, .ref r4, .int (zI km), .int (zI th), .ref r7, .int (zI bu), .int (zI pa), .int (zI pb), .int (zI ki), .int (zI nu), .int (zI wr), .int (zI wa), .int (zI ea), .long (zL lx), .long (zL ly), .long (zL lh), .long (zL lz), .ref r20, .int (zI go), .int (zI iT), .int (zI iM), .int (zI iK), .ref r25, .int (zI wm), .int (zI tm), .int (zI (zb te))])), (r0, .inl (zk G 0, 179, .inl (zA fa)))])) (wr := []) F (kX7_of G l z r0 r1 r2 r3 r4 km th r7 bu pa pb ki nu wr wa ea lx ly lh lz r20 go iT iM iK r25 wm tm te fa mo 0 (by first | assumption | omega) (by first | assumption | omega) (by first | assumption | omega) (by first | assumption | omega)) (cwV 2 hts gX7_lays_X7_of rfl rfl rfl (by decide +kernel) ⟨Nat.le_of_ble_eq_true rfl, Nat.le_of_ble_eq_true rfl⟩) hW 0 rfl rfl [0, 1] [] (by decide) rfl rfl rfl (by decide) (by decide) [0, 1] (by decide) (fun _ => rfl) (fun _ => rfl) rfl hl.1 rfl (Nat.le_of_ble_eq_true rfl) dX7_lays_82 ⟨Nat.le_of_ble_eq_true rfl, Nat.le_of_ble_eq_true rfl⟩ (fun _ H locs _ hW => ?_)
        show W p l e _ s m args below meth c H locs _ _ _ (F0 m 85 ls [.int (zI (ya fa mo 0))])
        refine zv_i2l (pc := 85) hx hb dX7_lays_85 ⟨by omega, by omega⟩ ?_
        refine lv_iload (pc := 86) hx hb dX7_lays_86 (lv_at hl 1 rfl) ?_
        refine z_S (pc := 88) (As := [.int (zI E)]) (rest := [.long (zL (ya fa mo 0))]) (wn := (fun _ => [(z, .inr (7, [.ref r0, .ref r1, .ref r2, .ref r3, .ref r4, .int (zI km), .int (zI th), .ref r7, .int (zI bu), .int (zI pa), .int (zI pb), .int (zI ki), .int (zI nu), .int (zI wr), .int (zI wa), .int (zI ea), .long (zL lx), .long (zL ly), .long (zL lh), .long (zL lz), .ref r20, .int (zI go), .int (zI iT), .int (zI iM), .int (zI iK), .ref r25, .int (zI wm), .int (zI tm), .int (zI (zb te))])), (r0, .inl (zk G 0, 179, .inl (zA fa)))])) (wr := [(z, .inr (7, [.ref r0, .ref r1, .ref r2, .ref r3, .ref r4, .int (zI km), .int (zI th), .ref r7, .int (zI bu), .int (zI pa), .int (zI pb), .int (zI ki), .int (zI nu), .int (zI wr), .int (zI wa), .int (zI ea), .long (zL lx), .long (zL ly), .long (zL lh), .long (zL lz), .ref r20, .int (zI go), .int (zI iT), .int (zI iM), .int (zI iK), .ref r25, .int (zI wm), .int (zI tm), .int (zI (zb te))])), (r0, .inl (zk G 0, 179, .inl (zA fa)))]) F (kX7_cosineOf G l E (by first | assumption | omega) (by first | assumption | omega)) (va_cwS 1 hts gX7_lays_X7_cosineOf rfl rfl rfl (by decide +kernel) ⟨Nat.le_of_ble_eq_true rfl, Nat.le_of_ble_eq_true rfl⟩) hW [] [0, 1] (by decide) rfl rfl rfl (by decide) (by decide) [0, 1] (by decide) (fun _ => rfl) (fun _ => rfl) rfl hl.1 rfl (Nat.le_of_ble_eq_true rfl) dX7_lays_88 ⟨Nat.le_of_ble_eq_true rfl, Nat.le_of_ble_eq_true rfl⟩ (fun _ H locs _ hW => ?_)
        show W p l e _ s m args below meth c H locs _ _ _ (F0 m 91 ls [.int (zI (zs (E + 9000))), .long (zL (ya fa mo 0))])
        have zr88 := zs_in (E + 9000)
        refine zv_bipush (pc := 91) (n := 100) hx hb dX7_lays_91 (by decide) ?_
        refine lv_iload_n (pc := 93) hx hb dX7_lays_93 rfl (lv_at hl 3 rfl) ?_
        refine zv_imul (pc := 94) hx hb dX7_lays_94 ?_
        refine zv_isub (pc := 95) hx hb dX7_lays_95 ?_
        refine zv_i2l (pc := 96) hx hb dX7_lays_96 ⟨by omega, by omega⟩ ?_
        refine zv_lmul (pc := 97) hx hb dX7_lays_97 ?_
        refine zv_ldc2 (pc := 98) (v := 100) hx hb hown (hts _ (List.mem_of_getElem? (i := 1) rfl)) rfl dX7_lays_98 ?_
        refine zv_ldiv (pc := 101) hx hb dX7_lays_101 ⟨by omega, by omega⟩ ⟨by omega, by omega⟩ (by omega) ?_
        refine zv_asL (pc := 102) (a := Int.tdiv ((ya fa mo 0) * ((zs (E + 9000)) - (100 * (ya fa mo 1)))) 100) (b := zal (ya fa mo) t) (by rw [hE6]; rfl) ?_
        refine lv_lstore (pc := 102) (lv' := [(6, .long (zL (zal (ya fa mo) t))), (5, .int (zI E)), (4, .int (zI M)), (3, .int (zI (ya fa mo 1))), (0, .ref z), (1, .int (zI mo)), (2, .int (zI t))]) hx hb dX7_lays_102 hl (by decide) rfl (fun ls hl => ?_)
        refine lv_aload_n (pc := 104) hx hb dX7_lays_104 rfl (lv_at hl 4 rfl) ?_
        refine lv_iload_n (pc := 105) hx hb dX7_lays_105 rfl (lv_at hl 5 rfl) ?_
        refine zv_iconst (pc := 106) (n := 0) hx hb dX7_lays_106 ?_
        refine z_V (pc := 107) (As := [.int (zI mo), .int (zI 0)]) (rest := []) (wn := (fun _ => [(z, .inr (7, [.ref r0, .ref r1, .ref r2, .ref r3, .ref r4, .int (zI km), .int (zI th), .ref r7, .int (zI bu), .int (zI pa), .int (zI pb), .int (zI ki), .int (zI nu), .int (zI wr), .int (zI wa), .int (zI ea), .long (zL lx), .long (zL ly), .long (zL lh), .long (zL lz), .ref r20, .int (zI go), .int (zI iT), .int (zI iM), .int (zI iK), .ref r25, .int (zI wm), .int (zI tm), .int (zI (zb te))])), (r0, .inl (zk G 0, 179, .inl (zA fa)))])) (wr := []) F (kX7_of G l z r0 r1 r2 r3 r4 km th r7 bu pa pb ki nu wr wa ea lx ly lh lz r20 go iT iM iK r25 wm tm te fa mo 0 (by first | assumption | omega) (by first | assumption | omega) (by first | assumption | omega) (by first | assumption | omega)) (cwV 2 hts gX7_lays_X7_of rfl rfl rfl (by decide +kernel) ⟨Nat.le_of_ble_eq_true rfl, Nat.le_of_ble_eq_true rfl⟩) hW 0 rfl rfl [0, 1] [] (by decide) rfl rfl rfl (by decide) (by decide) [0, 1] (by decide) (fun _ => rfl) (fun _ => rfl) rfl hl.1 rfl (Nat.le_of_ble_eq_true rfl) dX7_lays_107 ⟨Nat.le_of_ble_eq_true rfl, Nat.le_of_ble_eq_true rfl⟩ (fun _ H locs _ hW => ?_)
        show W p l e _ s m args below meth c H locs _ _ _ (F0 m 110 ls [.int (zI (ya fa mo 0))])
        refine zv_i2l (pc := 110) hx hb dX7_lays_110 ⟨by omega, by omega⟩ ?_
        refine zv_sipush (pc := 111) (n := 10000) hx hb dX7_lays_111 (by decide) ?_
        refine lv_iload_n (pc := 114) hx hb dX7_lays_114 rfl (lv_at hl 3 rfl) ?_
        refine lv_iload_n (pc := 115) hx hb dX7_lays_115 rfl (lv_at hl 3 rfl) ?_
        refine zv_imul (pc := 116) hx hb dX7_lays_116 ?_
        refine zv_isub (pc := 117) hx hb dX7_lays_117 ?_
        refine z_S (pc := 118) (As := [.int (zI (10000 - ((ya fa mo 1) * (ya fa mo 1))))]) (rest := [.long (zL (ya fa mo 0))]) (wn := (fun _ => [(z, .inr (7, [.ref r0, .ref r1, .ref r2, .ref r3, .ref r4, .int (zI km), .int (zI th), .ref r7, .int (zI bu), .int (zI pa), .int (zI pb), .int (zI ki), .int (zI nu), .int (zI wr), .int (zI wa), .int (zI ea), .long (zL lx), .long (zL ly), .long (zL lh), .long (zL lz), .ref r20, .int (zI go), .int (zI iT), .int (zI iM), .int (zI iK), .ref r25, .int (zI wm), .int (zI tm), .int (zI (zb te))])), (r0, .inl (zk G 0, 179, .inl (zA fa)))])) (wr := [(z, .inr (7, [.ref r0, .ref r1, .ref r2, .ref r3, .ref r4, .int (zI km), .int (zI th), .ref r7, .int (zI bu), .int (zI pa), .int (zI pb), .int (zI ki), .int (zI nu), .int (zI wr), .int (zI wa), .int (zI ea), .long (zL lx), .long (zL ly), .long (zL lh), .long (zL lz), .ref r20, .int (zI go), .int (zI iT), .int (zI iM), .int (zI iK), .ref r25, .int (zI wm), .int (zI tm), .int (zI (zb te))])), (r0, .inl (zk G 0, 179, .inl (zA fa)))]) F (kX7_rootOf G l (10000 - ((ya fa mo 1) * (ya fa mo 1))) (by first | assumption | omega) (by first | assumption | omega)) (va_cwS 1 hts gX7_lays_X7_rootOf rfl rfl rfl (by decide +kernel) ⟨Nat.le_of_ble_eq_true rfl, Nat.le_of_ble_eq_true rfl⟩) hW [] [0, 1] (by decide) rfl rfl rfl (by decide) (by decide) [0, 1] (by decide) (fun _ => rfl) (fun _ => rfl) rfl hl.1 rfl (Nat.le_of_ble_eq_true rfl) dX7_lays_118 ⟨Nat.le_of_ble_eq_true rfl, Nat.le_of_ble_eq_true rfl⟩ (fun _ H locs _ hW => ?_)
        show W p l e _ s m args below meth c H locs _ _ _ (F0 m 121 ls [.int (zI (zwid (10000 - ((ya fa mo 1) * (ya fa mo 1))))), .long (zL (ya fa mo 0))])
        have wd118 := zwid_sp (v := (10000 - ((ya fa mo 1) * (ya fa mo 1)))) (by omega) (by omega)
        refine zv_i2l (pc := 121) hx hb dX7_lays_121 ⟨by omega, by omega⟩ ?_
        refine zv_lmul (pc := 122) hx hb dX7_lays_122 ?_
        refine lv_iload (pc := 123) hx hb dX7_lays_123 (lv_at hl 1 rfl) ?_
        refine z_S (pc := 125) (As := [.int (zI E)]) (rest := [.long (zL ((ya fa mo 0) * (zwid (10000 - ((ya fa mo 1) * (ya fa mo 1))))))]) (wn := (fun _ => [(z, .inr (7, [.ref r0, .ref r1, .ref r2, .ref r3, .ref r4, .int (zI km), .int (zI th), .ref r7, .int (zI bu), .int (zI pa), .int (zI pb), .int (zI ki), .int (zI nu), .int (zI wr), .int (zI wa), .int (zI ea), .long (zL lx), .long (zL ly), .long (zL lh), .long (zL lz), .ref r20, .int (zI go), .int (zI iT), .int (zI iM), .int (zI iK), .ref r25, .int (zI wm), .int (zI tm), .int (zI (zb te))])), (r0, .inl (zk G 0, 179, .inl (zA fa)))])) (wr := [(z, .inr (7, [.ref r0, .ref r1, .ref r2, .ref r3, .ref r4, .int (zI km), .int (zI th), .ref r7, .int (zI bu), .int (zI pa), .int (zI pb), .int (zI ki), .int (zI nu), .int (zI wr), .int (zI wa), .int (zI ea), .long (zL lx), .long (zL ly), .long (zL lh), .long (zL lz), .ref r20, .int (zI go), .int (zI iT), .int (zI iM), .int (zI iK), .ref r25, .int (zI wm), .int (zI tm), .int (zI (zb te))])), (r0, .inl (zk G 0, 179, .inl (zA fa)))]) F (kX7_sineOf G l E (by first | assumption | omega) (by first | assumption | omega)) (va_cwS 1 hts gX7_lays_X7_sineOf rfl rfl rfl (by decide +kernel) ⟨Nat.le_of_ble_eq_true rfl, Nat.le_of_ble_eq_true rfl⟩) hW [] [0, 1] (by decide) rfl rfl rfl (by decide) (by decide) [0, 1] (by decide) (fun _ => rfl) (fun _ => rfl) rfl hl.1 rfl (Nat.le_of_ble_eq_true rfl) dX7_lays_125 ⟨Nat.le_of_ble_eq_true rfl, Nat.le_of_ble_eq_true rfl⟩ (fun _ H locs _ hW => ?_)
        show W p l e _ s m args below meth c H locs _ _ _ (F0 m 128 ls [.int (zI (zs E)), .long (zL ((ya fa mo 0) * (zwid (10000 - ((ya fa mo 1) * (ya fa mo 1))))))])
        have zr125 := zs_in (E)
        refine zv_i2l (pc := 128) hx hb dX7_lays_128 ⟨by omega, by omega⟩ ?_
        refine zv_lmul (pc := 129) hx hb dX7_lays_129 ?_
        refine zv_ldc2 (pc := 130) (v := 10000) hx hb hown (hts _ (List.mem_of_getElem? (i := 4) rfl)) rfl dX7_lays_130 ?_
        refine zv_ldiv (pc := 133) hx hb dX7_lays_133 ⟨by omega, by omega⟩ ⟨by omega, by omega⟩ (by omega) ?_
        refine zv_asL (pc := 134) (a := Int.tdiv (((ya fa mo 0) * (zwid (10000 - ((ya fa mo 1) * (ya fa mo 1))))) * (zs E)) 10000) (b := zac (ya fa mo) t) (by rw [hE6]; rfl) ?_
        refine lv_lstore (pc := 134) (lv' := [(8, .long (zL (zac (ya fa mo) t))), (6, .long (zL (zal (ya fa mo) t))), (5, .int (zI E)), (4, .int (zI M)), (3, .int (zI (ya fa mo 1))), (0, .ref z), (1, .int (zI mo)), (2, .int (zI t))]) hx hb dX7_lays_134 hl (by decide) rfl (fun ls hl => ?_)
        refine zv_bipush (pc := 136) (n := 100) hx hb dX7_lays_136 (by decide) ?_
        refine lv_aload_n (pc := 138) hx hb dX7_lays_138 rfl (lv_at hl 5 rfl) ?_
        refine lv_iload_n (pc := 139) hx hb dX7_lays_139 rfl (lv_at hl 6 rfl) ?_
        refine zv_iconst (pc := 140) (n := 2) hx hb dX7_lays_140 ?_
        refine z_V (pc := 141) (As := [.int (zI mo), .int (zI 2)]) (rest := [.int (zI 100)]) (wn := (fun _ => [(z, .inr (7, [.ref r0, .ref r1, .ref r2, .ref r3, .ref r4, .int (zI km), .int (zI th), .ref r7, .int (zI bu), .int (zI pa), .int (zI pb), .int (zI ki), .int (zI nu), .int (zI wr), .int (zI wa), .int (zI ea), .long (zL lx), .long (zL ly), .long (zL lh), .long (zL lz), .ref r20, .int (zI go), .int (zI iT), .int (zI iM), .int (zI iK), .ref r25, .int (zI wm), .int (zI tm), .int (zI (zb te))])), (r0, .inl (zk G 0, 179, .inl (zA fa)))])) (wr := []) F (kX7_of G l z r0 r1 r2 r3 r4 km th r7 bu pa pb ki nu wr wa ea lx ly lh lz r20 go iT iM iK r25 wm tm te fa mo 2 (by first | assumption | omega) (by first | assumption | omega) (by first | assumption | omega) (by first | assumption | omega)) (cwV 2 hts gX7_lays_X7_of rfl rfl rfl (by decide +kernel) ⟨Nat.le_of_ble_eq_true rfl, Nat.le_of_ble_eq_true rfl⟩) hW 0 rfl rfl [0, 1] [] (by decide) rfl rfl rfl (by decide) (by decide) [0, 1] (by decide) (fun _ => rfl) (fun _ => rfl) rfl hl.1 rfl (Nat.le_of_ble_eq_true rfl) dX7_lays_141 ⟨Nat.le_of_ble_eq_true rfl, Nat.le_of_ble_eq_true rfl⟩ (fun _ H locs _ hW => ?_)
        show W p l e _ s m args below meth c H locs _ _ _ (F0 m 144 ls [.int (zI (ya fa mo 2)), .int (zI 100)])
        refine zv_imul (pc := 144) hx hb dX7_lays_144 ?_
        refine lv_istore (pc := 145) (lv' := [(10, .int (zI (100 * (ya fa mo 2)))), (8, .long (zL (zac (ya fa mo) t))), (6, .long (zL (zal (ya fa mo) t))), (5, .int (zI E)), (4, .int (zI M)), (3, .int (zI (ya fa mo 1))), (0, .ref z), (1, .int (zI mo)), (2, .int (zI t))]) hx hb dX7_lays_145 hl (by decide) rfl (fun ls hl => ?_)
        refine lv_aload_n (pc := 147) hx hb dX7_lays_147 rfl (lv_at hl 6 rfl) ?_
        refine lv_lload (pc := 148) hx hb dX7_lays_148 (lv_at hl 2 rfl) ?_
        refine lv_iload (pc := 150) hx hb dX7_lays_150 (lv_at hl 0 rfl) ?_
        refine z_S (pc := 152) (As := [.int (zI (100 * (ya fa mo 2)))]) (rest := [.long (zL (zal (ya fa mo) t)), .ref z]) (wn := (fun _ => [(z, .inr (7, [.ref r0, .ref r1, .ref r2, .ref r3, .ref r4, .int (zI km), .int (zI th), .ref r7, .int (zI bu), .int (zI pa), .int (zI pb), .int (zI ki), .int (zI nu), .int (zI wr), .int (zI wa), .int (zI ea), .long (zL lx), .long (zL ly), .long (zL lh), .long (zL lz), .ref r20, .int (zI go), .int (zI iT), .int (zI iM), .int (zI iK), .ref r25, .int (zI wm), .int (zI tm), .int (zI (zb te))])), (r0, .inl (zk G 0, 179, .inl (zA fa)))])) (wr := [(z, .inr (7, [.ref r0, .ref r1, .ref r2, .ref r3, .ref r4, .int (zI km), .int (zI th), .ref r7, .int (zI bu), .int (zI pa), .int (zI pb), .int (zI ki), .int (zI nu), .int (zI wr), .int (zI wa), .int (zI ea), .long (zL lx), .long (zL ly), .long (zL lh), .long (zL lz), .ref r20, .int (zI go), .int (zI iT), .int (zI iM), .int (zI iK), .ref r25, .int (zI wm), .int (zI tm), .int (zI (zb te))])), (r0, .inl (zk G 0, 179, .inl (zA fa)))]) F (kX7_cosineOf G l (100 * (ya fa mo 2)) (by first | assumption | omega) (by first | assumption | omega)) (va_cwS 1 hts gX7_lays_X7_cosineOf rfl rfl rfl (by decide +kernel) ⟨Nat.le_of_ble_eq_true rfl, Nat.le_of_ble_eq_true rfl⟩) hW [] [0, 1] (by decide) rfl rfl rfl (by decide) (by decide) [0, 1] (by decide) (fun _ => rfl) (fun _ => rfl) rfl hl.1 rfl (Nat.le_of_ble_eq_true rfl) dX7_lays_152 ⟨Nat.le_of_ble_eq_true rfl, Nat.le_of_ble_eq_true rfl⟩ (fun _ H locs _ hW => ?_)
        show W p l e _ s m args below meth c H locs _ _ _ (F0 m 155 ls [.int (zI (zs ((100 * (ya fa mo 2)) + 9000))), .long (zL (zal (ya fa mo) t)), .ref z])
        have zr152 := zs_in ((100 * (ya fa mo 2)) + 9000)
        refine zv_i2l (pc := 155) hx hb dX7_lays_155 ⟨by omega, by omega⟩ ?_
        refine zv_lmul (pc := 156) hx hb dX7_lays_156 ?_
        refine lv_lload (pc := 157) hx hb dX7_lays_157 (lv_at hl 1 rfl) ?_
        refine lv_iload (pc := 159) hx hb dX7_lays_159 (lv_at hl 0 rfl) ?_
        refine z_S (pc := 161) (As := [.int (zI (100 * (ya fa mo 2)))]) (rest := [.long (zL (zac (ya fa mo) t)), .long (zL ((zal (ya fa mo) t) * (zs ((100 * (ya fa mo 2)) + 9000)))), .ref z]) (wn := (fun _ => [(z, .inr (7, [.ref r0, .ref r1, .ref r2, .ref r3, .ref r4, .int (zI km), .int (zI th), .ref r7, .int (zI bu), .int (zI pa), .int (zI pb), .int (zI ki), .int (zI nu), .int (zI wr), .int (zI wa), .int (zI ea), .long (zL lx), .long (zL ly), .long (zL lh), .long (zL lz), .ref r20, .int (zI go), .int (zI iT), .int (zI iM), .int (zI iK), .ref r25, .int (zI wm), .int (zI tm), .int (zI (zb te))])), (r0, .inl (zk G 0, 179, .inl (zA fa)))])) (wr := [(z, .inr (7, [.ref r0, .ref r1, .ref r2, .ref r3, .ref r4, .int (zI km), .int (zI th), .ref r7, .int (zI bu), .int (zI pa), .int (zI pb), .int (zI ki), .int (zI nu), .int (zI wr), .int (zI wa), .int (zI ea), .long (zL lx), .long (zL ly), .long (zL lh), .long (zL lz), .ref r20, .int (zI go), .int (zI iT), .int (zI iM), .int (zI iK), .ref r25, .int (zI wm), .int (zI tm), .int (zI (zb te))])), (r0, .inl (zk G 0, 179, .inl (zA fa)))]) F (kX7_sineOf G l (100 * (ya fa mo 2)) (by first | assumption | omega) (by first | assumption | omega)) (va_cwS 1 hts gX7_lays_X7_sineOf rfl rfl rfl (by decide +kernel) ⟨Nat.le_of_ble_eq_true rfl, Nat.le_of_ble_eq_true rfl⟩) hW [] [0, 1] (by decide) rfl rfl rfl (by decide) (by decide) [0, 1] (by decide) (fun _ => rfl) (fun _ => rfl) rfl hl.1 rfl (Nat.le_of_ble_eq_true rfl) dX7_lays_161 ⟨Nat.le_of_ble_eq_true rfl, Nat.le_of_ble_eq_true rfl⟩ (fun _ H locs _ hW => ?_)
        show W p l e _ s m args below meth c H locs _ _ _ (F0 m 164 ls [.int (zI (zs (100 * (ya fa mo 2)))), .long (zL (zac (ya fa mo) t)), .long (zL ((zal (ya fa mo) t) * (zs ((100 * (ya fa mo 2)) + 9000)))), .ref z])
        have zr161 := zs_in ((100 * (ya fa mo 2)))
        refine zv_i2l (pc := 164) hx hb dX7_lays_164 ⟨by omega, by omega⟩ ?_
        refine zv_lmul (pc := 165) hx hb dX7_lays_165 ?_
        refine zv_lsub (pc := 166) hx hb dX7_lays_166 ?_
        refine zv_ldc2 (pc := 167) (v := 10000) hx hb hown (hts _ (List.mem_of_getElem? (i := 4) rfl)) rfl dX7_lays_167 ?_
        refine zv_ldiv (pc := 170) hx hb dX7_lays_170 ⟨by omega, by omega⟩ ⟨by omega, by omega⟩ (by omega) ?_
        refine zv_asL (pc := 171) (a := Int.tdiv (((zal (ya fa mo) t) * (zs ((100 * (ya fa mo 2)) + 9000))) - ((zac (ya fa mo) t) * (zs (100 * (ya fa mo 2))))) 10000) (b := zlx (ya fa mo) t) (rfl) ?_
        refine zw_put (pc := 171) (ws' := [(z, .inr (7, [.ref r0, .ref r1, .ref r2, .ref r3, .ref r4, .int (zI km), .int (zI th), .ref r7, .int (zI bu), .int (zI pa), .int (zI pb), .int (zI ki), .int (zI nu), .int (zI wr), .int (zI wa), .int (zI ea), .long (zL (zlx (ya fa mo) t)), .long (zL ly), .long (zL lh), .long (zL lz), .ref r20, .int (zI go), .int (zI iT), .int (zI iM), .int (zI iK), .ref r25, .int (zI wm), .int (zI tm), .int (zI (zb te))])), (r0, .inl (zk G 0, 179, .inl (zA fa)))]) (ref := RX7) (index := 227) hx hb hts hin7 tyX7 tyX7_ok nmX7 hown hW 0 rfl rfl 16 (by decide) (List.mem_of_getElem? (i := 5) rfl) (fun _ h9 => h9) rfl (tyX7_ok 16 (by decide)) rfl rfl (Nat.le_of_ble_eq_true rfl) rfl dX7_lays_171 (fun H locs hW => ?_)
        refine lv_aload_n (pc := 174) hx hb dX7_lays_174 rfl (lv_at hl 6 rfl) ?_
        refine lv_lload (pc := 175) hx hb dX7_lays_175 (lv_at hl 2 rfl) ?_
        refine lv_iload (pc := 177) hx hb dX7_lays_177 (lv_at hl 0 rfl) ?_
        refine z_S (pc := 179) (As := [.int (zI (100 * (ya fa mo 2)))]) (rest := [.long (zL (zal (ya fa mo) t)), .ref z]) (wn := (fun _ => [(z, .inr (7, [.ref r0, .ref r1, .ref r2, .ref r3, .ref r4, .int (zI km), .int (zI th), .ref r7, .int (zI bu), .int (zI pa), .int (zI pb), .int (zI ki), .int (zI nu), .int (zI wr), .int (zI wa), .int (zI ea), .long (zL (zlx (ya fa mo) t)), .long (zL ly), .long (zL lh), .long (zL lz), .ref r20, .int (zI go), .int (zI iT), .int (zI iM), .int (zI iK), .ref r25, .int (zI wm), .int (zI tm), .int (zI (zb te))])), (r0, .inl (zk G 0, 179, .inl (zA fa)))])) (wr := [(z, .inr (7, [.ref r0, .ref r1, .ref r2, .ref r3, .ref r4, .int (zI km), .int (zI th), .ref r7, .int (zI bu), .int (zI pa), .int (zI pb), .int (zI ki), .int (zI nu), .int (zI wr), .int (zI wa), .int (zI ea), .long (zL (zlx (ya fa mo) t)), .long (zL ly), .long (zL lh), .long (zL lz), .ref r20, .int (zI go), .int (zI iT), .int (zI iM), .int (zI iK), .ref r25, .int (zI wm), .int (zI tm), .int (zI (zb te))])), (r0, .inl (zk G 0, 179, .inl (zA fa)))]) F (kX7_sineOf G l (100 * (ya fa mo 2)) (by first | assumption | omega) (by first | assumption | omega)) (va_cwS 1 hts gX7_lays_X7_sineOf rfl rfl rfl (by decide +kernel) ⟨Nat.le_of_ble_eq_true rfl, Nat.le_of_ble_eq_true rfl⟩) hW [] [0, 1] (by decide) rfl rfl rfl (by decide) (by decide) [0, 1] (by decide) (fun _ => rfl) (fun _ => rfl) rfl hl.1 rfl (Nat.le_of_ble_eq_true rfl) dX7_lays_179 ⟨Nat.le_of_ble_eq_true rfl, Nat.le_of_ble_eq_true rfl⟩ (fun _ H locs _ hW => ?_)
        show W p l e _ s m args below meth c H locs _ _ _ (F0 m 182 ls [.int (zI (zs (100 * (ya fa mo 2)))), .long (zL (zal (ya fa mo) t)), .ref z])
        have zr179 := zs_in ((100 * (ya fa mo 2)))
        refine zv_i2l (pc := 182) hx hb dX7_lays_182 ⟨by omega, by omega⟩ ?_
        refine zv_lmul (pc := 183) hx hb dX7_lays_183 ?_
        refine lv_lload (pc := 184) hx hb dX7_lays_184 (lv_at hl 1 rfl) ?_
        refine lv_iload (pc := 186) hx hb dX7_lays_186 (lv_at hl 0 rfl) ?_
        refine z_S (pc := 188) (As := [.int (zI (100 * (ya fa mo 2)))]) (rest := [.long (zL (zac (ya fa mo) t)), .long (zL ((zal (ya fa mo) t) * (zs (100 * (ya fa mo 2))))), .ref z]) (wn := (fun _ => [(z, .inr (7, [.ref r0, .ref r1, .ref r2, .ref r3, .ref r4, .int (zI km), .int (zI th), .ref r7, .int (zI bu), .int (zI pa), .int (zI pb), .int (zI ki), .int (zI nu), .int (zI wr), .int (zI wa), .int (zI ea), .long (zL (zlx (ya fa mo) t)), .long (zL ly), .long (zL lh), .long (zL lz), .ref r20, .int (zI go), .int (zI iT), .int (zI iM), .int (zI iK), .ref r25, .int (zI wm), .int (zI tm), .int (zI (zb te))])), (r0, .inl (zk G 0, 179, .inl (zA fa)))])) (wr := [(z, .inr (7, [.ref r0, .ref r1, .ref r2, .ref r3, .ref r4, .int (zI km), .int (zI th), .ref r7, .int (zI bu), .int (zI pa), .int (zI pb), .int (zI ki), .int (zI nu), .int (zI wr), .int (zI wa), .int (zI ea), .long (zL (zlx (ya fa mo) t)), .long (zL ly), .long (zL lh), .long (zL lz), .ref r20, .int (zI go), .int (zI iT), .int (zI iM), .int (zI iK), .ref r25, .int (zI wm), .int (zI tm), .int (zI (zb te))])), (r0, .inl (zk G 0, 179, .inl (zA fa)))]) F (kX7_cosineOf G l (100 * (ya fa mo 2)) (by first | assumption | omega) (by first | assumption | omega)) (va_cwS 1 hts gX7_lays_X7_cosineOf rfl rfl rfl (by decide +kernel) ⟨Nat.le_of_ble_eq_true rfl, Nat.le_of_ble_eq_true rfl⟩) hW [] [0, 1] (by decide) rfl rfl rfl (by decide) (by decide) [0, 1] (by decide) (fun _ => rfl) (fun _ => rfl) rfl hl.1 rfl (Nat.le_of_ble_eq_true rfl) dX7_lays_188 ⟨Nat.le_of_ble_eq_true rfl, Nat.le_of_ble_eq_true rfl⟩ (fun _ H locs _ hW => ?_)
        show W p l e _ s m args below meth c H locs _ _ _ (F0 m 191 ls [.int (zI (zs ((100 * (ya fa mo 2)) + 9000))), .long (zL (zac (ya fa mo) t)), .long (zL ((zal (ya fa mo) t) * (zs (100 * (ya fa mo 2))))), .ref z])
        have zr188 := zs_in ((100 * (ya fa mo 2)) + 9000)
        refine zv_i2l (pc := 191) hx hb dX7_lays_191 ⟨by omega, by omega⟩ ?_
        refine zv_lmul (pc := 192) hx hb dX7_lays_192 ?_
        refine zv_ladd (pc := 193) hx hb dX7_lays_193 ?_
        refine zv_ldc2 (pc := 194) (v := 10000) hx hb hown (hts _ (List.mem_of_getElem? (i := 4) rfl)) rfl dX7_lays_194 ?_
        refine zv_ldiv (pc := 197) hx hb dX7_lays_197 ⟨by omega, by omega⟩ ⟨by omega, by omega⟩ (by omega) ?_
        refine zv_asL (pc := 198) (a := Int.tdiv (((zal (ya fa mo) t) * (zs (100 * (ya fa mo 2)))) + ((zac (ya fa mo) t) * (zs ((100 * (ya fa mo 2)) + 9000)))) 10000) (b := zly (ya fa mo) t) (rfl) ?_
        refine zw_put (pc := 198) (ws' := [(z, .inr (7, [.ref r0, .ref r1, .ref r2, .ref r3, .ref r4, .int (zI km), .int (zI th), .ref r7, .int (zI bu), .int (zI pa), .int (zI pb), .int (zI ki), .int (zI nu), .int (zI wr), .int (zI wa), .int (zI ea), .long (zL (zlx (ya fa mo) t)), .long (zL (zly (ya fa mo) t)), .long (zL lh), .long (zL lz), .ref r20, .int (zI go), .int (zI iT), .int (zI iM), .int (zI iK), .ref r25, .int (zI wm), .int (zI tm), .int (zI (zb te))])), (r0, .inl (zk G 0, 179, .inl (zA fa)))]) (ref := RX7) (index := 231) hx hb hts hin7 tyX7 tyX7_ok nmX7 hown hW 0 rfl rfl 17 (by decide) (List.mem_of_getElem? (i := 6) rfl) (fun _ h9 => h9) rfl (tyX7_ok 17 (by decide)) rfl rfl (Nat.le_of_ble_eq_true rfl) rfl dX7_lays_198 (fun H locs hW => ?_)
        refine lv_aload_n (pc := 201) hx hb dX7_lays_201 rfl (lv_at hl 6 rfl) ?_
        refine lv_iload_n (pc := 202) hx hb dX7_lays_202 rfl (lv_at hl 8 rfl) ?_
        refine z_V (pc := 203) (As := [.int (zI t)]) (rest := []) (wn := (fun _ => [(z, .inr (7, [.ref r0, .ref r1, .ref r2, .ref r3, .ref r4, .int (zI km), .int (zI th), .ref r7, .int (zI bu), .int (zI pa), .int (zI pb), .int (zI ki), .int (zI nu), .int (zI wr), .int (zI wa), .int (zI ea), .long (zL (zlx (ya fa mo) t)), .long (zL (zly (ya fa mo) t)), .long (zL lh), .long (zL lz), .ref r20, .int (zI go), .int (zI iT), .int (zI iM), .int (zI iK), .ref r25, .int (zI wm), .int (zI tm), .int (zI (zb te))])), (r0, .inl (zk G 0, 179, .inl (zA fa)))])) (wr := []) F (kX7_lightAt G l z r0 r1 r2 r3 r4 km th r7 bu pa pb ki nu wr wa ea (zlx (ya fa mo) t) (zly (ya fa mo) t) lh lz r20 go iT iM iK r25 wm tm te fa t (by first | assumption | omega) (by first | assumption | omega) (by first | assumption | omega) (by first | assumption | omega) (by first | assumption | omega) (by first | assumption | omega)) (cwV 1 hts gX7_lays_X7_lightAt rfl rfl rfl (by decide +kernel) ⟨Nat.le_of_ble_eq_true rfl, Nat.le_of_ble_eq_true rfl⟩) hW 0 rfl rfl [0, 1] [] (by decide) rfl rfl rfl (by decide) (by decide) [0, 1] (by decide) (fun _ => rfl) (fun _ => rfl) rfl hl.1 rfl (Nat.le_of_ble_eq_true rfl) dX7_lays_203 ⟨Nat.le_of_ble_eq_true rfl, Nat.le_of_ble_eq_true rfl⟩ (fun _ H locs _ hW => ?_)
        show W p l e _ s m args below meth c H locs _ _ _ (F0 m 206 ls [.int (zI (zli (fa 1) (fa 2) t % 36000))])
        have ll203 : 0 ≤ zli (fa 1) (fa 2) t % 36000 ∧ zli (fa 1) (fa 2) t % 36000 < 36000 := by omega
        refine lv_istore (pc := 206) (lv' := [(11, .int (zI (zli (fa 1) (fa 2) t % 36000))), (10, .int (zI (100 * (ya fa mo 2)))), (8, .long (zL (zac (ya fa mo) t))), (6, .long (zL (zal (ya fa mo) t))), (5, .int (zI E)), (4, .int (zI M)), (3, .int (zI (ya fa mo 1))), (0, .ref z), (1, .int (zI mo)), (2, .int (zI t))]) hx hb dX7_lays_206 hl (by decide) rfl (fun ls hl => ?_)
        refine lv_aload_n (pc := 208) hx hb dX7_lays_208 rfl (lv_at hl 7 rfl) ?_
        refine lv_aload_n (pc := 209) hx hb dX7_lays_209 rfl (lv_at hl 7 rfl) ?_
        refine zw_get (pc := 210) (ref := RX7) (index := 227) hx hb hts hin7 hown hW 0 rfl rfl 16 (by decide) (List.mem_of_getElem? (i := 5) rfl) (fun _ h9 => h9) rfl dX7_lays_210 ?_
        refine lv_iload (pc := 213) hx hb dX7_lays_213 (lv_at hl 0 rfl) ?_
        refine z_S (pc := 215) (As := [.int (zI (zli (fa 1) (fa 2) t % 36000))]) (rest := [.long (zL (zlx (ya fa mo) t)), .ref z]) (wn := (fun _ => [(z, .inr (7, [.ref r0, .ref r1, .ref r2, .ref r3, .ref r4, .int (zI km), .int (zI th), .ref r7, .int (zI bu), .int (zI pa), .int (zI pb), .int (zI ki), .int (zI nu), .int (zI wr), .int (zI wa), .int (zI ea), .long (zL (zlx (ya fa mo) t)), .long (zL (zly (ya fa mo) t)), .long (zL lh), .long (zL lz), .ref r20, .int (zI go), .int (zI iT), .int (zI iM), .int (zI iK), .ref r25, .int (zI wm), .int (zI tm), .int (zI (zb te))])), (r0, .inl (zk G 0, 179, .inl (zA fa)))])) (wr := [(z, .inr (7, [.ref r0, .ref r1, .ref r2, .ref r3, .ref r4, .int (zI km), .int (zI th), .ref r7, .int (zI bu), .int (zI pa), .int (zI pb), .int (zI ki), .int (zI nu), .int (zI wr), .int (zI wa), .int (zI ea), .long (zL (zlx (ya fa mo) t)), .long (zL (zly (ya fa mo) t)), .long (zL lh), .long (zL lz), .ref r20, .int (zI go), .int (zI iT), .int (zI iM), .int (zI iK), .ref r25, .int (zI wm), .int (zI tm), .int (zI (zb te))])), (r0, .inl (zk G 0, 179, .inl (zA fa)))]) F (kX7_cosineOf G l (zli (fa 1) (fa 2) t % 36000) (by first | assumption | omega) (by first | assumption | omega)) (va_cwS 1 hts gX7_lays_X7_cosineOf rfl rfl rfl (by decide +kernel) ⟨Nat.le_of_ble_eq_true rfl, Nat.le_of_ble_eq_true rfl⟩) hW [] [0, 1] (by decide) rfl rfl rfl (by decide) (by decide) [0, 1] (by decide) (fun _ => rfl) (fun _ => rfl) rfl hl.1 rfl (Nat.le_of_ble_eq_true rfl) dX7_lays_215 ⟨Nat.le_of_ble_eq_true rfl, Nat.le_of_ble_eq_true rfl⟩ (fun _ H locs _ hW => ?_)
        show W p l e _ s m args below meth c H locs _ _ _ (F0 m 218 ls [.int (zI (zs ((zli (fa 1) (fa 2) t % 36000) + 9000))), .long (zL (zlx (ya fa mo) t)), .ref z])
        have zr215 := zs_in ((zli (fa 1) (fa 2) t % 36000) + 9000)
        refine zv_i2l (pc := 218) hx hb dX7_lays_218 ⟨by omega, by omega⟩ ?_
        refine zv_lmul (pc := 219) hx hb dX7_lays_219 ?_
        refine lv_aload_n (pc := 220) hx hb dX7_lays_220 rfl (lv_at hl 7 rfl) ?_
        refine zw_get (pc := 221) (ref := RX7) (index := 231) hx hb hts hin7 hown hW 0 rfl rfl 17 (by decide) (List.mem_of_getElem? (i := 6) rfl) (fun _ h9 => h9) rfl dX7_lays_221 ?_
        refine lv_iload (pc := 224) hx hb dX7_lays_224 (lv_at hl 0 rfl) ?_
        refine z_S (pc := 226) (As := [.int (zI (zli (fa 1) (fa 2) t % 36000))]) (rest := [.long (zL (zly (ya fa mo) t)), .long (zL ((zlx (ya fa mo) t) * (zs ((zli (fa 1) (fa 2) t % 36000) + 9000)))), .ref z]) (wn := (fun _ => [(z, .inr (7, [.ref r0, .ref r1, .ref r2, .ref r3, .ref r4, .int (zI km), .int (zI th), .ref r7, .int (zI bu), .int (zI pa), .int (zI pb), .int (zI ki), .int (zI nu), .int (zI wr), .int (zI wa), .int (zI ea), .long (zL (zlx (ya fa mo) t)), .long (zL (zly (ya fa mo) t)), .long (zL lh), .long (zL lz), .ref r20, .int (zI go), .int (zI iT), .int (zI iM), .int (zI iK), .ref r25, .int (zI wm), .int (zI tm), .int (zI (zb te))])), (r0, .inl (zk G 0, 179, .inl (zA fa)))])) (wr := [(z, .inr (7, [.ref r0, .ref r1, .ref r2, .ref r3, .ref r4, .int (zI km), .int (zI th), .ref r7, .int (zI bu), .int (zI pa), .int (zI pb), .int (zI ki), .int (zI nu), .int (zI wr), .int (zI wa), .int (zI ea), .long (zL (zlx (ya fa mo) t)), .long (zL (zly (ya fa mo) t)), .long (zL lh), .long (zL lz), .ref r20, .int (zI go), .int (zI iT), .int (zI iM), .int (zI iK), .ref r25, .int (zI wm), .int (zI tm), .int (zI (zb te))])), (r0, .inl (zk G 0, 179, .inl (zA fa)))]) F (kX7_sineOf G l (zli (fa 1) (fa 2) t % 36000) (by first | assumption | omega) (by first | assumption | omega)) (va_cwS 1 hts gX7_lays_X7_sineOf rfl rfl rfl (by decide +kernel) ⟨Nat.le_of_ble_eq_true rfl, Nat.le_of_ble_eq_true rfl⟩) hW [] [0, 1] (by decide) rfl rfl rfl (by decide) (by decide) [0, 1] (by decide) (fun _ => rfl) (fun _ => rfl) rfl hl.1 rfl (Nat.le_of_ble_eq_true rfl) dX7_lays_226 ⟨Nat.le_of_ble_eq_true rfl, Nat.le_of_ble_eq_true rfl⟩ (fun _ H locs _ hW => ?_)
        show W p l e _ s m args below meth c H locs _ _ _ (F0 m 229 ls [.int (zI (zs (zli (fa 1) (fa 2) t % 36000))), .long (zL (zly (ya fa mo) t)), .long (zL ((zlx (ya fa mo) t) * (zs ((zli (fa 1) (fa 2) t % 36000) + 9000)))), .ref z])
        have zr226 := zs_in ((zli (fa 1) (fa 2) t % 36000))
        refine zv_i2l (pc := 229) hx hb dX7_lays_229 ⟨by omega, by omega⟩ ?_
        refine zv_lmul (pc := 230) hx hb dX7_lays_230 ?_
        refine zv_ladd (pc := 231) hx hb dX7_lays_231 ?_
        refine zv_ldc2 (pc := 232) (v := 10000) hx hb hown (hts _ (List.mem_of_getElem? (i := 4) rfl)) rfl dX7_lays_232 ?_
        refine zv_ldiv (pc := 235) hx hb dX7_lays_235 ⟨by omega, by omega⟩ ⟨by omega, by omega⟩ (by omega) ?_
        refine zv_asL (pc := 236) (a := Int.tdiv (((zlx (ya fa mo) t) * (zs ((zli (fa 1) (fa 2) t % 36000) + 9000))) + ((zly (ya fa mo) t) * (zs (zli (fa 1) (fa 2) t % 36000)))) 10000) (b := zlh (fa 1) (fa 2) (ya fa mo) t) (by rw [hl1, hl2]; rfl) ?_
        refine zw_put (pc := 236) (ws' := [(z, .inr (7, [.ref r0, .ref r1, .ref r2, .ref r3, .ref r4, .int (zI km), .int (zI th), .ref r7, .int (zI bu), .int (zI pa), .int (zI pb), .int (zI ki), .int (zI nu), .int (zI wr), .int (zI wa), .int (zI ea), .long (zL (zlx (ya fa mo) t)), .long (zL (zly (ya fa mo) t)), .long (zL (zlh (fa 1) (fa 2) (ya fa mo) t)), .long (zL lz), .ref r20, .int (zI go), .int (zI iT), .int (zI iM), .int (zI iK), .ref r25, .int (zI wm), .int (zI tm), .int (zI (zb te))])), (r0, .inl (zk G 0, 179, .inl (zA fa)))]) (ref := RX7) (index := 237) hx hb hts hin7 tyX7 tyX7_ok nmX7 hown hW 0 rfl rfl 18 (by decide) (List.mem_of_getElem? (i := 7) rfl) (fun _ h9 => h9) rfl (tyX7_ok 18 (by decide)) rfl rfl (Nat.le_of_ble_eq_true rfl) rfl dX7_lays_236 (fun H locs hW => ?_)
        refine lv_aload_n (pc := 239) hx hb dX7_lays_239 rfl (lv_at hl 7 rfl) ?_
        refine lv_aload_n (pc := 240) hx hb dX7_lays_240 rfl (lv_at hl 7 rfl) ?_
        refine zw_get (pc := 241) (ref := RX7) (index := 231) hx hb hts hin7 hown hW 0 rfl rfl 17 (by decide) (List.mem_of_getElem? (i := 6) rfl) (fun _ h9 => h9) rfl dX7_lays_241 ?_
        refine lv_iload (pc := 244) hx hb dX7_lays_244 (lv_at hl 0 rfl) ?_
        refine z_S (pc := 246) (As := [.int (zI (zli (fa 1) (fa 2) t % 36000))]) (rest := [.long (zL (zly (ya fa mo) t)), .ref z]) (wn := (fun _ => [(z, .inr (7, [.ref r0, .ref r1, .ref r2, .ref r3, .ref r4, .int (zI km), .int (zI th), .ref r7, .int (zI bu), .int (zI pa), .int (zI pb), .int (zI ki), .int (zI nu), .int (zI wr), .int (zI wa), .int (zI ea), .long (zL (zlx (ya fa mo) t)), .long (zL (zly (ya fa mo) t)), .long (zL (zlh (fa 1) (fa 2) (ya fa mo) t)), .long (zL lz), .ref r20, .int (zI go), .int (zI iT), .int (zI iM), .int (zI iK), .ref r25, .int (zI wm), .int (zI tm), .int (zI (zb te))])), (r0, .inl (zk G 0, 179, .inl (zA fa)))])) (wr := [(z, .inr (7, [.ref r0, .ref r1, .ref r2, .ref r3, .ref r4, .int (zI km), .int (zI th), .ref r7, .int (zI bu), .int (zI pa), .int (zI pb), .int (zI ki), .int (zI nu), .int (zI wr), .int (zI wa), .int (zI ea), .long (zL (zlx (ya fa mo) t)), .long (zL (zly (ya fa mo) t)), .long (zL (zlh (fa 1) (fa 2) (ya fa mo) t)), .long (zL lz), .ref r20, .int (zI go), .int (zI iT), .int (zI iM), .int (zI iK), .ref r25, .int (zI wm), .int (zI tm), .int (zI (zb te))])), (r0, .inl (zk G 0, 179, .inl (zA fa)))]) F (kX7_cosineOf G l (zli (fa 1) (fa 2) t % 36000) (by first | assumption | omega) (by first | assumption | omega)) (va_cwS 1 hts gX7_lays_X7_cosineOf rfl rfl rfl (by decide +kernel) ⟨Nat.le_of_ble_eq_true rfl, Nat.le_of_ble_eq_true rfl⟩) hW [] [0, 1] (by decide) rfl rfl rfl (by decide) (by decide) [0, 1] (by decide) (fun _ => rfl) (fun _ => rfl) rfl hl.1 rfl (Nat.le_of_ble_eq_true rfl) dX7_lays_246 ⟨Nat.le_of_ble_eq_true rfl, Nat.le_of_ble_eq_true rfl⟩ (fun _ H locs _ hW => ?_)
        show W p l e _ s m args below meth c H locs _ _ _ (F0 m 249 ls [.int (zI (zs ((zli (fa 1) (fa 2) t % 36000) + 9000))), .long (zL (zly (ya fa mo) t)), .ref z])
        have zr246 := zs_in ((zli (fa 1) (fa 2) t % 36000) + 9000)
        refine zv_i2l (pc := 249) hx hb dX7_lays_249 ⟨by omega, by omega⟩ ?_
        refine zv_lmul (pc := 250) hx hb dX7_lays_250 ?_
        refine lv_aload_n (pc := 251) hx hb dX7_lays_251 rfl (lv_at hl 7 rfl) ?_
        refine zw_get (pc := 252) (ref := RX7) (index := 227) hx hb hts hin7 hown hW 0 rfl rfl 16 (by decide) (List.mem_of_getElem? (i := 5) rfl) (fun _ h9 => h9) rfl dX7_lays_252 ?_
        refine lv_iload (pc := 255) hx hb dX7_lays_255 (lv_at hl 0 rfl) ?_
        refine z_S (pc := 257) (As := [.int (zI (zli (fa 1) (fa 2) t % 36000))]) (rest := [.long (zL (zlx (ya fa mo) t)), .long (zL ((zly (ya fa mo) t) * (zs ((zli (fa 1) (fa 2) t % 36000) + 9000)))), .ref z]) (wn := (fun _ => [(z, .inr (7, [.ref r0, .ref r1, .ref r2, .ref r3, .ref r4, .int (zI km), .int (zI th), .ref r7, .int (zI bu), .int (zI pa), .int (zI pb), .int (zI ki), .int (zI nu), .int (zI wr), .int (zI wa), .int (zI ea), .long (zL (zlx (ya fa mo) t)), .long (zL (zly (ya fa mo) t)), .long (zL (zlh (fa 1) (fa 2) (ya fa mo) t)), .long (zL lz), .ref r20, .int (zI go), .int (zI iT), .int (zI iM), .int (zI iK), .ref r25, .int (zI wm), .int (zI tm), .int (zI (zb te))])), (r0, .inl (zk G 0, 179, .inl (zA fa)))])) (wr := [(z, .inr (7, [.ref r0, .ref r1, .ref r2, .ref r3, .ref r4, .int (zI km), .int (zI th), .ref r7, .int (zI bu), .int (zI pa), .int (zI pb), .int (zI ki), .int (zI nu), .int (zI wr), .int (zI wa), .int (zI ea), .long (zL (zlx (ya fa mo) t)), .long (zL (zly (ya fa mo) t)), .long (zL (zlh (fa 1) (fa 2) (ya fa mo) t)), .long (zL lz), .ref r20, .int (zI go), .int (zI iT), .int (zI iM), .int (zI iK), .ref r25, .int (zI wm), .int (zI tm), .int (zI (zb te))])), (r0, .inl (zk G 0, 179, .inl (zA fa)))]) F (kX7_sineOf G l (zli (fa 1) (fa 2) t % 36000) (by first | assumption | omega) (by first | assumption | omega)) (va_cwS 1 hts gX7_lays_X7_sineOf rfl rfl rfl (by decide +kernel) ⟨Nat.le_of_ble_eq_true rfl, Nat.le_of_ble_eq_true rfl⟩) hW [] [0, 1] (by decide) rfl rfl rfl (by decide) (by decide) [0, 1] (by decide) (fun _ => rfl) (fun _ => rfl) rfl hl.1 rfl (Nat.le_of_ble_eq_true rfl) dX7_lays_257 ⟨Nat.le_of_ble_eq_true rfl, Nat.le_of_ble_eq_true rfl⟩ (fun _ H locs _ hW => ?_)
        show W p l e _ s m args below meth c H locs _ _ _ (F0 m 260 ls [.int (zI (zs (zli (fa 1) (fa 2) t % 36000))), .long (zL (zlx (ya fa mo) t)), .long (zL ((zly (ya fa mo) t) * (zs ((zli (fa 1) (fa 2) t % 36000) + 9000)))), .ref z])
        have zr257 := zs_in ((zli (fa 1) (fa 2) t % 36000))
        refine zv_i2l (pc := 260) hx hb dX7_lays_260 ⟨by omega, by omega⟩ ?_
        refine zv_lmul (pc := 261) hx hb dX7_lays_261 ?_
        refine zv_lsub (pc := 262) hx hb dX7_lays_262 ?_
        refine zv_ldc2 (pc := 263) (v := 10000) hx hb hown (hts _ (List.mem_of_getElem? (i := 4) rfl)) rfl dX7_lays_263 ?_
        refine zv_ldiv (pc := 266) hx hb dX7_lays_266 ⟨by omega, by omega⟩ ⟨by omega, by omega⟩ (by omega) ?_
        refine zv_asL (pc := 267) (a := Int.tdiv (((zly (ya fa mo) t) * (zs ((zli (fa 1) (fa 2) t % 36000) + 9000))) - ((zlx (ya fa mo) t) * (zs (zli (fa 1) (fa 2) t % 36000)))) 10000) (b := zls (fa 1) (fa 2) (ya fa mo) t) (by rw [hl1, hl2]; rfl) ?_
        refine zw_put (pc := 267) (ws' := [(z, .inr (7, [.ref r0, .ref r1, .ref r2, .ref r3, .ref r4, .int (zI km), .int (zI th), .ref r7, .int (zI bu), .int (zI pa), .int (zI pb), .int (zI ki), .int (zI nu), .int (zI wr), .int (zI wa), .int (zI ea), .long (zL (zlx (ya fa mo) t)), .long (zL (zly (ya fa mo) t)), .long (zL (zlh (fa 1) (fa 2) (ya fa mo) t)), .long (zL (zls (fa 1) (fa 2) (ya fa mo) t)), .ref r20, .int (zI go), .int (zI iT), .int (zI iM), .int (zI iK), .ref r25, .int (zI wm), .int (zI tm), .int (zI (zb te))])), (r0, .inl (zk G 0, 179, .inl (zA fa)))]) (ref := RX7) (index := 240) hx hb hts hin7 tyX7 tyX7_ok nmX7 hown hW 0 rfl rfl 19 (by decide) (List.mem_of_getElem? (i := 8) rfl) (fun _ h9 => h9) rfl (tyX7_ok 19 (by decide)) rfl rfl (Nat.le_of_ble_eq_true rfl) rfl dX7_lays_267 (fun H locs hW => ?_)
        exact ze_v (pc := 270) hx hb hr hlk hW () rfl trivial rfl dX7_lays_270
      · refine lv_iload (pc := 54) hx hb dX7_lays_54 (lv_at hl 2 rfl) ?_
        refine lv_iload_n (pc := 56) hx hb dX7_lays_56 rfl (lv_at hl 3 rfl) ?_
        have hzE := zs_in E
        refine lv_iload (pc := 57) hx hb dX7_lays_57 (lv_at hl 1 rfl) ?_
        refine z_S (pc := 59) (As := [.int (zI E)]) (rest := [.int (zI (ya fa mo 1)), .int (zI M)]) (wn := (fun _ => [(z, .inr (7, [.ref r0, .ref r1, .ref r2, .ref r3, .ref r4, .int (zI km), .int (zI th), .ref r7, .int (zI bu), .int (zI pa), .int (zI pb), .int (zI ki), .int (zI nu), .int (zI wr), .int (zI wa), .int (zI ea), .long (zL lx), .long (zL ly), .long (zL lh), .long (zL lz), .ref r20, .int (zI go), .int (zI iT), .int (zI iM), .int (zI iK), .ref r25, .int (zI wm), .int (zI tm), .int (zI (zb te))])), (r0, .inl (zk G 0, 179, .inl (zA fa)))])) (wr := [(z, .inr (7, [.ref r0, .ref r1, .ref r2, .ref r3, .ref r4, .int (zI km), .int (zI th), .ref r7, .int (zI bu), .int (zI pa), .int (zI pb), .int (zI ki), .int (zI nu), .int (zI wr), .int (zI wa), .int (zI ea), .long (zL lx), .long (zL ly), .long (zL lh), .long (zL lz), .ref r20, .int (zI go), .int (zI iT), .int (zI iM), .int (zI iK), .ref r25, .int (zI wm), .int (zI tm), .int (zI (zb te))])), (r0, .inl (zk G 0, 179, .inl (zA fa)))]) F (kX7_sineOf G l E (by first | assumption | omega) (by first | assumption | omega)) (va_cwS 1 hts gX7_lays_X7_sineOf rfl rfl rfl (by decide +kernel) ⟨Nat.le_of_ble_eq_true rfl, Nat.le_of_ble_eq_true rfl⟩) hW [] [0, 1] (by decide) rfl rfl rfl (by decide) (by decide) [0, 1] (by decide) (fun _ => rfl) (fun _ => rfl) rfl hl.1 rfl (Nat.le_of_ble_eq_true rfl) dX7_lays_59 ⟨Nat.le_of_ble_eq_true rfl, Nat.le_of_ble_eq_true rfl⟩ (fun _ H locs _ hW => ?_)
        show W p l e _ s m args below meth c H locs _ _ _ (F0 m 62 ls [.int (zI (zs E)), .int (zI (ya fa mo 1)), .int (zI M)])
        have zr59 := zs_in (E)
        have hp1 := zmul_abs (a := ya fa mo 1) (b := zs E) (A := 60) (B := 10000) (by omega) (by omega) rfl
        have hp2 := zmul_abs (a := ya fa mo 1 * zs E) (b := 573) (A := 600000) (B := 573) (by omega) (by omega) rfl
        refine zv_imul (pc := 62) hx hb dX7_lays_62 ?_
        refine zv_sipush (pc := 63) (n := 573) hx hb dX7_lays_63 (by decide) ?_
        refine zv_imul (pc := 66) hx hb dX7_lays_66 ?_
        refine zv_ldc (pc := 67) (v := 100000) hx hb hown (hts _ (List.mem_of_getElem? (i := 3) rfl)) rfl dX7_lays_67 ?_
        refine zv_idiv (pc := 69) hx hb dX7_lays_69 ⟨by omega, by omega⟩ ⟨by omega, by omega⟩ (by omega) ?_
        refine zv_iadd (pc := 70) hx hb dX7_lays_70 ?_
        refine zv_name (fun B hB => ?_)
        refine lv_istore (pc := 71) (lv' := [(5, .int (zI B)), (6, .int (zI k)), (4, .int (zI M)), (3, .int (zI (ya fa mo 1))), (0, .ref z), (1, .int (zI mo)), (2, .int (zI t))]) hx hb dX7_lays_71 hl (by decide) rfl (fun ls hl => ?_)
        have hBs : B = zstep M (ya fa mo 1) E := hB
        have hBr := zstep_in (M := M) (fl := ya fa mo 1) (E := E) gf1
        rw [← hBs] at hBr
        refine zv_iinc (pc := 73) (lv' := [(6, .int (zI (k + 1))), (5, .int (zI B)), (4, .int (zI M)), (3, .int (zI (ya fa mo 1))), (0, .ref z), (1, .int (zI mo)), (2, .int (zI t))]) hx hb dX7_lays_73 hl (k := 1) rfl (by decide) rfl (fun ls hl => ?_)
        refine lv_goto (pc := 76) (tgt := 47) hx hb dX7_lays_76 (by decide) ?_
        exact ih47 B (k + 1) (by omega) (by omega) (by first | (rw [hM]; rfl) | (have e1 : (6 - k).toNat = (6 - (k + 1)).toNat + 1 := (by omega); rw [e1] at hE; rw [hBs]; exact hE)) (by omega) (by omega) _ _ _ hW (lv_sub hl [0, 1, 2, 3, 4, 5, 6] rfl)
  exact J47 (((6 - 0 : Int).toNat) + 1) M 0 (by omega) (by omega) (by first | (rw [hM]; rfl) | (have e1 : (6 - k).toNat = (6 - (k + 1)).toNat + 1 := (by omega); rw [e1] at hE; rw [hBs]; exact hE)) (by omega) (Nat.lt_succ_self _) _ _ _ hW (lv_sub hl [0, 1, 2, 3, 4, 5, 6] rfl)

set_option maxHeartbeats 4000000 in
set_option maxRecDepth 100000 in
/-- stateLaid -/
theorem kX7_stateLaid (G : zG) (l : Launch) (z : Nat) (r0 : Nat) (r1 : Nat) (r2 : Nat) (r3 : Nat) (r4 : Nat) (km : Int) (th : Int) (r7 : Nat) (bu : Int) (pa : Int) (pb : Int) (ki : Int) (nu : Int) (wr : Int) (wa : Int) (ea : Int) (lx : Int) (ly : Int) (lh : Int) (lz : Int) (r20 : Nat) (go : Int) (iT : Int) (iM : Int) (iK : Int) (r25 : Nat) (wm : Int) (tm : Int) (te : Bool) (fa : Int → Int) (mo : Int) (hx1 : -5200000 ≤ lh) (hx2 : lh ≤ 5200000) (hy1 : -5200000 ≤ lz) (hy2 : lz ≤ 5200000) (hp1 : 0 ≤ fa 0) (hp2 : fa 0 ≤ 999) (hq1 : 0 ≤ ya fa mo 5) (hq2 : ya fa mo 5 ≤ 99) (h1 : 0 ≤ mo) (h2 : mo < 6) : zM G l yX7_stateLaid wsX7_stateLaid { frames := 1, cells := 0, slots := 0, locals := 22 } [.ref z, .int (zI mo)] [(z, .inr (7, [.ref r0, .ref r1, .ref r2, .ref r3, .ref r4, .int (zI km), .int (zI th), .ref r7, .int (zI bu), .int (zI pa), .int (zI pb), .int (zI ki), .int (zI nu), .int (zI wr), .int (zI wa), .int (zI ea), .long (zL lx), .long (zL ly), .long (zL lh), .long (zL lz), .ref r20, .int (zI go), .int (zI iT), .int (zI iM), .int (zI iK), .ref r25, .int (zI wm), .int (zI tm), .int (zI (zb te))])), (r0, .inl (zk G 0, 179, .inl (zA fa)))] (S := Unit) (zri (fun _ => zst (fa 0) (ya fa mo 5) lh lz)) (fun _ => True) (fun _ => [(z, .inr (7, [.ref r0, .ref r1, .ref r2, .ref r3, .ref r4, .int (zI km), .int (zI th), .ref r7, .int (zI bu), .int (zI pa), .int (zI pb), .int (zI ki), .int (zI nu), .int (zI wr), .int (zI wa), .int (zI ea), .long (zL lx), .long (zL ly), .long (zL lh), .long (zL lz), .ref r20, .int (zI go), .int (zI iT), .int (zI iM), .int (zI iK), .ref r25, .int (zI wm), .int (zI tm), .int (zI (zb te))])), (r0, .inl (zk G 0, 179, .inl (zA fa)))]) 0 0 := by
  refine zM.of (cc := cX7_stateLaid) (maxL := 4) (ret := (some .int)) (by decide) rfl (Nat.le_of_ble_eq_true rfl) (l0 := [(0, .ref z), (1, .int (zI mo))]) rfl ?_
  intro p e s m args below meth c ls F hr hlk hnm hW hl
  obtain ⟨hx, hb, hml, hown, hts⟩ := id F
  have hin7 : ∀ w ∈ wsX70, w ∈ wsX7_stateLaid := fun _ h => List.mem_cons_of_mem _ (List.mem_append_right _ (h))
  refine lv_aload_n (pc := 0) hx hb dX7_stateLaid_0 rfl (lv_at hl 0 rfl) ?_
  refine zw_get (pc := 1) (ref := RX7) (index := 237) hx hb hts hin7 hown hW 0 rfl rfl 18 (by decide) (List.mem_of_getElem? (i := 1) rfl) (fun _ h9 => h9) rfl dX7_stateLaid_1 ?_
  refine zv_lconst (pc := 4) (v := 0) hx hb dX7_stateLaid_4 rfl ?_
  refine zv_lcmp_lt (pc := 5) (tgt := 11) hx hb dX7_stateLaid_5 dX7_stateLaid_6 (by decide) ⟨by omega, by omega⟩ ⟨by omega, by omega⟩ (fun c5 => ?_) (fun c5 => ?_)
  · refine lv_aload_n (pc := 11) hx hb dX7_stateLaid_11 rfl (lv_at hl 0 rfl) ?_
    refine zw_get (pc := 12) (ref := RX7) (index := 240) hx hb hts hin7 hown hW 0 rfl rfl 19 (by decide) (List.mem_of_getElem? (i := 2) rfl) (fun _ h9 => h9) rfl dX7_stateLaid_12 ?_
    refine z_S (pc := 15) (As := [.long (zL lz)]) (rest := []) (wn := (fun _ => [(z, .inr (7, [.ref r0, .ref r1, .ref r2, .ref r3, .ref r4, .int (zI km), .int (zI th), .ref r7, .int (zI bu), .int (zI pa), .int (zI pb), .int (zI ki), .int (zI nu), .int (zI wr), .int (zI wa), .int (zI ea), .long (zL lx), .long (zL ly), .long (zL lh), .long (zL lz), .ref r20, .int (zI go), .int (zI iT), .int (zI iM), .int (zI iK), .ref r25, .int (zI wm), .int (zI tm), .int (zI (zb te))])), (r0, .inl (zk G 0, 179, .inl (zA fa)))])) (wr := [(z, .inr (7, [.ref r0, .ref r1, .ref r2, .ref r3, .ref r4, .int (zI km), .int (zI th), .ref r7, .int (zI bu), .int (zI pa), .int (zI pb), .int (zI ki), .int (zI nu), .int (zI wr), .int (zI wa), .int (zI ea), .long (zL lx), .long (zL ly), .long (zL lh), .long (zL lz), .ref r20, .int (zI go), .int (zI iT), .int (zI iM), .int (zI iK), .ref r25, .int (zI wm), .int (zI tm), .int (zI (zb te))])), (r0, .inl (zk G 0, 179, .inl (zA fa)))]) F (kX7_sizeOf G l lz (by first | assumption | omega) (by first | assumption | omega)) (va_cwS 1 hts gX7_stateLaid_X7_sizeOf rfl rfl rfl (by decide +kernel) ⟨Nat.le_of_ble_eq_true rfl, Nat.le_of_ble_eq_true rfl⟩) hW [] [0, 1] (by decide) rfl rfl rfl (by decide) (by decide) [0, 1] (by decide) (fun _ => rfl) (fun _ => rfl) rfl hl.1 rfl (Nat.le_of_ble_eq_true rfl) dX7_stateLaid_15 ⟨Nat.le_of_ble_eq_true rfl, Nat.le_of_ble_eq_true rfl⟩ (fun _ H locs _ hW => ?_)
    show W p l e _ s m args below meth c H locs _ _ _ (F0 m 18 ls [.long (zL (zabs lz))])
    have ab15 := zabs_sp (lz)
    refine lv_lstore_n (pc := 18) (lv' := [(2, .long (zL (zabs lz))), (0, .ref z), (1, .int (zI mo))]) hx hb dX7_stateLaid_18 rfl hl (by decide) rfl (fun ls hl => ?_)
    refine lv_lload_n (pc := 19) hx hb dX7_stateLaid_19 rfl (lv_at hl 0 rfl) ?_
    refine zv_ldc2 (pc := 20) (v := 100) hx hb hown (hts _ (List.mem_of_getElem? (i := 3) rfl)) rfl dX7_stateLaid_20 ?_
    refine lv_aload_n (pc := 23) hx hb dX7_stateLaid_23 rfl (lv_at hl 1 rfl) ?_
    refine lv_iload_n (pc := 24) hx hb dX7_stateLaid_24 rfl (lv_at hl 2 rfl) ?_
    refine zv_iconst (pc := 25) (n := 5) hx hb dX7_stateLaid_25 ?_
    refine z_V (pc := 26) (As := [.int (zI mo), .int (zI 5)]) (rest := [.long (zL 100), .long (zL (zabs lz))]) (wn := (fun _ => [(z, .inr (7, [.ref r0, .ref r1, .ref r2, .ref r3, .ref r4, .int (zI km), .int (zI th), .ref r7, .int (zI bu), .int (zI pa), .int (zI pb), .int (zI ki), .int (zI nu), .int (zI wr), .int (zI wa), .int (zI ea), .long (zL lx), .long (zL ly), .long (zL lh), .long (zL lz), .ref r20, .int (zI go), .int (zI iT), .int (zI iM), .int (zI iK), .ref r25, .int (zI wm), .int (zI tm), .int (zI (zb te))])), (r0, .inl (zk G 0, 179, .inl (zA fa)))])) (wr := []) F (kX7_of G l z r0 r1 r2 r3 r4 km th r7 bu pa pb ki nu wr wa ea lx ly lh lz r20 go iT iM iK r25 wm tm te fa mo 5 (by first | assumption | omega) (by first | assumption | omega) (by first | assumption | omega) (by first | assumption | omega)) (cwV 2 hts gX7_stateLaid_X7_of rfl rfl rfl (by decide +kernel) ⟨Nat.le_of_ble_eq_true rfl, Nat.le_of_ble_eq_true rfl⟩) hW 0 rfl rfl [0, 1] [] (by decide) rfl rfl rfl (by decide) (by decide) [0, 1] (by decide) (fun _ => rfl) (fun _ => rfl) rfl hl.1 rfl (Nat.le_of_ble_eq_true rfl) dX7_stateLaid_26 ⟨Nat.le_of_ble_eq_true rfl, Nat.le_of_ble_eq_true rfl⟩ (fun _ H locs _ hW => ?_)
    show W p l e _ s m args below meth c H locs _ _ _ (F0 m 29 ls [.int (zI (ya fa mo 5)), .long (zL 100), .long (zL (zabs lz))])
    refine zv_i2l (pc := 29) hx hb dX7_stateLaid_29 ⟨by omega, by omega⟩ ?_
    refine zv_lmul (pc := 30) hx hb dX7_stateLaid_30 ?_
    refine zv_ladd (pc := 31) hx hb dX7_stateLaid_31 ?_
    refine zv_ldc2 (pc := 32) (v := 100) hx hb hown (hts _ (List.mem_of_getElem? (i := 3) rfl)) rfl dX7_stateLaid_32 ?_
    refine lv_aload_n (pc := 35) hx hb dX7_stateLaid_35 rfl (lv_at hl 1 rfl) ?_
    refine zw_get (pc := 36) (ref := RX7) (index := 7) hx hb hts hin7 hown hW 0 rfl rfl 0 (by decide) (List.mem_of_getElem? (i := 4) rfl) (fun _ h9 => h9) rfl dX7_stateLaid_36 ?_
    refine zv_iconst (pc := 39) (n := 0) hx hb dX7_stateLaid_39 ?_
    refine zw_iald (pc := 40) hx hb hW 1 rfl (by omega) (by omega) (by decide) dX7_stateLaid_40 ?_
    refine zv_i2l (pc := 41) hx hb dX7_stateLaid_41 ⟨by omega, by omega⟩ ?_
    refine zv_lmul (pc := 42) hx hb dX7_stateLaid_42 ?_
    refine zv_lcmp_gt (pc := 43) (tgt := 49) hx hb dX7_stateLaid_43 dX7_stateLaid_44 (by decide) ⟨by omega, by omega⟩ ⟨by omega, by omega⟩ (fun c43 => ?_) (fun c43 => ?_)
    · refine lv_lload_n (pc := 49) hx hb dX7_stateLaid_49 rfl (lv_at hl 0 rfl) ?_
      refine zv_ldc2 (pc := 50) (v := 100) hx hb hown (hts _ (List.mem_of_getElem? (i := 3) rfl)) rfl dX7_stateLaid_50 ?_
      refine lv_aload_n (pc := 53) hx hb dX7_stateLaid_53 rfl (lv_at hl 1 rfl) ?_
      refine zw_get (pc := 54) (ref := RX7) (index := 7) hx hb hts hin7 hown hW 0 rfl rfl 0 (by decide) (List.mem_of_getElem? (i := 4) rfl) (fun _ h9 => h9) rfl dX7_stateLaid_54 ?_
      refine zv_iconst (pc := 57) (n := 0) hx hb dX7_stateLaid_57 ?_
      refine zw_iald (pc := 58) hx hb hW 1 rfl (by omega) (by omega) (by decide) dX7_stateLaid_58 ?_
      refine lv_aload_n (pc := 59) hx hb dX7_stateLaid_59 rfl (lv_at hl 1 rfl) ?_
      refine lv_iload_n (pc := 60) hx hb dX7_stateLaid_60 rfl (lv_at hl 2 rfl) ?_
      refine zv_iconst (pc := 61) (n := 5) hx hb dX7_stateLaid_61 ?_
      refine z_V (pc := 62) (As := [.int (zI mo), .int (zI 5)]) (rest := [.int (zI (fa 0)), .long (zL 100), .long (zL (zabs lz))]) (wn := (fun _ => [(z, .inr (7, [.ref r0, .ref r1, .ref r2, .ref r3, .ref r4, .int (zI km), .int (zI th), .ref r7, .int (zI bu), .int (zI pa), .int (zI pb), .int (zI ki), .int (zI nu), .int (zI wr), .int (zI wa), .int (zI ea), .long (zL lx), .long (zL ly), .long (zL lh), .long (zL lz), .ref r20, .int (zI go), .int (zI iT), .int (zI iM), .int (zI iK), .ref r25, .int (zI wm), .int (zI tm), .int (zI (zb te))])), (r0, .inl (zk G 0, 179, .inl (zA fa)))])) (wr := []) F (kX7_of G l z r0 r1 r2 r3 r4 km th r7 bu pa pb ki nu wr wa ea lx ly lh lz r20 go iT iM iK r25 wm tm te fa mo 5 (by first | assumption | omega) (by first | assumption | omega) (by first | assumption | omega) (by first | assumption | omega)) (cwV 2 hts gX7_stateLaid_X7_of rfl rfl rfl (by decide +kernel) ⟨Nat.le_of_ble_eq_true rfl, Nat.le_of_ble_eq_true rfl⟩) hW 0 rfl rfl [0, 1] [] (by decide) rfl rfl rfl (by decide) (by decide) [0, 1] (by decide) (fun _ => rfl) (fun _ => rfl) rfl hl.1 rfl (Nat.le_of_ble_eq_true rfl) dX7_stateLaid_62 ⟨Nat.le_of_ble_eq_true rfl, Nat.le_of_ble_eq_true rfl⟩ (fun _ H locs _ hW => ?_)
      show W p l e _ s m args below meth c H locs _ _ _ (F0 m 65 ls [.int (zI (ya fa mo 5)), .int (zI (fa 0)), .long (zL 100), .long (zL (zabs lz))])
      refine zv_iadd (pc := 65) hx hb dX7_stateLaid_65 ?_
      refine zv_i2l (pc := 66) hx hb dX7_stateLaid_66 ⟨by omega, by omega⟩ ?_
      refine zv_lmul (pc := 67) hx hb dX7_stateLaid_67 ?_
      refine zv_lcmp_ge (pc := 68) (tgt := 76) hx hb dX7_stateLaid_68 dX7_stateLaid_69 (by decide) ⟨by omega, by omega⟩ ⟨by omega, by omega⟩ (fun c68 => ?_) (fun c68 => ?_)
      · refine zv_iconst (pc := 76) (n := 0) hx hb dX7_stateLaid_76 ?_
        refine zv_as (pc := 77) (a := 0) (b := zst (fa 0) (ya fa mo 5) lh lz) (by unfold zst; first | rw [if_pos (by omega)] | rw [if_neg (by omega), if_pos (by omega)] | rw [if_neg (by omega), if_neg (by omega), if_pos (by omega)] | rw [if_neg (by omega), if_neg (by omega), if_neg (by omega)]) ?_
        exact ze_i (pc := 77) hx hb hr hlk hW () rfl trivial rfl dX7_stateLaid_77
      · refine zv_iconst (pc := 72) (n := 1) hx hb dX7_stateLaid_72 ?_
        refine lv_goto (pc := 73) (tgt := 77) hx hb dX7_stateLaid_73 (by decide) ?_
        refine zv_as (pc := 77) (a := 1) (b := zst (fa 0) (ya fa mo 5) lh lz) (by unfold zst; first | rw [if_pos (by omega)] | rw [if_neg (by omega), if_pos (by omega)] | rw [if_neg (by omega), if_neg (by omega), if_pos (by omega)] | rw [if_neg (by omega), if_neg (by omega), if_neg (by omega)]) ?_
        exact ze_i (pc := 77) hx hb hr hlk hW () rfl trivial rfl dX7_stateLaid_77
    · refine zv_iconst (pc := 47) (n := 2) hx hb dX7_stateLaid_47 ?_
      refine zv_as (pc := 48) (a := 2) (b := zst (fa 0) (ya fa mo 5) lh lz) (by unfold zst; first | rw [if_pos (by omega)] | rw [if_neg (by omega), if_pos (by omega)] | rw [if_neg (by omega), if_neg (by omega), if_pos (by omega)] | rw [if_neg (by omega), if_neg (by omega), if_neg (by omega)]) ?_
      exact ze_i (pc := 48) hx hb hr hlk hW () rfl trivial rfl dX7_stateLaid_48
  · refine zv_iconst (pc := 9) (n := 0) hx hb dX7_stateLaid_9 ?_
    refine zv_as (pc := 10) (a := 0) (b := zst (fa 0) (ya fa mo 5) lh lz) (by unfold zst; first | rw [if_pos (by omega)] | rw [if_neg (by omega), if_pos (by omega)] | rw [if_neg (by omega), if_neg (by omega), if_pos (by omega)] | rw [if_neg (by omega), if_neg (by omega), if_neg (by omega)]) ?_
    exact ze_i (pc := 10) hx hb hr hlk hW () rfl trivial rfl dX7_stateLaid_10

set_option maxHeartbeats 4000000 in
set_option maxRecDepth 100000 in
/-- castsLaid -/
theorem kX7_castsLaid (G : zG) (l : Launch) (z : Nat) (r0 : Nat) (r1 : Nat) (r2 : Nat) (r3 : Nat) (r4 : Nat) (km : Int) (th : Int) (r7 : Nat) (bu : Int) (pa : Int) (pb : Int) (ki : Int) (nu : Int) (wr : Int) (wa : Int) (ea : Int) (lx : Int) (ly : Int) (lh : Int) (lz : Int) (r20 : Nat) (go : Int) (iT : Int) (iM : Int) (iK : Int) (r25 : Nat) (wm : Int) (tm : Int) (te : Bool) (fa : Int → Int) (mo : Int) (hx1 : -5200000 ≤ lh) (hx2 : lh ≤ 5200000) (hy1 : -5200000 ≤ lz) (hy2 : lz ≤ 5200000) (hp1 : 0 ≤ fa 0) (hp2 : fa 0 ≤ 999) (hq1 : 0 ≤ ya fa mo 5) (hq2 : ya fa mo 5 ≤ 99) (h1 : 0 ≤ mo) (h2 : mo < 6) : zM G l yX7_castsLaid wsX7_castsLaid { frames := 1, cells := 0, slots := 0, locals := 22 } [.ref z, .int (zI mo)] [(z, .inr (7, [.ref r0, .ref r1, .ref r2, .ref r3, .ref r4, .int (zI km), .int (zI th), .ref r7, .int (zI bu), .int (zI pa), .int (zI pb), .int (zI ki), .int (zI nu), .int (zI wr), .int (zI wa), .int (zI ea), .long (zL lx), .long (zL ly), .long (zL lh), .long (zL lz), .ref r20, .int (zI go), .int (zI iT), .int (zI iM), .int (zI iK), .ref r25, .int (zI wm), .int (zI tm), .int (zI (zb te))])), (r0, .inl (zk G 0, 179, .inl (zA fa)))] (S := Unit) (zri (fun _ => zb (zca (fa 0) (ya fa mo 5) lh lz))) (fun _ => True) (fun _ => [(z, .inr (7, [.ref r0, .ref r1, .ref r2, .ref r3, .ref r4, .int (zI km), .int (zI th), .ref r7, .int (zI bu), .int (zI pa), .int (zI pb), .int (zI ki), .int (zI nu), .int (zI wr), .int (zI wa), .int (zI ea), .long (zL lx), .long (zL ly), .long (zL lh), .long (zL lz), .ref r20, .int (zI go), .int (zI iT), .int (zI iM), .int (zI iK), .ref r25, .int (zI wm), .int (zI tm), .int (zI (zb te))])), (r0, .inl (zk G 0, 179, .inl (zA fa)))]) 0 0 := by
  refine zM.of (cc := cX7_castsLaid) (maxL := 2) (ret := (some .boolean)) (by decide) rfl (Nat.le_of_ble_eq_true rfl) (l0 := [(0, .ref z), (1, .int (zI mo))]) rfl ?_
  intro p e s m args below meth c ls F hr hlk hnm hW hl
  obtain ⟨hx, hb, hml, hown, hts⟩ := id F
  have hin7 : ∀ w ∈ wsX70, w ∈ wsX7_castsLaid := fun _ h => List.mem_cons_of_mem _ (List.mem_append_right _ (h))
  refine lv_aload_n (pc := 0) hx hb dX7_castsLaid_0 rfl (lv_at hl 0 rfl) ?_
  refine zw_get (pc := 1) (ref := RX7) (index := 237) hx hb hts hin7 hown hW 0 rfl rfl 18 (by decide) (List.mem_of_getElem? (i := 1) rfl) (fun _ h9 => h9) rfl dX7_castsLaid_1 ?_
  refine zv_lconst (pc := 4) (v := 0) hx hb dX7_castsLaid_4 rfl ?_
  refine zv_lcmp_le (pc := 5) (tgt := 42) hx hb dX7_castsLaid_5 dX7_castsLaid_6 (by decide) ⟨by omega, by omega⟩ ⟨by omega, by omega⟩ (fun c5 => ?_) (fun c5 => ?_)
  · refine zv_iconst (pc := 42) (n := 0) hx hb dX7_castsLaid_42 ?_
    refine zv_as (pc := 43) (a := 0) (b := zb (zca (fa 0) (ya fa mo 5) lh lz)) (by unfold zca; first | (rw [decide_eq_true (show 0 < lh by omega), decide_eq_true (by omega)]; rfl) | (rw [decide_eq_false (show ¬ 0 < lh by omega)]; rfl) | (rw [decide_eq_true (show 0 < lh by omega), decide_eq_false (by omega)]; rfl)) ?_
    exact ze_z (pc := 43) hx hb hr hlk hW () rfl trivial rfl dX7_castsLaid_43
  · refine lv_aload_n (pc := 9) hx hb dX7_castsLaid_9 rfl (lv_at hl 0 rfl) ?_
    refine zw_get (pc := 10) (ref := RX7) (index := 240) hx hb hts hin7 hown hW 0 rfl rfl 19 (by decide) (List.mem_of_getElem? (i := 2) rfl) (fun _ h9 => h9) rfl dX7_castsLaid_10 ?_
    refine z_S (pc := 13) (As := [.long (zL lz)]) (rest := []) (wn := (fun _ => [(z, .inr (7, [.ref r0, .ref r1, .ref r2, .ref r3, .ref r4, .int (zI km), .int (zI th), .ref r7, .int (zI bu), .int (zI pa), .int (zI pb), .int (zI ki), .int (zI nu), .int (zI wr), .int (zI wa), .int (zI ea), .long (zL lx), .long (zL ly), .long (zL lh), .long (zL lz), .ref r20, .int (zI go), .int (zI iT), .int (zI iM), .int (zI iK), .ref r25, .int (zI wm), .int (zI tm), .int (zI (zb te))])), (r0, .inl (zk G 0, 179, .inl (zA fa)))])) (wr := [(z, .inr (7, [.ref r0, .ref r1, .ref r2, .ref r3, .ref r4, .int (zI km), .int (zI th), .ref r7, .int (zI bu), .int (zI pa), .int (zI pb), .int (zI ki), .int (zI nu), .int (zI wr), .int (zI wa), .int (zI ea), .long (zL lx), .long (zL ly), .long (zL lh), .long (zL lz), .ref r20, .int (zI go), .int (zI iT), .int (zI iM), .int (zI iK), .ref r25, .int (zI wm), .int (zI tm), .int (zI (zb te))])), (r0, .inl (zk G 0, 179, .inl (zA fa)))]) F (kX7_sizeOf G l lz (by first | assumption | omega) (by first | assumption | omega)) (va_cwS 1 hts gX7_castsLaid_X7_sizeOf rfl rfl rfl (by decide +kernel) ⟨Nat.le_of_ble_eq_true rfl, Nat.le_of_ble_eq_true rfl⟩) hW [] [0, 1] (by decide) rfl rfl rfl (by decide) (by decide) [0, 1] (by decide) (fun _ => rfl) (fun _ => rfl) rfl hl.1 rfl (Nat.le_of_ble_eq_true rfl) dX7_castsLaid_13 ⟨Nat.le_of_ble_eq_true rfl, Nat.le_of_ble_eq_true rfl⟩ (fun _ H locs _ hW => ?_)
    show W p l e _ s m args below meth c H locs _ _ _ (F0 m 16 ls [.long (zL (zabs lz))])
    have ab13 := zabs_sp (lz)
    refine zv_ldc2 (pc := 16) (v := 100) hx hb hown (hts _ (List.mem_of_getElem? (i := 3) rfl)) rfl dX7_castsLaid_16 ?_
    refine lv_aload_n (pc := 19) hx hb dX7_castsLaid_19 rfl (lv_at hl 0 rfl) ?_
    refine zw_get (pc := 20) (ref := RX7) (index := 7) hx hb hts hin7 hown hW 0 rfl rfl 0 (by decide) (List.mem_of_getElem? (i := 4) rfl) (fun _ h9 => h9) rfl dX7_castsLaid_20 ?_
    refine zv_iconst (pc := 23) (n := 0) hx hb dX7_castsLaid_23 ?_
    refine zw_iald (pc := 24) hx hb hW 1 rfl (by omega) (by omega) (by decide) dX7_castsLaid_24 ?_
    refine lv_aload_n (pc := 25) hx hb dX7_castsLaid_25 rfl (lv_at hl 0 rfl) ?_
    refine lv_iload_n (pc := 26) hx hb dX7_castsLaid_26 rfl (lv_at hl 1 rfl) ?_
    refine zv_iconst (pc := 27) (n := 5) hx hb dX7_castsLaid_27 ?_
    refine z_V (pc := 28) (As := [.int (zI mo), .int (zI 5)]) (rest := [.int (zI (fa 0)), .long (zL 100), .long (zL (zabs lz))]) (wn := (fun _ => [(z, .inr (7, [.ref r0, .ref r1, .ref r2, .ref r3, .ref r4, .int (zI km), .int (zI th), .ref r7, .int (zI bu), .int (zI pa), .int (zI pb), .int (zI ki), .int (zI nu), .int (zI wr), .int (zI wa), .int (zI ea), .long (zL lx), .long (zL ly), .long (zL lh), .long (zL lz), .ref r20, .int (zI go), .int (zI iT), .int (zI iM), .int (zI iK), .ref r25, .int (zI wm), .int (zI tm), .int (zI (zb te))])), (r0, .inl (zk G 0, 179, .inl (zA fa)))])) (wr := []) F (kX7_of G l z r0 r1 r2 r3 r4 km th r7 bu pa pb ki nu wr wa ea lx ly lh lz r20 go iT iM iK r25 wm tm te fa mo 5 (by first | assumption | omega) (by first | assumption | omega) (by first | assumption | omega) (by first | assumption | omega)) (cwV 2 hts gX7_castsLaid_X7_of rfl rfl rfl (by decide +kernel) ⟨Nat.le_of_ble_eq_true rfl, Nat.le_of_ble_eq_true rfl⟩) hW 0 rfl rfl [0, 1] [] (by decide) rfl rfl rfl (by decide) (by decide) [0, 1] (by decide) (fun _ => rfl) (fun _ => rfl) rfl hl.1 rfl (Nat.le_of_ble_eq_true rfl) dX7_castsLaid_28 ⟨Nat.le_of_ble_eq_true rfl, Nat.le_of_ble_eq_true rfl⟩ (fun _ H locs _ hW => ?_)
    show W p l e _ s m args below meth c H locs _ _ _ (F0 m 31 ls [.int (zI (ya fa mo 5)), .int (zI (fa 0)), .long (zL 100), .long (zL (zabs lz))])
    refine zv_iadd (pc := 31) hx hb dX7_castsLaid_31 ?_
    refine zv_i2l (pc := 32) hx hb dX7_castsLaid_32 ⟨by omega, by omega⟩ ?_
    refine zv_lmul (pc := 33) hx hb dX7_castsLaid_33 ?_
    refine zv_lcmp_ge (pc := 34) (tgt := 42) hx hb dX7_castsLaid_34 dX7_castsLaid_35 (by decide) ⟨by omega, by omega⟩ ⟨by omega, by omega⟩ (fun c34 => ?_) (fun c34 => ?_)
    · refine zv_iconst (pc := 42) (n := 0) hx hb dX7_castsLaid_42 ?_
      refine zv_as (pc := 43) (a := 0) (b := zb (zca (fa 0) (ya fa mo 5) lh lz)) (by unfold zca; first | (rw [decide_eq_true (show 0 < lh by omega), decide_eq_true (by omega)]; rfl) | (rw [decide_eq_false (show ¬ 0 < lh by omega)]; rfl) | (rw [decide_eq_true (show 0 < lh by omega), decide_eq_false (by omega)]; rfl)) ?_
      exact ze_z (pc := 43) hx hb hr hlk hW () rfl trivial rfl dX7_castsLaid_43
    · refine zv_iconst (pc := 38) (n := 1) hx hb dX7_castsLaid_38 ?_
      refine lv_goto (pc := 39) (tgt := 43) hx hb dX7_castsLaid_39 (by decide) ?_
      refine zv_as (pc := 43) (a := 1) (b := zb (zca (fa 0) (ya fa mo 5) lh lz)) (by unfold zca; first | (rw [decide_eq_true (show 0 < lh by omega), decide_eq_true (by omega)]; rfl) | (rw [decide_eq_false (show ¬ 0 < lh by omega)]; rfl) | (rw [decide_eq_true (show 0 < lh by omega), decide_eq_false (by omega)]; rfl)) ?_
      exact ze_z (pc := 43) hx hb hr hlk hW () rfl trivial rfl dX7_castsLaid_43

set_option maxHeartbeats 4000000 in
set_option maxRecDepth 100000 in
/-- stateAt -/
theorem kX7_stateAt (G : zG) (l : Launch) (z : Nat) (r0 : Nat) (r1 : Nat) (r2 : Nat) (r3 : Nat) (r4 : Nat) (km : Int) (th : Int) (r7 : Nat) (bu : Int) (pa : Int) (pb : Int) (ki : Int) (nu : Int) (wr : Int) (wa : Int) (ea : Int) (lx : Int) (ly : Int) (lh : Int) (lz : Int) (r20 : Nat) (go : Int) (iT : Int) (iM : Int) (iK : Int) (r25 : Nat) (wm : Int) (tm : Int) (te : Bool) (fa : Int → Int) (mo : Int) (t : Int) (h1 : 0 ≤ mo) (h2 : mo < 6) (hg : zgok (ya fa mo)) (hd1 : 0 ≤ fa 1) (hd2 : fa 1 ≤ 359) (hr1 : -999 ≤ fa 2) (hr2 : fa 2 ≤ 999) (ht1 : 0 ≤ t) (ht2 : t ≤ 1000000) (hp1 : 0 ≤ fa 0) (hp2 : fa 0 ≤ 999) : zM G l yX7_stateAt wsX7_stateAt { frames := 5, cells := 0, slots := 0, locals := 119 } [.ref z, .int (zI mo), .int (zI t)] [(z, .inr (7, [.ref r0, .ref r1, .ref r2, .ref r3, .ref r4, .int (zI km), .int (zI th), .ref r7, .int (zI bu), .int (zI pa), .int (zI pb), .int (zI ki), .int (zI nu), .int (zI wr), .int (zI wa), .int (zI ea), .long (zL lx), .long (zL ly), .long (zL lh), .long (zL lz), .ref r20, .int (zI go), .int (zI iT), .int (zI iM), .int (zI iK), .ref r25, .int (zI wm), .int (zI tm), .int (zI (zb te))])), (r0, .inl (zk G 0, 179, .inl (zA fa)))] (S := Unit) (zri (fun _ => zS (fa 0) (fa 1) (fa 2) (ya fa mo) t)) (fun _ => True) (fun _ => [(z, .inr (7, [.ref r0, .ref r1, .ref r2, .ref r3, .ref r4, .int (zI km), .int (zI th), .ref r7, .int (zI bu), .int (zI pa), .int (zI pb), .int (zI ki), .int (zI nu), .int (zI wr), .int (zI wa), .int (zI ea), .long (zL (zlx (ya fa mo) t)), .long (zL (zly (ya fa mo) t)), .long (zL (zlh (fa 1) (fa 2) (ya fa mo) t)), .long (zL (zls (fa 1) (fa 2) (ya fa mo) t)), .ref r20, .int (zI go), .int (zI iT), .int (zI iM), .int (zI iK), .ref r25, .int (zI wm), .int (zI tm), .int (zI (zb te))])), (r0, .inl (zk G 0, 179, .inl (zA fa)))]) 0 0 := by
  refine zM.of (cc := cX7_stateAt) (maxL := 3) (ret := (some .int)) (by decide) rfl (Nat.le_of_ble_eq_true rfl) (l0 := [(0, .ref z), (1, .int (zI mo)), (2, .int (zI t))]) rfl ?_
  intro p e s m args below meth c ls F hr hlk hnm hW hl
  obtain ⟨hx, hb, hml, hown, hts⟩ := id F
  obtain ⟨gf0, gf1, gf2, gf3, gf4, gf5⟩ : (2 ≤ (ya fa mo) 0 ∧ (ya fa mo) 0 ≤ 9999) ∧ (0 ≤ (ya fa mo) 1 ∧ (ya fa mo) 1 ≤ 60) ∧ (0 ≤ (ya fa mo) 2 ∧ (ya fa mo) 2 ≤ 359) ∧ (8 ≤ (ya fa mo) 3 ∧ (ya fa mo) 3 ≤ 99999) ∧ (0 ≤ (ya fa mo) 4 ∧ (ya fa mo) 4 ≤ 359) ∧ (0 ≤ (ya fa mo) 5 ∧ (ya fa mo) 5 ≤ 99) := id hg
  have blh := zlh_in (di := fa 1) (dr := fa 2) (t := t) hg
  have bls := zls_in (di := fa 1) (dr := fa 2) (t := t) hg
  refine lv_aload_n (pc := 0) hx hb dX7_stateAt_0 rfl (lv_at hl 0 rfl) ?_
  refine lv_iload_n (pc := 1) hx hb dX7_stateAt_1 rfl (lv_at hl 1 rfl) ?_
  refine lv_iload_n (pc := 2) hx hb dX7_stateAt_2 rfl (lv_at hl 2 rfl) ?_
  refine z_V (pc := 3) (As := [.int (zI mo), .int (zI t)]) (rest := []) (wn := (fun _ => [(z, .inr (7, [.ref r0, .ref r1, .ref r2, .ref r3, .ref r4, .int (zI km), .int (zI th), .ref r7, .int (zI bu), .int (zI pa), .int (zI pb), .int (zI ki), .int (zI nu), .int (zI wr), .int (zI wa), .int (zI ea), .long (zL (zlx (ya fa mo) t)), .long (zL (zly (ya fa mo) t)), .long (zL (zlh (fa 1) (fa 2) (ya fa mo) t)), .long (zL (zls (fa 1) (fa 2) (ya fa mo) t)), .ref r20, .int (zI go), .int (zI iT), .int (zI iM), .int (zI iK), .ref r25, .int (zI wm), .int (zI tm), .int (zI (zb te))])), (r0, .inl (zk G 0, 179, .inl (zA fa)))])) (wr := []) F (kX7_lays G l z r0 r1 r2 r3 r4 km th r7 bu pa pb ki nu wr wa ea lx ly lh lz r20 go iT iM iK r25 wm tm te fa mo t (by first | assumption | omega) (by first | assumption | omega) (by first | assumption | omega) (by first | assumption | omega) (by first | assumption | omega) (by first | assumption | omega) (by first | assumption | omega) (by first | assumption | omega) (by first | assumption | omega)) (cwV 2 hts gX7_stateAt_X7_lays rfl rfl rfl (by decide +kernel) ⟨Nat.le_of_ble_eq_true rfl, Nat.le_of_ble_eq_true rfl⟩) hW 0 rfl rfl [0, 1] [] (by decide) rfl rfl rfl (by decide) (by decide) [0, 1] (by decide) (fun _ => rfl) (fun _ => rfl) rfl hl.1 rfl (Nat.le_of_ble_eq_true rfl) dX7_stateAt_3 ⟨Nat.le_of_ble_eq_true rfl, Nat.le_of_ble_eq_true rfl⟩ (fun _ H locs _ hW => ?_)
  refine lv_aload_n (pc := 6) hx hb dX7_stateAt_6 rfl (lv_at hl 0 rfl) ?_
  refine lv_iload_n (pc := 7) hx hb dX7_stateAt_7 rfl (lv_at hl 1 rfl) ?_
  refine z_V (pc := 8) (As := [.int (zI mo)]) (rest := []) (wn := (fun _ => [(z, .inr (7, [.ref r0, .ref r1, .ref r2, .ref r3, .ref r4, .int (zI km), .int (zI th), .ref r7, .int (zI bu), .int (zI pa), .int (zI pb), .int (zI ki), .int (zI nu), .int (zI wr), .int (zI wa), .int (zI ea), .long (zL (zlx (ya fa mo) t)), .long (zL (zly (ya fa mo) t)), .long (zL (zlh (fa 1) (fa 2) (ya fa mo) t)), .long (zL (zls (fa 1) (fa 2) (ya fa mo) t)), .ref r20, .int (zI go), .int (zI iT), .int (zI iM), .int (zI iK), .ref r25, .int (zI wm), .int (zI tm), .int (zI (zb te))])), (r0, .inl (zk G 0, 179, .inl (zA fa)))])) (wr := []) F (kX7_stateLaid G l z r0 r1 r2 r3 r4 km th r7 bu pa pb ki nu wr wa ea (zlx (ya fa mo) t) (zly (ya fa mo) t) (zlh (fa 1) (fa 2) (ya fa mo) t) (zls (fa 1) (fa 2) (ya fa mo) t) r20 go iT iM iK r25 wm tm te fa mo (by first | assumption | omega) (by first | assumption | omega) (by first | assumption | omega) (by first | assumption | omega) (by first | assumption | omega) (by first | assumption | omega) (by first | assumption | omega) (by first | assumption | omega) (by first | assumption | omega) (by first | assumption | omega)) (cwV 1 hts gX7_stateAt_X7_stateLaid rfl rfl rfl (by decide +kernel) ⟨Nat.le_of_ble_eq_true rfl, Nat.le_of_ble_eq_true rfl⟩) hW 0 rfl rfl [0, 1] [] (by decide) rfl rfl rfl (by decide) (by decide) [0, 1] (by decide) (fun _ => rfl) (fun _ => rfl) rfl hl.1 rfl (Nat.le_of_ble_eq_true rfl) dX7_stateAt_8 ⟨Nat.le_of_ble_eq_true rfl, Nat.le_of_ble_eq_true rfl⟩ (fun _ H locs _ hW => ?_)
  show W p l e _ s m args below meth c H locs _ _ _ (F0 m 11 ls [.int (zI (zst (fa 0) (ya fa mo 5) (zlh (fa 1) (fa 2) (ya fa mo) t) (zls (fa 1) (fa 2) (ya fa mo) t)))])
  have ss8 := zst_in (fa 0) (ya fa mo 5) ((zlh (fa 1) (fa 2) (ya fa mo) t)) ((zls (fa 1) (fa 2) (ya fa mo) t))
  refine zv_as (pc := 11) (a := zst (fa 0) (ya fa mo 5) (zlh (fa 1) (fa 2) (ya fa mo) t) (zls (fa 1) (fa 2) (ya fa mo) t)) (b := zS (fa 0) (fa 1) (fa 2) (ya fa mo) t) (rfl) ?_
  exact ze_i (pc := 11) hx hb hr hlk hW () rfl trivial rfl dX7_stateAt_11

set_option maxHeartbeats 4000000 in
set_option maxRecDepth 100000 in
/-- looksAt -/
theorem kX7_looksAt (G : zG) (l : Launch) (z : Nat) (r0 : Nat) (r1 : Nat) (r2 : Nat) (r3 : Nat) (r4 : Nat) (km : Int) (th : Int) (r7 : Nat) (bu : Int) (pa : Int) (pb : Int) (ki : Int) (nu : Int) (wr : Int) (wa : Int) (ea : Int) (lx : Int) (ly : Int) (lh : Int) (lz : Int) (r20 : Nat) (go : Int) (iT : Int) (iM : Int) (iK : Int) (r25 : Nat) (wm : Int) (tm : Int) (te : Bool) (fa : Int → Int) (mo : Int) (t : Int) (h1 : 0 ≤ mo) (h2 : mo < 6) (hg : zgok (ya fa mo)) (hd1 : 0 ≤ fa 1) (hd2 : fa 1 ≤ 359) (hr1 : -999 ≤ fa 2) (hr2 : fa 2 ≤ 999) (ht1 : 0 ≤ t) (ht2 : t ≤ 1000000) (hp1 : 0 ≤ fa 0) (hp2 : fa 0 ≤ 999) : zM G l yX7_looksAt wsX7_looksAt { frames := 5, cells := 0, slots := 0, locals := 119 } [.ref z, .int (zI mo), .int (zI t)] [(z, .inr (7, [.ref r0, .ref r1, .ref r2, .ref r3, .ref r4, .int (zI km), .int (zI th), .ref r7, .int (zI bu), .int (zI pa), .int (zI pb), .int (zI ki), .int (zI nu), .int (zI wr), .int (zI wa), .int (zI ea), .long (zL lx), .long (zL ly), .long (zL lh), .long (zL lz), .ref r20, .int (zI go), .int (zI iT), .int (zI iM), .int (zI iK), .ref r25, .int (zI wm), .int (zI tm), .int (zI (zb te))])), (r0, .inl (zk G 0, 179, .inl (zA fa)))] (S := Unit) (zri (fun _ => zL2 (fa 0) (fa 1) (fa 2) (ya fa mo) t)) (fun _ => True) (fun _ => [(z, .inr (7, [.ref r0, .ref r1, .ref r2, .ref r3, .ref r4, .int (zI km), .int (zI th), .ref r7, .int (zI bu), .int (zI pa), .int (zI pb), .int (zI ki), .int (zI nu), .int (zI wr), .int (zI wa), .int (zI ea), .long (zL (zlx (ya fa mo) t)), .long (zL (zly (ya fa mo) t)), .long (zL (zlh (fa 1) (fa 2) (ya fa mo) t)), .long (zL (zls (fa 1) (fa 2) (ya fa mo) t)), .ref r20, .int (zI go), .int (zI iT), .int (zI iM), .int (zI iK), .ref r25, .int (zI wm), .int (zI tm), .int (zI (zb te))])), (r0, .inl (zk G 0, 179, .inl (zA fa)))]) 0 0 := by
  refine zM.of (cc := cX7_looksAt) (maxL := 3) (ret := (some .int)) (by decide) rfl (Nat.le_of_ble_eq_true rfl) (l0 := [(0, .ref z), (1, .int (zI mo)), (2, .int (zI t))]) rfl ?_
  intro p e s m args below meth c ls F hr hlk hnm hW hl
  obtain ⟨hx, hb, hml, hown, hts⟩ := id F
  obtain ⟨gf0, gf1, gf2, gf3, gf4, gf5⟩ : (2 ≤ (ya fa mo) 0 ∧ (ya fa mo) 0 ≤ 9999) ∧ (0 ≤ (ya fa mo) 1 ∧ (ya fa mo) 1 ≤ 60) ∧ (0 ≤ (ya fa mo) 2 ∧ (ya fa mo) 2 ≤ 359) ∧ (8 ≤ (ya fa mo) 3 ∧ (ya fa mo) 3 ≤ 99999) ∧ (0 ≤ (ya fa mo) 4 ∧ (ya fa mo) 4 ≤ 359) ∧ (0 ≤ (ya fa mo) 5 ∧ (ya fa mo) 5 ≤ 99) := id hg
  have blh := zlh_in (di := fa 1) (dr := fa 2) (t := t) hg
  have bls := zls_in (di := fa 1) (dr := fa 2) (t := t) hg
  refine lv_aload_n (pc := 0) hx hb dX7_looksAt_0 rfl (lv_at hl 0 rfl) ?_
  refine lv_iload_n (pc := 1) hx hb dX7_looksAt_1 rfl (lv_at hl 1 rfl) ?_
  refine lv_iload_n (pc := 2) hx hb dX7_looksAt_2 rfl (lv_at hl 2 rfl) ?_
  refine z_V (pc := 3) (As := [.int (zI mo), .int (zI t)]) (rest := []) (wn := (fun _ => [(z, .inr (7, [.ref r0, .ref r1, .ref r2, .ref r3, .ref r4, .int (zI km), .int (zI th), .ref r7, .int (zI bu), .int (zI pa), .int (zI pb), .int (zI ki), .int (zI nu), .int (zI wr), .int (zI wa), .int (zI ea), .long (zL (zlx (ya fa mo) t)), .long (zL (zly (ya fa mo) t)), .long (zL (zlh (fa 1) (fa 2) (ya fa mo) t)), .long (zL (zls (fa 1) (fa 2) (ya fa mo) t)), .ref r20, .int (zI go), .int (zI iT), .int (zI iM), .int (zI iK), .ref r25, .int (zI wm), .int (zI tm), .int (zI (zb te))])), (r0, .inl (zk G 0, 179, .inl (zA fa)))])) (wr := []) F (kX7_lays G l z r0 r1 r2 r3 r4 km th r7 bu pa pb ki nu wr wa ea lx ly lh lz r20 go iT iM iK r25 wm tm te fa mo t (by first | assumption | omega) (by first | assumption | omega) (by first | assumption | omega) (by first | assumption | omega) (by first | assumption | omega) (by first | assumption | omega) (by first | assumption | omega) (by first | assumption | omega) (by first | assumption | omega)) (cwV 2 hts gX7_looksAt_X7_lays rfl rfl rfl (by decide +kernel) ⟨Nat.le_of_ble_eq_true rfl, Nat.le_of_ble_eq_true rfl⟩) hW 0 rfl rfl [0, 1] [] (by decide) rfl rfl rfl (by decide) (by decide) [0, 1] (by decide) (fun _ => rfl) (fun _ => rfl) rfl hl.1 rfl (Nat.le_of_ble_eq_true rfl) dX7_looksAt_3 ⟨Nat.le_of_ble_eq_true rfl, Nat.le_of_ble_eq_true rfl⟩ (fun _ H locs _ hW => ?_)
  refine lv_aload_n (pc := 6) hx hb dX7_looksAt_6 rfl (lv_at hl 0 rfl) ?_
  refine lv_iload_n (pc := 7) hx hb dX7_looksAt_7 rfl (lv_at hl 1 rfl) ?_
  refine z_V (pc := 8) (As := [.int (zI mo)]) (rest := []) (wn := (fun _ => [(z, .inr (7, [.ref r0, .ref r1, .ref r2, .ref r3, .ref r4, .int (zI km), .int (zI th), .ref r7, .int (zI bu), .int (zI pa), .int (zI pb), .int (zI ki), .int (zI nu), .int (zI wr), .int (zI wa), .int (zI ea), .long (zL (zlx (ya fa mo) t)), .long (zL (zly (ya fa mo) t)), .long (zL (zlh (fa 1) (fa 2) (ya fa mo) t)), .long (zL (zls (fa 1) (fa 2) (ya fa mo) t)), .ref r20, .int (zI go), .int (zI iT), .int (zI iM), .int (zI iK), .ref r25, .int (zI wm), .int (zI tm), .int (zI (zb te))])), (r0, .inl (zk G 0, 179, .inl (zA fa)))])) (wr := []) F (kX7_stateLaid G l z r0 r1 r2 r3 r4 km th r7 bu pa pb ki nu wr wa ea (zlx (ya fa mo) t) (zly (ya fa mo) t) (zlh (fa 1) (fa 2) (ya fa mo) t) (zls (fa 1) (fa 2) (ya fa mo) t) r20 go iT iM iK r25 wm tm te fa mo (by first | assumption | omega) (by first | assumption | omega) (by first | assumption | omega) (by first | assumption | omega) (by first | assumption | omega) (by first | assumption | omega) (by first | assumption | omega) (by first | assumption | omega) (by first | assumption | omega) (by first | assumption | omega)) (cwV 1 hts gX7_looksAt_X7_stateLaid rfl rfl rfl (by decide +kernel) ⟨Nat.le_of_ble_eq_true rfl, Nat.le_of_ble_eq_true rfl⟩) hW 0 rfl rfl [0, 1] [] (by decide) rfl rfl rfl (by decide) (by decide) [0, 1] (by decide) (fun _ => rfl) (fun _ => rfl) rfl hl.1 rfl (Nat.le_of_ble_eq_true rfl) dX7_looksAt_8 ⟨Nat.le_of_ble_eq_true rfl, Nat.le_of_ble_eq_true rfl⟩ (fun _ H locs _ hW => ?_)
  show W p l e _ s m args below meth c H locs _ _ _ (F0 m 11 ls [.int (zI (zst (fa 0) (ya fa mo 5) (zlh (fa 1) (fa 2) (ya fa mo) t) (zls (fa 1) (fa 2) (ya fa mo) t)))])
  have ss8 := zst_in (fa 0) (ya fa mo 5) ((zlh (fa 1) (fa 2) (ya fa mo) t)) ((zls (fa 1) (fa 2) (ya fa mo) t))
  refine zv_if_le (pc := 11) (tgt := 18) hx hb dX7_looksAt_11 (by decide) ⟨by omega, by omega⟩ (fun c11 => ?_) (fun c11 => ?_)
  · refine lv_aload_n (pc := 18) hx hb dX7_looksAt_18 rfl (lv_at hl 0 rfl) ?_
    refine lv_iload_n (pc := 19) hx hb dX7_looksAt_19 rfl (lv_at hl 1 rfl) ?_
    refine z_V (pc := 20) (As := [.int (zI mo)]) (rest := []) (wn := (fun _ => [(z, .inr (7, [.ref r0, .ref r1, .ref r2, .ref r3, .ref r4, .int (zI km), .int (zI th), .ref r7, .int (zI bu), .int (zI pa), .int (zI pb), .int (zI ki), .int (zI nu), .int (zI wr), .int (zI wa), .int (zI ea), .long (zL (zlx (ya fa mo) t)), .long (zL (zly (ya fa mo) t)), .long (zL (zlh (fa 1) (fa 2) (ya fa mo) t)), .long (zL (zls (fa 1) (fa 2) (ya fa mo) t)), .ref r20, .int (zI go), .int (zI iT), .int (zI iM), .int (zI iK), .ref r25, .int (zI wm), .int (zI tm), .int (zI (zb te))])), (r0, .inl (zk G 0, 179, .inl (zA fa)))])) (wr := []) F (kX7_castsLaid G l z r0 r1 r2 r3 r4 km th r7 bu pa pb ki nu wr wa ea (zlx (ya fa mo) t) (zly (ya fa mo) t) (zlh (fa 1) (fa 2) (ya fa mo) t) (zls (fa 1) (fa 2) (ya fa mo) t) r20 go iT iM iK r25 wm tm te fa mo (by first | assumption | omega) (by first | assumption | omega) (by first | assumption | omega) (by first | assumption | omega) (by first | assumption | omega) (by first | assumption | omega) (by first | assumption | omega) (by first | assumption | omega) (by first | assumption | omega) (by first | assumption | omega)) (cwV 1 hts gX7_looksAt_X7_castsLaid rfl rfl rfl (by decide +kernel) ⟨Nat.le_of_ble_eq_true rfl, Nat.le_of_ble_eq_true rfl⟩) hW 0 rfl rfl [0, 1] [] (by decide) rfl rfl rfl (by decide) (by decide) [0, 1] (by decide) (fun _ => rfl) (fun _ => rfl) rfl hl.1 rfl (Nat.le_of_ble_eq_true rfl) dX7_looksAt_20 ⟨Nat.le_of_ble_eq_true rfl, Nat.le_of_ble_eq_true rfl⟩ (fun _ H locs _ hW => ?_)
    show W p l e _ s m args below meth c H locs _ _ _ (F0 m 23 ls [.int (zI (zb (zca (fa 0) (ya fa mo 5) (zlh (fa 1) (fa 2) (ya fa mo) t) (zls (fa 1) (fa 2) (ya fa mo) t))))])
    refine zv_b_eq (pc := 23) (tgt := 30) hx hb dX7_looksAt_23 (by decide) (fun c23 => ?_) (fun c23 => ?_)
    · refine zv_iconst (pc := 30) (n := 0) hx hb dX7_looksAt_30 ?_
      refine zv_as (pc := 31) (a := 0) (b := zL2 (fa 0) (fa 1) (fa 2) (ya fa mo) t) (by show _ = zlk (zst (fa 0) (ya fa mo 5) (zlh (fa 1) (fa 2) (ya fa mo) t) (zls (fa 1) (fa 2) (ya fa mo) t)) (zca (fa 0) (ya fa mo 5) (zlh (fa 1) (fa 2) (ya fa mo) t) (zls (fa 1) (fa 2) (ya fa mo) t)); unfold zlk; first | rw [if_pos (by omega)] | (rw [if_neg (by omega), if_pos c23]) | (rw [if_neg (by omega), if_neg (by rw [c23]; decide)])) ?_
      exact ze_i (pc := 31) hx hb hr hlk hW () rfl trivial rfl dX7_looksAt_31
    · refine zv_iconst (pc := 26) (n := 2) hx hb dX7_looksAt_26 ?_
      refine lv_goto (pc := 27) (tgt := 31) hx hb dX7_looksAt_27 (by decide) ?_
      refine zv_as (pc := 31) (a := 2) (b := zL2 (fa 0) (fa 1) (fa 2) (ya fa mo) t) (by show _ = zlk (zst (fa 0) (ya fa mo 5) (zlh (fa 1) (fa 2) (ya fa mo) t) (zls (fa 1) (fa 2) (ya fa mo) t)) (zca (fa 0) (ya fa mo 5) (zlh (fa 1) (fa 2) (ya fa mo) t) (zls (fa 1) (fa 2) (ya fa mo) t)); unfold zlk; first | rw [if_pos (by omega)] | (rw [if_neg (by omega), if_pos c23]) | (rw [if_neg (by omega), if_neg (by rw [c23]; decide)])) ?_
      exact ze_i (pc := 31) hx hb hr hlk hW () rfl trivial rfl dX7_looksAt_31
  · refine zv_iconst (pc := 14) (n := 1) hx hb dX7_looksAt_14 ?_
    refine lv_goto (pc := 15) (tgt := 31) hx hb dX7_looksAt_15 (by decide) ?_
    refine zv_as (pc := 31) (a := 1) (b := zL2 (fa 0) (fa 1) (fa 2) (ya fa mo) t) (by show _ = zlk (zst (fa 0) (ya fa mo 5) (zlh (fa 1) (fa 2) (ya fa mo) t) (zls (fa 1) (fa 2) (ya fa mo) t)) (zca (fa 0) (ya fa mo 5) (zlh (fa 1) (fa 2) (ya fa mo) t) (zls (fa 1) (fa 2) (ya fa mo) t)); unfold zlk; first | rw [if_pos (by omega)] | (rw [if_neg (by omega), if_pos c23]) | (rw [if_neg (by omega), if_neg (by rw [c23]; decide)])) ?_
    exact ze_i (pc := 31) hx hb hr hlk hW () rfl trivial rfl dX7_looksAt_31
