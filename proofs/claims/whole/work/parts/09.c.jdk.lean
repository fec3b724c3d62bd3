set_option maxHeartbeats 400000 in
set_option maxRecDepth 100000 in
/-- coder -/
theorem kJ0_coder_7d493 (G : zG) (l : Launch) (k : Nat) (hk : k < 13) : zM G l yJ0_coder_7d493 wsJ0_coder_7d493 { frames := 0, cells := 0, slots := 0, locals := 0 } [.ref (zsk G k)] [] (S := Unit) (zri (fun _ => 0)) (fun _ => True) (fun _ => []) 0 0 := by
  refine zM.ofF (cc := cJ0_coder_7d493) (maxL := 1) (ret := (some .byte)) (by decide +kernel) rfl (Nat.le_of_ble_eq_true rfl) (l0 := [(0, .ref (zsk G k))]) rfl ?_
  intro p e s m args below meth c ls F hr hlk hnm hW hl
  obtain ⟨hx, hb, hml, hown, hts⟩ := id F
  refine zs_cmp (pc := 0) hx hb hW hown (hts _ (List.mem_of_getElem? (i := 1) rfl)) dJ0_coder_7d493_0 ?_
  refine zv_if_eq (pc := 3) (tgt := 13) hx hb dJ0_coder_7d493_3 (by decide) ⟨by omega, by omega⟩ (fun c3 => absurd c3 (by omega)) (fun c3 => ?_)
  refine lv_aload_n (pc := 6) hx hb dJ0_coder_7d493_6 rfl (lv_at hl 0 rfl) ?_
  refine zs_cod (pc := 7) hx hb (by first | assumption | omega) hW hown (hts _ (List.mem_of_getElem? (i := 2) rfl)) dJ0_coder_7d493_7 ?_
  refine lv_goto (pc := 10) (tgt := 14) hx hb dJ0_coder_7d493_10 (by decide) ?_
  exact ze_b0 (pc := 14) hx hb hr hlk hW () rfl trivial rfl dJ0_coder_7d493_14

set_option maxHeartbeats 400000 in
set_option maxRecDepth 100000 in
/-- isLatin1 -/
theorem kJ0_isLatin1_aae02 (G : zG) (l : Launch) (k : Nat) (hk : k < 13) : zM G l yJ0_isLatin1_aae02 wsJ0_isLatin1_aae02 { frames := 0, cells := 0, slots := 0, locals := 0 } [.ref (zsk G k)] [] (S := Unit) (zri (fun _ => zb true)) (fun _ => True) (fun _ => []) 0 0 := by
  refine zM.ofF (cc := cJ0_isLatin1_aae02) (maxL := 1) (ret := (some .boolean)) (by decide +kernel) rfl (Nat.le_of_ble_eq_true rfl) (l0 := [(0, .ref (zsk G k))]) rfl ?_
  intro p e s m args below meth c ls F hr hlk hnm hW hl
  obtain ⟨hx, hb, hml, hown, hts⟩ := id F
  refine zs_cmp (pc := 0) hx hb hW hown (hts _ (List.mem_of_getElem? (i := 1) rfl)) dJ0_isLatin1_aae02_0 ?_
  refine zv_if_eq (pc := 3) (tgt := 17) hx hb dJ0_isLatin1_aae02_3 (by decide) ⟨by omega, by omega⟩ (fun c3 => absurd c3 (by omega)) (fun c3 => ?_)
  refine lv_aload_n (pc := 6) hx hb dJ0_isLatin1_aae02_6 rfl (lv_at hl 0 rfl) ?_
  refine zs_cod (pc := 7) hx hb (by first | assumption | omega) hW hown (hts _ (List.mem_of_getElem? (i := 2) rfl)) dJ0_isLatin1_aae02_7 ?_
  refine zv_if_ne (pc := 10) (tgt := 17) hx hb dJ0_isLatin1_aae02_10 (by decide) ⟨by omega, by omega⟩ (fun c10 => absurd c10 (by omega)) (fun c10 => ?_)
  refine zv_iconst (pc := 13) (n := 1) hx hb dJ0_isLatin1_aae02_13 ?_
  refine lv_goto (pc := 14) (tgt := 18) hx hb dJ0_isLatin1_aae02_14 (by decide) ?_
  refine zv_as (pc := 18) (a := 1) (b := zb true) (rfl) ?_
  exact ze_z (pc := 18) hx hb hr hlk hW () rfl trivial rfl dJ0_isLatin1_aae02_18

set_option maxHeartbeats 400000 in
set_option maxRecDepth 100000 in
/-- length -/
theorem kJ0_length_8abf5 (G : zG) (l : Launch) (k : Nat) (hk : k < 13) : zM G l yJ0_length_8abf5 wsJ0_length_8abf5 { frames := 1, cells := 0, slots := 0, locals := 20 } [.ref (zsk G k)] [] (S := Unit) (zri (fun _ => wln k)) (fun _ => True) (fun _ => []) 0 0 := by
  refine zM.ofF (cc := cJ0_length_8abf5) (maxL := 1) (ret := (some .int)) (by decide +kernel) rfl (Nat.le_of_ble_eq_true rfl) (l0 := [(0, .ref (zsk G k))]) rfl ?_
  intro p e s m args below meth c ls F hr hlk hnm hW hl
  obtain ⟨hx, hb, hml, hown, hts⟩ := id F
  refine lv_aload_n (pc := 0) hx hb dJ0_length_8abf5_0 rfl (lv_at hl 0 rfl) ?_
  refine zs_val (pc := 1) hx hb (by first | assumption | omega) hW hown (hts _ (List.mem_of_getElem? (i := 1) rfl)) dJ0_length_8abf5_1 ?_
  refine zs_len (pc := 4) hx hb (by first | assumption | omega) hW dJ0_length_8abf5_4 ?_
  refine lv_aload_n (pc := 5) hx hb dJ0_length_8abf5_5 rfl (lv_at hl 0 rfl) ?_
  refine z_VS (pc := 6) (As := []) (rest := [.int (zI (wln k))]) F (by first | assumption | omega | decide) (kJ0_coder_7d493 G l k (by first | assumption | omega | decide)) (cwV 0 hts gJ0_length_8abf5_J0_coder_7d493 rfl rfl rfl (by decide +kernel) ⟨Nat.le_of_ble_eq_true rfl, Nat.le_of_ble_eq_true rfl⟩) hW rfl hl.1 rfl (Nat.le_of_ble_eq_true rfl) dJ0_length_8abf5_6 ⟨Nat.le_of_ble_eq_true rfl, Nat.le_of_ble_eq_true rfl⟩ (fun _ H locs _ hW => ?_)
  show W p l e _ s m args below meth c H locs _ _ _ (F0 m 9 ls [.int (zI 0), .int (zI (wln k))])
  refine zv_ishr (pc := 9) hx hb dJ0_length_8abf5_9 ?_
  refine zv_as (pc := 10) (a := zshr (wln k) 0) (b := wln k) (zshr_0 (by have := wln_in k hk; exact ⟨by omega, by omega⟩)) ?_
  exact ze_i (pc := 10) hx hb hr hlk hW () rfl trivial rfl dJ0_length_8abf5_10

set_option maxHeartbeats 400000 in
set_option maxRecDepth 100000 in
/-- checkIndex -/
theorem kJ3_checkIndex_8e157_n (G : zG) (l : Launch) (i : Int) (n : Int) (i0 : 0 ≤ i) (i1 : i < n) (n1 : n ≤ 2147483647) : zM G l yJ3_checkIndex_8e157 wsJ3_checkIndex_8e157 { frames := 0, cells := 0, slots := 0, locals := 0 } [.int (zI i), .int (zI n), .null] [] (S := Unit) (zri (fun _ => i)) (fun _ => True) (fun _ => []) 0 0 := by
  refine zM.ofF (cc := cJ3_checkIndex_8e157) (maxL := 3) (ret := (some .int)) (by decide +kernel) rfl (Nat.le_of_ble_eq_true rfl) (l0 := [(0, .int (zI i)), (1, .int (zI n)), (2, .null)]) rfl ?_
  intro p e s m args below meth c ls F hr hlk hnm hW hl
  obtain ⟨hx, hb, hml, hown, hts⟩ := id F
  refine lv_iload_n (pc := 0) hx hb dJ3_checkIndex_8e157_0 rfl (lv_at hl 0 rfl) ?_
  refine zv_if_lt (pc := 1) (tgt := 9) hx hb dJ3_checkIndex_8e157_1 (by decide) ⟨by omega, by omega⟩ (fun c1 => absurd c1 (by omega)) (fun c1 => ?_)
  refine lv_iload_n (pc := 4) hx hb dJ3_checkIndex_8e157_4 rfl (lv_at hl 0 rfl) ?_
  refine lv_iload_n (pc := 5) hx hb dJ3_checkIndex_8e157_5 rfl (lv_at hl 1 rfl) ?_
  refine zv_icmp_lt (pc := 6) (tgt := 16) hx hb dJ3_checkIndex_8e157_6 (by decide) ⟨by omega, by omega⟩ ⟨by omega, by omega⟩ (fun c6 => ?_) (fun c6 => absurd c6 (by omega))
  refine lv_iload_n (pc := 16) hx hb dJ3_checkIndex_8e157_16 rfl (lv_at hl 0 rfl) ?_
  exact ze_i (pc := 17) hx hb hr hlk hW () rfl trivial rfl dJ3_checkIndex_8e157_17

set_option maxHeartbeats 400000 in
set_option maxRecDepth 100000 in
/-- checkIndex -/
theorem kJ3_checkIndex_8e157_r (G : zG) (l : Launch) (i : Int) (n : Int) (t : Nat) (i0 : 0 ≤ i) (i1 : i < n) (n1 : n ≤ 2147483647) : zM G l yJ3_checkIndex_8e157 wsJ3_checkIndex_8e157 { frames := 0, cells := 0, slots := 0, locals := 0 } [.int (zI i), .int (zI n), .ref t] [] (S := Unit) (zri (fun _ => i)) (fun _ => True) (fun _ => []) 0 0 := by
  refine zM.ofF (cc := cJ3_checkIndex_8e157) (maxL := 3) (ret := (some .int)) (by decide +kernel) rfl (Nat.le_of_ble_eq_true rfl) (l0 := [(0, .int (zI i)), (1, .int (zI n)), (2, .ref t)]) rfl ?_
  intro p e s m args below meth c ls F hr hlk hnm hW hl
  obtain ⟨hx, hb, hml, hown, hts⟩ := id F
  refine lv_iload_n (pc := 0) hx hb dJ3_checkIndex_8e157_0 rfl (lv_at hl 0 rfl) ?_
  refine zv_if_lt (pc := 1) (tgt := 9) hx hb dJ3_checkIndex_8e157_1 (by decide) ⟨by omega, by omega⟩ (fun c1 => absurd c1 (by omega)) (fun c1 => ?_)
  refine lv_iload_n (pc := 4) hx hb dJ3_checkIndex_8e157_4 rfl (lv_at hl 0 rfl) ?_
  refine lv_iload_n (pc := 5) hx hb dJ3_checkIndex_8e157_5 rfl (lv_at hl 1 rfl) ?_
  refine zv_icmp_lt (pc := 6) (tgt := 16) hx hb dJ3_checkIndex_8e157_6 (by decide) ⟨by omega, by omega⟩ ⟨by omega, by omega⟩ (fun c6 => ?_) (fun c6 => absurd c6 (by omega))
  refine lv_iload_n (pc := 16) hx hb dJ3_checkIndex_8e157_16 rfl (lv_at hl 0 rfl) ?_
  exact ze_i (pc := 17) hx hb hr hlk hW () rfl trivial rfl dJ3_checkIndex_8e157_17

set_option maxHeartbeats 400000 in
set_option maxRecDepth 100000 in
/-- checkIndex -/
theorem kJ0_checkIndex_df160 (G : zG) (l : Launch) (i : Int) (n : Int) (i0 : 0 ≤ i) (i1 : i < n) (n1 : n ≤ 2147483647) : zM G l yJ0_checkIndex_df160 wsJ0_checkIndex_df160 { frames := 1, cells := 0, slots := 0, locals := 22 } [.int (zI i), .int (zI n)] [] (S := Unit) zrv (fun _ => True) (fun _ => []) 0 0 := by
  refine zM.ofF (cc := cJ0_checkIndex_df160) (maxL := 2) (ret := none) (by decide +kernel) rfl (Nat.le_of_ble_eq_true rfl) (l0 := [(0, .int (zI i)), (1, .int (zI n))]) rfl ?_
  intro p e s m args below meth c ls F hr hlk hnm hW hl
  obtain ⟨hx, hb, hml, hown, hts⟩ := id F
  refine lv_iload_n (pc := 0) hx hb dJ0_checkIndex_df160_0 rfl (lv_at hl 0 rfl) ?_
  refine lv_iload_n (pc := 1) hx hb dJ0_checkIndex_df160_1 rfl (lv_at hl 1 rfl) ?_
  refine zs_for (pc := 2) hx hb hW hown (hts _ (List.mem_of_getElem? (i := 1) rfl)) dJ0_checkIndex_df160_2 ?_ (fun t2 => ?_)
  · refine z_S (pc := 5) (As := [.int (zI i), .int (zI n), .null]) (rest := []) (wn := (fun _ => [])) (wr := []) F (kJ3_checkIndex_8e157_n G l i n (by first | assumption | omega) (by first | assumption | omega) (by first | assumption | omega)) (va_cwS 3 hts gJ0_checkIndex_df160_J3_checkIndex_8e157 rfl rfl rfl (by decide +kernel) ⟨Nat.le_of_ble_eq_true rfl, Nat.le_of_ble_eq_true rfl⟩) hW [] [] (by decide) rfl rfl rfl (by decide) (by decide) [] (by decide) (fun _ => rfl) (fun _ => rfl) rfl hl.1 rfl (Nat.le_of_ble_eq_true rfl) dJ0_checkIndex_df160_5 ⟨Nat.le_of_ble_eq_true rfl, Nat.le_of_ble_eq_true rfl⟩ (fun _ H locs _ hW => ?_)
    show W p l e _ s m args below meth c H locs _ _ _ (F0 m 8 ls [.int (zI i)])
    refine lv_pop (pc := 8) hx hb dJ0_checkIndex_df160_8 rfl ?_
    exact ze_v (pc := 9) hx hb hr hlk hW () rfl trivial rfl dJ0_checkIndex_df160_9
  · refine z_S (pc := 5) (As := [.int (zI i), .int (zI n), .ref t2]) (rest := []) (wn := (fun _ => [])) (wr := []) F (kJ3_checkIndex_8e157_r G l i n t2 (by first | assumption | omega) (by first | assumption | omega) (by first | assumption | omega)) (va_cwS 3 hts gJ0_checkIndex_df160_J3_checkIndex_8e157 rfl rfl rfl (by decide +kernel) ⟨Nat.le_of_ble_eq_true rfl, Nat.le_of_ble_eq_true rfl⟩) hW [] [] (by decide) rfl rfl rfl (by decide) (by decide) [] (by decide) (fun _ => rfl) (fun _ => rfl) rfl hl.1 rfl (Nat.le_of_ble_eq_true rfl) dJ0_checkIndex_df160_5 ⟨Nat.le_of_ble_eq_true rfl, Nat.le_of_ble_eq_true rfl⟩ (fun _ H locs _ hW => ?_)
    show W p l e _ s m args below meth c H locs _ _ _ (F0 m 8 ls [.int (zI i)])
    refine lv_pop (pc := 8) hx hb dJ0_checkIndex_df160_8 rfl ?_
    exact ze_v (pc := 9) hx hb hr hlk hW () rfl trivial rfl dJ0_checkIndex_df160_9

set_option maxHeartbeats 400000 in
set_option maxRecDepth 100000 in
/-- charAt of bytes -/
theorem kJ1_charAt_3b067 (G : zG) (l : Launch) (k : Nat) (i : Int) (hk : k < 13) (i0 : 0 ≤ i) (i1 : i < wln k) : zM G l yJ1_charAt_3b067 wsJ1_charAt_3b067 { frames := 2, cells := 0, slots := 0, locals := 43 } [.ref (zsv G k), .int (zI i)] [] (S := Unit) (zri (fun _ => wch k i)) (fun _ => True) (fun _ => []) 0 0 := by
  refine zM.ofF (cc := cJ1_charAt_3b067) (maxL := 2) (ret := (some .char)) (by decide +kernel) rfl (Nat.le_of_ble_eq_true rfl) (l0 := [(0, .ref (zsv G k)), (1, .int (zI i))]) rfl ?_
  intro p e s m args below meth c ls F hr hlk hnm hW hl
  obtain ⟨hx, hb, hml, hown, hts⟩ := id F
  have wl := wln_in k hk
  have wc := wch_in hk i0 i1
  refine lv_iload_n (pc := 0) hx hb dJ1_charAt_3b067_0 rfl (lv_at hl 1 rfl) ?_
  refine lv_aload_n (pc := 1) hx hb dJ1_charAt_3b067_1 rfl (lv_at hl 0 rfl) ?_
  refine zs_len (pc := 2) hx hb (by first | assumption | omega) hW dJ1_charAt_3b067_2 ?_
  refine z_S (pc := 3) (As := [.int (zI i), .int (zI (wln k))]) (rest := []) (wn := (fun _ => [])) (wr := []) F (kJ0_checkIndex_df160 G l i (wln k) (by first | assumption | omega) (by first | assumption | omega) (by first | assumption | omega)) (va_cwS 2 hts gJ1_charAt_3b067_J0_checkIndex_df160 rfl rfl rfl (by decide +kernel) ⟨Nat.le_of_ble_eq_true rfl, Nat.le_of_ble_eq_true rfl⟩) hW [] [] (by decide) rfl rfl rfl (by decide) (by decide) [] (by decide) (fun _ => rfl) (fun _ => rfl) rfl hl.1 rfl (Nat.le_of_ble_eq_true rfl) dJ1_charAt_3b067_3 ⟨Nat.le_of_ble_eq_true rfl, Nat.le_of_ble_eq_true rfl⟩ (fun _ H locs _ hW => ?_)
  refine lv_aload_n (pc := 6) hx hb dJ1_charAt_3b067_6 rfl (lv_at hl 0 rfl) ?_
  refine lv_iload_n (pc := 7) hx hb dJ1_charAt_3b067_7 rfl (lv_at hl 1 rfl) ?_
  refine zs_byte (pc := 8) hx hb (by first | assumption | omega) hW (by omega) (by omega) dJ1_charAt_3b067_8 ?_
  refine zv_sipush (pc := 9) (n := 255) hx hb dJ1_charAt_3b067_9 (by decide) ?_
  refine zv_iand (pc := 12) hx hb dJ1_charAt_3b067_12 ?_
  refine zv_as (pc := 13) (a := zand (wch k i) 255) (b := wch k i) (zand_255 (by omega) (by omega)) ?_
  refine zv_i2c (pc := 13) hx hb dJ1_charAt_3b067_13 (by omega) (by omega) ?_
  exact ze_c (pc := 14) hx hb hr hlk hW () rfl (by omega) (by omega) trivial rfl dJ1_charAt_3b067_14

set_option maxHeartbeats 400000 in
set_option maxRecDepth 100000 in
/-- charAt -/
theorem kJ0_charAt_5068e (G : zG) (l : Launch) (k : Nat) (i : Int) (hk : k < 13) (i0 : 0 ≤ i) (i1 : i < wln k) : zM G l yJ0_charAt_5068e wsJ0_charAt_5068e { frames := 3, cells := 0, slots := 0, locals := 64 } [.ref (zsk G k), .int (zI i)] [] (S := Unit) (zri (fun _ => wch k i)) (fun _ => True) (fun _ => []) 0 0 := by
  refine zM.ofF (cc := cJ0_charAt_5068e) (maxL := 2) (ret := (some .char)) (by decide +kernel) rfl (Nat.le_of_ble_eq_true rfl) (l0 := [(0, .ref (zsk G k)), (1, .int (zI i))]) rfl ?_
  intro p e s m args below meth c ls F hr hlk hnm hW hl
  obtain ⟨hx, hb, hml, hown, hts⟩ := id F
  have wl := wln_in k hk
  have wc := wch_in hk i0 i1
  refine lv_aload_n (pc := 0) hx hb dJ0_charAt_5068e_0 rfl (lv_at hl 0 rfl) ?_
  refine z_VS (pc := 1) (As := []) (rest := []) F (by first | assumption | omega | decide) (kJ0_isLatin1_aae02 G l k (by first | assumption | omega | decide)) (cwV 0 hts gJ0_charAt_5068e_J0_isLatin1_aae02 rfl rfl rfl (by decide +kernel) ⟨Nat.le_of_ble_eq_true rfl, Nat.le_of_ble_eq_true rfl⟩) hW rfl hl.1 rfl (Nat.le_of_ble_eq_true rfl) dJ0_charAt_5068e_1 ⟨Nat.le_of_ble_eq_true rfl, Nat.le_of_ble_eq_true rfl⟩ (fun _ H locs _ hW => ?_)
  show W p l e _ s m args below meth c H locs _ _ _ (F0 m 4 ls [.int (zI (zb true))])
  refine zv_b_eq (pc := 4) (tgt := 16) hx hb dJ0_charAt_5068e_4 (by decide) (fun c4 => absurd c4 (by decide)) (fun c4 => ?_)
  refine lv_aload_n (pc := 7) hx hb dJ0_charAt_5068e_7 rfl (lv_at hl 0 rfl) ?_
  refine zs_val (pc := 8) hx hb (by first | assumption | omega) hW hown (hts _ (List.mem_of_getElem? (i := 1) rfl)) dJ0_charAt_5068e_8 ?_
  refine lv_iload_n (pc := 11) hx hb dJ0_charAt_5068e_11 rfl (lv_at hl 1 rfl) ?_
  refine z_S (pc := 12) (As := [.ref (zsv G k), .int (zI i)]) (rest := []) (wn := (fun _ => [])) (wr := []) F (kJ1_charAt_3b067 G l k i (by first | assumption | omega) (by first | assumption | omega) (by first | assumption | omega)) (va_cwS 2 hts gJ0_charAt_5068e_J1_charAt_3b067 rfl rfl rfl (by decide +kernel) ⟨Nat.le_of_ble_eq_true rfl, Nat.le_of_ble_eq_true rfl⟩) hW [] [] (by decide) rfl rfl rfl (by decide) (by decide) [] (by decide) (fun _ => rfl) (fun _ => rfl) rfl hl.1 rfl (Nat.le_of_ble_eq_true rfl) dJ0_charAt_5068e_12 ⟨Nat.le_of_ble_eq_true rfl, Nat.le_of_ble_eq_true rfl⟩ (fun _ H locs _ hW => ?_)
  show W p l e _ s m args below meth c H locs _ _ _ (F0 m 15 ls [.int (zI (wch k i))])
  exact ze_c (pc := 15) hx hb hr hlk hW () rfl (by omega) (by omega) trivial rfl dJ0_charAt_5068e_15
