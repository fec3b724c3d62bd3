set_option maxHeartbeats 1000000 in
set_option maxRecDepth 100000 in
/-- addWord -/
theorem kX5_addWord (G : zG) (l : Launch) (txt : Nat) (xl : Int) (xb : Nat) (fxb : Int → Int) (kk : Nat) (x0 : 0 ≤ xl) (hk : kk < 9) (x1 : xl + wln kk ≤ 440) : zM G l yX5_addWord wsX5_addWord { frames := 4, cells := 0, slots := 0, locals := 85 } [.ref txt, .ref (zsk G kk)] [(txt, .inr (5, [.int (zI xl), .ref xb])), (xb, .inl (zk G 2, 440, .inl (zA fxb)))] (S := Unit) zrv (fun _ => True) (fun _ => [(txt, .inr (5, [.int (zI ((zpl2 (zwd kk) (xl, fxb)).1)), .ref xb])), (xb, .inl (zk G 2, 440, .inl (zA ((zpl2 (zwd kk) (xl, fxb)).2))))]) 0 0 := by
  refine zM.of (cc := cX5_addWord) (maxL := 3) (ret := none) (by decide) rfl (Nat.le_of_ble_eq_true rfl) (l0 := [(0, .ref txt), (1, .ref (zsk G kk))]) rfl ?_
  intro p e s m args below meth c ls F hr hlk hnm hW hl
  obtain ⟨hx, hb, hml, hown, hts⟩ := id F
  have hwl := wln_in kk (by omega)
  refine zv_iconst (pc := 0) (n := 0) hx hb dX5_addWord_0 ?_
  refine lv_istore_n (pc := 1) (lv' := [(2, .int (zI 0)), (0, .ref txt), (1, .ref (zsk G kk))]) hx hb dX5_addWord_1 rfl hl (by decide) rfl (fun ls hl => ?_)
  have J2 : ∀ (fuel2 : Nat) (j9 : Int) (n9 : Int) (f9 : Int → Int) (j0 : 0 ≤ j9 ∧ j9 ≤ wln kk) (hn9 : n9 = xl + j9) (n90 : 0 ≤ n9) (hz9 : zpl2 (zwdN kk (wln kk - j9).toNat j9) (n9, f9) = (zpl2 (zwd kk) (xl, fxb))) (hfu2 : (wln kk - j9).toNat < fuel2) (H : Heap) (locs : List Loc) (ls : Array Slot) (hW : zW G (va_A [(txt, .inr (5, [.int (zI xl), .ref xb])), (xb, .inl (zk G 2, 440, .inl (zA fxb)))] s.heap.size) s H locs [(txt, .inr (5, [.int (zI n9), .ref xb])), (xb, .inl (zk G 2, 440, .inl (zA f9)))]) (hl : lv_has ls 3 [(2, .int (zI j9)), (0, .ref txt), (1, .ref (zsk G kk))]), W p l e ({ frames := 4, cells := 0, slots := 0, locals := 85 } : Room) s m args below meth c H locs 0 0 (MQ below (zQ (S := Unit) zrv (fun _ => True) (zPost G [(txt, .inr (5, [.int (zI xl), .ref xb])), (xb, .inl (zk G 2, 440, .inl (zA fxb)))] s.heap.size (fun _ => [(txt, .inr (5, [.int (zI ((zpl2 (zwd kk) (xl, fxb)).1)), .ref xb])), (xb, .inl (zk G 2, 440, .inl (zA ((zpl2 (zwd kk) (xl, fxb)).2))))])) (va_A [(txt, .inr (5, [.int (zI xl), .ref xb])), (xb, .inl (zk G 2, 440, .inl (zA fxb)))] s.heap.size)) args s 0 0 (va_A [(txt, .inr (5, [.int (zI xl), .ref xb])), (xb, .inl (zk G 2, 440, .inl (zA fxb)))] s.heap.size)) (F0 m 2 ls []) := by
    intro fuel2
    induction fuel2 with
    | zero =>
      intro j9 n9 f9 j0 hn9 n90 hz9 hfu2
      exact absurd hfu2 (Nat.not_lt_zero _)
    | succ fuel2 ih2 =>
      intro j9 n9 f9 j0 hn9 n90 hz9 hfu2 H locs ls hW hl
      refine lv_iload_n (pc := 2) hx hb dX5_addWord_2 rfl (lv_at hl 0 rfl) ?_
      refine lv_aload_n (pc := 3) hx hb dX5_addWord_3 rfl (lv_at hl 2 rfl) ?_
      refine z_VS (pc := 4) (As := []) (rest := [.int (zI j9)]) F (by omega) (kJ0_length_8abf5 G l kk (by omega)) (cwV 0 hts gX5_addWord_J0_length_8abf5 rfl rfl rfl (by decide +kernel) ⟨Nat.le_of_ble_eq_true rfl, Nat.le_of_ble_eq_true rfl⟩) hW rfl hl.1 rfl (Nat.le_of_ble_eq_true rfl) dX5_addWord_4 ⟨Nat.le_of_ble_eq_true rfl, Nat.le_of_ble_eq_true rfl⟩ (fun _ H locs _ hW => ?_)
      show W p l e _ s m args below meth c H locs _ _ _ (F0 m 7 ls [.int (zI (wln kk)), .int (zI j9)])
      have wl4 := wln_in (kk) (by first | assumption | omega | decide)
      refine zv_icmp_ge (pc := 7) (tgt := 25) hx hb dX5_addWord_7 (by decide) ⟨by omega, by omega⟩ ⟨by omega, by omega⟩ (fun c7 => ?_) (fun c7 => ?_)
      · have hz4 : (n9, f9) = (zpl2 (zwd kk) (xl, fxb)) := by rw [← hz9, show (wln kk - j9).toNat = 0 by omega]; rfl
        exact ze_v (pc := 25) hx hb hr hlk hW () rfl trivial (by rw [← hz4]) dX5_addWord_25
      · have hwc := wch_in (k := kk) (j := j9) (by omega) (by omega) (by omega)
        have hf1 : (wln kk - j9).toNat = (wln kk - (j9 + 1)).toNat + 1 := by omega
        refine lv_aload_n (pc := 10) hx hb dX5_addWord_10 rfl (lv_at hl 1 rfl) ?_
        refine lv_aload_n (pc := 11) hx hb dX5_addWord_11 rfl (lv_at hl 2 rfl) ?_
        refine lv_iload_n (pc := 12) hx hb dX5_addWord_12 rfl (lv_at hl 0 rfl) ?_
        refine z_VS (pc := 13) (As := [.int (zI j9)]) (rest := [.ref txt]) F (by omega) (kJ0_charAt_5068e G l kk j9 (by omega) (by first | assumption | omega | decide) (by first | assumption | omega | decide)) (cwV 1 hts gX5_addWord_J0_charAt_5068e rfl rfl rfl (by decide +kernel) ⟨Nat.le_of_ble_eq_true rfl, Nat.le_of_ble_eq_true rfl⟩) hW rfl hl.1 rfl (Nat.le_of_ble_eq_true rfl) dX5_addWord_13 ⟨Nat.le_of_ble_eq_true rfl, Nat.le_of_ble_eq_true rfl⟩ (fun _ H locs _ hW => ?_)
        show W p l e _ s m args below meth c H locs _ _ _ (F0 m 16 ls [.int (zI (wch kk j9)), .ref txt])
        have wc13 := wch_in (k := kk) (j := j9) (by first | assumption | omega | decide) (by omega) (by omega)
        refine z_V (pc := 16) (As := [.int (zI (wch kk j9))]) (rest := []) (wn := (fun _ => [(txt, .inr (5, [.int (zI (n9 + 1)), .ref xb])), (xb, .inl (zk G 2, 440, .inl (zA (zU f9 n9 (wch kk j9)))))])) (wr := []) F (kX5_addByte G l txt n9 xb f9 (wch kk j9) (by first | assumption | omega) (by first | assumption | omega) (by first | assumption | omega) (by first | assumption | omega)) (cwV 1 hts gX5_addWord_X5_addByte rfl rfl rfl (by decide +kernel) ⟨Nat.le_of_ble_eq_true rfl, Nat.le_of_ble_eq_true rfl⟩) hW 0 rfl rfl [0, 1] [] (by decide) rfl rfl rfl (by decide) (by decide) [0, 1] (by decide) (fun _ => rfl) (fun _ => rfl) rfl hl.1 rfl (Nat.le_of_ble_eq_true rfl) dX5_addWord_16 ⟨Nat.le_of_ble_eq_true rfl, Nat.le_of_ble_eq_true rfl⟩ (fun _ H locs _ hW => ?_)
        refine zv_iinc (pc := 19) (lv' := [(2, .int (zI (j9 + 1))), (0, .ref txt), (1, .ref (zsk G kk))]) hx hb dX5_addWord_19 hl (k := 0) rfl (by decide) rfl (fun ls hl => ?_)
        refine lv_goto (pc := 22) (tgt := 2) hx hb dX5_addWord_22 (by decide) ?_
        exact ih2 (j9 + 1) (n9 + 1) (zU f9 n9 (wch kk j9)) (by omega) (by omega) (by omega) ((zwd_step hf1).symm.trans hz9) (by omega) _ _ _ hW (lv_sub hl [0, 1, 2] rfl)
  exact J2 (((wln kk - 0 : Int).toNat) + 1) 0 xl fxb (by omega) (by omega) (by omega) (by rw [Int.sub_zero]; rfl) (Nat.lt_succ_self _) _ _ _ hW (lv_sub hl [0, 1, 2] rfl)

set_option maxHeartbeats 1000000 in
set_option maxRecDepth 100000 in
/-- addNumber -/
theorem kX5_addNumber (G : zG) (l : Launch) (txt : Nat) (xl : Int) (xb : Nat) (fxb : Int → Int) (v : Int) (x0 : 0 ≤ xl) (v0 : 0 ≤ v) (v1 : v ≤ 1000000) (x1 : xl + 7 ≤ 440) : zM G l yX5_addNumber wsX5_addNumber { frames := 1, cells := 0, slots := 0, locals := 21 } [.ref txt, .int (zI v)] [(txt, .inr (5, [.int (zI xl), .ref xb])), (xb, .inl (zk G 2, 440, .inl (zA fxb)))] (S := Unit) zrv (fun _ => True) (fun _ => [(txt, .inr (5, [.int (zI ((zpl2 (zdgU 7 1000000 v) (xl, fxb)).1)), .ref xb])), (xb, .inl (zk G 2, 440, .inl (zA ((zpl2 (zdgU 7 1000000 v) (xl, fxb)).2))))]) 0 0 := by
  refine zM.of (cc := cX5_addNumber) (maxL := 3) (ret := none) (by decide) rfl (Nat.le_of_ble_eq_true rfl) (l0 := [(0, .ref txt), (1, .int (zI v))]) rfl ?_
  intro p e s m args below meth c ls F hr hlk hnm hW hl
  obtain ⟨hx, hb, hml, hown, hts⟩ := id F
  refine zv_ldc (pc := 0) (v := 1000000) hx hb hown (hts _ (List.mem_of_getElem? (i := 1) rfl)) rfl dX5_addNumber_0 ?_
  refine lv_istore_n (pc := 2) (lv' := [(2, .int (zI 1000000)), (0, .ref txt), (1, .int (zI v))]) hx hb dX5_addNumber_2 rfl hl (by decide) rfl (fun ls hl => ?_)
  have J3 : ∀ (fuel3 : Nat) (m9 : Nat) (u9 : Int) (n9 : Int) (f9 : Int → Int) (hu : zun m9 u9) (hn9 : n9 + m9 ≤ xl + 7) (n90 : 0 ≤ n9) (hz9 : zpl2 (zdgU m9 u9 v) (n9, f9) = (zpl2 (zdgU 7 1000000 v) (xl, fxb))) (hfu3 : m9 < fuel3) (H : Heap) (locs : List Loc) (ls : Array Slot) (hW : zW G (va_A [(txt, .inr (5, [.int (zI xl), .ref xb])), (xb, .inl (zk G 2, 440, .inl (zA fxb)))] s.heap.size) s H locs [(txt, .inr (5, [.int (zI n9), .ref xb])), (xb, .inl (zk G 2, 440, .inl (zA f9)))]) (hl : lv_has ls 3 [(2, .int (zI u9)), (0, .ref txt), (1, .int (zI v))]), W p l e ({ frames := 1, cells := 0, slots := 0, locals := 21 } : Room) s m args below meth c H locs 0 0 (MQ below (zQ (S := Unit) zrv (fun _ => True) (zPost G [(txt, .inr (5, [.int (zI xl), .ref xb])), (xb, .inl (zk G 2, 440, .inl (zA fxb)))] s.heap.size (fun _ => [(txt, .inr (5, [.int (zI ((zpl2 (zdgU 7 1000000 v) (xl, fxb)).1)), .ref xb])), (xb, .inl (zk G 2, 440, .inl (zA ((zpl2 (zdgU 7 1000000 v) (xl, fxb)).2))))])) (va_A [(txt, .inr (5, [.int (zI xl), .ref xb])), (xb, .inl (zk G 2, 440, .inl (zA fxb)))] s.heap.size)) args s 0 0 (va_A [(txt, .inr (5, [.int (zI xl), .ref xb])), (xb, .inl (zk G 2, 440, .inl (zA fxb)))] s.heap.size)) (F0 m 3 ls []) := by
    intro fuel3
    induction fuel3 with
    | zero =>
      intro m9 u9 n9 f9 hu hn9 n90 hz9 hfu3
      exact absurd hfu3 (Nat.not_lt_zero _)
    | succ fuel3 ih3 =>
      intro m9 u9 n9 f9 hu hn9 n90 hz9 hfu3 H locs ls hW hl
      obtain ⟨hu0, hu1, hu2, hu3, hu4⟩ := zun_in hu
      refine lv_iload_n (pc := 3) hx hb dX5_addNumber_3 rfl (lv_at hl 0 rfl) ?_
      refine zv_if_le (pc := 4) (tgt := 34) hx hb dX5_addNumber_4 (by decide) ⟨by omega, by omega⟩ (fun c4 => ?_) (fun c4 => ?_)
      · obtain rfl : m9 = 0 := by omega
        have hz4 : (n9, f9) = (zpl2 (zdgU 7 1000000 v) (xl, fxb)) := hz9
        exact ze_v (pc := 34) hx hb hr hlk hW () rfl trivial (by rw [← hz4]) dX5_addNumber_34
      · have hm1 : 1 ≤ m9 := by omega
        obtain ⟨m8, rfl⟩ : ∃ m8, m9 = m8 + 1 := ⟨m9 - 1, by omega⟩
        have hq0 := Int.ediv_nonneg (a := v) (b := u9) (by omega) (by omega)
        have hq1 := Int.ediv_le_self (a := v) u9 (by omega)
        refine lv_iload_n (pc := 7) hx hb dX5_addNumber_7 rfl (lv_at hl 2 rfl) ?_
        refine lv_iload_n (pc := 8) hx hb dX5_addNumber_8 rfl (lv_at hl 0 rfl) ?_
        refine zv_icmp_lt (pc := 9) (tgt := 26) hx hb dX5_addNumber_9 (by decide) ⟨by omega, by omega⟩ ⟨by omega, by omega⟩ (fun c9 => ?_) (fun c9 => ?_)
        · refine lv_iload_n (pc := 26) hx hb dX5_addNumber_26 rfl (lv_at hl 0 rfl) ?_
          refine zv_bipush (pc := 27) (n := 10) hx hb dX5_addNumber_27 (by decide) ?_
          refine zv_idiv (pc := 29) hx hb dX5_addNumber_29 ⟨by omega, by omega⟩ ⟨by omega, by omega⟩ (by omega) ?_
          refine zv_as (pc := 30) (a := Int.tdiv u9 10) (b := u9 / 10) (Int.tdiv_eq_ediv_of_nonneg (by omega)) ?_
          refine lv_istore_n (pc := 30) (lv' := [(2, .int (zI (u9 / 10))), (0, .ref txt), (1, .int (zI v))]) hx hb dX5_addNumber_30 rfl hl (by decide) rfl (fun ls hl => ?_)
          refine lv_goto (pc := 31) (tgt := 3) hx hb dX5_addNumber_31 (by decide) ?_
          exact ih3 m8 (u9 / 10) n9 f9 (zun_next hu) (by omega) (by omega) ((zdgU_no (by omega)).symm.trans hz9) (by omega) _ _ _ hW (lv_sub hl [0, 1, 2] rfl)
        · refine lv_aload_n (pc := 12) hx hb dX5_addNumber_12 rfl (lv_at hl 1 rfl) ?_
          refine zv_bipush (pc := 13) (n := 48) hx hb dX5_addNumber_13 (by decide) ?_
          refine lv_iload_n (pc := 15) hx hb dX5_addNumber_15 rfl (lv_at hl 2 rfl) ?_
          refine lv_iload_n (pc := 16) hx hb dX5_addNumber_16 rfl (lv_at hl 0 rfl) ?_
          refine zv_idiv (pc := 17) hx hb dX5_addNumber_17 ⟨by omega, by omega⟩ ⟨by omega, by omega⟩ (by omega) ?_
          refine zv_as (pc := 18) (a := Int.tdiv v u9) (b := v / u9) (Int.tdiv_eq_ediv_of_nonneg (by omega)) ?_
          refine zv_bipush (pc := 18) (n := 10) hx hb dX5_addNumber_18 (by decide) ?_
          refine zv_irem (pc := 20) hx hb dX5_addNumber_20 ⟨by omega, by omega⟩ ⟨by omega, by omega⟩ (by omega) ?_
          refine zv_as (pc := 21) (a := Int.tmod (v / u9) 10) (b := v / u9 % 10) (Int.tmod_eq_emod_of_nonneg (by omega)) ?_
          refine zv_iadd (pc := 21) hx hb dX5_addNumber_21 ?_
          refine zv_i2c (pc := 22) hx hb dX5_addNumber_22 (by omega) (by omega) ?_
          refine z_V (pc := 23) (As := [.int (zI (48 + (v / u9 % 10)))]) (rest := []) (wn := (fun _ => [(txt, .inr (5, [.int (zI (n9 + 1)), .ref xb])), (xb, .inl (zk G 2, 440, .inl (zA (zU f9 n9 (48 + (v / u9 % 10))))))])) (wr := []) F (kX5_addByte G l txt n9 xb f9 (48 + (v / u9 % 10)) (by first | assumption | omega) (by first | assumption | omega) (by first | assumption | omega) (by first | assumption | omega)) (cwV 1 hts gX5_addNumber_X5_addByte rfl rfl rfl (by decide +kernel) ⟨Nat.le_of_ble_eq_true rfl, Nat.le_of_ble_eq_true rfl⟩) hW 0 rfl rfl [0, 1] [] (by decide) rfl rfl rfl (by decide) (by decide) [0, 1] (by decide) (fun _ => rfl) (fun _ => rfl) rfl hl.1 rfl (Nat.le_of_ble_eq_true rfl) dX5_addNumber_23 ⟨Nat.le_of_ble_eq_true rfl, Nat.le_of_ble_eq_true rfl⟩ (fun _ H locs _ hW => ?_)
          refine lv_iload_n (pc := 26) hx hb dX5_addNumber_26 rfl (lv_at hl 0 rfl) ?_
          refine zv_bipush (pc := 27) (n := 10) hx hb dX5_addNumber_27 (by decide) ?_
          refine zv_idiv (pc := 29) hx hb dX5_addNumber_29 ⟨by omega, by omega⟩ ⟨by omega, by omega⟩ (by omega) ?_
          refine zv_as (pc := 30) (a := Int.tdiv u9 10) (b := u9 / 10) (Int.tdiv_eq_ediv_of_nonneg (by omega)) ?_
          refine lv_istore_n (pc := 30) (lv' := [(2, .int (zI (u9 / 10))), (0, .ref txt), (1, .int (zI v))]) hx hb dX5_addNumber_30 rfl hl (by decide) rfl (fun ls hl => ?_)
          refine lv_goto (pc := 31) (tgt := 3) hx hb dX5_addNumber_31 (by decide) ?_
          exact ih3 m8 (u9 / 10) (n9 + 1) (zU f9 n9 (48 + (v / u9 % 10))) (zun_next hu) (by omega) (by omega) ((zdgU_yes (by omega)).symm.trans hz9) (by omega) _ _ _ hW (lv_sub hl [0, 1, 2] rfl)
  exact J3 (7 + 1) 7 1000000 xl fxb zun_0 (by omega) (by omega) rfl (Nat.lt_succ_self _) _ _ _ hW (lv_sub hl [0, 1, 2] rfl)

set_option maxHeartbeats 1000000 in
set_option maxRecDepth 100000 in
/-- addName -/
theorem kX5_addName (G : zG) (l : Launch) (txt : Nat) (xl : Int) (xb : Nat) (fxb : Int → Int) (na : Int) (x0 : 0 ≤ xl) (x1 : xl + 8 ≤ 440) : zM G l yX5_addName wsX5_addName { frames := 1, cells := 0, slots := 0, locals := 21 } [.ref txt, .long (zL na)] [(txt, .inr (5, [.int (zI xl), .ref xb])), (xb, .inl (zk G 2, 440, .inl (zA fxb)))] (S := Unit) zrv (fun _ => True) (fun _ => [(txt, .inr (5, [.int (zI ((zpl2 (znbN (fun j => zand (zlshr na (56 - 8 * j)) 255) 8 0) (xl, fxb)).1)), .ref xb])), (xb, .inl (zk G 2, 440, .inl (zA ((zpl2 (znbN (fun j => zand (zlshr na (56 - 8 * j)) 255) 8 0) (xl, fxb)).2))))]) 0 0 := by
  refine zM.of (cc := cX5_addName) (maxL := 5) (ret := none) (by decide) rfl (Nat.le_of_ble_eq_true rfl) (l0 := [(0, .ref txt), (1, .long (zL na))]) rfl ?_
  intro p e s m args below meth c ls F hr hlk hnm hW hl
  obtain ⟨hx, hb, hml, hown, hts⟩ := id F
  refine zv_bipush (pc := 0) (n := 56) hx hb dX5_addName_0 (by decide) ?_
  refine lv_istore_n (pc := 2) (lv' := [(3, .int (zI 56)), (0, .ref txt), (1, .long (zL na))]) hx hb dX5_addName_2 rfl hl (by decide) rfl (fun ls hl => ?_)
  have J3 : ∀ (fuel3 : Nat) (j9 : Int) (b9 : Int) (n9 : Int) (f9 : Int → Int) (j0 : 0 ≤ j9 ∧ j9 ≤ 8) (hb9 : b9 = 56 - 8 * j9) (hn9 : n9 ≤ xl + j9) (n90 : 0 ≤ n9) (hz9 : zpl2 (znbN (fun j => zand (zlshr na (56 - 8 * j)) 255) (8 - j9).toNat j9) (n9, f9) = (zpl2 (znbN (fun j => zand (zlshr na (56 - 8 * j)) 255) 8 0) (xl, fxb))) (hfu3 : (b9 + 9).toNat < fuel3) (H : Heap) (locs : List Loc) (ls : Array Slot) (hW : zW G (va_A [(txt, .inr (5, [.int (zI xl), .ref xb])), (xb, .inl (zk G 2, 440, .inl (zA fxb)))] s.heap.size) s H locs [(txt, .inr (5, [.int (zI n9), .ref xb])), (xb, .inl (zk G 2, 440, .inl (zA f9)))]) (hl : lv_has ls 5 [(3, .int (zI b9)), (0, .ref txt), (1, .long (zL na))]), W p l e ({ frames := 1, cells := 0, slots := 0, locals := 21 } : Room) s m args below meth c H locs 0 0 (MQ below (zQ (S := Unit) zrv (fun _ => True) (zPost G [(txt, .inr (5, [.int (zI xl), .ref xb])), (xb, .inl (zk G 2, 440, .inl (zA fxb)))] s.heap.size (fun _ => [(txt, .inr (5, [.int (zI ((zpl2 (znbN (fun j => zand (zlshr na (56 - 8 * j)) 255) 8 0) (xl, fxb)).1)), .ref xb])), (xb, .inl (zk G 2, 440, .inl (zA ((zpl2 (znbN (fun j => zand (zlshr na (56 - 8 * j)) 255) 8 0) (xl, fxb)).2))))])) (va_A [(txt, .inr (5, [.int (zI xl), .ref xb])), (xb, .inl (zk G 2, 440, .inl (zA fxb)))] s.heap.size)) args s 0 0 (va_A [(txt, .inr (5, [.int (zI xl), .ref xb])), (xb, .inl (zk G 2, 440, .inl (zA fxb)))] s.heap.size)) (F0 m 3 ls []) := by
    intro fuel3
    induction fuel3 with
    | zero =>
      intro j9 b9 n9 f9 j0 hb9 hn9 n90 hz9 hfu3
      exact absurd hfu3 (Nat.not_lt_zero _)
    | succ fuel3 ih3 =>
      intro j9 b9 n9 f9 j0 hb9 hn9 n90 hz9 hfu3 H locs ls hW hl
      refine lv_iload_n (pc := 3) hx hb dX5_addName_3 rfl (lv_at hl 0 rfl) ?_
      refine zv_if_lt (pc := 4) (tgt := 35) hx hb dX5_addName_4 (by decide) ⟨by omega, by omega⟩ (fun c4 => ?_) (fun c4 => ?_)
      · have hz4 : (n9, f9) = (zpl2 (znbN (fun j => zand (zlshr na (56 - 8 * j)) 255) 8 0) (xl, fxb)) := by rw [← hz9, show (8 - j9).toNat = 0 by omega]; rfl
        exact ze_v (pc := 35) hx hb hr hlk hW () rfl trivial (by rw [← hz4]) dX5_addName_35
      · have hby := zand_b (zlshr na b9)
        have hf1 : (8 - j9).toNat = (8 - (j9 + 1)).toNat + 1 := by omega
        refine lv_lload_n (pc := 7) hx hb dX5_addName_7 rfl (lv_at hl 2 rfl) ?_
        refine lv_iload_n (pc := 8) hx hb dX5_addName_8 rfl (lv_at hl 0 rfl) ?_
        refine zv_lshr (pc := 9) hx hb dX5_addName_9 ?_
        refine zv_l2i (pc := 10) hx hb dX5_addName_10 ?_
        refine zv_sipush (pc := 11) (n := 255) hx hb dX5_addName_11 (by decide) ?_
        refine zv_iand (pc := 14) hx hb dX5_addName_14 ?_
        refine lv_istore (pc := 15) (lv' := [(4, .int (zI (zand (zlshr na b9) 255))), (3, .int (zI b9)), (0, .ref txt), (1, .long (zL na))]) hx hb dX5_addName_15 hl (by decide) rfl (fun ls hl => ?_)
        refine lv_iload (pc := 17) hx hb dX5_addName_17 (lv_at hl 0 rfl) ?_
        refine zv_if_eq (pc := 19) (tgt := 29) hx hb dX5_addName_19 (by decide) ⟨by omega, by omega⟩ (fun c19 => ?_) (fun c19 => ?_)
        · refine zv_iinc (pc := 29) (lv' := [(3, .int (zI (b9 + (-8)))), (4, .int (zI (zand (zlshr na b9) 255))), (0, .ref txt), (1, .long (zL na))]) hx hb dX5_addName_29 hl (k := 1) rfl (by decide) rfl (fun ls hl => ?_)
          refine lv_goto (pc := 32) (tgt := 3) hx hb dX5_addName_32 (by decide) ?_
          exact ih3 (j9 + 1) (b9 + (-8)) n9 f9 (by omega) (by omega) (by omega) (by omega) ((znb_no (w := (fun j => zand (zlshr na (56 - 8 * j)) 255)) (by show ¬ zand (zlshr na (56 - 8 * j9)) 255 ≠ 0; rw [← hb9]; exact fun z => z c19) hf1).symm.trans hz9) (by omega) _ _ _ hW (lv_sub hl [0, 2, 3] rfl)
        · refine lv_aload_n (pc := 22) hx hb dX5_addName_22 rfl (lv_at hl 2 rfl) ?_
          refine lv_iload (pc := 23) hx hb dX5_addName_23 (lv_at hl 0 rfl) ?_
          refine zv_i2c (pc := 25) hx hb dX5_addName_25 (by omega) (by omega) ?_
          refine z_V (pc := 26) (As := [.int (zI (zand (zlshr na b9) 255))]) (rest := []) (wn := (fun _ => [(txt, .inr (5, [.int (zI (n9 + 1)), .ref xb])), (xb, .inl (zk G 2, 440, .inl (zA (zU f9 n9 (zand (zlshr na b9) 255)))))])) (wr := []) F (kX5_addByte G l txt n9 xb f9 (zand (zlshr na b9) 255) (by first | assumption | omega) (by first | assumption | omega) (by first | assumption | omega) (by first | assumption | omega)) (cwV 1 hts gX5_addName_X5_addByte rfl rfl rfl (by decide +kernel) ⟨Nat.le_of_ble_eq_true rfl, Nat.le_of_ble_eq_true rfl⟩) hW 0 rfl rfl [0, 1] [] (by decide) rfl rfl rfl (by decide) (by decide) [0, 1] (by decide) (fun _ => rfl) (fun _ => rfl) rfl hl.1 rfl (Nat.le_of_ble_eq_true rfl) dX5_addName_26 ⟨Nat.le_of_ble_eq_true rfl, Nat.le_of_ble_eq_true rfl⟩ (fun _ H locs _ hW => ?_)
          refine zv_iinc (pc := 29) (lv' := [(3, .int (zI (b9 + (-8)))), (4, .int (zI (zand (zlshr na b9) 255))), (0, .ref txt), (1, .long (zL na))]) hx hb dX5_addName_29 hl (k := 1) rfl (by decide) rfl (fun ls hl => ?_)
          refine lv_goto (pc := 32) (tgt := 3) hx hb dX5_addName_32 (by decide) ?_
          exact ih3 (j9 + 1) (b9 + (-8)) (n9 + 1) (zU f9 n9 (zand (zlshr na b9) 255)) (by omega) (by omega) (by omega) (by omega) ((znb_yes (w := (fun j => zand (zlshr na (56 - 8 * j)) 255)) (v := zand (zlshr na b9) 255) (by show zand (zlshr na (56 - 8 * j9)) 255 = _; rw [← hb9]) c19 hf1).symm.trans hz9) (by omega) _ _ _ hW (lv_sub hl [0, 2, 3] rfl)
  exact J3 (((56 + 9 : Int).toNat) + 1) 0 56 xl fxb (by omega) (by omega) (by omega) (by omega) rfl (Nat.lt_succ_self _) _ _ _ hW (lv_sub hl [0, 1, 2] rfl)

set_option maxHeartbeats 1000000 in
set_option maxRecDepth 100000 in
/-- saysWord -/
theorem kX7_saysWord (G : zG) (l : Launch) (z : Nat) (r0 : Nat) (r1 : Nat) (r2 : Nat) (r3 : Nat) (r4 : Nat) (km : Int) (th : Int) (r7 : Nat) (bu : Int) (pa : Int) (pb : Int) (ki : Int) (nu : Int) (wr : Int) (wa : Int) (ea : Int) (lx : Int) (ly : Int) (lh : Int) (lz : Int) (r20 : Nat) (go : Int) (iT : Int) (iM : Int) (iK : Int) (r25 : Nat) (wm : Int) (tm : Int) (te : Bool) (fwt : Int → Int) (kk : Nat) (w0 : 0 ≤ wm) (hk : kk < 13) (w1 : wm + wln kk ≤ 500) : zM G l yX7_saysWord wsX7_saysWord { frames := 4, cells := 0, slots := 0, locals := 85 } [.ref z, .ref (zsk G kk)] [(z, .inr (7, [.ref r0, .ref r1, .ref r2, .ref r3, .ref r4, .int (zI km), .int (zI th), .ref r7, .int (zI bu), .int (zI pa), .int (zI pb), .int (zI ki), .int (zI nu), .int (zI wr), .int (zI wa), .int (zI ea), .long (zL lx), .long (zL ly), .long (zL lh), .long (zL lz), .ref r20, .int (zI go), .int (zI iT), .int (zI iM), .int (zI iK), .ref r25, .int (zI wm), .int (zI tm), .int (zI (zb te))])), (r25, .inl (zk G 0, 500, .inl (zA fwt)))] (S := Unit) zrv (fun _ => True) (fun _ => [(z, .inr (7, [.ref r0, .ref r1, .ref r2, .ref r3, .ref r4, .int (zI km), .int (zI th), .ref r7, .int (zI bu), .int (zI pa), .int (zI pb), .int (zI ki), .int (zI nu), .int (zI wr), .int (zI wa), .int (zI ea), .long (zL lx), .long (zL ly), .long (zL lh), .long (zL lz), .ref r20, .int (zI go), .int (zI iT), .int (zI iM), .int (zI iK), .ref r25, .int (zI ((zpl2 (zwd kk) (wm, fwt)).1)), .int (zI tm), .int (zI (zb te))])), (r25, .inl (zk G 0, 500, .inl (zA ((zpl2 (zwd kk) (wm, fwt)).2))))]) 0 0 := by
  refine zM.of (cc := cX7_saysWord) (maxL := 3) (ret := none) (by decide) rfl (Nat.le_of_ble_eq_true rfl) (l0 := [(0, .ref z), (1, .ref (zsk G kk))]) rfl ?_
  intro p e s m args below meth c ls F hr hlk hnm hW hl
  obtain ⟨hx, hb, hml, hown, hts⟩ := id F
  have hwl := wln_in kk (by omega)
  refine zv_iconst (pc := 0) (n := 0) hx hb dX7_saysWord_0 ?_
  refine lv_istore_n (pc := 1) (lv' := [(2, .int (zI 0)), (0, .ref z), (1, .ref (zsk G kk))]) hx hb dX7_saysWord_1 rfl hl (by decide) rfl (fun ls hl => ?_)
  have J2 : ∀ (fuel2 : Nat) (j9 : Int) (n9 : Int) (f9 : Int → Int) (j0 : 0 ≤ j9 ∧ j9 ≤ wln kk) (hn9 : n9 = wm + j9) (hz9 : zpl2 (zwdN kk (wln kk - j9).toNat j9) (n9, f9) = (zpl2 (zwd kk) (wm, fwt))) (hfu2 : (wln kk - j9).toNat < fuel2) (H : Heap) (locs : List Loc) (ls : Array Slot) (hW : zW G (va_A [(z, .inr (7, [.ref r0, .ref r1, .ref r2, .ref r3, .ref r4, .int (zI km), .int (zI th), .ref r7, .int (zI bu), .int (zI pa), .int (zI pb), .int (zI ki), .int (zI nu), .int (zI wr), .int (zI wa), .int (zI ea), .long (zL lx), .long (zL ly), .long (zL lh), .long (zL lz), .ref r20, .int (zI go), .int (zI iT), .int (zI iM), .int (zI iK), .ref r25, .int (zI wm), .int (zI tm), .int (zI (zb te))])), (r25, .inl (zk G 0, 500, .inl (zA fwt)))] s.heap.size) s H locs [(z, .inr (7, [.ref r0, .ref r1, .ref r2, .ref r3, .ref r4, .int (zI km), .int (zI th), .ref r7, .int (zI bu), .int (zI pa), .int (zI pb), .int (zI ki), .int (zI nu), .int (zI wr), .int (zI wa), .int (zI ea), .long (zL lx), .long (zL ly), .long (zL lh), .long (zL lz), .ref r20, .int (zI go), .int (zI iT), .int (zI iM), .int (zI iK), .ref r25, .int (zI n9), .int (zI tm), .int (zI (zb te))])), (r25, .inl (zk G 0, 500, .inl (zA f9)))]) (hl : lv_has ls 3 [(2, .int (zI j9)), (0, .ref z), (1, .ref (zsk G kk))]), W p l e ({ frames := 4, cells := 0, slots := 0, locals := 85 } : Room) s m args below meth c H locs 0 0 (MQ below (zQ (S := Unit) zrv (fun _ => True) (zPost G [(z, .inr (7, [.ref r0, .ref r1, .ref r2, .ref r3, .ref r4, .int (zI km), .int (zI th), .ref r7, .int (zI bu), .int (zI pa), .int (zI pb), .int (zI ki), .int (zI nu), .int (zI wr), .int (zI wa), .int (zI ea), .long (zL lx), .long (zL ly), .long (zL lh), .long (zL lz), .ref r20, .int (zI go), .int (zI iT), .int (zI iM), .int (zI iK), .ref r25, .int (zI wm), .int (zI tm), .int (zI (zb te))])), (r25, .inl (zk G 0, 500, .inl (zA fwt)))] s.heap.size (fun _ => [(z, .inr (7, [.ref r0, .ref r1, .ref r2, .ref r3, .ref r4, .int (zI km), .int (zI th), .ref r7, .int (zI bu), .int (zI pa), .int (zI pb), .int (zI ki), .int (zI nu), .int (zI wr), .int (zI wa), .int (zI ea), .long (zL lx), .long (zL ly), .long (zL lh), .long (zL lz), .ref r20, .int (zI go), .int (zI iT), .int (zI iM), .int (zI iK), .ref r25, .int (zI ((zpl2 (zwd kk) (wm, fwt)).1)), .int (zI tm), .int (zI (zb te))])), (r25, .inl (zk G 0, 500, .inl (zA ((zpl2 (zwd kk) (wm, fwt)).2))))])) (va_A [(z, .inr (7, [.ref r0, .ref r1, .ref r2, .ref r3, .ref r4, .int (zI km), .int (zI th), .ref r7, .int (zI bu), .int (zI pa), .int (zI pb), .int (zI ki), .int (zI nu), .int (zI wr), .int (zI wa), .int (zI ea), .long (zL lx), .long (zL ly), .long (zL lh), .long (zL lz), .ref r20, .int (zI go), .int (zI iT), .int (zI iM), .int (zI iK), .ref r25, .int (zI wm), .int (zI tm), .int (zI (zb te))])), (r25, .inl (zk G 0, 500, .inl (zA fwt)))] s.heap.size)) args s 0 0 (va_A [(z, .inr (7, [.ref r0, .ref r1, .ref r2, .ref r3, .ref r4, .int (zI km), .int (zI th), .ref r7, .int (zI bu), .int (zI pa), .int (zI pb), .int (zI ki), .int (zI nu), .int (zI wr), .int (zI wa), .int (zI ea), .long (zL lx), .long (zL ly), .long (zL lh), .long (zL lz), .ref r20, .int (zI go), .int (zI iT), .int (zI iM), .int (zI iK), .ref r25, .int (zI wm), .int (zI tm), .int (zI (zb te))])), (r25, .inl (zk G 0, 500, .inl (zA fwt)))] s.heap.size)) (F0 m 2 ls []) := by
    intro fuel2
    induction fuel2 with
    | zero =>
      intro j9 n9 f9 j0 hn9 hz9 hfu2
      exact absurd hfu2 (Nat.not_lt_zero _)
    | succ fuel2 ih2 =>
      intro j9 n9 f9 j0 hn9 hz9 hfu2 H locs ls hW hl
      refine lv_iload_n (pc := 2) hx hb dX7_saysWord_2 rfl (lv_at hl 0 rfl) ?_
      refine lv_aload_n (pc := 3) hx hb dX7_saysWord_3 rfl (lv_at hl 2 rfl) ?_
      refine z_VS (pc := 4) (As := []) (rest := [.int (zI j9)]) F (by omega) (kJ0_length_8abf5 G l kk (by omega)) (cwV 0 hts gX7_saysWord_J0_length_8abf5 rfl rfl rfl (by decide +kernel) ⟨Nat.le_of_ble_eq_true rfl, Nat.le_of_ble_eq_true rfl⟩) hW rfl hl.1 rfl (Nat.le_of_ble_eq_true rfl) dX7_saysWord_4 ⟨Nat.le_of_ble_eq_true rfl, Nat.le_of_ble_eq_true rfl⟩ (fun _ H locs _ hW => ?_)
      show W p l e _ s m args below meth c H locs _ _ _ (F0 m 7 ls [.int (zI (wln kk)), .int (zI j9)])
      have wl4 := wln_in (kk) (by first | assumption | omega | decide)
      refine zv_icmp_ge (pc := 7) (tgt := 25) hx hb dX7_saysWord_7 (by decide) ⟨by omega, by omega⟩ ⟨by omega, by omega⟩ (fun c7 => ?_) (fun c7 => ?_)
      · have hz4 : (n9, f9) = (zpl2 (zwd kk) (wm, fwt)) := by rw [← hz9, show (wln kk - j9).toNat = 0 by omega]; rfl
        exact ze_v (pc := 25) hx hb hr hlk hW () rfl trivial (by rw [← hz4]) dX7_saysWord_25
      · have hwc := wch_in (k := kk) (j := j9) (by omega) (by omega) (by omega)
        have hf1 : (wln kk - j9).toNat = (wln kk - (j9 + 1)).toNat + 1 := by omega
        refine lv_aload_n (pc := 10) hx hb dX7_saysWord_10 rfl (lv_at hl 1 rfl) ?_
        refine lv_aload_n (pc := 11) hx hb dX7_saysWord_11 rfl (lv_at hl 2 rfl) ?_
        refine lv_iload_n (pc := 12) hx hb dX7_saysWord_12 rfl (lv_at hl 0 rfl) ?_
        refine z_VS (pc := 13) (As := [.int (zI j9)]) (rest := [.ref z]) F (by omega) (kJ0_charAt_5068e G l kk j9 (by omega) (by first | assumption | omega | decide) (by first | assumption | omega | decide)) (cwV 1 hts gX7_saysWord_J0_charAt_5068e rfl rfl rfl (by decide +kernel) ⟨Nat.le_of_ble_eq_true rfl, Nat.le_of_ble_eq_true rfl⟩) hW rfl hl.1 rfl (Nat.le_of_ble_eq_true rfl) dX7_saysWord_13 ⟨Nat.le_of_ble_eq_true rfl, Nat.le_of_ble_eq_true rfl⟩ (fun _ H locs _ hW => ?_)
        show W p l e _ s m args below meth c H locs _ _ _ (F0 m 16 ls [.int (zI (wch kk j9)), .ref z])
        have wc13 := wch_in (k := kk) (j := j9) (by first | assumption | omega | decide) (by omega) (by omega)
        refine z_V (pc := 16) (As := [.int (zI (wch kk j9))]) (rest := []) (wn := (fun _ => [(z, .inr (7, [.ref r0, .ref r1, .ref r2, .ref r3, .ref r4, .int (zI km), .int (zI th), .ref r7, .int (zI bu), .int (zI pa), .int (zI pb), .int (zI ki), .int (zI nu), .int (zI wr), .int (zI wa), .int (zI ea), .long (zL lx), .long (zL ly), .long (zL lh), .long (zL lz), .ref r20, .int (zI go), .int (zI iT), .int (zI iM), .int (zI iK), .ref r25, .int (zI (n9 + 1)), .int (zI tm), .int (zI (zb te))])), (r25, .inl (zk G 0, 500, .inl (zA (zU f9 n9 (wch kk j9)))))])) (wr := []) F (kX7_says G l z r0 r1 r2 r3 r4 km th r7 bu pa pb ki nu wr wa ea lx ly lh lz r20 go iT iM iK r25 n9 tm te f9 (wch kk j9) (by first | assumption | omega) (by first | assumption | omega)) (cwV 1 hts gX7_saysWord_X7_says rfl rfl rfl (by decide +kernel) ⟨Nat.le_of_ble_eq_true rfl, Nat.le_of_ble_eq_true rfl⟩) hW 0 rfl rfl [0, 1] [] (by decide) rfl rfl rfl (by decide) (by decide) [0, 1] (by decide) (fun _ => rfl) (fun _ => rfl) rfl hl.1 rfl (Nat.le_of_ble_eq_true rfl) dX7_saysWord_16 ⟨Nat.le_of_ble_eq_true rfl, Nat.le_of_ble_eq_true rfl⟩ (fun _ H locs _ hW => ?_)
        refine zv_iinc (pc := 19) (lv' := [(2, .int (zI (j9 + 1))), (0, .ref z), (1, .ref (zsk G kk))]) hx hb dX7_saysWord_19 hl (k := 0) rfl (by decide) rfl (fun ls hl => ?_)
        refine lv_goto (pc := 22) (tgt := 2) hx hb dX7_saysWord_22 (by decide) ?_
        exact ih2 (j9 + 1) (n9 + 1) (zU f9 n9 (wch kk j9)) (by omega) (by omega) ((zwd_step hf1).symm.trans hz9) (by omega) _ _ _ hW (lv_sub hl [0, 1, 2] rfl)
  exact J2 (((wln kk - 0 : Int).toNat) + 1) 0 wm fwt (by omega) (by omega) (by rw [Int.sub_zero]; rfl) (Nat.lt_succ_self _) _ _ _ hW (lv_sub hl [0, 1, 2] rfl)

set_option maxHeartbeats 1000000 in
set_option maxRecDepth 100000 in
/-- saysNumber, at most 1 digits -/
theorem kX7_saysNumber0 (G : zG) (l : Launch) (z : Nat) (r0 : Nat) (r1 : Nat) (r2 : Nat) (r3 : Nat) (r4 : Nat) (km : Int) (th : Int) (r7 : Nat) (bu : Int) (pa : Int) (pb : Int) (ki : Int) (nu : Int) (wr : Int) (wa : Int) (ea : Int) (lx : Int) (ly : Int) (lh : Int) (lz : Int) (r20 : Nat) (go : Int) (iT : Int) (iM : Int) (iK : Int) (r25 : Nat) (wm : Int) (tm : Int) (te : Bool) (fwt : Int → Int) (v : Int) (w0 : 0 ≤ wm) (v0 : 0 ≤ v) (v1 : v < 10) (w1 : wm + 1 ≤ 500) : zM G l yX7_saysNumber wsX7_saysNumber { frames := 1, cells := 0, slots := 0, locals := 21 } [.ref z, .int (zI v)] [(z, .inr (7, [.ref r0, .ref r1, .ref r2, .ref r3, .ref r4, .int (zI km), .int (zI th), .ref r7, .int (zI bu), .int (zI pa), .int (zI pb), .int (zI ki), .int (zI nu), .int (zI wr), .int (zI wa), .int (zI ea), .long (zL lx), .long (zL ly), .long (zL lh), .long (zL lz), .ref r20, .int (zI go), .int (zI iT), .int (zI iM), .int (zI iK), .ref r25, .int (zI wm), .int (zI tm), .int (zI (zb te))])), (r25, .inl (zk G 0, 500, .inl (zA fwt)))] (S := Unit) zrv (fun _ => True) (fun _ => [(z, .inr (7, [.ref r0, .ref r1, .ref r2, .ref r3, .ref r4, .int (zI km), .int (zI th), .ref r7, .int (zI bu), .int (zI pa), .int (zI pb), .int (zI ki), .int (zI nu), .int (zI wr), .int (zI wa), .int (zI ea), .long (zL lx), .long (zL ly), .long (zL lh), .long (zL lz), .ref r20, .int (zI go), .int (zI iT), .int (zI iM), .int (zI iK), .ref r25, .int (zI ((zpl2 (zdgN 0 v) (wm, fwt)).1)), .int (zI tm), .int (zI (zb te))])), (r25, .inl (zk G 0, 500, .inl (zA ((zpl2 (zdgN 0 v) (wm, fwt)).2))))]) 0 0 := by
  refine zM.of (cc := cX7_saysNumber) (maxL := 2) (ret := none) (by decide) rfl (Nat.le_of_ble_eq_true rfl) (l0 := [(0, .ref z), (1, .int (zI v))]) rfl ?_
  intro p e s m args below meth c ls F hr hlk hnm hW hl
  obtain ⟨hx, hb, hml, hown, hts⟩ := id F
  refine lv_iload_n (pc := 0) hx hb dX7_saysNumber_0 rfl (lv_at hl 1 rfl) ?_
  refine zv_bipush (pc := 1) (n := 9) hx hb dX7_saysNumber_1 (by decide) ?_
  refine zv_icmp_le (pc := 3) (tgt := 14) hx hb dX7_saysNumber_3 (by decide) ⟨by omega, by omega⟩ ⟨by omega, by omega⟩ (fun c3 => ?_) (fun c3 => absurd c3 (by omega))
  refine lv_aload_n (pc := 14) hx hb dX7_saysNumber_14 rfl (lv_at hl 0 rfl) ?_
  refine zv_bipush (pc := 15) (n := 48) hx hb dX7_saysNumber_15 (by decide) ?_
  refine lv_iload_n (pc := 17) hx hb dX7_saysNumber_17 rfl (lv_at hl 1 rfl) ?_
  refine zv_bipush (pc := 18) (n := 10) hx hb dX7_saysNumber_18 (by decide) ?_
  refine zv_irem (pc := 20) hx hb dX7_saysNumber_20 ⟨by omega, by omega⟩ ⟨by omega, by omega⟩ (by omega) ?_
  refine zv_as (pc := 21) (a := Int.tmod v 10) (b := v % 10) (Int.tmod_eq_emod_of_nonneg (by omega)) ?_
  refine zv_iadd (pc := 21) hx hb dX7_saysNumber_21 ?_
  refine z_V (pc := 22) (As := [.int (zI (48 + (v % 10)))]) (rest := []) (wn := (fun _ => [(z, .inr (7, [.ref r0, .ref r1, .ref r2, .ref r3, .ref r4, .int (zI km), .int (zI th), .ref r7, .int (zI bu), .int (zI pa), .int (zI pb), .int (zI ki), .int (zI nu), .int (zI wr), .int (zI wa), .int (zI ea), .long (zL lx), .long (zL ly), .long (zL lh), .long (zL lz), .ref r20, .int (zI go), .int (zI iT), .int (zI iM), .int (zI iK), .ref r25, .int (zI (wm + 1)), .int (zI tm), .int (zI (zb te))])), (r25, .inl (zk G 0, 500, .inl (zA (zU fwt wm (48 + (v % 10))))))])) (wr := []) F (kX7_says G l z r0 r1 r2 r3 r4 km th r7 bu pa pb ki nu wr wa ea lx ly lh lz r20 go iT iM iK r25 wm tm te fwt (48 + (v % 10)) (by first | assumption | omega) (by first | assumption | omega)) (cwV 1 hts gX7_saysNumber_X7_says rfl rfl rfl (by decide +kernel) ⟨Nat.le_of_ble_eq_true rfl, Nat.le_of_ble_eq_true rfl⟩) hW 0 rfl rfl [0, 1] [] (by decide) rfl rfl rfl (by decide) (by decide) [0, 1] (by decide) (fun _ => rfl) (fun _ => rfl) rfl hl.1 rfl (Nat.le_of_ble_eq_true rfl) dX7_saysNumber_22 ⟨Nat.le_of_ble_eq_true rfl, Nat.le_of_ble_eq_true rfl⟩ (fun _ H locs _ hW => ?_)
  exact ze_v (pc := 25) hx hb hr hlk hW () rfl trivial rfl dX7_saysNumber_25

set_option maxHeartbeats 1000000 in
set_option maxRecDepth 100000 in
/-- saysNumber, at most 2 digits -/
theorem kX7_saysNumber1 (G : zG) (l : Launch) (z : Nat) (r0 : Nat) (r1 : Nat) (r2 : Nat) (r3 : Nat) (r4 : Nat) (km : Int) (th : Int) (r7 : Nat) (bu : Int) (pa : Int) (pb : Int) (ki : Int) (nu : Int) (wr : Int) (wa : Int) (ea : Int) (lx : Int) (ly : Int) (lh : Int) (lz : Int) (r20 : Nat) (go : Int) (iT : Int) (iM : Int) (iK : Int) (r25 : Nat) (wm : Int) (tm : Int) (te : Bool) (fwt : Int → Int) (v : Int) (w0 : 0 ≤ wm) (v0 : 0 ≤ v) (v1 : v < 100) (w1 : wm + 2 ≤ 500) : zM G l yX7_saysNumber wsX7_saysNumber { frames := 2, cells := 0, slots := 0, locals := 42 } [.ref z, .int (zI v)] [(z, .inr (7, [.ref r0, .ref r1, .ref r2, .ref r3, .ref r4, .int (zI km), .int (zI th), .ref r7, .int (zI bu), .int (zI pa), .int (zI pb), .int (zI ki), .int (zI nu), .int (zI wr), .int (zI wa), .int (zI ea), .long (zL lx), .long (zL ly), .long (zL lh), .long (zL lz), .ref r20, .int (zI go), .int (zI iT), .int (zI iM), .int (zI iK), .ref r25, .int (zI wm), .int (zI tm), .int (zI (zb te))])), (r25, .inl (zk G 0, 500, .inl (zA fwt)))] (S := Unit) zrv (fun _ => True) (fun _ => [(z, .inr (7, [.ref r0, .ref r1, .ref r2, .ref r3, .ref r4, .int (zI km), .int (zI th), .ref r7, .int (zI bu), .int (zI pa), .int (zI pb), .int (zI ki), .int (zI nu), .int (zI wr), .int (zI wa), .int (zI ea), .long (zL lx), .long (zL ly), .long (zL lh), .long (zL lz), .ref r20, .int (zI go), .int (zI iT), .int (zI iM), .int (zI iK), .ref r25, .int (zI ((zpl2 (zdgN 1 v) (wm, fwt)).1)), .int (zI tm), .int (zI (zb te))])), (r25, .inl (zk G 0, 500, .inl (zA ((zpl2 (zdgN 1 v) (wm, fwt)).2))))]) 0 0 := by
  refine zM.of (cc := cX7_saysNumber) (maxL := 2) (ret := none) (by decide) rfl (Nat.le_of_ble_eq_true rfl) (l0 := [(0, .ref z), (1, .int (zI v))]) rfl ?_
  intro p e s m args below meth c ls F hr hlk hnm hW hl
  obtain ⟨hx, hb, hml, hown, hts⟩ := id F
  refine lv_iload_n (pc := 0) hx hb dX7_saysNumber_0 rfl (lv_at hl 1 rfl) ?_
  refine zv_bipush (pc := 1) (n := 9) hx hb dX7_saysNumber_1 (by decide) ?_
  refine zv_icmp_le (pc := 3) (tgt := 14) hx hb dX7_saysNumber_3 (by decide) ⟨by omega, by omega⟩ ⟨by omega, by omega⟩ (fun c3 => ?_) (fun c3 => ?_)
  · refine lv_aload_n (pc := 14) hx hb dX7_saysNumber_14 rfl (lv_at hl 0 rfl) ?_
    refine zv_bipush (pc := 15) (n := 48) hx hb dX7_saysNumber_15 (by decide) ?_
    refine lv_iload_n (pc := 17) hx hb dX7_saysNumber_17 rfl (lv_at hl 1 rfl) ?_
    refine zv_bipush (pc := 18) (n := 10) hx hb dX7_saysNumber_18 (by decide) ?_
    refine zv_irem (pc := 20) hx hb dX7_saysNumber_20 ⟨by omega, by omega⟩ ⟨by omega, by omega⟩ (by omega) ?_
    refine zv_as (pc := 21) (a := Int.tmod v 10) (b := v % 10) (Int.tmod_eq_emod_of_nonneg (by omega)) ?_
    refine zv_iadd (pc := 21) hx hb dX7_saysNumber_21 ?_
    refine z_V (pc := 22) (As := [.int (zI (48 + (v % 10)))]) (rest := []) (wn := (fun _ => [(z, .inr (7, [.ref r0, .ref r1, .ref r2, .ref r3, .ref r4, .int (zI km), .int (zI th), .ref r7, .int (zI bu), .int (zI pa), .int (zI pb), .int (zI ki), .int (zI nu), .int (zI wr), .int (zI wa), .int (zI ea), .long (zL lx), .long (zL ly), .long (zL lh), .long (zL lz), .ref r20, .int (zI go), .int (zI iT), .int (zI iM), .int (zI iK), .ref r25, .int (zI (wm + 1)), .int (zI tm), .int (zI (zb te))])), (r25, .inl (zk G 0, 500, .inl (zA (zU fwt wm (48 + (v % 10))))))])) (wr := []) F (kX7_says G l z r0 r1 r2 r3 r4 km th r7 bu pa pb ki nu wr wa ea lx ly lh lz r20 go iT iM iK r25 wm tm te fwt (48 + (v % 10)) (by first | assumption | omega) (by first | assumption | omega)) (cwV 1 hts gX7_saysNumber_X7_says rfl rfl rfl (by decide +kernel) ⟨Nat.le_of_ble_eq_true rfl, Nat.le_of_ble_eq_true rfl⟩) hW 0 rfl rfl [0, 1] [] (by decide) rfl rfl rfl (by decide) (by decide) [0, 1] (by decide) (fun _ => rfl) (fun _ => rfl) rfl hl.1 rfl (Nat.le_of_ble_eq_true rfl) dX7_saysNumber_22 ⟨Nat.le_of_ble_eq_true rfl, Nat.le_of_ble_eq_true rfl⟩ (fun _ H locs _ hW => ?_)
    exact ze_v (pc := 25) hx hb hr hlk hW () rfl trivial (by first | (rw [zdg_yes (show 9 < v by omega)]; rfl) | (rw [zdg_no (show ¬ 9 < v by omega)]; rfl)) dX7_saysNumber_25
  · refine lv_aload_n (pc := 6) hx hb dX7_saysNumber_6 rfl (lv_at hl 0 rfl) ?_
    refine lv_iload_n (pc := 7) hx hb dX7_saysNumber_7 rfl (lv_at hl 1 rfl) ?_
    refine zv_bipush (pc := 8) (n := 10) hx hb dX7_saysNumber_8 (by decide) ?_
    refine zv_idiv (pc := 10) hx hb dX7_saysNumber_10 ⟨by omega, by omega⟩ ⟨by omega, by omega⟩ (by omega) ?_
    have hl9 := zdgN_len 0 (v / 10)
    have hn9 := zpl2_n (zdgN 0 (v / 10)) (wm, fwt)
    replace hn9 : (zpl2 (zdgN 0 (v / 10)) (wm, fwt)).1 = wm + ((zdgN 0 (v / 10)).length : Int) := hn9
    refine zv_as (pc := 11) (a := Int.tdiv v 10) (b := v / 10) (Int.tdiv_eq_ediv_of_nonneg (by omega)) ?_
    refine z_V (pc := 11) (As := [.int (zI (v / 10))]) (rest := []) (wn := (fun _ => [(z, .inr (7, [.ref r0, .ref r1, .ref r2, .ref r3, .ref r4, .int (zI km), .int (zI th), .ref r7, .int (zI bu), .int (zI pa), .int (zI pb), .int (zI ki), .int (zI nu), .int (zI wr), .int (zI wa), .int (zI ea), .long (zL lx), .long (zL ly), .long (zL lh), .long (zL lz), .ref r20, .int (zI go), .int (zI iT), .int (zI iM), .int (zI iK), .ref r25, .int (zI ((zpl2 (zdgN 0 (v / 10)) (wm, fwt)).1)), .int (zI tm), .int (zI (zb te))])), (r25, .inl (zk G 0, 500, .inl (zA ((zpl2 (zdgN 0 (v / 10)) (wm, fwt)).2))))])) (wr := []) F (kX7_saysNumber0 G l z r0 r1 r2 r3 r4 km th r7 bu pa pb ki nu wr wa ea lx ly lh lz r20 go iT iM iK r25 wm tm te fwt (v / 10) (by first | assumption | omega) (by first | assumption | omega) (by first | assumption | omega) (by first | assumption | omega)) (cwV 1 hts gX7_saysNumber_X7_saysNumber rfl rfl rfl (by decide +kernel) ⟨Nat.le_of_ble_eq_true rfl, Nat.le_of_ble_eq_true rfl⟩) hW 0 rfl rfl [0, 1] [] (by decide) rfl rfl rfl (by decide) (by decide) [0, 1] (by decide) (fun _ => rfl) (fun _ => rfl) rfl hl.1 rfl (Nat.le_of_ble_eq_true rfl) dX7_saysNumber_11 ⟨Nat.le_of_ble_eq_true rfl, Nat.le_of_ble_eq_true rfl⟩ (fun _ H locs _ hW => ?_)
    refine lv_aload_n (pc := 14) hx hb dX7_saysNumber_14 rfl (lv_at hl 0 rfl) ?_
    refine zv_bipush (pc := 15) (n := 48) hx hb dX7_saysNumber_15 (by decide) ?_
    refine lv_iload_n (pc := 17) hx hb dX7_saysNumber_17 rfl (lv_at hl 1 rfl) ?_
    refine zv_bipush (pc := 18) (n := 10) hx hb dX7_saysNumber_18 (by decide) ?_
    refine zv_irem (pc := 20) hx hb dX7_saysNumber_20 ⟨by omega, by omega⟩ ⟨by omega, by omega⟩ (by omega) ?_
    refine zv_as (pc := 21) (a := Int.tmod v 10) (b := v % 10) (Int.tmod_eq_emod_of_nonneg (by omega)) ?_
    refine zv_iadd (pc := 21) hx hb dX7_saysNumber_21 ?_
    refine z_V (pc := 22) (As := [.int (zI (48 + (v % 10)))]) (rest := []) (wn := (fun _ => [(z, .inr (7, [.ref r0, .ref r1, .ref r2, .ref r3, .ref r4, .int (zI km), .int (zI th), .ref r7, .int (zI bu), .int (zI pa), .int (zI pb), .int (zI ki), .int (zI nu), .int (zI wr), .int (zI wa), .int (zI ea), .long (zL lx), .long (zL ly), .long (zL lh), .long (zL lz), .ref r20, .int (zI go), .int (zI iT), .int (zI iM), .int (zI iK), .ref r25, .int (zI (((zpl2 (zdgN 0 (v / 10)) (wm, fwt)).1) + 1)), .int (zI tm), .int (zI (zb te))])), (r25, .inl (zk G 0, 500, .inl (zA (zU ((zpl2 (zdgN 0 (v / 10)) (wm, fwt)).2) ((zpl2 (zdgN 0 (v / 10)) (wm, fwt)).1) (48 + (v % 10))))))])) (wr := []) F (kX7_says G l z r0 r1 r2 r3 r4 km th r7 bu pa pb ki nu wr wa ea lx ly lh lz r20 go iT iM iK r25 ((zpl2 (zdgN 0 (v / 10)) (wm, fwt)).1) tm te ((zpl2 (zdgN 0 (v / 10)) (wm, fwt)).2) (48 + (v % 10)) (by first | assumption | omega) (by first | assumption | omega)) (cwV 1 hts gX7_saysNumber_X7_says rfl rfl rfl (by decide +kernel) ⟨Nat.le_of_ble_eq_true rfl, Nat.le_of_ble_eq_true rfl⟩) hW 0 rfl rfl [0, 1] [] (by decide) rfl rfl rfl (by decide) (by decide) [0, 1] (by decide) (fun _ => rfl) (fun _ => rfl) rfl hl.1 rfl (Nat.le_of_ble_eq_true rfl) dX7_saysNumber_22 ⟨Nat.le_of_ble_eq_true rfl, Nat.le_of_ble_eq_true rfl⟩ (fun _ H locs _ hW => ?_)
    exact ze_v (pc := 25) hx hb hr hlk hW () rfl trivial (by first | (rw [zdg_yes (show 9 < v by omega)]; rfl) | (rw [zdg_no (show ¬ 9 < v by omega)]; rfl)) dX7_saysNumber_25

set_option maxHeartbeats 1000000 in
set_option maxRecDepth 100000 in
/-- saysNumber, at most 3 digits -/
theorem kX7_saysNumber2 (G : zG) (l : Launch) (z : Nat) (r0 : Nat) (r1 : Nat) (r2 : Nat) (r3 : Nat) (r4 : Nat) (km : Int) (th : Int) (r7 : Nat) (bu : Int) (pa : Int) (pb : Int) (ki : Int) (nu : Int) (wr : Int) (wa : Int) (ea : Int) (lx : Int) (ly : Int) (lh : Int) (lz : Int) (r20 : Nat) (go : Int) (iT : Int) (iM : Int) (iK : Int) (r25 : Nat) (wm : Int) (tm : Int) (te : Bool) (fwt : Int → Int) (v : Int) (w0 : 0 ≤ wm) (v0 : 0 ≤ v) (v1 : v < 1000) (w1 : wm + 3 ≤ 500) : zM G l yX7_saysNumber wsX7_saysNumber { frames := 3, cells := 0, slots := 0, locals := 63 } [.ref z, .int (zI v)] [(z, .inr (7, [.ref r0, .ref r1, .ref r2, .ref r3, .ref r4, .int (zI km), .int (zI th), .ref r7, .int (zI bu), .int (zI pa), .int (zI pb), .int (zI ki), .int (zI nu), .int (zI wr), .int (zI wa), .int (zI ea), .long (zL lx), .long (zL ly), .long (zL lh), .long (zL lz), .ref r20, .int (zI go), .int (zI iT), .int (zI iM), .int (zI iK), .ref r25, .int (zI wm), .int (zI tm), .int (zI (zb te))])), (r25, .inl (zk G 0, 500, .inl (zA fwt)))] (S := Unit) zrv (fun _ => True) (fun _ => [(z, .inr (7, [.ref r0, .ref r1, .ref r2, .ref r3, .ref r4, .int (zI km), .int (zI th), .ref r7, .int (zI bu), .int (zI pa), .int (zI pb), .int (zI ki), .int (zI nu), .int (zI wr), .int (zI wa), .int (zI ea), .long (zL lx), .long (zL ly), .long (zL lh), .long (zL lz), .ref r20, .int (zI go), .int (zI iT), .int (zI iM), .int (zI iK), .ref r25, .int (zI ((zpl2 (zdgN 2 v) (wm, fwt)).1)), .int (zI tm), .int (zI (zb te))])), (r25, .inl (zk G 0, 500, .inl (zA ((zpl2 (zdgN 2 v) (wm, fwt)).2))))]) 0 0 := by
  refine zM.of (cc := cX7_saysNumber) (maxL := 2) (ret := none) (by decide) rfl (Nat.le_of_ble_eq_true rfl) (l0 := [(0, .ref z), (1, .int (zI v))]) rfl ?_
  intro p e s m args below meth c ls F hr hlk hnm hW hl
  obtain ⟨hx, hb, hml, hown, hts⟩ := id F
  refine lv_iload_n (pc := 0) hx hb dX7_saysNumber_0 rfl (lv_at hl 1 rfl) ?_
  refine zv_bipush (pc := 1) (n := 9) hx hb dX7_saysNumber_1 (by decide) ?_
  refine zv_icmp_le (pc := 3) (tgt := 14) hx hb dX7_saysNumber_3 (by decide) ⟨by omega, by omega⟩ ⟨by omega, by omega⟩ (fun c3 => ?_) (fun c3 => ?_)
  · refine lv_aload_n (pc := 14) hx hb dX7_saysNumber_14 rfl (lv_at hl 0 rfl) ?_
    refine zv_bipush (pc := 15) (n := 48) hx hb dX7_saysNumber_15 (by decide) ?_
    refine lv_iload_n (pc := 17) hx hb dX7_saysNumber_17 rfl (lv_at hl 1 rfl) ?_
    refine zv_bipush (pc := 18) (n := 10) hx hb dX7_saysNumber_18 (by decide) ?_
    refine zv_irem (pc := 20) hx hb dX7_saysNumber_20 ⟨by omega, by omega⟩ ⟨by omega, by omega⟩ (by omega) ?_
    refine zv_as (pc := 21) (a := Int.tmod v 10) (b := v % 10) (Int.tmod_eq_emod_of_nonneg (by omega)) ?_
    refine zv_iadd (pc := 21) hx hb dX7_saysNumber_21 ?_
    refine z_V (pc := 22) (As := [.int (zI (48 + (v % 10)))]) (rest := []) (wn := (fun _ => [(z, .inr (7, [.ref r0, .ref r1, .ref r2, .ref r3, .ref r4, .int (zI km), .int (zI th), .ref r7, .int (zI bu), .int (zI pa), .int (zI pb), .int (zI ki), .int (zI nu), .int (zI wr), .int (zI wa), .int (zI ea), .long (zL lx), .long (zL ly), .long (zL lh), .long (zL lz), .ref r20, .int (zI go), .int (zI iT), .int (zI iM), .int (zI iK), .ref r25, .int (zI (wm + 1)), .int (zI tm), .int (zI (zb te))])), (r25, .inl (zk G 0, 500, .inl (zA (zU fwt wm (48 + (v % 10))))))])) (wr := []) F (kX7_says G l z r0 r1 r2 r3 r4 km th r7 bu pa pb ki nu wr wa ea lx ly lh lz r20 go iT iM iK r25 wm tm te fwt (48 + (v % 10)) (by first | assumption | omega) (by first | assumption | omega)) (cwV 1 hts gX7_saysNumber_X7_says rfl rfl rfl (by decide +kernel) ⟨Nat.le_of_ble_eq_true rfl, Nat.le_of_ble_eq_true rfl⟩) hW 0 rfl rfl [0, 1] [] (by decide) rfl rfl rfl (by decide) (by decide) [0, 1] (by decide) (fun _ => rfl) (fun _ => rfl) rfl hl.1 rfl (Nat.le_of_ble_eq_true rfl) dX7_saysNumber_22 ⟨Nat.le_of_ble_eq_true rfl, Nat.le_of_ble_eq_true rfl⟩ (fun _ H locs _ hW => ?_)
    exact ze_v (pc := 25) hx hb hr hlk hW () rfl trivial (by first | (rw [zdg_yes (show 9 < v by omega)]; rfl) | (rw [zdg_no (show ¬ 9 < v by omega)]; rfl)) dX7_saysNumber_25
  · refine lv_aload_n (pc := 6) hx hb dX7_saysNumber_6 rfl (lv_at hl 0 rfl) ?_
    refine lv_iload_n (pc := 7) hx hb dX7_saysNumber_7 rfl (lv_at hl 1 rfl) ?_
    refine zv_bipush (pc := 8) (n := 10) hx hb dX7_saysNumber_8 (by decide) ?_
    refine zv_idiv (pc := 10) hx hb dX7_saysNumber_10 ⟨by omega, by omega⟩ ⟨by omega, by omega⟩ (by omega) ?_
    have hl9 := zdgN_len 1 (v / 10)
    have hn9 := zpl2_n (zdgN 1 (v / 10)) (wm, fwt)
    replace hn9 : (zpl2 (zdgN 1 (v / 10)) (wm, fwt)).1 = wm + ((zdgN 1 (v / 10)).length : Int) := hn9
    refine zv_as (pc := 11) (a := Int.tdiv v 10) (b := v / 10) (Int.tdiv_eq_ediv_of_nonneg (by omega)) ?_
    refine z_V (pc := 11) (As := [.int (zI (v / 10))]) (rest := []) (wn := (fun _ => [(z, .inr (7, [.ref r0, .ref r1, .ref r2, .ref r3, .ref r4, .int (zI km), .int (zI th), .ref r7, .int (zI bu), .int (zI pa), .int (zI pb), .int (zI ki), .int (zI nu), .int (zI wr), .int (zI wa), .int (zI ea), .long (zL lx), .long (zL ly), .long (zL lh), .long (zL lz), .ref r20, .int (zI go), .int (zI iT), .int (zI iM), .int (zI iK), .ref r25, .int (zI ((zpl2 (zdgN 1 (v / 10)) (wm, fwt)).1)), .int (zI tm), .int (zI (zb te))])), (r25, .inl (zk G 0, 500, .inl (zA ((zpl2 (zdgN 1 (v / 10)) (wm, fwt)).2))))])) (wr := []) F (kX7_saysNumber1 G l z r0 r1 r2 r3 r4 km th r7 bu pa pb ki nu wr wa ea lx ly lh lz r20 go iT iM iK r25 wm tm te fwt (v / 10) (by first | assumption | omega) (by first | assumption | omega) (by first | assumption | omega) (by first | assumption | omega)) (cwV 1 hts gX7_saysNumber_X7_saysNumber rfl rfl rfl (by decide +kernel) ⟨Nat.le_of_ble_eq_true rfl, Nat.le_of_ble_eq_true rfl⟩) hW 0 rfl rfl [0, 1] [] (by decide) rfl rfl rfl (by decide) (by decide) [0, 1] (by decide) (fun _ => rfl) (fun _ => rfl) rfl hl.1 rfl (Nat.le_of_ble_eq_true rfl) dX7_saysNumber_11 ⟨Nat.le_of_ble_eq_true rfl, Nat.le_of_ble_eq_true rfl⟩ (fun _ H locs _ hW => ?_)
    refine lv_aload_n (pc := 14) hx hb dX7_saysNumber_14 rfl (lv_at hl 0 rfl) ?_
    refine zv_bipush (pc := 15) (n := 48) hx hb dX7_saysNumber_15 (by decide) ?_
    refine lv_iload_n (pc := 17) hx hb dX7_saysNumber_17 rfl (lv_at hl 1 rfl) ?_
    refine zv_bipush (pc := 18) (n := 10) hx hb dX7_saysNumber_18 (by decide) ?_
    refine zv_irem (pc := 20) hx hb dX7_saysNumber_20 ⟨by omega, by omega⟩ ⟨by omega, by omega⟩ (by omega) ?_
    refine zv_as (pc := 21) (a := Int.tmod v 10) (b := v % 10) (Int.tmod_eq_emod_of_nonneg (by omega)) ?_
    refine zv_iadd (pc := 21) hx hb dX7_saysNumber_21 ?_
    refine z_V (pc := 22) (As := [.int (zI (48 + (v % 10)))]) (rest := []) (wn := (fun _ => [(z, .inr (7, [.ref r0, .ref r1, .ref r2, .ref r3, .ref r4, .int (zI km), .int (zI th), .ref r7, .int (zI bu), .int (zI pa), .int (zI pb), .int (zI ki), .int (zI nu), .int (zI wr), .int (zI wa), .int (zI ea), .long (zL lx), .long (zL ly), .long (zL lh), .long (zL lz), .ref r20, .int (zI go), .int (zI iT), .int (zI iM), .int (zI iK), .ref r25, .int (zI (((zpl2 (zdgN 1 (v / 10)) (wm, fwt)).1) + 1)), .int (zI tm), .int (zI (zb te))])), (r25, .inl (zk G 0, 500, .inl (zA (zU ((zpl2 (zdgN 1 (v / 10)) (wm, fwt)).2) ((zpl2 (zdgN 1 (v / 10)) (wm, fwt)).1) (48 + (v % 10))))))])) (wr := []) F (kX7_says G l z r0 r1 r2 r3 r4 km th r7 bu pa pb ki nu wr wa ea lx ly lh lz r20 go iT iM iK r25 ((zpl2 (zdgN 1 (v / 10)) (wm, fwt)).1) tm te ((zpl2 (zdgN 1 (v / 10)) (wm, fwt)).2) (48 + (v % 10)) (by first | assumption | omega) (by first | assumption | omega)) (cwV 1 hts gX7_saysNumber_X7_says rfl rfl rfl (by decide +kernel) ⟨Nat.le_of_ble_eq_true rfl, Nat.le_of_ble_eq_true rfl⟩) hW 0 rfl rfl [0, 1] [] (by decide) rfl rfl rfl (by decide) (by decide) [0, 1] (by decide) (fun _ => rfl) (fun _ => rfl) rfl hl.1 rfl (Nat.le_of_ble_eq_true rfl) dX7_saysNumber_22 ⟨Nat.le_of_ble_eq_true rfl, Nat.le_of_ble_eq_true rfl⟩ (fun _ H locs _ hW => ?_)
    exact ze_v (pc := 25) hx hb hr hlk hW () rfl trivial (by first | (rw [zdg_yes (show 9 < v by omega)]; rfl) | (rw [zdg_no (show ¬ 9 < v by omega)]; rfl)) dX7_saysNumber_25

set_option maxHeartbeats 1000000 in
set_option maxRecDepth 100000 in
/-- saysNumber, at most 4 digits -/
theorem kX7_saysNumber3 (G : zG) (l : Launch) (z : Nat) (r0 : Nat) (r1 : Nat) (r2 : Nat) (r3 : Nat) (r4 : Nat) (km : Int) (th : Int) (r7 : Nat) (bu : Int) (pa : Int) (pb : Int) (ki : Int) (nu : Int) (wr : Int) (wa : Int) (ea : Int) (lx : Int) (ly : Int) (lh : Int) (lz : Int) (r20 : Nat) (go : Int) (iT : Int) (iM : Int) (iK : Int) (r25 : Nat) (wm : Int) (tm : Int) (te : Bool) (fwt : Int → Int) (v : Int) (w0 : 0 ≤ wm) (v0 : 0 ≤ v) (v1 : v < 10000) (w1 : wm + 4 ≤ 500) : zM G l yX7_saysNumber wsX7_saysNumber { frames := 4, cells := 0, slots := 0, locals := 84 } [.ref z, .int (zI v)] [(z, .inr (7, [.ref r0, .ref r1, .ref r2, .ref r3, .ref r4, .int (zI km), .int (zI th), .ref r7, .int (zI bu), .int (zI pa), .int (zI pb), .int (zI ki), .int (zI nu), .int (zI wr), .int (zI wa), .int (zI ea), .long (zL lx), .long (zL ly), .long (zL lh), .long (zL lz), .ref r20, .int (zI go), .int (zI iT), .int (zI iM), .int (zI iK), .ref r25, .int (zI wm), .int (zI tm), .int (zI (zb te))])), (r25, .inl (zk G 0, 500, .inl (zA fwt)))] (S := Unit) zrv (fun _ => True) (fun _ => [(z, .inr (7, [.ref r0, .ref r1, .ref r2, .ref r3, .ref r4, .int (zI km), .int (zI th), .ref r7, .int (zI bu), .int (zI pa), .int (zI pb), .int (zI ki), .int (zI nu), .int (zI wr), .int (zI wa), .int (zI ea), .long (zL lx), .long (zL ly), .long (zL lh), .long (zL lz), .ref r20, .int (zI go), .int (zI iT), .int (zI iM), .int (zI iK), .ref r25, .int (zI ((zpl2 (zdgN 3 v) (wm, fwt)).1)), .int (zI tm), .int (zI (zb te))])), (r25, .inl (zk G 0, 500, .inl (zA ((zpl2 (zdgN 3 v) (wm, fwt)).2))))]) 0 0 := by
  refine zM.of (cc := cX7_saysNumber) (maxL := 2) (ret := none) (by decide) rfl (Nat.le_of_ble_eq_true rfl) (l0 := [(0, .ref z), (1, .int (zI v))]) rfl ?_
  intro p e s m args below meth c ls F hr hlk hnm hW hl
  obtain ⟨hx, hb, hml, hown, hts⟩ := id F
  refine lv_iload_n (pc := 0) hx hb dX7_saysNumber_0 rfl (lv_at hl 1 rfl) ?_
  refine zv_bipush (pc := 1) (n := 9) hx hb dX7_saysNumber_1 (by decide) ?_
  refine zv_icmp_le (pc := 3) (tgt := 14) hx hb dX7_saysNumber_3 (by decide) ⟨by omega, by omega⟩ ⟨by omega, by omega⟩ (fun c3 => ?_) (fun c3 => ?_)
  · refine lv_aload_n (pc := 14) hx hb dX7_saysNumber_14 rfl (lv_at hl 0 rfl) ?_
    refine zv_bipush (pc := 15) (n := 48) hx hb dX7_saysNumber_15 (by decide) ?_
    refine lv_iload_n (pc := 17) hx hb dX7_saysNumber_17 rfl (lv_at hl 1 rfl) ?_
    refine zv_bipush (pc := 18) (n := 10) hx hb dX7_saysNumber_18 (by decide) ?_
    refine zv_irem (pc := 20) hx hb dX7_saysNumber_20 ⟨by omega, by omega⟩ ⟨by omega, by omega⟩ (by omega) ?_
    refine zv_as (pc := 21) (a := Int.tmod v 10) (b := v % 10) (Int.tmod_eq_emod_of_nonneg (by omega)) ?_
    refine zv_iadd (pc := 21) hx hb dX7_saysNumber_21 ?_
    refine z_V (pc := 22) (As := [.int (zI (48 + (v % 10)))]) (rest := []) (wn := (fun _ => [(z, .inr (7, [.ref r0, .ref r1, .ref r2, .ref r3, .ref r4, .int (zI km), .int (zI th), .ref r7, .int (zI bu), .int (zI pa), .int (zI pb), .int (zI ki), .int (zI nu), .int (zI wr), .int (zI wa), .int (zI ea), .long (zL lx), .long (zL ly), .long (zL lh), .long (zL lz), .ref r20, .int (zI go), .int (zI iT), .int (zI iM), .int (zI iK), .ref r25, .int (zI (wm + 1)), .int (zI tm), .int (zI (zb te))])), (r25, .inl (zk G 0, 500, .inl (zA (zU fwt wm (48 + (v % 10))))))])) (wr := []) F (kX7_says G l z r0 r1 r2 r3 r4 km th r7 bu pa pb ki nu wr wa ea lx ly lh lz r20 go iT iM iK r25 wm tm te fwt (48 + (v % 10)) (by first | assumption | omega) (by first | assumption | omega)) (cwV 1 hts gX7_saysNumber_X7_says rfl rfl rfl (by decide +kernel) ⟨Nat.le_of_ble_eq_true rfl, Nat.le_of_ble_eq_true rfl⟩) hW 0 rfl rfl [0, 1] [] (by decide) rfl rfl rfl (by decide) (by decide) [0, 1] (by decide) (fun _ => rfl) (fun _ => rfl) rfl hl.1 rfl (Nat.le_of_ble_eq_true rfl) dX7_saysNumber_22 ⟨Nat.le_of_ble_eq_true rfl, Nat.le_of_ble_eq_true rfl⟩ (fun _ H locs _ hW => ?_)
    exact ze_v (pc := 25) hx hb hr hlk hW () rfl trivial (by first | (rw [zdg_yes (show 9 < v by omega)]; rfl) | (rw [zdg_no (show ¬ 9 < v by omega)]; rfl)) dX7_saysNumber_25
  · refine lv_aload_n (pc := 6) hx hb dX7_saysNumber_6 rfl (lv_at hl 0 rfl) ?_
    refine lv_iload_n (pc := 7) hx hb dX7_saysNumber_7 rfl (lv_at hl 1 rfl) ?_
    refine zv_bipush (pc := 8) (n := 10) hx hb dX7_saysNumber_8 (by decide) ?_
    refine zv_idiv (pc := 10) hx hb dX7_saysNumber_10 ⟨by omega, by omega⟩ ⟨by omega, by omega⟩ (by omega) ?_
    have hl9 := zdgN_len 2 (v / 10)
    have hn9 := zpl2_n (zdgN 2 (v / 10)) (wm, fwt)
    replace hn9 : (zpl2 (zdgN 2 (v / 10)) (wm, fwt)).1 = wm + ((zdgN 2 (v / 10)).length : Int) := hn9
    refine zv_as (pc := 11) (a := Int.tdiv v 10) (b := v / 10) (Int.tdiv_eq_ediv_of_nonneg (by omega)) ?_
    refine z_V (pc := 11) (As := [.int (zI (v / 10))]) (rest := []) (wn := (fun _ => [(z, .inr (7, [.ref r0, .ref r1, .ref r2, .ref r3, .ref r4, .int (zI km), .int (zI th), .ref r7, .int (zI bu), .int (zI pa), .int (zI pb), .int (zI ki), .int (zI nu), .int (zI wr), .int (zI wa), .int (zI ea), .long (zL lx), .long (zL ly), .long (zL lh), .long (zL lz), .ref r20, .int (zI go), .int (zI iT), .int (zI iM), .int (zI iK), .ref r25, .int (zI ((zpl2 (zdgN 2 (v / 10)) (wm, fwt)).1)), .int (zI tm), .int (zI (zb te))])), (r25, .inl (zk G 0, 500, .inl (zA ((zpl2 (zdgN 2 (v / 10)) (wm, fwt)).2))))])) (wr := []) F (kX7_saysNumber2 G l z r0 r1 r2 r3 r4 km th r7 bu pa pb ki nu wr wa ea lx ly lh lz r20 go iT iM iK r25 wm tm te fwt (v / 10) (by first | assumption | omega) (by first | assumption | omega) (by first | assumption | omega) (by first | assumption | omega)) (cwV 1 hts gX7_saysNumber_X7_saysNumber rfl rfl rfl (by decide +kernel) ⟨Nat.le_of_ble_eq_true rfl, Nat.le_of_ble_eq_true rfl⟩) hW 0 rfl rfl [0, 1] [] (by decide) rfl rfl rfl (by decide) (by decide) [0, 1] (by decide) (fun _ => rfl) (fun _ => rfl) rfl hl.1 rfl (Nat.le_of_ble_eq_true rfl) dX7_saysNumber_11 ⟨Nat.le_of_ble_eq_true rfl, Nat.le_of_ble_eq_true rfl⟩ (fun _ H locs _ hW => ?_)
    refine lv_aload_n (pc := 14) hx hb dX7_saysNumber_14 rfl (lv_at hl 0 rfl) ?_
    refine zv_bipush (pc := 15) (n := 48) hx hb dX7_saysNumber_15 (by decide) ?_
    refine lv_iload_n (pc := 17) hx hb dX7_saysNumber_17 rfl (lv_at hl 1 rfl) ?_
    refine zv_bipush (pc := 18) (n := 10) hx hb dX7_saysNumber_18 (by decide) ?_
    refine zv_irem (pc := 20) hx hb dX7_saysNumber_20 ⟨by omega, by omega⟩ ⟨by omega, by omega⟩ (by omega) ?_
    refine zv_as (pc := 21) (a := Int.tmod v 10) (b := v % 10) (Int.tmod_eq_emod_of_nonneg (by omega)) ?_
    refine zv_iadd (pc := 21) hx hb dX7_saysNumber_21 ?_
    refine z_V (pc := 22) (As := [.int (zI (48 + (v % 10)))]) (rest := []) (wn := (fun _ => [(z, .inr (7, [.ref r0, .ref r1, .ref r2, .ref r3, .ref r4, .int (zI km), .int (zI th), .ref r7, .int (zI bu), .int (zI pa), .int (zI pb), .int (zI ki), .int (zI nu), .int (zI wr), .int (zI wa), .int (zI ea), .long (zL lx), .long (zL ly), .long (zL lh), .long (zL lz), .ref r20, .int (zI go), .int (zI iT), .int (zI iM), .int (zI iK), .ref r25, .int (zI (((zpl2 (zdgN 2 (v / 10)) (wm, fwt)).1) + 1)), .int (zI tm), .int (zI (zb te))])), (r25, .inl (zk G 0, 500, .inl (zA (zU ((zpl2 (zdgN 2 (v / 10)) (wm, fwt)).2) ((zpl2 (zdgN 2 (v / 10)) (wm, fwt)).1) (48 + (v % 10))))))])) (wr := []) F (kX7_says G l z r0 r1 r2 r3 r4 km th r7 bu pa pb ki nu wr wa ea lx ly lh lz r20 go iT iM iK r25 ((zpl2 (zdgN 2 (v / 10)) (wm, fwt)).1) tm te ((zpl2 (zdgN 2 (v / 10)) (wm, fwt)).2) (48 + (v % 10)) (by first | assumption | omega) (by first | assumption | omega)) (cwV 1 hts gX7_saysNumber_X7_says rfl rfl rfl (by decide +kernel) ⟨Nat.le_of_ble_eq_true rfl, Nat.le_of_ble_eq_true rfl⟩) hW 0 rfl rfl [0, 1] [] (by decide) rfl rfl rfl (by decide) (by decide) [0, 1] (by decide) (fun _ => rfl) (fun _ => rfl) rfl hl.1 rfl (Nat.le_of_ble_eq_true rfl) dX7_saysNumber_22 ⟨Nat.le_of_ble_eq_true rfl, Nat.le_of_ble_eq_true rfl⟩ (fun _ H locs _ hW => ?_)
    exact ze_v (pc := 25) hx hb hr hlk hW () rfl trivial (by first | (rw [zdg_yes (show 9 < v by omega)]; rfl) | (rw [zdg_no (show ¬ 9 < v by omega)]; rfl)) dX7_saysNumber_25

set_option maxHeartbeats 1000000 in
set_option maxRecDepth 100000 in
/-- saysNumber, at most 5 digits -/
theorem kX7_saysNumber4 (G : zG) (l : Launch) (z : Nat) (r0 : Nat) (r1 : Nat) (r2 : Nat) (r3 : Nat) (r4 : Nat) (km : Int) (th : Int) (r7 : Nat) (bu : Int) (pa : Int) (pb : Int) (ki : Int) (nu : Int) (wr : Int) (wa : Int) (ea : Int) (lx : Int) (ly : Int) (lh : Int) (lz : Int) (r20 : Nat) (go : Int) (iT : Int) (iM : Int) (iK : Int) (r25 : Nat) (wm : Int) (tm : Int) (te : Bool) (fwt : Int → Int) (v : Int) (w0 : 0 ≤ wm) (v0 : 0 ≤ v) (v1 : v < 100000) (w1 : wm + 5 ≤ 500) : zM G l yX7_saysNumber wsX7_saysNumber { frames := 5, cells := 0, slots := 0, locals := 105 } [.ref z, .int (zI v)] [(z, .inr (7, [.ref r0, .ref r1, .ref r2, .ref r3, .ref r4, .int (zI km), .int (zI th), .ref r7, .int (zI bu), .int (zI pa), .int (zI pb), .int (zI ki), .int (zI nu), .int (zI wr), .int (zI wa), .int (zI ea), .long (zL lx), .long (zL ly), .long (zL lh), .long (zL lz), .ref r20, .int (zI go), .int (zI iT), .int (zI iM), .int (zI iK), .ref r25, .int (zI wm), .int (zI tm), .int (zI (zb te))])), (r25, .inl (zk G 0, 500, .inl (zA fwt)))] (S := Unit) zrv (fun _ => True) (fun _ => [(z, .inr (7, [.ref r0, .ref r1, .ref r2, .ref r3, .ref r4, .int (zI km), .int (zI th), .ref r7, .int (zI bu), .int (zI pa), .int (zI pb), .int (zI ki), .int (zI nu), .int (zI wr), .int (zI wa), .int (zI ea), .long (zL lx), .long (zL ly), .long (zL lh), .long (zL lz), .ref r20, .int (zI go), .int (zI iT), .int (zI iM), .int (zI iK), .ref r25, .int (zI ((zpl2 (zdgN 4 v) (wm, fwt)).1)), .int (zI tm), .int (zI (zb te))])), (r25, .inl (zk G 0, 500, .inl (zA ((zpl2 (zdgN 4 v) (wm, fwt)).2))))]) 0 0 := by
  refine zM.of (cc := cX7_saysNumber) (maxL := 2) (ret := none) (by decide) rfl (Nat.le_of_ble_eq_true rfl) (l0 := [(0, .ref z), (1, .int (zI v))]) rfl ?_
  intro p e s m args below meth c ls F hr hlk hnm hW hl
  obtain ⟨hx, hb, hml, hown, hts⟩ := id F
  refine lv_iload_n (pc := 0) hx hb dX7_saysNumber_0 rfl (lv_at hl 1 rfl) ?_
  refine zv_bipush (pc := 1) (n := 9) hx hb dX7_saysNumber_1 (by decide) ?_
  refine zv_icmp_le (pc := 3) (tgt := 14) hx hb dX7_saysNumber_3 (by decide) ⟨by omega, by omega⟩ ⟨by omega, by omega⟩ (fun c3 => ?_) (fun c3 => ?_)
  · refine lv_aload_n (pc := 14) hx hb dX7_saysNumber_14 rfl (lv_at hl 0 rfl) ?_
    refine zv_bipush (pc := 15) (n := 48) hx hb dX7_saysNumber_15 (by decide) ?_
    refine lv_iload_n (pc := 17) hx hb dX7_saysNumber_17 rfl (lv_at hl 1 rfl) ?_
    refine zv_bipush (pc := 18) (n := 10) hx hb dX7_saysNumber_18 (by decide) ?_
    refine zv_irem (pc := 20) hx hb dX7_saysNumber_20 ⟨by omega, by omega⟩ ⟨by omega, by omega⟩ (by omega) ?_
    refine zv_as (pc := 21) (a := Int.tmod v 10) (b := v % 10) (Int.tmod_eq_emod_of_nonneg (by omega)) ?_
    refine zv_iadd (pc := 21) hx hb dX7_saysNumber_21 ?_
    refine z_V (pc := 22) (As := [.int (zI (48 + (v % 10)))]) (rest := []) (wn := (fun _ => [(z, .inr (7, [.ref r0, .ref r1, .ref r2, .ref r3, .ref r4, .int (zI km), .int (zI th), .ref r7, .int (zI bu), .int (zI pa), .int (zI pb), .int (zI ki), .int (zI nu), .int (zI wr), .int (zI wa), .int (zI ea), .long (zL lx), .long (zL ly), .long (zL lh), .long (zL lz), .ref r20, .int (zI go), .int (zI iT), .int (zI iM), .int (zI iK), .ref r25, .int (zI (wm + 1)), .int (zI tm), .int (zI (zb te))])), (r25, .inl (zk G 0, 500, .inl (zA (zU fwt wm (48 + (v % 10))))))])) (wr := []) F (kX7_says G l z r0 r1 r2 r3 r4 km th r7 bu pa pb ki nu wr wa ea lx ly lh lz r20 go iT iM iK r25 wm tm te fwt (48 + (v % 10)) (by first | assumption | omega) (by first | assumption | omega)) (cwV 1 hts gX7_saysNumber_X7_says rfl rfl rfl (by decide +kernel) ⟨Nat.le_of_ble_eq_true rfl, Nat.le_of_ble_eq_true rfl⟩) hW 0 rfl rfl [0, 1] [] (by decide) rfl rfl rfl (by decide) (by decide) [0, 1] (by decide) (fun _ => rfl) (fun _ => rfl) rfl hl.1 rfl (Nat.le_of_ble_eq_true rfl) dX7_saysNumber_22 ⟨Nat.le_of_ble_eq_true rfl, Nat.le_of_ble_eq_true rfl⟩ (fun _ H locs _ hW => ?_)
    exact ze_v (pc := 25) hx hb hr hlk hW () rfl trivial (by first | (rw [zdg_yes (show 9 < v by omega)]; rfl) | (rw [zdg_no (show ¬ 9 < v by omega)]; rfl)) dX7_saysNumber_25
  · refine lv_aload_n (pc := 6) hx hb dX7_saysNumber_6 rfl (lv_at hl 0 rfl) ?_
    refine lv_iload_n (pc := 7) hx hb dX7_saysNumber_7 rfl (lv_at hl 1 rfl) ?_
    refine zv_bipush (pc := 8) (n := 10) hx hb dX7_saysNumber_8 (by decide) ?_
    refine zv_idiv (pc := 10) hx hb dX7_saysNumber_10 ⟨by omega, by omega⟩ ⟨by omega, by omega⟩ (by omega) ?_
    have hl9 := zdgN_len 3 (v / 10)
    have hn9 := zpl2_n (zdgN 3 (v / 10)) (wm, fwt)
    replace hn9 : (zpl2 (zdgN 3 (v / 10)) (wm, fwt)).1 = wm + ((zdgN 3 (v / 10)).length : Int) := hn9
    refine zv_as (pc := 11) (a := Int.tdiv v 10) (b := v / 10) (Int.tdiv_eq_ediv_of_nonneg (by omega)) ?_
    refine z_V (pc := 11) (As := [.int (zI (v / 10))]) (rest := []) (wn := (fun _ => [(z, .inr (7, [.ref r0, .ref r1, .ref r2, .ref r3, .ref r4, .int (zI km), .int (zI th), .ref r7, .int (zI bu), .int (zI pa), .int (zI pb), .int (zI ki), .int (zI nu), .int (zI wr), .int (zI wa), .int (zI ea), .long (zL lx), .long (zL ly), .long (zL lh), .long (zL lz), .ref r20, .int (zI go), .int (zI iT), .int (zI iM), .int (zI iK), .ref r25, .int (zI ((zpl2 (zdgN 3 (v / 10)) (wm, fwt)).1)), .int (zI tm), .int (zI (zb te))])), (r25, .inl (zk G 0, 500, .inl (zA ((zpl2 (zdgN 3 (v / 10)) (wm, fwt)).2))))])) (wr := []) F (kX7_saysNumber3 G l z r0 r1 r2 r3 r4 km th r7 bu pa pb ki nu wr wa ea lx ly lh lz r20 go iT iM iK r25 wm tm te fwt (v / 10) (by first | assumption | omega) (by first | assumption | omega) (by first | assumption | omega) (by first | assumption | omega)) (cwV 1 hts gX7_saysNumber_X7_saysNumber rfl rfl rfl (by decide +kernel) ⟨Nat.le_of_ble_eq_true rfl, Nat.le_of_ble_eq_true rfl⟩) hW 0 rfl rfl [0, 1] [] (by decide) rfl rfl rfl (by decide) (by decide) [0, 1] (by decide) (fun _ => rfl) (fun _ => rfl) rfl hl.1 rfl (Nat.le_of_ble_eq_true rfl) dX7_saysNumber_11 ⟨Nat.le_of_ble_eq_true rfl, Nat.le_of_ble_eq_true rfl⟩ (fun _ H locs _ hW => ?_)
    refine lv_aload_n (pc := 14) hx hb dX7_saysNumber_14 rfl (lv_at hl 0 rfl) ?_
    refine zv_bipush (pc := 15) (n := 48) hx hb dX7_saysNumber_15 (by decide) ?_
    refine lv_iload_n (pc := 17) hx hb dX7_saysNumber_17 rfl (lv_at hl 1 rfl) ?_
    refine zv_bipush (pc := 18) (n := 10) hx hb dX7_saysNumber_18 (by decide) ?_
    refine zv_irem (pc := 20) hx hb dX7_saysNumber_20 ⟨by omega, by omega⟩ ⟨by omega, by omega⟩ (by omega) ?_
    refine zv_as (pc := 21) (a := Int.tmod v 10) (b := v % 10) (Int.tmod_eq_emod_of_nonneg (by omega)) ?_
    refine zv_iadd (pc := 21) hx hb dX7_saysNumber_21 ?_
    refine z_V (pc := 22) (As := [.int (zI (48 + (v % 10)))]) (rest := []) (wn := (fun _ => [(z, .inr (7, [.ref r0, .ref r1, .ref r2, .ref r3, .ref r4, .int (zI km), .int (zI th), .ref r7, .int (zI bu), .int (zI pa), .int (zI pb), .int (zI ki), .int (zI nu), .int (zI wr), .int (zI wa), .int (zI ea), .long (zL lx), .long (zL ly), .long (zL lh), .long (zL lz), .ref r20, .int (zI go), .int (zI iT), .int (zI iM), .int (zI iK), .ref r25, .int (zI (((zpl2 (zdgN 3 (v / 10)) (wm, fwt)).1) + 1)), .int (zI tm), .int (zI (zb te))])), (r25, .inl (zk G 0, 500, .inl (zA (zU ((zpl2 (zdgN 3 (v / 10)) (wm, fwt)).2) ((zpl2 (zdgN 3 (v / 10)) (wm, fwt)).1) (48 + (v % 10))))))])) (wr := []) F (kX7_says G l z r0 r1 r2 r3 r4 km th r7 bu pa pb ki nu wr wa ea lx ly lh lz r20 go iT iM iK r25 ((zpl2 (zdgN 3 (v / 10)) (wm, fwt)).1) tm te ((zpl2 (zdgN 3 (v / 10)) (wm, fwt)).2) (48 + (v % 10)) (by first | assumption | omega) (by first | assumption | omega)) (cwV 1 hts gX7_saysNumber_X7_says rfl rfl rfl (by decide +kernel) ⟨Nat.le_of_ble_eq_true rfl, Nat.le_of_ble_eq_true rfl⟩) hW 0 rfl rfl [0, 1] [] (by decide) rfl rfl rfl (by decide) (by decide) [0, 1] (by decide) (fun _ => rfl) (fun _ => rfl) rfl hl.1 rfl (Nat.le_of_ble_eq_true rfl) dX7_saysNumber_22 ⟨Nat.le_of_ble_eq_true rfl, Nat.le_of_ble_eq_true rfl⟩ (fun _ H locs _ hW => ?_)
    exact ze_v (pc := 25) hx hb hr hlk hW () rfl trivial (by first | (rw [zdg_yes (show 9 < v by omega)]; rfl) | (rw [zdg_no (show ¬ 9 < v by omega)]; rfl)) dX7_saysNumber_25

set_option maxHeartbeats 1000000 in
set_option maxRecDepth 100000 in
/-- saysNumber, at most 6 digits -/
theorem kX7_saysNumber5 (G : zG) (l : Launch) (z : Nat) (r0 : Nat) (r1 : Nat) (r2 : Nat) (r3 : Nat) (r4 : Nat) (km : Int) (th : Int) (r7 : Nat) (bu : Int) (pa : Int) (pb : Int) (ki : Int) (nu : Int) (wr : Int) (wa : Int) (ea : Int) (lx : Int) (ly : Int) (lh : Int) (lz : Int) (r20 : Nat) (go : Int) (iT : Int) (iM : Int) (iK : Int) (r25 : Nat) (wm : Int) (tm : Int) (te : Bool) (fwt : Int → Int) (v : Int) (w0 : 0 ≤ wm) (v0 : 0 ≤ v) (v1 : v < 1000000) (w1 : wm + 6 ≤ 500) : zM G l yX7_saysNumber wsX7_saysNumber { frames := 6, cells := 0, slots := 0, locals := 126 } [.ref z, .int (zI v)] [(z, .inr (7, [.ref r0, .ref r1, .ref r2, .ref r3, .ref r4, .int (zI km), .int (zI th), .ref r7, .int (zI bu), .int (zI pa), .int (zI pb), .int (zI ki), .int (zI nu), .int (zI wr), .int (zI wa), .int (zI ea), .long (zL lx), .long (zL ly), .long (zL lh), .long (zL lz), .ref r20, .int (zI go), .int (zI iT), .int (zI iM), .int (zI iK), .ref r25, .int (zI wm), .int (zI tm), .int (zI (zb te))])), (r25, .inl (zk G 0, 500, .inl (zA fwt)))] (S := Unit) zrv (fun _ => True) (fun _ => [(z, .inr (7, [.ref r0, .ref r1, .ref r2, .ref r3, .ref r4, .int (zI km), .int (zI th), .ref r7, .int (zI bu), .int (zI pa), .int (zI pb), .int (zI ki), .int (zI nu), .int (zI wr), .int (zI wa), .int (zI ea), .long (zL lx), .long (zL ly), .long (zL lh), .long (zL lz), .ref r20, .int (zI go), .int (zI iT), .int (zI iM), .int (zI iK), .ref r25, .int (zI ((zpl2 (zdgN 5 v) (wm, fwt)).1)), .int (zI tm), .int (zI (zb te))])), (r25, .inl (zk G 0, 500, .inl (zA ((zpl2 (zdgN 5 v) (wm, fwt)).2))))]) 0 0 := by
  refine zM.of (cc := cX7_saysNumber) (maxL := 2) (ret := none) (by decide) rfl (Nat.le_of_ble_eq_true rfl) (l0 := [(0, .ref z), (1, .int (zI v))]) rfl ?_
  intro p e s m args below meth c ls F hr hlk hnm hW hl
  obtain ⟨hx, hb, hml, hown, hts⟩ := id F
  refine lv_iload_n (pc := 0) hx hb dX7_saysNumber_0 rfl (lv_at hl 1 rfl) ?_
  refine zv_bipush (pc := 1) (n := 9) hx hb dX7_saysNumber_1 (by decide) ?_
  refine zv_icmp_le (pc := 3) (tgt := 14) hx hb dX7_saysNumber_3 (by decide) ⟨by omega, by omega⟩ ⟨by omega, by omega⟩ (fun c3 => ?_) (fun c3 => ?_)
  · refine lv_aload_n (pc := 14) hx hb dX7_saysNumber_14 rfl (lv_at hl 0 rfl) ?_
    refine zv_bipush (pc := 15) (n := 48) hx hb dX7_saysNumber_15 (by decide) ?_
    refine lv_iload_n (pc := 17) hx hb dX7_saysNumber_17 rfl (lv_at hl 1 rfl) ?_
    refine zv_bipush (pc := 18) (n := 10) hx hb dX7_saysNumber_18 (by decide) ?_
    refine zv_irem (pc := 20) hx hb dX7_saysNumber_20 ⟨by omega, by omega⟩ ⟨by omega, by omega⟩ (by omega) ?_
    refine zv_as (pc := 21) (a := Int.tmod v 10) (b := v % 10) (Int.tmod_eq_emod_of_nonneg (by omega)) ?_
    refine zv_iadd (pc := 21) hx hb dX7_saysNumber_21 ?_
    refine z_V (pc := 22) (As := [.int (zI (48 + (v % 10)))]) (rest := []) (wn := (fun _ => [(z, .inr (7, [.ref r0, .ref r1, .ref r2, .ref r3, .ref r4, .int (zI km), .int (zI th), .ref r7, .int (zI bu), .int (zI pa), .int (zI pb), .int (zI ki), .int (zI nu), .int (zI wr), .int (zI wa), .int (zI ea), .long (zL lx), .long (zL ly), .long (zL lh), .long (zL lz), .ref r20, .int (zI go), .int (zI iT), .int (zI iM), .int (zI iK), .ref r25, .int (zI (wm + 1)), .int (zI tm), .int (zI (zb te))])), (r25, .inl (zk G 0, 500, .inl (zA (zU fwt wm (48 + (v % 10))))))])) (wr := []) F (kX7_says G l z r0 r1 r2 r3 r4 km th r7 bu pa pb ki nu wr wa ea lx ly lh lz r20 go iT iM iK r25 wm tm te fwt (48 + (v % 10)) (by first | assumption | omega) (by first | assumption | omega)) (cwV 1 hts gX7_saysNumber_X7_says rfl rfl rfl (by decide +kernel) ⟨Nat.le_of_ble_eq_true rfl, Nat.le_of_ble_eq_true rfl⟩) hW 0 rfl rfl [0, 1] [] (by decide) rfl rfl rfl (by decide) (by decide) [0, 1] (by decide) (fun _ => rfl) (fun _ => rfl) rfl hl.1 rfl (Nat.le_of_ble_eq_true rfl) dX7_saysNumber_22 ⟨Nat.le_of_ble_eq_true rfl, Nat.le_of_ble_eq_true rfl⟩ (fun _ H locs _ hW => ?_)
    exact ze_v (pc := 25) hx hb hr hlk hW () rfl trivial (by first | (rw [zdg_yes (show 9 < v by omega)]; rfl) | (rw [zdg_no (show ¬ 9 < v by omega)]; rfl)) dX7_saysNumber_25
  · refine lv_aload_n (pc := 6) hx hb dX7_saysNumber_6 rfl (lv_at hl 0 rfl) ?_
    refine lv_iload_n (pc := 7) hx hb dX7_saysNumber_7 rfl (lv_at hl 1 rfl) ?_
    refine zv_bipush (pc := 8) (n := 10) hx hb dX7_saysNumber_8 (by decide) ?_
    refine zv_idiv (pc := 10) hx hb dX7_saysNumber_10 ⟨by omega, by omega⟩ ⟨by omega, by omega⟩ (by omega) ?_
    have hl9 := zdgN_len 4 (v / 10)
    have hn9 := zpl2_n (zdgN 4 (v / 10)) (wm, fwt)
    replace hn9 : (zpl2 (zdgN 4 (v / 10)) (wm, fwt)).1 = wm + ((zdgN 4 (v / 10)).length : Int) := hn9
    refine zv_as (pc := 11) (a := Int.tdiv v 10) (b := v / 10) (Int.tdiv_eq_ediv_of_nonneg (by omega)) ?_
    refine z_V (pc := 11) (As := [.int (zI (v / 10))]) (rest := []) (wn := (fun _ => [(z, .inr (7, [.ref r0, .ref r1, .ref r2, .ref r3, .ref r4, .int (zI km), .int (zI th), .ref r7, .int (zI bu), .int (zI pa), .int (zI pb), .int (zI ki), .int (zI nu), .int (zI wr), .int (zI wa), .int (zI ea), .long (zL lx), .long (zL ly), .long (zL lh), .long (zL lz), .ref r20, .int (zI go), .int (zI iT), .int (zI iM), .int (zI iK), .ref r25, .int (zI ((zpl2 (zdgN 4 (v / 10)) (wm, fwt)).1)), .int (zI tm), .int (zI (zb te))])), (r25, .inl (zk G 0, 500, .inl (zA ((zpl2 (zdgN 4 (v / 10)) (wm, fwt)).2))))])) (wr := []) F (kX7_saysNumber4 G l z r0 r1 r2 r3 r4 km th r7 bu pa pb ki nu wr wa ea lx ly lh lz r20 go iT iM iK r25 wm tm te fwt (v / 10) (by first | assumption | omega) (by first | assumption | omega) (by first | assumption | omega) (by first | assumption | omega)) (cwV 1 hts gX7_saysNumber_X7_saysNumber rfl rfl rfl (by decide +kernel) ⟨Nat.le_of_ble_eq_true rfl, Nat.le_of_ble_eq_true rfl⟩) hW 0 rfl rfl [0, 1] [] (by decide) rfl rfl rfl (by decide) (by decide) [0, 1] (by decide) (fun _ => rfl) (fun _ => rfl) rfl hl.1 rfl (Nat.le_of_ble_eq_true rfl) dX7_saysNumber_11 ⟨Nat.le_of_ble_eq_true rfl, Nat.le_of_ble_eq_true rfl⟩ (fun _ H locs _ hW => ?_)
    refine lv_aload_n (pc := 14) hx hb dX7_saysNumber_14 rfl (lv_at hl 0 rfl) ?_
    refine zv_bipush (pc := 15) (n := 48) hx hb dX7_saysNumber_15 (by decide) ?_
    refine lv_iload_n (pc := 17) hx hb dX7_saysNumber_17 rfl (lv_at hl 1 rfl) ?_
    refine zv_bipush (pc := 18) (n := 10) hx hb dX7_saysNumber_18 (by decide) ?_
    refine zv_irem (pc := 20) hx hb dX7_saysNumber_20 ⟨by omega, by omega⟩ ⟨by omega, by omega⟩ (by omega) ?_
    refine zv_as (pc := 21) (a := Int.tmod v 10) (b := v % 10) (Int.tmod_eq_emod_of_nonneg (by omega)) ?_
    refine zv_iadd (pc := 21) hx hb dX7_saysNumber_21 ?_
    refine z_V (pc := 22) (As := [.int (zI (48 + (v % 10)))]) (rest := []) (wn := (fun _ => [(z, .inr (7, [.ref r0, .ref r1, .ref r2, .ref r3, .ref r4, .int (zI km), .int (zI th), .ref r7, .int (zI bu), .int (zI pa), .int (zI pb), .int (zI ki), .int (zI nu), .int (zI wr), .int (zI wa), .int (zI ea), .long (zL lx), .long (zL ly), .long (zL lh), .long (zL lz), .ref r20, .int (zI go), .int (zI iT), .int (zI iM), .int (zI iK), .ref r25, .int (zI (((zpl2 (zdgN 4 (v / 10)) (wm, fwt)).1) + 1)), .int (zI tm), .int (zI (zb te))])), (r25, .inl (zk G 0, 500, .inl (zA (zU ((zpl2 (zdgN 4 (v / 10)) (wm, fwt)).2) ((zpl2 (zdgN 4 (v / 10)) (wm, fwt)).1) (48 + (v % 10))))))])) (wr := []) F (kX7_says G l z r0 r1 r2 r3 r4 km th r7 bu pa pb ki nu wr wa ea lx ly lh lz r20 go iT iM iK r25 ((zpl2 (zdgN 4 (v / 10)) (wm, fwt)).1) tm te ((zpl2 (zdgN 4 (v / 10)) (wm, fwt)).2) (48 + (v % 10)) (by first | assumption | omega) (by first | assumption | omega)) (cwV 1 hts gX7_saysNumber_X7_says rfl rfl rfl (by decide +kernel) ⟨Nat.le_of_ble_eq_true rfl, Nat.le_of_ble_eq_true rfl⟩) hW 0 rfl rfl [0, 1] [] (by decide) rfl rfl rfl (by decide) (by decide) [0, 1] (by decide) (fun _ => rfl) (fun _ => rfl) rfl hl.1 rfl (Nat.le_of_ble_eq_true rfl) dX7_saysNumber_22 ⟨Nat.le_of_ble_eq_true rfl, Nat.le_of_ble_eq_true rfl⟩ (fun _ H locs _ hW => ?_)
    exact ze_v (pc := 25) hx hb hr hlk hW () rfl trivial (by first | (rw [zdg_yes (show 9 < v by omega)]; rfl) | (rw [zdg_no (show ¬ 9 < v by omega)]; rfl)) dX7_saysNumber_25

set_option maxHeartbeats 1000000 in
set_option maxRecDepth 100000 in
/-- saysNumber, at most 7 digits -/
theorem kX7_saysNumber6 (G : zG) (l : Launch) (z : Nat) (r0 : Nat) (r1 : Nat) (r2 : Nat) (r3 : Nat) (r4 : Nat) (km : Int) (th : Int) (r7 : Nat) (bu : Int) (pa : Int) (pb : Int) (ki : Int) (nu : Int) (wr : Int) (wa : Int) (ea : Int) (lx : Int) (ly : Int) (lh : Int) (lz : Int) (r20 : Nat) (go : Int) (iT : Int) (iM : Int) (iK : Int) (r25 : Nat) (wm : Int) (tm : Int) (te : Bool) (fwt : Int → Int) (v : Int) (w0 : 0 ≤ wm) (v0 : 0 ≤ v) (v1 : v < 10000000) (w1 : wm + 7 ≤ 500) : zM G l yX7_saysNumber wsX7_saysNumber { frames := 7, cells := 0, slots := 0, locals := 147 } [.ref z, .int (zI v)] [(z, .inr (7, [.ref r0, .ref r1, .ref r2, .ref r3, .ref r4, .int (zI km), .int (zI th), .ref r7, .int (zI bu), .int (zI pa), .int (zI pb), .int (zI ki), .int (zI nu), .int (zI wr), .int (zI wa), .int (zI ea), .long (zL lx), .long (zL ly), .long (zL lh), .long (zL lz), .ref r20, .int (zI go), .int (zI iT), .int (zI iM), .int (zI iK), .ref r25, .int (zI wm), .int (zI tm), .int (zI (zb te))])), (r25, .inl (zk G 0, 500, .inl (zA fwt)))] (S := Unit) zrv (fun _ => True) (fun _ => [(z, .inr (7, [.ref r0, .ref r1, .ref r2, .ref r3, .ref r4, .int (zI km), .int (zI th), .ref r7, .int (zI bu), .int (zI pa), .int (zI pb), .int (zI ki), .int (zI nu), .int (zI wr), .int (zI wa), .int (zI ea), .long (zL lx), .long (zL ly), .long (zL lh), .long (zL lz), .ref r20, .int (zI go), .int (zI iT), .int (zI iM), .int (zI iK), .ref r25, .int (zI ((zpl2 (zdgN 6 v) (wm, fwt)).1)), .int (zI tm), .int (zI (zb te))])), (r25, .inl (zk G 0, 500, .inl (zA ((zpl2 (zdgN 6 v) (wm, fwt)).2))))]) 0 0 := by
  refine zM.of (cc := cX7_saysNumber) (maxL := 2) (ret := none) (by decide) rfl (Nat.le_of_ble_eq_true rfl) (l0 := [(0, .ref z), (1, .int (zI v))]) rfl ?_
  intro p e s m args below meth c ls F hr hlk hnm hW hl
  obtain ⟨hx, hb, hml, hown, hts⟩ := id F
  refine lv_iload_n (pc := 0) hx hb dX7_saysNumber_0 rfl (lv_at hl 1 rfl) ?_
  refine zv_bipush (pc := 1) (n := 9) hx hb dX7_saysNumber_1 (by decide) ?_
  refine zv_icmp_le (pc := 3) (tgt := 14) hx hb dX7_saysNumber_3 (by decide) ⟨by omega, by omega⟩ ⟨by omega, by omega⟩ (fun c3 => ?_) (fun c3 => ?_)
  · refine lv_aload_n (pc := 14) hx hb dX7_saysNumber_14 rfl (lv_at hl 0 rfl) ?_
    refine zv_bipush (pc := 15) (n := 48) hx hb dX7_saysNumber_15 (by decide) ?_
    refine lv_iload_n (pc := 17) hx hb dX7_saysNumber_17 rfl (lv_at hl 1 rfl) ?_
    refine zv_bipush (pc := 18) (n := 10) hx hb dX7_saysNumber_18 (by decide) ?_
    refine zv_irem (pc := 20) hx hb dX7_saysNumber_20 ⟨by omega, by omega⟩ ⟨by omega, by omega⟩ (by omega) ?_
    refine zv_as (pc := 21) (a := Int.tmod v 10) (b := v % 10) (Int.tmod_eq_emod_of_nonneg (by omega)) ?_
    refine zv_iadd (pc := 21) hx hb dX7_saysNumber_21 ?_
    refine z_V (pc := 22) (As := [.int (zI (48 + (v % 10)))]) (rest := []) (wn := (fun _ => [(z, .inr (7, [.ref r0, .ref r1, .ref r2, .ref r3, .ref r4, .int (zI km), .int (zI th), .ref r7, .int (zI bu), .int (zI pa), .int (zI pb), .int (zI ki), .int (zI nu), .int (zI wr), .int (zI wa), .int (zI ea), .long (zL lx), .long (zL ly), .long (zL lh), .long (zL lz), .ref r20, .int (zI go), .int (zI iT), .int (zI iM), .int (zI iK), .ref r25, .int (zI (wm + 1)), .int (zI tm), .int (zI (zb te))])), (r25, .inl (zk G 0, 500, .inl (zA (zU fwt wm (48 + (v % 10))))))])) (wr := []) F (kX7_says G l z r0 r1 r2 r3 r4 km th r7 bu pa pb ki nu wr wa ea lx ly lh lz r20 go iT iM iK r25 wm tm te fwt (48 + (v % 10)) (by first | assumption | omega) (by first | assumption | omega)) (cwV 1 hts gX7_saysNumber_X7_says rfl rfl rfl (by decide +kernel) ⟨Nat.le_of_ble_eq_true rfl, Nat.le_of_ble_eq_true rfl⟩) hW 0 rfl rfl [0, 1] [] (by decide) rfl rfl rfl (by decide) (by decide) [0, 1] (by decide) (fun _ => rfl) (fun _ => rfl) rfl hl.1 rfl (Nat.le_of_ble_eq_true rfl) dX7_saysNumber_22 ⟨Nat.le_of_ble_eq_true rfl, Nat.le_of_ble_eq_true rfl⟩ (fun _ H locs _ hW => ?_)
    exact ze_v (pc := 25) hx hb hr hlk hW () rfl trivial (by first | (rw [zdg_yes (show 9 < v by omega)]; rfl) | (rw [zdg_no (show ¬ 9 < v by omega)]; rfl)) dX7_saysNumber_25
  · refine lv_aload_n (pc := 6) hx hb dX7_saysNumber_6 rfl (lv_at hl 0 rfl) ?_
    refine lv_iload_n (pc := 7) hx hb dX7_saysNumber_7 rfl (lv_at hl 1 rfl) ?_
    refine zv_bipush (pc := 8) (n := 10) hx hb dX7_saysNumber_8 (by decide) ?_
    refine zv_idiv (pc := 10) hx hb dX7_saysNumber_10 ⟨by omega, by omega⟩ ⟨by omega, by omega⟩ (by omega) ?_
    have hl9 := zdgN_len 5 (v / 10)
    have hn9 := zpl2_n (zdgN 5 (v / 10)) (wm, fwt)
    replace hn9 : (zpl2 (zdgN 5 (v / 10)) (wm, fwt)).1 = wm + ((zdgN 5 (v / 10)).length : Int) := hn9
    refine zv_as (pc := 11) (a := Int.tdiv v 10) (b := v / 10) (Int.tdiv_eq_ediv_of_nonneg (by omega)) ?_
    refine z_V (pc := 11) (As := [.int (zI (v / 10))]) (rest := []) (wn := (fun _ => [(z, .inr (7, [.ref r0, .ref r1, .ref r2, .ref r3, .ref r4, .int (zI km), .int (zI th), .ref r7, .int (zI bu), .int (zI pa), .int (zI pb), .int (zI ki), .int (zI nu), .int (zI wr), .int (zI wa), .int (zI ea), .long (zL lx), .long (zL ly), .long (zL lh), .long (zL lz), .ref r20, .int (zI go), .int (zI iT), .int (zI iM), .int (zI iK), .ref r25, .int (zI ((zpl2 (zdgN 5 (v / 10)) (wm, fwt)).1)), .int (zI tm), .int (zI (zb te))])), (r25, .inl (zk G 0, 500, .inl (zA ((zpl2 (zdgN 5 (v / 10)) (wm, fwt)).2))))])) (wr := []) F (kX7_saysNumber5 G l z r0 r1 r2 r3 r4 km th r7 bu pa pb ki nu wr wa ea lx ly lh lz r20 go iT iM iK r25 wm tm te fwt (v / 10) (by first | assumption | omega) (by first | assumption | omega) (by first | assumption | omega) (by first | assumption | omega)) (cwV 1 hts gX7_saysNumber_X7_saysNumber rfl rfl rfl (by decide +kernel) ⟨Nat.le_of_ble_eq_true rfl, Nat.le_of_ble_eq_true rfl⟩) hW 0 rfl rfl [0, 1] [] (by decide) rfl rfl rfl (by decide) (by decide) [0, 1] (by decide) (fun _ => rfl) (fun _ => rfl) rfl hl.1 rfl (Nat.le_of_ble_eq_true rfl) dX7_saysNumber_11 ⟨Nat.le_of_ble_eq_true rfl, Nat.le_of_ble_eq_true rfl⟩ (fun _ H locs _ hW => ?_)
    refine lv_aload_n (pc := 14) hx hb dX7_saysNumber_14 rfl (lv_at hl 0 rfl) ?_
    refine zv_bipush (pc := 15) (n := 48) hx hb dX7_saysNumber_15 (by decide) ?_
    refine lv_iload_n (pc := 17) hx hb dX7_saysNumber_17 rfl (lv_at hl 1 rfl) ?_
    refine zv_bipush (pc := 18) (n := 10) hx hb dX7_saysNumber_18 (by decide) ?_
    refine zv_irem (pc := 20) hx hb dX7_saysNumber_20 ⟨by omega, by omega⟩ ⟨by omega, by omega⟩ (by omega) ?_
    refine zv_as (pc := 21) (a := Int.tmod v 10) (b := v % 10) (Int.tmod_eq_emod_of_nonneg (by omega)) ?_
    refine zv_iadd (pc := 21) hx hb dX7_saysNumber_21 ?_
    refine z_V (pc := 22) (As := [.int (zI (48 + (v % 10)))]) (rest := []) (wn := (fun _ => [(z, .inr (7, [.ref r0, .ref r1, .ref r2, .ref r3, .ref r4, .int (zI km), .int (zI th), .ref r7, .int (zI bu), .int (zI pa), .int (zI pb), .int (zI ki), .int (zI nu), .int (zI wr), .int (zI wa), .int (zI ea), .long (zL lx), .long (zL ly), .long (zL lh), .long (zL lz), .ref r20, .int (zI go), .int (zI iT), .int (zI iM), .int (zI iK), .ref r25, .int (zI (((zpl2 (zdgN 5 (v / 10)) (wm, fwt)).1) + 1)), .int (zI tm), .int (zI (zb te))])), (r25, .inl (zk G 0, 500, .inl (zA (zU ((zpl2 (zdgN 5 (v / 10)) (wm, fwt)).2) ((zpl2 (zdgN 5 (v / 10)) (wm, fwt)).1) (48 + (v % 10))))))])) (wr := []) F (kX7_says G l z r0 r1 r2 r3 r4 km th r7 bu pa pb ki nu wr wa ea lx ly lh lz r20 go iT iM iK r25 ((zpl2 (zdgN 5 (v / 10)) (wm, fwt)).1) tm te ((zpl2 (zdgN 5 (v / 10)) (wm, fwt)).2) (48 + (v % 10)) (by first | assumption | omega) (by first | assumption | omega)) (cwV 1 hts gX7_saysNumber_X7_says rfl rfl rfl (by decide +kernel) ⟨Nat.le_of_ble_eq_true rfl, Nat.le_of_ble_eq_true rfl⟩) hW 0 rfl rfl [0, 1] [] (by decide) rfl rfl rfl (by decide) (by decide) [0, 1] (by decide) (fun _ => rfl) (fun _ => rfl) rfl hl.1 rfl (Nat.le_of_ble_eq_true rfl) dX7_saysNumber_22 ⟨Nat.le_of_ble_eq_true rfl, Nat.le_of_ble_eq_true rfl⟩ (fun _ H locs _ hW => ?_)
    exact ze_v (pc := 25) hx hb hr hlk hW () rfl trivial (by first | (rw [zdg_yes (show 9 < v by omega)]; rfl) | (rw [zdg_no (show ¬ 9 < v by omega)]; rfl)) dX7_saysNumber_25
