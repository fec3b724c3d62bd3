set_option maxHeartbeats 4000000 in
set_option maxRecDepth 100000 in
/-- moonFits -/
theorem kX1_moonFits (G : zG) (l : Launch) (q : Nat) (qn : Nat) (qm : Nat) (qs : Nat) (pr : Int) (di : Int) (dr : Int) (mc : Int) (sc : Int) (mn : Int → Int) (mo : Int) (h1 : 0 ≤ mo) (h2 : mo < 6) (hp1 : 0 ≤ pr) (hp2 : pr ≤ 999) (a1 : 0 ≤ zg mn mo 0) (a2 : zg mn mo 0 ≤ 9999) (f1 : 0 ≤ zg mn mo 1) (f2 : zg mn mo 1 ≤ 100) (r1 : 0 ≤ zg mn mo 5) (r2 : zg mn mo 5 ≤ 99) : zM G l yX1_moonFits wsX1_moonFits { frames := 1, cells := 0, slots := 0, locals := 23 } [.ref q, .int (zI mo)] [(q, .inr (1, [.int (zI pr), .int (zI di), .int (zI dr), .int (zI mc), .int (zI sc), .ref qn, .ref qm, .ref qs])), (qm, .inl (zk G 0, 36, .inl (zA mn)))] (S := Unit) (zri (fun _ => zb (zfit pr (zg mn mo)))) (fun _ => True) (fun _ => [(q, .inr (1, [.int (zI pr), .int (zI di), .int (zI dr), .int (zI mc), .int (zI sc), .ref qn, .ref qm, .ref qs])), (qm, .inl (zk G 0, 36, .inl (zA mn)))]) 0 0 := by
  refine zM.of (cc := cX1_moonFits) (maxL := 3) (ret := (some .boolean)) (by decide) rfl (Nat.le_of_ble_eq_true rfl) (l0 := [(0, .ref q), (1, .int (zI mo))]) rfl ?_
  intro p e s m args below meth c ls F hr hlk hnm hW hl
  obtain ⟨hx, hb, hml, hown, hts⟩ := id F
  have hin1 : ∀ w ∈ wsX10, w ∈ wsX1_moonFits := fun _ h => List.mem_cons_of_mem _ (List.mem_append_right _ (h))
  have a1 : 0 ≤ mn (mo * 6 + 0) := a1
  have a2 : mn (mo * 6 + 0) ≤ 9999 := a2
  have f1 : 0 ≤ mn (mo * 6 + 1) := f1
  have f2 : mn (mo * 6 + 1) ≤ 100 := f2
  have r1 : 0 ≤ mn (mo * 6 + 5) := r1
  have r2 : mn (mo * 6 + 5) ≤ 99 := r2
  have hm := zmul_abs (a := mn (mo * 6 + 0)) (b := 100 - mn (mo * 6 + 1)) (A := 9999) (B := 100) (C := 999900) (by omega) (by omega) rfl
  have hd := ztdiv_abs (d := 100) (D := 9999) (by omega) hm rfl
  refine lv_aload_n (pc := 0) hx hb dX1_moonFits_0 rfl (lv_at hl 0 rfl) ?_
  refine lv_iload_n (pc := 1) hx hb dX1_moonFits_1 rfl (lv_at hl 1 rfl) ?_
  refine zv_iconst (pc := 2) (n := 0) hx hb dX1_moonFits_2 ?_
  refine z_V (pc := 3) (As := [.int (zI mo), .int (zI 0)]) (rest := []) (wn := (fun _ => [(q, .inr (1, [.int (zI pr), .int (zI di), .int (zI dr), .int (zI mc), .int (zI sc), .ref qn, .ref qm, .ref qs])), (qm, .inl (zk G 0, 36, .inl (zA mn)))])) (wr := []) F (kX1_moonNumber G l q qn qm qs pr di dr mc sc mn mo 0 (by first | assumption | omega) (by first | assumption | omega) (by first | assumption | omega) (by first | assumption | omega)) (cwV 2 hts gX1_moonFits_X1_moonNumber rfl rfl rfl (by decide +kernel) ⟨Nat.le_of_ble_eq_true rfl, Nat.le_of_ble_eq_true rfl⟩) hW 0 rfl rfl [0, 1] [] (by decide) rfl rfl rfl (by decide) (by decide) [0, 1] (by decide) (fun _ => rfl) (fun _ => rfl) rfl hl.1 rfl (Nat.le_of_ble_eq_true rfl) dX1_moonFits_3 ⟨Nat.le_of_ble_eq_true rfl, Nat.le_of_ble_eq_true rfl⟩ (fun _ H locs _ hW => ?_)
  show W p l e _ s m args below meth c H locs _ _ _ (F0 m 6 ls [.int (zI (mn (mo * 6 + 0)))])
  refine zv_bipush (pc := 6) (n := 100) hx hb dX1_moonFits_6 (by decide) ?_
  refine lv_aload_n (pc := 8) hx hb dX1_moonFits_8 rfl (lv_at hl 0 rfl) ?_
  refine lv_iload_n (pc := 9) hx hb dX1_moonFits_9 rfl (lv_at hl 1 rfl) ?_
  refine zv_iconst (pc := 10) (n := 1) hx hb dX1_moonFits_10 ?_
  refine z_V (pc := 11) (As := [.int (zI mo), .int (zI 1)]) (rest := [.int (zI 100), .int (zI (mn (mo * 6 + 0)))]) (wn := (fun _ => [(q, .inr (1, [.int (zI pr), .int (zI di), .int (zI dr), .int (zI mc), .int (zI sc), .ref qn, .ref qm, .ref qs])), (qm, .inl (zk G 0, 36, .inl (zA mn)))])) (wr := []) F (kX1_moonNumber G l q qn qm qs pr di dr mc sc mn mo 1 (by first | assumption | omega) (by first | assumption | omega) (by first | assumption | omega) (by first | assumption | omega)) (cwV 2 hts gX1_moonFits_X1_moonNumber rfl rfl rfl (by decide +kernel) ⟨Nat.le_of_ble_eq_true rfl, Nat.le_of_ble_eq_true rfl⟩) hW 0 rfl rfl [0, 1] [] (by decide) rfl rfl rfl (by decide) (by decide) [0, 1] (by decide) (fun _ => rfl) (fun _ => rfl) rfl hl.1 rfl (Nat.le_of_ble_eq_true rfl) dX1_moonFits_11 ⟨Nat.le_of_ble_eq_true rfl, Nat.le_of_ble_eq_true rfl⟩ (fun _ H locs _ hW => ?_)
  show W p l e _ s m args below meth c H locs _ _ _ (F0 m 14 ls [.int (zI (mn (mo * 6 + 1))), .int (zI 100), .int (zI (mn (mo * 6 + 0)))])
  refine zv_isub (pc := 14) hx hb dX1_moonFits_14 ?_
  refine zv_imul (pc := 15) hx hb dX1_moonFits_15 ?_
  refine zv_bipush (pc := 16) (n := 100) hx hb dX1_moonFits_16 (by decide) ?_
  refine zv_idiv (pc := 18) hx hb dX1_moonFits_18 ⟨by omega, by omega⟩ ⟨by omega, by omega⟩ (by omega) ?_
  refine lv_istore_n (pc := 19) (lv' := [(2, .int (zI (Int.tdiv ((mn (mo * 6 + 0)) * (100 - (mn (mo * 6 + 1)))) 100))), (0, .ref q), (1, .int (zI mo))]) hx hb dX1_moonFits_19 rfl hl (by decide) rfl (fun ls hl => ?_)
  refine lv_iload_n (pc := 20) hx hb dX1_moonFits_20 rfl (lv_at hl 0 rfl) ?_
  refine lv_aload_n (pc := 21) hx hb dX1_moonFits_21 rfl (lv_at hl 1 rfl) ?_
  refine zw_get (pc := 22) (ref := RX1) (index := 9) hx hb hts hin1 hown hW 0 rfl rfl 0 (by decide) (List.mem_of_getElem? (i := 1) rfl) (fun _ h9 => h9) rfl dX1_moonFits_22 ?_
  refine lv_aload_n (pc := 25) hx hb dX1_moonFits_25 rfl (lv_at hl 1 rfl) ?_
  refine lv_iload_n (pc := 26) hx hb dX1_moonFits_26 rfl (lv_at hl 2 rfl) ?_
  refine zv_iconst (pc := 27) (n := 5) hx hb dX1_moonFits_27 ?_
  refine z_V (pc := 28) (As := [.int (zI mo), .int (zI 5)]) (rest := [.int (zI pr), .int (zI (Int.tdiv ((mn (mo * 6 + 0)) * (100 - (mn (mo * 6 + 1)))) 100))]) (wn := (fun _ => [(q, .inr (1, [.int (zI pr), .int (zI di), .int (zI dr), .int (zI mc), .int (zI sc), .ref qn, .ref qm, .ref qs])), (qm, .inl (zk G 0, 36, .inl (zA mn)))])) (wr := []) F (kX1_moonNumber G l q qn qm qs pr di dr mc sc mn mo 5 (by first | assumption | omega) (by first | assumption | omega) (by first | assumption | omega) (by first | assumption | omega)) (cwV 2 hts gX1_moonFits_X1_moonNumber rfl rfl rfl (by decide +kernel) ⟨Nat.le_of_ble_eq_true rfl, Nat.le_of_ble_eq_true rfl⟩) hW 0 rfl rfl [0, 1] [] (by decide) rfl rfl rfl (by decide) (by decide) [0, 1] (by decide) (fun _ => rfl) (fun _ => rfl) rfl hl.1 rfl (Nat.le_of_ble_eq_true rfl) dX1_moonFits_28 ⟨Nat.le_of_ble_eq_true rfl, Nat.le_of_ble_eq_true rfl⟩ (fun _ H locs _ hW => ?_)
  show W p l e _ s m args below meth c H locs _ _ _ (F0 m 31 ls [.int (zI (mn (mo * 6 + 5))), .int (zI pr), .int (zI (Int.tdiv ((mn (mo * 6 + 0)) * (100 - (mn (mo * 6 + 1)))) 100))])
  refine zv_iadd (pc := 31) hx hb dX1_moonFits_31 ?_
  refine zv_icmp_le (pc := 32) (tgt := 39) hx hb dX1_moonFits_32 (by decide) ⟨by omega, by omega⟩ ⟨by omega, by omega⟩ (fun c32 => ?_) (fun c32 => ?_)
  · refine zv_iconst (pc := 39) (n := 0) hx hb dX1_moonFits_39 ?_
    refine zv_as (pc := 40) (a := 0) (b := zb (zfit pr (zg mn mo))) (by unfold zfit; first | (rw [decide_eq_true (show pr + zg mn mo 5 < Int.tdiv (zg mn mo 0 * (100 - zg mn mo 1)) 100 from by first | exact c32 | (show pr + mn (mo * 6 + 5) < Int.tdiv (mn (mo * 6 + 0) * (100 - mn (mo * 6 + 1))) 100; omega))]; rfl) | (rw [decide_eq_false (show ¬ (pr + zg mn mo 5 < Int.tdiv (zg mn mo 0 * (100 - zg mn mo 1)) 100) from by show ¬ (pr + mn (mo * 6 + 5) < Int.tdiv (mn (mo * 6 + 0) * (100 - mn (mo * 6 + 1))) 100); omega)]; rfl)) ?_
    exact ze_z (pc := 40) hx hb hr hlk hW () rfl trivial rfl dX1_moonFits_40
  · refine zv_iconst (pc := 35) (n := 1) hx hb dX1_moonFits_35 ?_
    refine lv_goto (pc := 36) (tgt := 40) hx hb dX1_moonFits_36 (by decide) ?_
    refine zv_as (pc := 40) (a := 1) (b := zb (zfit pr (zg mn mo))) (by unfold zfit; first | (rw [decide_eq_true (show pr + zg mn mo 5 < Int.tdiv (zg mn mo 0 * (100 - zg mn mo 1)) 100 from by first | exact c32 | (show pr + mn (mo * 6 + 5) < Int.tdiv (mn (mo * 6 + 0) * (100 - mn (mo * 6 + 1))) 100; omega))]; rfl) | (rw [decide_eq_false (show ¬ (pr + zg mn mo 5 < Int.tdiv (zg mn mo 0 * (100 - zg mn mo 1)) 100) from by show ¬ (pr + mn (mo * 6 + 5) < Int.tdiv (mn (mo * 6 + 0) * (100 - mn (mo * 6 + 1))) 100); omega)]; rfl)) ?_
    exact ze_z (pc := 40) hx hb hr hlk hW () rfl trivial rfl dX1_moonFits_40

set_option maxHeartbeats 4000000 in
set_option maxRecDepth 100000 in
/-- turnStart -/
theorem kX1_turnStart (G : zG) (l : Launch) (q : Nat) (qn : Nat) (qm : Nat) (qs : Nat) (pr : Int) (di : Int) (dr : Int) (mc : Int) (sc : Int) (mn : Int → Int) (mo : Int) (v : Int) (h1 : 0 ≤ mo) (h2 : mo < 6) (v1 : -100000 ≤ v) (v2 : v ≤ 100000) (s1 : -100000 ≤ mn (mo * 6 + 4)) (s2 : mn (mo * 6 + 4) ≤ 100000) : zM G l yX1_turnStart wsX1_turnStart { frames := 1, cells := 0, slots := 0, locals := 24 } [.ref q, .int (zI mo), .int (zI v)] [(q, .inr (1, [.int (zI pr), .int (zI di), .int (zI dr), .int (zI mc), .int (zI sc), .ref qn, .ref qm, .ref qs])), (qm, .inl (zk G 0, 36, .inl (zA mn)))] (S := Unit) zrv (fun _ => True) (fun _ => [(q, .inr (1, [.int (zI pr), .int (zI di), .int (zI dr), .int (zI mc), .int (zI sc), .ref qn, .ref qm, .ref qs])), (qm, .inl (zk G 0, 36, .inl (zA (zU mn (mo * 6 + 4) ((mn (mo * 6 + 4) + v) % 360)))))]) 0 0 := by
  refine zM.of (cc := cX1_turnStart) (maxL := 4) (ret := none) (by decide) rfl (Nat.le_of_ble_eq_true rfl) (l0 := [(0, .ref q), (1, .int (zI mo)), (2, .int (zI v))]) rfl ?_
  intro p e s m args below meth c ls F hr hlk hnm hW hl
  obtain ⟨hx, hb, hml, hown, hts⟩ := id F
  refine lv_aload_n (pc := 0) hx hb dX1_turnStart_0 rfl (lv_at hl 0 rfl) ?_
  refine lv_iload_n (pc := 1) hx hb dX1_turnStart_1 rfl (lv_at hl 1 rfl) ?_
  refine zv_iconst (pc := 2) (n := 4) hx hb dX1_turnStart_2 ?_
  refine z_V (pc := 3) (As := [.int (zI mo), .int (zI 4)]) (rest := []) (wn := (fun _ => [(q, .inr (1, [.int (zI pr), .int (zI di), .int (zI dr), .int (zI mc), .int (zI sc), .ref qn, .ref qm, .ref qs])), (qm, .inl (zk G 0, 36, .inl (zA mn)))])) (wr := []) F (kX1_moonNumber G l q qn qm qs pr di dr mc sc mn mo 4 (by first | assumption | omega) (by first | assumption | omega) (by first | assumption | omega) (by first | assumption | omega)) (cwV 2 hts gX1_turnStart_X1_moonNumber rfl rfl rfl (by decide +kernel) ⟨Nat.le_of_ble_eq_true rfl, Nat.le_of_ble_eq_true rfl⟩) hW 0 rfl rfl [0, 1] [] (by decide) rfl rfl rfl (by decide) (by decide) [0, 1] (by decide) (fun _ => rfl) (fun _ => rfl) rfl hl.1 rfl (Nat.le_of_ble_eq_true rfl) dX1_turnStart_3 ⟨Nat.le_of_ble_eq_true rfl, Nat.le_of_ble_eq_true rfl⟩ (fun _ H locs _ hW => ?_)
  show W p l e _ s m args below meth c H locs _ _ _ (F0 m 6 ls [.int (zI (mn (mo * 6 + 4)))])
  refine lv_iload_n (pc := 6) hx hb dX1_turnStart_6 rfl (lv_at hl 2 rfl) ?_
  refine zv_iadd (pc := 7) hx hb dX1_turnStart_7 ?_
  refine zv_sipush (pc := 8) (n := 360) hx hb dX1_turnStart_8 (by decide) ?_
  refine z_S (pc := 11) (As := [.int (zI ((mn (mo * 6 + 4)) + v)), .int (zI 360)]) (rest := []) (wn := (fun _ => [(q, .inr (1, [.int (zI pr), .int (zI di), .int (zI dr), .int (zI mc), .int (zI sc), .ref qn, .ref qm, .ref qs])), (qm, .inl (zk G 0, 36, .inl (zA mn)))])) (wr := [(q, .inr (1, [.int (zI pr), .int (zI di), .int (zI dr), .int (zI mc), .int (zI sc), .ref qn, .ref qm, .ref qs])), (qm, .inl (zk G 0, 36, .inl (zA mn)))]) F (kJ9_floorMod_7cf53 G l ((mn (mo * 6 + 4)) + v) 360 (by first | assumption | omega) (by first | assumption | omega) (by first | assumption | omega) (by first | assumption | omega)) (va_cwS 2 hts gX1_turnStart_J9_floorMod_7cf53 rfl rfl rfl (by decide +kernel) ⟨Nat.le_of_ble_eq_true rfl, Nat.le_of_ble_eq_true rfl⟩) hW [] [0, 1] (by decide) rfl rfl rfl (by decide) (by decide) [0, 1] (by decide) (fun _ => rfl) (fun _ => rfl) rfl hl.1 rfl (Nat.le_of_ble_eq_true rfl) dX1_turnStart_11 ⟨Nat.le_of_ble_eq_true rfl, Nat.le_of_ble_eq_true rfl⟩ (fun _ H locs _ hW => ?_)
  show W p l e _ s m args below meth c H locs _ _ _ (F0 m 14 ls [.int (zI (((mn (mo * 6 + 4)) + v) % 360))])
  have fm11 := Int.emod_nonneg (((mn (mo * 6 + 4)) + v)) (show (360) ≠ 0 by omega)
  have fl11 := Int.emod_lt_of_pos (((mn (mo * 6 + 4)) + v)) (show 0 < (360) by omega)
  refine lv_istore_n (pc := 14) (lv' := [(3, .int (zI (((mn (mo * 6 + 4)) + v) % 360))), (0, .ref q), (1, .int (zI mo)), (2, .int (zI v))]) hx hb dX1_turnStart_14 rfl hl (by decide) rfl (fun ls hl => ?_)
  refine lv_aload_n (pc := 15) hx hb dX1_turnStart_15 rfl (lv_at hl 1 rfl) ?_
  refine lv_iload_n (pc := 16) hx hb dX1_turnStart_16 rfl (lv_at hl 2 rfl) ?_
  refine zv_iconst (pc := 17) (n := 4) hx hb dX1_turnStart_17 ?_
  refine lv_iload_n (pc := 18) hx hb dX1_turnStart_18 rfl (lv_at hl 0 rfl) ?_
  refine z_V (pc := 19) (As := [.int (zI mo), .int (zI 4), .int (zI (((mn (mo * 6 + 4)) + v) % 360))]) (rest := []) (wn := (fun _ => [(q, .inr (1, [.int (zI pr), .int (zI di), .int (zI dr), .int (zI mc), .int (zI sc), .ref qn, .ref qm, .ref qs])), (qm, .inl (zk G 0, 36, .inl (zA (zU mn (mo * 6 + 4) (((mn (mo * 6 + 4)) + v) % 360)))))])) (wr := []) F (kX1_putMoonNumber G l q qn qm qs pr di dr mc sc mn mo 4 (((mn (mo * 6 + 4)) + v) % 360) (by first | assumption | omega) (by first | assumption | omega) (by first | assumption | omega) (by first | assumption | omega)) (cwV 3 hts gX1_turnStart_X1_putMoonNumber rfl rfl rfl (by decide +kernel) ⟨Nat.le_of_ble_eq_true rfl, Nat.le_of_ble_eq_true rfl⟩) hW 0 rfl rfl [0, 1] [] (by decide) rfl rfl rfl (by decide) (by decide) [0, 1] (by decide) (fun _ => rfl) (fun _ => rfl) rfl hl.1 rfl (Nat.le_of_ble_eq_true rfl) dX1_turnStart_19 ⟨Nat.le_of_ble_eq_true rfl, Nat.le_of_ble_eq_true rfl⟩ (fun _ H locs _ hW => ?_)
  exact ze_v (pc := 22) hx hb hr hlk hW () rfl trivial rfl dX1_turnStart_22

set_option maxHeartbeats 4000000 in
set_option maxRecDepth 100000 in
/-- moonNamed -/
theorem kX1_moonNamed (G : zG) (l : Launch) (q : Nat) (qn : Nat) (qm : Nat) (qs : Nat) (pr : Int) (di : Int) (dr : Int) (mc : Int) (sc : Int) (nm : Int → Int) (w : Int) (hm1 : 0 ≤ mc) (hm2 : mc ≤ 6) (hw1 : -9223372036854775808 ≤ w) (hw2 : w ≤ 9223372036854775807) (hnn : ∀ j : Int, 0 ≤ j → j < mc → zinL (nm j)) : zM G l yX1_moonNamed wsX1_moonNamed { frames := 1, cells := 0, slots := 0, locals := 21 } [.ref q, .long (zL w)] [(q, .inr (1, [.int (zI pr), .int (zI di), .int (zI dr), .int (zI mc), .int (zI sc), .ref qn, .ref qm, .ref qs])), (qn, .inl (zk G 1, 6, .inr (.inl (zB nm))))] (S := Unit) (zri (fun _ => znamed nm mc w)) (fun _ => True) (fun _ => [(q, .inr (1, [.int (zI pr), .int (zI di), .int (zI dr), .int (zI mc), .int (zI sc), .ref qn, .ref qm, .ref qs])), (qn, .inl (zk G 1, 6, .inr (.inl (zB nm))))]) 0 0 := by
  refine zM.of (cc := cX1_moonNamed) (maxL := 4) (ret := (some .int)) (by decide) rfl (Nat.le_of_ble_eq_true rfl) (l0 := [(0, .ref q), (1, .long (zL w))]) rfl ?_
  intro p e s m args below meth c ls F hr hlk hnm hW hl
  obtain ⟨hx, hb, hml, hown, hts⟩ := id F
  have hin1 : ∀ w ∈ wsX10, w ∈ wsX1_moonNamed := fun _ h => List.mem_cons_of_mem _ (List.mem_append_right _ (h))
  refine zv_iconst (pc := 0) (n := 0) hx hb dX1_moonNamed_0 ?_
  refine lv_istore_n (pc := 1) (lv' := [(3, .int (zI 0)), (0, .ref q), (1, .long (zL w))]) hx hb dX1_moonNamed_1 rfl hl (by decide) rfl (fun ls hl => ?_)
  have J2 : ∀ (fuel2 : Nat) (k : Int) (k0 : 0 ≤ k) (k1 : k ≤ mc) (hk : zfind (fun j => decide (nm j = w)) k mc = znamed nm mc w) (hfu2 : (mc - k).toNat < fuel2) (H : Heap) (locs : List Loc) (ls : Array Slot) (hW : zW G (va_A [(q, .inr (1, [.int (zI pr), .int (zI di), .int (zI dr), .int (zI mc), .int (zI sc), .ref qn, .ref qm, .ref qs])), (qn, .inl (zk G 1, 6, .inr (.inl (zB nm))))] s.heap.size) s H locs [(q, .inr (1, [.int (zI pr), .int (zI di), .int (zI dr), .int (zI mc), .int (zI sc), .ref qn, .ref qm, .ref qs])), (qn, .inl (zk G 1, 6, .inr (.inl (zB nm))))]) (hl : lv_has ls 4 [(3, .int (zI k)), (0, .ref q), (1, .long (zL w))]), W p l e ({ frames := 1, cells := 0, slots := 0, locals := 21 } : Room) s m args below meth c H locs 0 0 (MQ below (zQ (S := Unit) (zri (fun _ => znamed nm mc w)) (fun _ => True) (zPost G [(q, .inr (1, [.int (zI pr), .int (zI di), .int (zI dr), .int (zI mc), .int (zI sc), .ref qn, .ref qm, .ref qs])), (qn, .inl (zk G 1, 6, .inr (.inl (zB nm))))] s.heap.size (fun _ => [(q, .inr (1, [.int (zI pr), .int (zI di), .int (zI dr), .int (zI mc), .int (zI sc), .ref qn, .ref qm, .ref qs])), (qn, .inl (zk G 1, 6, .inr (.inl (zB nm))))])) (va_A [(q, .inr (1, [.int (zI pr), .int (zI di), .int (zI dr), .int (zI mc), .int (zI sc), .ref qn, .ref qm, .ref qs])), (qn, .inl (zk G 1, 6, .inr (.inl (zB nm))))] s.heap.size)) args s 0 0 (va_A [(q, .inr (1, [.int (zI pr), .int (zI di), .int (zI dr), .int (zI mc), .int (zI sc), .ref qn, .ref qm, .ref qs])), (qn, .inl (zk G 1, 6, .inr (.inl (zB nm))))] s.heap.size)) (F0 m 2 ls []) := by
    intro fuel2
    induction fuel2 with
    | zero =>
      intro k k0 k1 hk hfu2
      exact absurd hfu2 (Nat.not_lt_zero _)
    | succ fuel2 ih2 =>
      intro k k0 k1 hk hfu2 H locs ls hW hl
      refine lv_iload_n (pc := 2) hx hb dX1_moonNamed_2 rfl (lv_at hl 0 rfl) ?_
      refine lv_aload_n (pc := 3) hx hb dX1_moonNamed_3 rfl (lv_at hl 1 rfl) ?_
      refine zw_get (pc := 4) (ref := RX1) (index := 32) hx hb hts hin1 hown hW 0 rfl rfl 3 (by decide) (List.mem_of_getElem? (i := 1) rfl) (fun _ h9 => h9) rfl dX1_moonNamed_4 ?_
      refine zv_icmp_ge (pc := 7) (tgt := 28) hx hb dX1_moonNamed_7 (by decide) ⟨by omega, by omega⟩ ⟨by omega, by omega⟩ (fun c7 => ?_) (fun c7 => ?_)
      · refine zv_iconst (pc := 28) (n := -1) hx hb dX1_moonNamed_28 ?_
        refine zv_as (pc := 29) (a := (-1)) (b := znamed nm mc w) (by first | (rw [← hk]; exact (zfind_hit c7 (decide_eq_true c16)).symm) | (rw [← hk]; exact (zfind_end c7).symm)) ?_
        exact ze_i (pc := 29) hx hb hr hlk hW () rfl trivial rfl dX1_moonNamed_29
      · refine lv_aload_n (pc := 10) hx hb dX1_moonNamed_10 rfl (lv_at hl 1 rfl) ?_
        refine lv_iload_n (pc := 11) hx hb dX1_moonNamed_11 rfl (lv_at hl 0 rfl) ?_
        refine z_V (pc := 12) (As := [.int (zI k)]) (rest := []) (wn := (fun _ => [(q, .inr (1, [.int (zI pr), .int (zI di), .int (zI dr), .int (zI mc), .int (zI sc), .ref qn, .ref qm, .ref qs])), (qn, .inl (zk G 1, 6, .inr (.inl (zB nm))))])) (wr := []) F (kX1_nameOf G l q qn qm qs pr di dr mc sc nm k (by first | assumption | omega) (by first | assumption | omega)) (cwV 1 hts gX1_moonNamed_X1_nameOf rfl rfl rfl (by decide +kernel) ⟨Nat.le_of_ble_eq_true rfl, Nat.le_of_ble_eq_true rfl⟩) hW 0 rfl rfl [0, 1] [] (by decide) rfl rfl rfl (by decide) (by decide) [0, 1] (by decide) (fun _ => rfl) (fun _ => rfl) rfl hl.1 rfl (Nat.le_of_ble_eq_true rfl) dX1_moonNamed_12 ⟨Nat.le_of_ble_eq_true rfl, Nat.le_of_ble_eq_true rfl⟩ (fun _ H locs _ hW => ?_)
        show W p l e _ s m args below meth c H locs _ _ _ (F0 m 15 ls [.long (zL (nm k))])
        refine lv_lload_n (pc := 15) hx hb dX1_moonNamed_15 rfl (lv_at hl 2 rfl) ?_
        refine zv_lcmp_ne (pc := 16) (tgt := 22) hx hb dX1_moonNamed_16 dX1_moonNamed_17 (by decide) (hnn k k0 c7) ⟨hw1, hw2⟩ (fun c16 => ?_) (fun c16 => ?_)
        · refine zv_iinc (pc := 22) (lv' := [(3, .int (zI (k + 1))), (0, .ref q), (1, .long (zL w))]) hx hb dX1_moonNamed_22 hl (k := 0) rfl (by decide) rfl (fun ls hl => ?_)
          refine lv_goto (pc := 25) (tgt := 2) hx hb dX1_moonNamed_25 (by decide) ?_
          exact ih2 (k + 1) (by omega) (by omega) (by first | rfl | (rw [← hk]; exact (zfind_next c7 (decide_eq_false c16)).symm)) (by omega) _ _ _ hW (lv_sub hl [0, 1, 2] rfl)
        · refine lv_iload_n (pc := 20) hx hb dX1_moonNamed_20 rfl (lv_at hl 0 rfl) ?_
          refine zv_as (pc := 21) (a := k) (b := znamed nm mc w) (by first | (rw [← hk]; exact (zfind_hit c7 (decide_eq_true c16)).symm) | (rw [← hk]; exact (zfind_end c7).symm)) ?_
          exact ze_i (pc := 21) hx hb hr hlk hW () rfl trivial rfl dX1_moonNamed_21
  exact J2 (((mc - 0 : Int).toNat) + 1) 0 (by omega) (by omega) (by first | rfl | (rw [← hk]; exact (zfind_next c7 (decide_eq_false c16)).symm)) (Nat.lt_succ_self _) _ _ _ hW (lv_sub hl [0, 1, 2] rfl)

set_option maxHeartbeats 4000000 in
set_option maxRecDepth 100000 in
/-- sightsOf -/
theorem kX1_sightsOf (G : zG) (l : Launch) (q : Nat) (qn : Nat) (qm : Nat) (qs : Nat) (pr : Int) (di : Int) (dr : Int) (mc : Int) (sc : Int) (sn : Int → Int) (mo : Int) (hs1 : 0 ≤ sc) (hs2 : sc ≤ 30) (m1 : -2147483648 ≤ mo) (m2 : mo ≤ 2147483647) (hsn : ∀ j : Int, 0 ≤ j → j < sc → zin (sn (j * 3))) : zM G l yX1_sightsOf wsX1_sightsOf { frames := 1, cells := 0, slots := 0, locals := 23 } [.ref q, .int (zI mo)] [(q, .inr (1, [.int (zI pr), .int (zI di), .int (zI dr), .int (zI mc), .int (zI sc), .ref qn, .ref qm, .ref qs])), (qs, .inl (zk G 0, 90, .inl (zA sn)))] (S := Unit) (zri (fun _ => zsights sn sc mo)) (fun _ => True) (fun _ => [(q, .inr (1, [.int (zI pr), .int (zI di), .int (zI dr), .int (zI mc), .int (zI sc), .ref qn, .ref qm, .ref qs])), (qs, .inl (zk G 0, 90, .inl (zA sn)))]) 0 0 := by
  refine zM.of (cc := cX1_sightsOf) (maxL := 4) (ret := (some .int)) (by decide) rfl (Nat.le_of_ble_eq_true rfl) (l0 := [(0, .ref q), (1, .int (zI mo))]) rfl ?_
  intro p e s m args below meth c ls F hr hlk hnm hW hl
  obtain ⟨hx, hb, hml, hown, hts⟩ := id F
  have hin1 : ∀ w ∈ wsX10, w ∈ wsX1_sightsOf := fun _ h => List.mem_cons_of_mem _ (List.mem_append_right _ (h))
  refine zv_iconst (pc := 0) (n := 0) hx hb dX1_sightsOf_0 ?_
  refine lv_istore_n (pc := 1) (lv' := [(2, .int (zI 0)), (0, .ref q), (1, .int (zI mo))]) hx hb dX1_sightsOf_1 rfl hl (by decide) rfl (fun ls hl => ?_)
  refine zv_iconst (pc := 2) (n := 0) hx hb dX1_sightsOf_2 ?_
  refine lv_istore_n (pc := 3) (lv' := [(3, .int (zI 0)), (2, .int (zI 0)), (0, .ref q), (1, .int (zI mo))]) hx hb dX1_sightsOf_3 rfl hl (by decide) rfl (fun ls hl => ?_)
  have J4 : ∀ (fuel4 : Nat) (n : Int) (k : Int) (k0 : 0 ≤ k) (k1 : k ≤ sc) (hk : n + zcnt (fun j => decide (sn (j * 3) = mo)) k sc = zsights sn sc mo) (hfu4 : (sc - k).toNat < fuel4) (H : Heap) (locs : List Loc) (ls : Array Slot) (hW : zW G (va_A [(q, .inr (1, [.int (zI pr), .int (zI di), .int (zI dr), .int (zI mc), .int (zI sc), .ref qn, .ref qm, .ref qs])), (qs, .inl (zk G 0, 90, .inl (zA sn)))] s.heap.size) s H locs [(q, .inr (1, [.int (zI pr), .int (zI di), .int (zI dr), .int (zI mc), .int (zI sc), .ref qn, .ref qm, .ref qs])), (qs, .inl (zk G 0, 90, .inl (zA sn)))]) (hl : lv_has ls 4 [(3, .int (zI k)), (2, .int (zI n)), (0, .ref q), (1, .int (zI mo))]), W p l e ({ frames := 1, cells := 0, slots := 0, locals := 23 } : Room) s m args below meth c H locs 0 0 (MQ below (zQ (S := Unit) (zri (fun _ => zsights sn sc mo)) (fun _ => True) (zPost G [(q, .inr (1, [.int (zI pr), .int (zI di), .int (zI dr), .int (zI mc), .int (zI sc), .ref qn, .ref qm, .ref qs])), (qs, .inl (zk G 0, 90, .inl (zA sn)))] s.heap.size (fun _ => [(q, .inr (1, [.int (zI pr), .int (zI di), .int (zI dr), .int (zI mc), .int (zI sc), .ref qn, .ref qm, .ref qs])), (qs, .inl (zk G 0, 90, .inl (zA sn)))])) (va_A [(q, .inr (1, [.int (zI pr), .int (zI di), .int (zI dr), .int (zI mc), .int (zI sc), .ref qn, .ref qm, .ref qs])), (qs, .inl (zk G 0, 90, .inl (zA sn)))] s.heap.size)) args s 0 0 (va_A [(q, .inr (1, [.int (zI pr), .int (zI di), .int (zI dr), .int (zI mc), .int (zI sc), .ref qn, .ref qm, .ref qs])), (qs, .inl (zk G 0, 90, .inl (zA sn)))] s.heap.size)) (F0 m 4 ls []) := by
    intro fuel4
    induction fuel4 with
    | zero =>
      intro n k k0 k1 hk hfu4
      exact absurd hfu4 (Nat.not_lt_zero _)
    | succ fuel4 ih4 =>
      intro n k k0 k1 hk hfu4 H locs ls hW hl
      refine lv_iload_n (pc := 4) hx hb dX1_sightsOf_4 rfl (lv_at hl 0 rfl) ?_
      refine lv_aload_n (pc := 5) hx hb dX1_sightsOf_5 rfl (lv_at hl 2 rfl) ?_
      refine zw_get (pc := 6) (ref := RX1) (index := 35) hx hb hts hin1 hown hW 0 rfl rfl 4 (by decide) (List.mem_of_getElem? (i := 1) rfl) (fun _ h9 => h9) rfl dX1_sightsOf_6 ?_
      refine zv_icmp_ge (pc := 9) (tgt := 31) hx hb dX1_sightsOf_9 (by decide) ⟨by omega, by omega⟩ ⟨by omega, by omega⟩ (fun c9 => ?_) (fun c9 => ?_)
      · refine lv_iload_n (pc := 31) hx hb dX1_sightsOf_31 rfl (lv_at hl 1 rfl) ?_
        refine zv_as (pc := 32) (a := n) (b := zsights sn sc mo) (by rw [← hk, zcnt_end c9]; omega) ?_
        exact ze_i (pc := 32) hx hb hr hlk hW () rfl trivial rfl dX1_sightsOf_32
      · refine lv_aload_n (pc := 12) hx hb dX1_sightsOf_12 rfl (lv_at hl 2 rfl) ?_
        refine lv_iload_n (pc := 13) hx hb dX1_sightsOf_13 rfl (lv_at hl 0 rfl) ?_
        refine zv_iconst (pc := 14) (n := 0) hx hb dX1_sightsOf_14 ?_
        refine z_V (pc := 15) (As := [.int (zI k), .int (zI 0)]) (rest := []) (wn := (fun _ => [(q, .inr (1, [.int (zI pr), .int (zI di), .int (zI dr), .int (zI mc), .int (zI sc), .ref qn, .ref qm, .ref qs])), (qs, .inl (zk G 0, 90, .inl (zA sn)))])) (wr := []) F (kX1_sightNumber G l q qn qm qs pr di dr mc sc sn k 0 (by first | assumption | omega) (by first | assumption | omega) (by first | assumption | omega) (by first | assumption | omega)) (cwV 2 hts gX1_sightsOf_X1_sightNumber rfl rfl rfl (by decide +kernel) ⟨Nat.le_of_ble_eq_true rfl, Nat.le_of_ble_eq_true rfl⟩) hW 0 rfl rfl [0, 1] [] (by decide) rfl rfl rfl (by decide) (by decide) [0, 1] (by decide) (fun _ => rfl) (fun _ => rfl) rfl hl.1 rfl (Nat.le_of_ble_eq_true rfl) dX1_sightsOf_15 ⟨Nat.le_of_ble_eq_true rfl, Nat.le_of_ble_eq_true rfl⟩ (fun _ H locs _ hW => ?_)
        show W p l e _ s m args below meth c H locs _ _ _ (F0 m 18 ls [.int (zI (sn (k * 3 + 0)))])
        refine zv_as (pc := 18) (a := sn (k * 3 + 0)) (b := sn (k * 3)) (by rw [Int.add_zero]) ?_
        refine lv_iload_n (pc := 18) hx hb dX1_sightsOf_18 rfl (lv_at hl 3 rfl) ?_
        refine zv_icmp_ne (pc := 19) (tgt := 25) hx hb dX1_sightsOf_19 (by decide) (hsn k k0 c9) ⟨by omega, by omega⟩ (fun c19 => ?_) (fun c19 => ?_)
        · refine zv_iinc (pc := 25) (lv' := [(3, .int (zI (k + 1))), (2, .int (zI n)), (0, .ref q), (1, .int (zI mo))]) hx hb dX1_sightsOf_25 hl (k := 0) rfl (by decide) rfl (fun ls hl => ?_)
          refine lv_goto (pc := 28) (tgt := 4) hx hb dX1_sightsOf_28 (by decide) ?_
          exact ih4 n (k + 1) (by omega) (by omega) (by first | (rw [Int.zero_add]; rfl) | (rw [zcnt_no c9 (decide_eq_false c19)] at hk; exact hk) | (rw [zcnt_yes c9 (decide_eq_true c19)] at hk; omega)) (by omega) _ _ _ hW (lv_sub hl [0, 1, 2, 3] rfl)
        · refine zv_iinc (pc := 22) (lv' := [(2, .int (zI (n + 1))), (3, .int (zI k)), (0, .ref q), (1, .int (zI mo))]) hx hb dX1_sightsOf_22 hl (k := 1) rfl (by decide) rfl (fun ls hl => ?_)
          refine zv_iinc (pc := 25) (lv' := [(3, .int (zI (k + 1))), (2, .int (zI (n + 1))), (0, .ref q), (1, .int (zI mo))]) hx hb dX1_sightsOf_25 hl (k := 1) rfl (by decide) rfl (fun ls hl => ?_)
          refine lv_goto (pc := 28) (tgt := 4) hx hb dX1_sightsOf_28 (by decide) ?_
          exact ih4 (n + 1) (k + 1) (by omega) (by omega) (by first | (rw [Int.zero_add]; rfl) | (rw [zcnt_no c9 (decide_eq_false c19)] at hk; exact hk) | (rw [zcnt_yes c9 (decide_eq_true c19)] at hk; omega)) (by omega) _ _ _ hW (lv_sub hl [0, 1, 2, 3] rfl)
  exact J4 (((sc - 0 : Int).toNat) + 1) 0 0 (by omega) (by omega) (by first | (rw [Int.zero_add]; rfl) | (rw [zcnt_no c9 (decide_eq_false c19)] at hk; exact hk) | (rw [zcnt_yes c9 (decide_eq_true c19)] at hk; omega)) (Nat.lt_succ_self _) _ _ _ hW (lv_sub hl [0, 1, 2, 3] rfl)

set_option maxHeartbeats 4000000 in
set_option maxRecDepth 100000 in
/-- hasSight -/
theorem kX1_hasSight (G : zG) (l : Launch) (q : Nat) (qn : Nat) (qm : Nat) (qs : Nat) (pr : Int) (di : Int) (dr : Int) (mc : Int) (sc : Int) (sn : Int → Int) (mo : Int) (kd : Int) (t : Int) (hs1 : 0 ≤ sc) (hs2 : sc ≤ 30) (m1 : -2147483648 ≤ mo) (m2 : mo ≤ 2147483647) (d1 : -2147483648 ≤ kd) (d2 : kd ≤ 2147483647) (t1 : -2147483648 ≤ t) (t2 : t ≤ 2147483647) (hsn : ∀ j : Int, 0 ≤ j → j < sc → zin (sn (j * 3)) ∧ zin (sn (j * 3 + 1)) ∧ zin (sn (j * 3 + 2))) : zM G l yX1_hasSight wsX1_hasSight { frames := 1, cells := 0, slots := 0, locals := 23 } [.ref q, .int (zI mo), .int (zI kd), .int (zI t)] [(q, .inr (1, [.int (zI pr), .int (zI di), .int (zI dr), .int (zI mc), .int (zI sc), .ref qn, .ref qm, .ref qs])), (qs, .inl (zk G 0, 90, .inl (zA sn)))] (S := Unit) (zri (fun _ => zb (zhasS sn sc mo kd t))) (fun _ => True) (fun _ => [(q, .inr (1, [.int (zI pr), .int (zI di), .int (zI dr), .int (zI mc), .int (zI sc), .ref qn, .ref qm, .ref qs])), (qs, .inl (zk G 0, 90, .inl (zA sn)))]) 0 0 := by
  refine zM.of (cc := cX1_hasSight) (maxL := 5) (ret := (some .boolean)) (by decide) rfl (Nat.le_of_ble_eq_true rfl) (l0 := [(0, .ref q), (1, .int (zI mo)), (2, .int (zI kd)), (3, .int (zI t))]) rfl ?_
  intro p e s m args below meth c ls F hr hlk hnm hW hl
  obtain ⟨hx, hb, hml, hown, hts⟩ := id F
  have hin1 : ∀ w ∈ wsX10, w ∈ wsX1_hasSight := fun _ h => List.mem_cons_of_mem _ (List.mem_append_right _ (h))
  refine zv_iconst (pc := 0) (n := 0) hx hb dX1_hasSight_0 ?_
  refine lv_istore (pc := 1) (lv' := [(4, .int (zI 0)), (0, .ref q), (1, .int (zI mo)), (2, .int (zI kd)), (3, .int (zI t))]) hx hb dX1_hasSight_1 hl (by decide) rfl (fun ls hl => ?_)
  have J3 : ∀ (fuel3 : Nat) (k : Int) (k0 : 0 ≤ k) (k1 : k ≤ sc) (hk : zhasS sn sc mo kd t = decide (zfind (fun j => decide (sn (j * 3) = mo) && (decide (sn (j * 3 + 1) = kd) && decide (sn (j * 3 + 2) = t))) k sc ≠ -1)) (hfu3 : (sc - k).toNat < fuel3) (H : Heap) (locs : List Loc) (ls : Array Slot) (hW : zW G (va_A [(q, .inr (1, [.int (zI pr), .int (zI di), .int (zI dr), .int (zI mc), .int (zI sc), .ref qn, .ref qm, .ref qs])), (qs, .inl (zk G 0, 90, .inl (zA sn)))] s.heap.size) s H locs [(q, .inr (1, [.int (zI pr), .int (zI di), .int (zI dr), .int (zI mc), .int (zI sc), .ref qn, .ref qm, .ref qs])), (qs, .inl (zk G 0, 90, .inl (zA sn)))]) (hl : lv_has ls 5 [(4, .int (zI k)), (0, .ref q), (1, .int (zI mo)), (2, .int (zI kd)), (3, .int (zI t))]), W p l e ({ frames := 1, cells := 0, slots := 0, locals := 23 } : Room) s m args below meth c H locs 0 0 (MQ below (zQ (S := Unit) (zri (fun _ => zb (zhasS sn sc mo kd t))) (fun _ => True) (zPost G [(q, .inr (1, [.int (zI pr), .int (zI di), .int (zI dr), .int (zI mc), .int (zI sc), .ref qn, .ref qm, .ref qs])), (qs, .inl (zk G 0, 90, .inl (zA sn)))] s.heap.size (fun _ => [(q, .inr (1, [.int (zI pr), .int (zI di), .int (zI dr), .int (zI mc), .int (zI sc), .ref qn, .ref qm, .ref qs])), (qs, .inl (zk G 0, 90, .inl (zA sn)))])) (va_A [(q, .inr (1, [.int (zI pr), .int (zI di), .int (zI dr), .int (zI mc), .int (zI sc), .ref qn, .ref qm, .ref qs])), (qs, .inl (zk G 0, 90, .inl (zA sn)))] s.heap.size)) args s 0 0 (va_A [(q, .inr (1, [.int (zI pr), .int (zI di), .int (zI dr), .int (zI mc), .int (zI sc), .ref qn, .ref qm, .ref qs])), (qs, .inl (zk G 0, 90, .inl (zA sn)))] s.heap.size)) (F0 m 3 ls []) := by
    intro fuel3
    induction fuel3 with
    | zero =>
      intro k k0 k1 hk hfu3
      exact absurd hfu3 (Nat.not_lt_zero _)
    | succ fuel3 ih3 =>
      intro k k0 k1 hk hfu3 H locs ls hW hl
      refine lv_iload (pc := 3) hx hb dX1_hasSight_3 (lv_at hl 0 rfl) ?_
      refine lv_aload_n (pc := 5) hx hb dX1_hasSight_5 rfl (lv_at hl 1 rfl) ?_
      refine zw_get (pc := 6) (ref := RX1) (index := 35) hx hb hts hin1 hown hW 0 rfl rfl 4 (by decide) (List.mem_of_getElem? (i := 1) rfl) (fun _ h9 => h9) rfl dX1_hasSight_6 ?_
      refine zv_icmp_ge (pc := 9) (tgt := 53) hx hb dX1_hasSight_9 (by decide) ⟨by omega, by omega⟩ ⟨by omega, by omega⟩ (fun c9 => ?_) (fun c9 => ?_)
      · refine zv_iconst (pc := 53) (n := 0) hx hb dX1_hasSight_53 ?_
        refine zv_as (pc := 54) (a := 0) (b := zb (zhasS sn sc mo kd t)) (by first | (rw [hk, zfind_hit c9 (by simp [*])]; rw [decide_eq_true (by omega)]; rfl) | (rw [hk, zfind_end c9]; rfl)) ?_
        exact ze_z (pc := 54) hx hb hr hlk hW () rfl trivial rfl dX1_hasSight_54
      · refine lv_aload_n (pc := 12) hx hb dX1_hasSight_12 rfl (lv_at hl 1 rfl) ?_
        refine lv_iload (pc := 13) hx hb dX1_hasSight_13 (lv_at hl 0 rfl) ?_
        refine zv_iconst (pc := 15) (n := 0) hx hb dX1_hasSight_15 ?_
        refine z_V (pc := 16) (As := [.int (zI k), .int (zI 0)]) (rest := []) (wn := (fun _ => [(q, .inr (1, [.int (zI pr), .int (zI di), .int (zI dr), .int (zI mc), .int (zI sc), .ref qn, .ref qm, .ref qs])), (qs, .inl (zk G 0, 90, .inl (zA sn)))])) (wr := []) F (kX1_sightNumber G l q qn qm qs pr di dr mc sc sn k 0 (by first | assumption | omega) (by first | assumption | omega) (by first | assumption | omega) (by first | assumption | omega)) (cwV 2 hts gX1_hasSight_X1_sightNumber rfl rfl rfl (by decide +kernel) ⟨Nat.le_of_ble_eq_true rfl, Nat.le_of_ble_eq_true rfl⟩) hW 0 rfl rfl [0, 1] [] (by decide) rfl rfl rfl (by decide) (by decide) [0, 1] (by decide) (fun _ => rfl) (fun _ => rfl) rfl hl.1 rfl (Nat.le_of_ble_eq_true rfl) dX1_hasSight_16 ⟨Nat.le_of_ble_eq_true rfl, Nat.le_of_ble_eq_true rfl⟩ (fun _ H locs _ hW => ?_)
        show W p l e _ s m args below meth c H locs _ _ _ (F0 m 19 ls [.int (zI (sn (k * 3 + 0)))])
        refine zv_as (pc := 19) (a := sn (k * 3 + 0)) (b := sn (k * 3)) (by rw [Int.add_zero]) ?_
        refine lv_iload_n (pc := 19) hx hb dX1_hasSight_19 rfl (lv_at hl 2 rfl) ?_
        have J47 : ∀  (hk2 : zhasS sn sc mo kd t = decide (zfind (fun j => decide (sn (j * 3) = mo) && (decide (sn (j * 3 + 1) = kd) && decide (sn (j * 3 + 2) = t))) (k + 1) sc ≠ -1)) (H : Heap) (locs : List Loc) (ls : Array Slot) (hW : zW G (va_A [(q, .inr (1, [.int (zI pr), .int (zI di), .int (zI dr), .int (zI mc), .int (zI sc), .ref qn, .ref qm, .ref qs])), (qs, .inl (zk G 0, 90, .inl (zA sn)))] s.heap.size) s H locs [(q, .inr (1, [.int (zI pr), .int (zI di), .int (zI dr), .int (zI mc), .int (zI sc), .ref qn, .ref qm, .ref qs])), (qs, .inl (zk G 0, 90, .inl (zA sn)))]) (hl : lv_has ls 5 [(4, .int (zI k)), (0, .ref q), (1, .int (zI mo)), (2, .int (zI kd)), (3, .int (zI t))]), W p l e ({ frames := 1, cells := 0, slots := 0, locals := 23 } : Room) s m args below meth c H locs 0 0 (MQ below (zQ (S := Unit) (zri (fun _ => zb (zhasS sn sc mo kd t))) (fun _ => True) (zPost G [(q, .inr (1, [.int (zI pr), .int (zI di), .int (zI dr), .int (zI mc), .int (zI sc), .ref qn, .ref qm, .ref qs])), (qs, .inl (zk G 0, 90, .inl (zA sn)))] s.heap.size (fun _ => [(q, .inr (1, [.int (zI pr), .int (zI di), .int (zI dr), .int (zI mc), .int (zI sc), .ref qn, .ref qm, .ref qs])), (qs, .inl (zk G 0, 90, .inl (zA sn)))])) (va_A [(q, .inr (1, [.int (zI pr), .int (zI di), .int (zI dr), .int (zI mc), .int (zI sc), .ref qn, .ref qm, .ref qs])), (qs, .inl (zk G 0, 90, .inl (zA sn)))] s.heap.size)) args s 0 0 (va_A [(q, .inr (1, [.int (zI pr), .int (zI di), .int (zI dr), .int (zI mc), .int (zI sc), .ref qn, .ref qm, .ref qs])), (qs, .inl (zk G 0, 90, .inl (zA sn)))] s.heap.size)) (F0 m 47 ls []) := by
          intro hk2 H locs ls hW hl
          refine zv_iinc (pc := 47) (lv' := [(4, .int (zI (k + 1))), (0, .ref q), (1, .int (zI mo)), (2, .int (zI kd)), (3, .int (zI t))]) hx hb dX1_hasSight_47 hl (k := 0) rfl (by decide) rfl (fun ls hl => ?_)
          refine lv_goto (pc := 50) (tgt := 3) hx hb dX1_hasSight_50 (by decide) ?_
          exact ih3 (k + 1) (by omega) (by omega) (by first | rfl | exact hk2) (by omega) _ _ _ hW (lv_sub hl [0, 1, 2, 3, 4] rfl)
        refine zv_icmp_ne (pc := 20) (tgt := 47) hx hb dX1_hasSight_20 (by decide) (hsn k k0 c9).1 ⟨by omega, by omega⟩ (fun c20 => ?_) (fun c20 => ?_)
        · exact J47 (by rw [hk, zfind_next c9 (by simp [*])]) _ _ _ hW (lv_sub hl [0, 1, 2, 3, 4] rfl)
        · refine lv_aload_n (pc := 23) hx hb dX1_hasSight_23 rfl (lv_at hl 1 rfl) ?_
          refine lv_iload (pc := 24) hx hb dX1_hasSight_24 (lv_at hl 0 rfl) ?_
          refine zv_iconst (pc := 26) (n := 1) hx hb dX1_hasSight_26 ?_
          refine z_V (pc := 27) (As := [.int (zI k), .int (zI 1)]) (rest := []) (wn := (fun _ => [(q, .inr (1, [.int (zI pr), .int (zI di), .int (zI dr), .int (zI mc), .int (zI sc), .ref qn, .ref qm, .ref qs])), (qs, .inl (zk G 0, 90, .inl (zA sn)))])) (wr := []) F (kX1_sightNumber G l q qn qm qs pr di dr mc sc sn k 1 (by first | assumption | omega) (by first | assumption | omega) (by first | assumption | omega) (by first | assumption | omega)) (cwV 2 hts gX1_hasSight_X1_sightNumber rfl rfl rfl (by decide +kernel) ⟨Nat.le_of_ble_eq_true rfl, Nat.le_of_ble_eq_true rfl⟩) hW 0 rfl rfl [0, 1] [] (by decide) rfl rfl rfl (by decide) (by decide) [0, 1] (by decide) (fun _ => rfl) (fun _ => rfl) rfl hl.1 rfl (Nat.le_of_ble_eq_true rfl) dX1_hasSight_27 ⟨Nat.le_of_ble_eq_true rfl, Nat.le_of_ble_eq_true rfl⟩ (fun _ H locs _ hW => ?_)
          show W p l e _ s m args below meth c H locs _ _ _ (F0 m 30 ls [.int (zI (sn (k * 3 + 1)))])
          refine lv_iload_n (pc := 30) hx hb dX1_hasSight_30 rfl (lv_at hl 3 rfl) ?_
          refine zv_icmp_ne (pc := 31) (tgt := 47) hx hb dX1_hasSight_31 (by decide) (hsn k k0 c9).2.1 ⟨by omega, by omega⟩ (fun c31 => ?_) (fun c31 => ?_)
          · exact J47 (by rw [hk, zfind_next c9 (by simp [*])]) _ _ _ hW (lv_sub hl [0, 1, 2, 3, 4] rfl)
          · refine lv_aload_n (pc := 34) hx hb dX1_hasSight_34 rfl (lv_at hl 1 rfl) ?_
            refine lv_iload (pc := 35) hx hb dX1_hasSight_35 (lv_at hl 0 rfl) ?_
            refine zv_iconst (pc := 37) (n := 2) hx hb dX1_hasSight_37 ?_
            refine z_V (pc := 38) (As := [.int (zI k), .int (zI 2)]) (rest := []) (wn := (fun _ => [(q, .inr (1, [.int (zI pr), .int (zI di), .int (zI dr), .int (zI mc), .int (zI sc), .ref qn, .ref qm, .ref qs])), (qs, .inl (zk G 0, 90, .inl (zA sn)))])) (wr := []) F (kX1_sightNumber G l q qn qm qs pr di dr mc sc sn k 2 (by first | assumption | omega) (by first | assumption | omega) (by first | assumption | omega) (by first | assumption | omega)) (cwV 2 hts gX1_hasSight_X1_sightNumber rfl rfl rfl (by decide +kernel) ⟨Nat.le_of_ble_eq_true rfl, Nat.le_of_ble_eq_true rfl⟩) hW 0 rfl rfl [0, 1] [] (by decide) rfl rfl rfl (by decide) (by decide) [0, 1] (by decide) (fun _ => rfl) (fun _ => rfl) rfl hl.1 rfl (Nat.le_of_ble_eq_true rfl) dX1_hasSight_38 ⟨Nat.le_of_ble_eq_true rfl, Nat.le_of_ble_eq_true rfl⟩ (fun _ H locs _ hW => ?_)
            show W p l e _ s m args below meth c H locs _ _ _ (F0 m 41 ls [.int (zI (sn (k * 3 + 2)))])
            refine lv_iload_n (pc := 41) hx hb dX1_hasSight_41 rfl (lv_at hl 4 rfl) ?_
            refine zv_icmp_ne (pc := 42) (tgt := 47) hx hb dX1_hasSight_42 (by decide) (hsn k k0 c9).2.2 ⟨by omega, by omega⟩ (fun c42 => ?_) (fun c42 => ?_)
            · exact J47 (by rw [hk, zfind_next c9 (by simp [*])]) _ _ _ hW (lv_sub hl [0, 1, 2, 3, 4] rfl)
            · refine zv_iconst (pc := 45) (n := 1) hx hb dX1_hasSight_45 ?_
              refine zv_as (pc := 46) (a := 1) (b := zb (zhasS sn sc mo kd t)) (by first | (rw [hk, zfind_hit c9 (by simp [*])]; rw [decide_eq_true (by omega)]; rfl) | (rw [hk, zfind_end c9]; rfl)) ?_
              exact ze_z (pc := 46) hx hb hr hlk hW () rfl trivial rfl dX1_hasSight_46
  exact J3 (((sc - 0 : Int).toNat) + 1) 0 (by omega) (by omega) (by first | rfl | exact hk2) (Nat.lt_succ_self _) _ _ _ hW (lv_sub hl [0, 1, 2, 3, 4] rfl)

set_option maxHeartbeats 4000000 in
set_option maxRecDepth 100000 in
/-- addSight -/
theorem kX1_addSight (G : zG) (l : Launch) (q : Nat) (qn : Nat) (qm : Nat) (qs : Nat) (pr : Int) (di : Int) (dr : Int) (mc : Int) (sc : Int) (sn : Int → Int) (mo : Int) (kd : Int) (t : Int) (hs1 : 0 ≤ sc) (hs2 : sc < 30) : zM G l yX1_addSight wsX1_addSight { frames := 1, cells := 0, slots := 0, locals := 24 } [.ref q, .int (zI mo), .int (zI kd), .int (zI t)] [(q, .inr (1, [.int (zI pr), .int (zI di), .int (zI dr), .int (zI mc), .int (zI sc), .ref qn, .ref qm, .ref qs])), (qs, .inl (zk G 0, 90, .inl (zA sn)))] (S := Unit) zrv (fun _ => True) (fun _ => [(q, .inr (1, [.int (zI pr), .int (zI di), .int (zI dr), .int (zI mc), .int (zI (sc + 1)), .ref qn, .ref qm, .ref qs])), (qs, .inl (zk G 0, 90, .inl (zA (zput3 sn sc mo kd t))))]) 0 0 := by
  refine zM.of (cc := cX1_addSight) (maxL := 4) (ret := none) (by decide) rfl (Nat.le_of_ble_eq_true rfl) (l0 := [(0, .ref q), (1, .int (zI mo)), (2, .int (zI kd)), (3, .int (zI t))]) rfl ?_
  intro p e s m args below meth c ls F hr hlk hnm hW hl
  obtain ⟨hx, hb, hml, hown, hts⟩ := id F
  have hin1 : ∀ w ∈ wsX10, w ∈ wsX1_addSight := fun _ h => List.mem_cons_of_mem _ (List.mem_append_right _ (h))
  refine lv_aload_n (pc := 0) hx hb dX1_addSight_0 rfl (lv_at hl 0 rfl) ?_
  refine lv_aload_n (pc := 1) hx hb dX1_addSight_1 rfl (lv_at hl 0 rfl) ?_
  refine zw_get (pc := 2) (ref := RX1) (index := 35) hx hb hts hin1 hown hW 0 rfl rfl 4 (by decide) (List.mem_of_getElem? (i := 1) rfl) (fun _ h9 => h9) rfl dX1_addSight_2 ?_
  refine zv_iconst (pc := 5) (n := 0) hx hb dX1_addSight_5 ?_
  refine lv_iload_n (pc := 6) hx hb dX1_addSight_6 rfl (lv_at hl 1 rfl) ?_
  refine z_V (pc := 7) (As := [.int (zI sc), .int (zI 0), .int (zI mo)]) (rest := []) (wn := (fun _ => [(q, .inr (1, [.int (zI pr), .int (zI di), .int (zI dr), .int (zI mc), .int (zI sc), .ref qn, .ref qm, .ref qs])), (qs, .inl (zk G 0, 90, .inl (zA (zU sn (sc * 3 + 0) mo))))])) (wr := []) F (kX1_putSightNumber G l q qn qm qs pr di dr mc sc sn sc 0 mo (by first | assumption | omega) (by first | assumption | omega) (by first | assumption | omega) (by first | assumption | omega)) (cwV 3 hts gX1_addSight_X1_putSightNumber rfl rfl rfl (by decide +kernel) ⟨Nat.le_of_ble_eq_true rfl, Nat.le_of_ble_eq_true rfl⟩) hW 0 rfl rfl [0, 1] [] (by decide) rfl rfl rfl (by decide) (by decide) [0, 1] (by decide) (fun _ => rfl) (fun _ => rfl) rfl hl.1 rfl (Nat.le_of_ble_eq_true rfl) dX1_addSight_7 ⟨Nat.le_of_ble_eq_true rfl, Nat.le_of_ble_eq_true rfl⟩ (fun _ H locs _ hW => ?_)
  refine lv_aload_n (pc := 10) hx hb dX1_addSight_10 rfl (lv_at hl 0 rfl) ?_
  refine lv_aload_n (pc := 11) hx hb dX1_addSight_11 rfl (lv_at hl 0 rfl) ?_
  refine zw_get (pc := 12) (ref := RX1) (index := 35) hx hb hts hin1 hown hW 0 rfl rfl 4 (by decide) (List.mem_of_getElem? (i := 1) rfl) (fun _ h9 => h9) rfl dX1_addSight_12 ?_
  refine zv_iconst (pc := 15) (n := 1) hx hb dX1_addSight_15 ?_
  refine lv_iload_n (pc := 16) hx hb dX1_addSight_16 rfl (lv_at hl 2 rfl) ?_
  refine z_V (pc := 17) (As := [.int (zI sc), .int (zI 1), .int (zI kd)]) (rest := []) (wn := (fun _ => [(q, .inr (1, [.int (zI pr), .int (zI di), .int (zI dr), .int (zI mc), .int (zI sc), .ref qn, .ref qm, .ref qs])), (qs, .inl (zk G 0, 90, .inl (zA (zU (zU sn (sc * 3 + 0) mo) (sc * 3 + 1) kd))))])) (wr := []) F (kX1_putSightNumber G l q qn qm qs pr di dr mc sc (zU sn (sc * 3 + 0) mo) sc 1 kd (by first | assumption | omega) (by first | assumption | omega) (by first | assumption | omega) (by first | assumption | omega)) (cwV 3 hts gX1_addSight_X1_putSightNumber rfl rfl rfl (by decide +kernel) ⟨Nat.le_of_ble_eq_true rfl, Nat.le_of_ble_eq_true rfl⟩) hW 0 rfl rfl [0, 1] [] (by decide) rfl rfl rfl (by decide) (by decide) [0, 1] (by decide) (fun _ => rfl) (fun _ => rfl) rfl hl.1 rfl (Nat.le_of_ble_eq_true rfl) dX1_addSight_17 ⟨Nat.le_of_ble_eq_true rfl, Nat.le_of_ble_eq_true rfl⟩ (fun _ H locs _ hW => ?_)
  refine lv_aload_n (pc := 20) hx hb dX1_addSight_20 rfl (lv_at hl 0 rfl) ?_
  refine lv_aload_n (pc := 21) hx hb dX1_addSight_21 rfl (lv_at hl 0 rfl) ?_
  refine zw_get (pc := 22) (ref := RX1) (index := 35) hx hb hts hin1 hown hW 0 rfl rfl 4 (by decide) (List.mem_of_getElem? (i := 1) rfl) (fun _ h9 => h9) rfl dX1_addSight_22 ?_
  refine zv_iconst (pc := 25) (n := 2) hx hb dX1_addSight_25 ?_
  refine lv_iload_n (pc := 26) hx hb dX1_addSight_26 rfl (lv_at hl 3 rfl) ?_
  refine z_V (pc := 27) (As := [.int (zI sc), .int (zI 2), .int (zI t)]) (rest := []) (wn := (fun _ => [(q, .inr (1, [.int (zI pr), .int (zI di), .int (zI dr), .int (zI mc), .int (zI sc), .ref qn, .ref qm, .ref qs])), (qs, .inl (zk G 0, 90, .inl (zA (zU (zU (zU sn (sc * 3 + 0) mo) (sc * 3 + 1) kd) (sc * 3 + 2) t))))])) (wr := []) F (kX1_putSightNumber G l q qn qm qs pr di dr mc sc (zU (zU sn (sc * 3 + 0) mo) (sc * 3 + 1) kd) sc 2 t (by first | assumption | omega) (by first | assumption | omega) (by first | assumption | omega) (by first | assumption | omega)) (cwV 3 hts gX1_addSight_X1_putSightNumber rfl rfl rfl (by decide +kernel) ⟨Nat.le_of_ble_eq_true rfl, Nat.le_of_ble_eq_true rfl⟩) hW 0 rfl rfl [0, 1] [] (by decide) rfl rfl rfl (by decide) (by decide) [0, 1] (by decide) (fun _ => rfl) (fun _ => rfl) rfl hl.1 rfl (Nat.le_of_ble_eq_true rfl) dX1_addSight_27 ⟨Nat.le_of_ble_eq_true rfl, Nat.le_of_ble_eq_true rfl⟩ (fun _ H locs _ hW => ?_)
  refine lv_aload_n (pc := 30) hx hb dX1_addSight_30 rfl (lv_at hl 0 rfl) ?_
  refine lv_dup (pc := 31) hx hb dX1_addSight_31 rfl ?_
  refine zw_get (pc := 32) (ref := RX1) (index := 35) hx hb hts hin1 hown hW 0 rfl rfl 4 (by decide) (List.mem_of_getElem? (i := 1) rfl) (fun _ h9 => h9) rfl dX1_addSight_32 ?_
  refine zv_iconst (pc := 35) (n := 1) hx hb dX1_addSight_35 ?_
  refine zv_iadd (pc := 36) hx hb dX1_addSight_36 ?_
  refine zw_put (pc := 37) (ws' := [(q, .inr (1, [.int (zI pr), .int (zI di), .int (zI dr), .int (zI mc), .int (zI (sc + 1)), .ref qn, .ref qm, .ref qs])), (qs, .inl (zk G 0, 90, .inl (zA (zU (zU (zU sn (sc * 3 + 0) mo) (sc * 3 + 1) kd) (sc * 3 + 2) t))))]) (ref := RX1) (index := 35) hx hb hts hin1 tyX1 tyX1_ok nmX1 hown hW 0 rfl rfl 4 (by decide) (List.mem_of_getElem? (i := 1) rfl) (fun _ h9 => h9) rfl (tyX1_ok 4 (by decide)) rfl rfl (Nat.le_of_ble_eq_true rfl) rfl dX1_addSight_37 (fun H locs hW => ?_)
  rw [Int.add_zero] at hW
  exact ze_v (pc := 40) hx hb hr hlk hW () rfl trivial rfl dX1_addSight_40

set_option maxHeartbeats 4000000 in
set_option maxRecDepth 100000 in
/-- copyNumbers -/
theorem kX1_copyNumbers (G : zG) (l : Launch) (a1 : Nat) (a2 : Nat) (n : Nat) (f : Int → Int) (g : Int → Int) (hn : n < 2147483648) : zM G l yX1_copyNumbers wsX1_copyNumbers { frames := 0, cells := 0, slots := 0, locals := 0 } [.ref a1, .ref a2] [(a1, .inl (zk G 0, n, .inl (zA f))), (a2, .inl (zk G 0, n, .inl (zA g)))] (S := Unit) zrv (fun _ => True) (fun _ => [(a1, .inl (zk G 0, n, .inl (zA f))), (a2, .inl (zk G 0, n, .inl (zA f)))]) 0 0 := by
  refine zM.of (cc := cX1_copyNumbers) (maxL := 3) (ret := none) (by decide) rfl (Nat.le_of_ble_eq_true rfl) (l0 := [(0, .ref a1), (1, .ref a2)]) rfl ?_
  intro p e s m args below meth c ls F hr hlk hnm hW hl
  obtain ⟨hx, hb, hml, hown, hts⟩ := id F
  have hW := hW.exi 1 (f := g) (g := zcp g f 0) rfl (fun j h0 _ => (if_neg (by omega)).symm) rfl
  refine zv_iconst (pc := 0) (n := 0) hx hb dX1_copyNumbers_0 ?_
  refine lv_istore_n (pc := 1) (lv' := [(2, .int (zI 0)), (0, .ref a1), (1, .ref a2)]) hx hb dX1_copyNumbers_1 rfl hl (by decide) rfl (fun ls hl => ?_)
  have J2 : ∀ (fuel2 : Nat) (k : Int) (k0 : 0 ≤ k) (k1 : k ≤ (n : Int)) (hfu2 : ((n : Int) - k).toNat < fuel2) (H : Heap) (locs : List Loc) (ls : Array Slot) (hW : zW G (va_A [(a1, .inl (zk G 0, n, .inl (zA f))), (a2, .inl (zk G 0, n, .inl (zA g)))] s.heap.size) s H locs [(a1, .inl (zk G 0, n, .inl (zA f))), (a2, .inl (zk G 0, n, .inl (zA (zcp g f k))))]) (hl : lv_has ls 3 [(2, .int (zI k)), (0, .ref a1), (1, .ref a2)]), W p l e ({ frames := 0, cells := 0, slots := 0, locals := 0 } : Room) s m args below meth c H locs 0 0 (MQ below (zQ (S := Unit) zrv (fun _ => True) (zPost G [(a1, .inl (zk G 0, n, .inl (zA f))), (a2, .inl (zk G 0, n, .inl (zA g)))] s.heap.size (fun _ => [(a1, .inl (zk G 0, n, .inl (zA f))), (a2, .inl (zk G 0, n, .inl (zA f)))])) (va_A [(a1, .inl (zk G 0, n, .inl (zA f))), (a2, .inl (zk G 0, n, .inl (zA g)))] s.heap.size)) args s 0 0 (va_A [(a1, .inl (zk G 0, n, .inl (zA f))), (a2, .inl (zk G 0, n, .inl (zA g)))] s.heap.size)) (F0 m 2 ls []) := by
    intro fuel2
    induction fuel2 with
    | zero =>
      intro k k0 k1 hfu2
      exact absurd hfu2 (Nat.not_lt_zero _)
    | succ fuel2 ih2 =>
      intro k k0 k1 hfu2 H locs ls hW hl
      refine lv_iload_n (pc := 2) hx hb dX1_copyNumbers_2 rfl (lv_at hl 0 rfl) ?_
      refine lv_aload_n (pc := 3) hx hb dX1_copyNumbers_3 rfl (lv_at hl 1 rfl) ?_
      refine zw_alen (pc := 4) hx hb hW 0 0 rfl rfl dX1_copyNumbers_4 ?_
      refine zv_icmp_ge (pc := 5) (tgt := 26) hx hb dX1_copyNumbers_5 (by decide) ⟨by omega, by omega⟩ ⟨by omega, by omega⟩ (fun c5 => ?_) (fun c5 => ?_)
      · have hW := hW.exi 1 (f := zcp g f k) (g := f) rfl (fun j h0 h1 => if_pos (by omega)) rfl
        exact ze_v (pc := 26) hx hb hr hlk hW () rfl trivial rfl dX1_copyNumbers_26
      · refine lv_iload_n (pc := 8) hx hb dX1_copyNumbers_8 rfl (lv_at hl 0 rfl) ?_
        refine lv_aload_n (pc := 9) hx hb dX1_copyNumbers_9 rfl (lv_at hl 2 rfl) ?_
        refine zw_alen (pc := 10) hx hb hW 1 0 rfl rfl dX1_copyNumbers_10 ?_
        refine zv_icmp_ge (pc := 11) (tgt := 26) hx hb dX1_copyNumbers_11 (by decide) ⟨by omega, by omega⟩ ⟨by omega, by omega⟩ (fun c11 => ?_) (fun c11 => ?_)
        · have hW := hW.exi 1 (f := zcp g f k) (g := f) rfl (fun j h0 h1 => if_pos (by omega)) rfl
          exact ze_v (pc := 26) hx hb hr hlk hW () rfl trivial rfl dX1_copyNumbers_26
        · refine lv_aload_n (pc := 14) hx hb dX1_copyNumbers_14 rfl (lv_at hl 2 rfl) ?_
          refine lv_iload_n (pc := 15) hx hb dX1_copyNumbers_15 rfl (lv_at hl 0 rfl) ?_
          refine lv_aload_n (pc := 16) hx hb dX1_copyNumbers_16 rfl (lv_at hl 1 rfl) ?_
          refine lv_iload_n (pc := 17) hx hb dX1_copyNumbers_17 rfl (lv_at hl 0 rfl) ?_
          refine zw_iald (pc := 18) hx hb hW 0 rfl (by omega) (by omega) hn dX1_copyNumbers_18 ?_
          refine zw_iast (pc := 19) (ws' := [(a1, .inl (zk G 0, n, .inl (zA f))), (a2, .inl (zk G 0, n, .inl (zA (zU (zcp g f k) k (f k)))))]) hx hb hW 1 rfl (by omega) (by omega) hn rfl dX1_copyNumbers_19 (fun H locs hW => ?_)
          refine zv_iinc (pc := 20) (lv' := [(2, .int (zI (k + 1))), (0, .ref a1), (1, .ref a2)]) hx hb dX1_copyNumbers_20 hl (k := 0) rfl (by decide) rfl (fun ls hl => ?_)
          rw [zcp_step] at hW
          refine lv_goto (pc := 23) (tgt := 2) hx hb dX1_copyNumbers_23 (by decide) ?_
          exact ih2 (k + 1) (by omega) (by omega) (by omega) _ _ _ hW (lv_sub hl [0, 1, 2] rfl)
  exact J2 ((((n : Int) - 0).toNat) + 1) 0 (by omega) (by omega) (Nat.lt_succ_self _) _ _ _ hW (lv_sub hl [0, 1, 2] rfl)

set_option maxHeartbeats 4000000 in
set_option maxRecDepth 100000 in
/-- copyFrom -/
theorem kX1_copyFrom (G : zG) (l : Launch) (q : Nat) (qn : Nat) (qm : Nat) (qs : Nat) (pr : Int) (di : Int) (dr : Int) (mc : Int) (sc : Int) (nm : Int → Int) (mn : Int → Int) (sn : Int → Int) (oq : Nat) (oqn : Nat) (oqm : Nat) (oqs : Nat) (opr : Int) (odi : Int) (odr : Int) (omc : Int) (osc : Int) (onm : Int → Int) (omn : Int → Int) (osn : Int → Int) : zM G l yX1_copyFrom wsX1_copyFrom { frames := 1, cells := 0, slots := 0, locals := 22 } [.ref q, .ref oq] [(q, .inr (1, [.int (zI pr), .int (zI di), .int (zI dr), .int (zI mc), .int (zI sc), .ref qn, .ref qm, .ref qs])), (qn, .inl (zk G 1, 6, .inr (.inl (zB nm)))), (qm, .inl (zk G 0, 36, .inl (zA mn))), (qs, .inl (zk G 0, 90, .inl (zA sn))), (oq, .inr (1, [.int (zI opr), .int (zI odi), .int (zI odr), .int (zI omc), .int (zI osc), .ref oqn, .ref oqm, .ref oqs])), (oqn, .inl (zk G 1, 6, .inr (.inl (zB onm)))), (oqm, .inl (zk G 0, 36, .inl (zA omn))), (oqs, .inl (zk G 0, 90, .inl (zA osn)))] (S := Unit) zrv (fun _ => True) (fun _ => [(q, .inr (1, [.int (zI opr), .int (zI odi), .int (zI odr), .int (zI omc), .int (zI osc), .ref qn, .ref qm, .ref qs])), (qn, .inl (zk G 1, 6, .inr (.inl (zB onm)))), (qm, .inl (zk G 0, 36, .inl (zA omn))), (qs, .inl (zk G 0, 90, .inl (zA osn))), (oq, .inr (1, [.int (zI opr), .int (zI odi), .int (zI odr), .int (zI omc), .int (zI osc), .ref oqn, .ref oqm, .ref oqs])), (oqn, .inl (zk G 1, 6, .inr (.inl (zB onm)))), (oqm, .inl (zk G 0, 36, .inl (zA omn))), (oqs, .inl (zk G 0, 90, .inl (zA osn)))]) 0 0 := by
  refine zM.of (cc := cX1_copyFrom) (maxL := 3) (ret := none) (by decide) rfl (Nat.le_of_ble_eq_true rfl) (l0 := [(0, .ref q), (1, .ref oq)]) rfl ?_
  intro p e s m args below meth c ls F hr hlk hnm hW hl
  obtain ⟨hx, hb, hml, hown, hts⟩ := id F
  have hin1 : ∀ w ∈ wsX10, w ∈ wsX1_copyFrom := fun _ h => List.mem_cons_of_mem _ (List.mem_append_right _ (h))
  refine lv_aload_n (pc := 0) hx hb dX1_copyFrom_0 rfl (lv_at hl 0 rfl) ?_
  refine lv_aload_n (pc := 1) hx hb dX1_copyFrom_1 rfl (lv_at hl 1 rfl) ?_
  refine zw_get (pc := 2) (ref := RX1) (index := 9) hx hb hts hin1 hown hW 4 rfl rfl 0 (by decide) (List.mem_of_getElem? (i := 1) rfl) (fun _ h9 => h9) rfl dX1_copyFrom_2 ?_
  refine zw_put (pc := 5) (ws' := [(q, .inr (1, [.int (zI opr), .int (zI di), .int (zI dr), .int (zI mc), .int (zI sc), .ref qn, .ref qm, .ref qs])), (qn, .inl (zk G 1, 6, .inr (.inl (zB nm)))), (qm, .inl (zk G 0, 36, .inl (zA mn))), (qs, .inl (zk G 0, 90, .inl (zA sn))), (oq, .inr (1, [.int (zI opr), .int (zI odi), .int (zI odr), .int (zI omc), .int (zI osc), .ref oqn, .ref oqm, .ref oqs])), (oqn, .inl (zk G 1, 6, .inr (.inl (zB onm)))), (oqm, .inl (zk G 0, 36, .inl (zA omn))), (oqs, .inl (zk G 0, 90, .inl (zA osn)))]) (ref := RX1) (index := 9) hx hb hts hin1 tyX1 tyX1_ok nmX1 hown hW 0 rfl rfl 0 (by decide) (List.mem_of_getElem? (i := 1) rfl) (fun _ h9 => h9) rfl (tyX1_ok 0 (by decide)) rfl rfl (Nat.le_of_ble_eq_true rfl) rfl dX1_copyFrom_5 (fun H locs hW => ?_)
  refine lv_aload_n (pc := 8) hx hb dX1_copyFrom_8 rfl (lv_at hl 0 rfl) ?_
  refine lv_aload_n (pc := 9) hx hb dX1_copyFrom_9 rfl (lv_at hl 1 rfl) ?_
  refine zw_get (pc := 10) (ref := RX1) (index := 26) hx hb hts hin1 hown hW 4 rfl rfl 1 (by decide) (List.mem_of_getElem? (i := 2) rfl) (fun _ h9 => h9) rfl dX1_copyFrom_10 ?_
  refine zw_put (pc := 13) (ws' := [(q, .inr (1, [.int (zI opr), .int (zI odi), .int (zI dr), .int (zI mc), .int (zI sc), .ref qn, .ref qm, .ref qs])), (qn, .inl (zk G 1, 6, .inr (.inl (zB nm)))), (qm, .inl (zk G 0, 36, .inl (zA mn))), (qs, .inl (zk G 0, 90, .inl (zA sn))), (oq, .inr (1, [.int (zI opr), .int (zI odi), .int (zI odr), .int (zI omc), .int (zI osc), .ref oqn, .ref oqm, .ref oqs])), (oqn, .inl (zk G 1, 6, .inr (.inl (zB onm)))), (oqm, .inl (zk G 0, 36, .inl (zA omn))), (oqs, .inl (zk G 0, 90, .inl (zA osn)))]) (ref := RX1) (index := 26) hx hb hts hin1 tyX1 tyX1_ok nmX1 hown hW 0 rfl rfl 1 (by decide) (List.mem_of_getElem? (i := 2) rfl) (fun _ h9 => h9) rfl (tyX1_ok 1 (by decide)) rfl rfl (Nat.le_of_ble_eq_true rfl) rfl dX1_copyFrom_13 (fun H locs hW => ?_)
  refine lv_aload_n (pc := 16) hx hb dX1_copyFrom_16 rfl (lv_at hl 0 rfl) ?_
  refine lv_aload_n (pc := 17) hx hb dX1_copyFrom_17 rfl (lv_at hl 1 rfl) ?_
  refine zw_get (pc := 18) (ref := RX1) (index := 29) hx hb hts hin1 hown hW 4 rfl rfl 2 (by decide) (List.mem_of_getElem? (i := 3) rfl) (fun _ h9 => h9) rfl dX1_copyFrom_18 ?_
  refine zw_put (pc := 21) (ws' := [(q, .inr (1, [.int (zI opr), .int (zI odi), .int (zI odr), .int (zI mc), .int (zI sc), .ref qn, .ref qm, .ref qs])), (qn, .inl (zk G 1, 6, .inr (.inl (zB nm)))), (qm, .inl (zk G 0, 36, .inl (zA mn))), (qs, .inl (zk G 0, 90, .inl (zA sn))), (oq, .inr (1, [.int (zI opr), .int (zI odi), .int (zI odr), .int (zI omc), .int (zI osc), .ref oqn, .ref oqm, .ref oqs])), (oqn, .inl (zk G 1, 6, .inr (.inl (zB onm)))), (oqm, .inl (zk G 0, 36, .inl (zA omn))), (oqs, .inl (zk G 0, 90, .inl (zA osn)))]) (ref := RX1) (index := 29) hx hb hts hin1 tyX1 tyX1_ok nmX1 hown hW 0 rfl rfl 2 (by decide) (List.mem_of_getElem? (i := 3) rfl) (fun _ h9 => h9) rfl (tyX1_ok 2 (by decide)) rfl rfl (Nat.le_of_ble_eq_true rfl) rfl dX1_copyFrom_21 (fun H locs hW => ?_)
  refine lv_aload_n (pc := 24) hx hb dX1_copyFrom_24 rfl (lv_at hl 0 rfl) ?_
  refine lv_aload_n (pc := 25) hx hb dX1_copyFrom_25 rfl (lv_at hl 1 rfl) ?_
  refine zw_get (pc := 26) (ref := RX1) (index := 32) hx hb hts hin1 hown hW 4 rfl rfl 3 (by decide) (List.mem_of_getElem? (i := 4) rfl) (fun _ h9 => h9) rfl dX1_copyFrom_26 ?_
  refine zw_put (pc := 29) (ws' := [(q, .inr (1, [.int (zI opr), .int (zI odi), .int (zI odr), .int (zI omc), .int (zI sc), .ref qn, .ref qm, .ref qs])), (qn, .inl (zk G 1, 6, .inr (.inl (zB nm)))), (qm, .inl (zk G 0, 36, .inl (zA mn))), (qs, .inl (zk G 0, 90, .inl (zA sn))), (oq, .inr (1, [.int (zI opr), .int (zI odi), .int (zI odr), .int (zI omc), .int (zI osc), .ref oqn, .ref oqm, .ref oqs])), (oqn, .inl (zk G 1, 6, .inr (.inl (zB onm)))), (oqm, .inl (zk G 0, 36, .inl (zA omn))), (oqs, .inl (zk G 0, 90, .inl (zA osn)))]) (ref := RX1) (index := 32) hx hb hts hin1 tyX1 tyX1_ok nmX1 hown hW 0 rfl rfl 3 (by decide) (List.mem_of_getElem? (i := 4) rfl) (fun _ h9 => h9) rfl (tyX1_ok 3 (by decide)) rfl rfl (Nat.le_of_ble_eq_true rfl) rfl dX1_copyFrom_29 (fun H locs hW => ?_)
  refine lv_aload_n (pc := 32) hx hb dX1_copyFrom_32 rfl (lv_at hl 0 rfl) ?_
  refine lv_aload_n (pc := 33) hx hb dX1_copyFrom_33 rfl (lv_at hl 1 rfl) ?_
  refine zw_get (pc := 34) (ref := RX1) (index := 35) hx hb hts hin1 hown hW 4 rfl rfl 4 (by decide) (List.mem_of_getElem? (i := 5) rfl) (fun _ h9 => h9) rfl dX1_copyFrom_34 ?_
  refine zw_put (pc := 37) (ws' := [(q, .inr (1, [.int (zI opr), .int (zI odi), .int (zI odr), .int (zI omc), .int (zI osc), .ref qn, .ref qm, .ref qs])), (qn, .inl (zk G 1, 6, .inr (.inl (zB nm)))), (qm, .inl (zk G 0, 36, .inl (zA mn))), (qs, .inl (zk G 0, 90, .inl (zA sn))), (oq, .inr (1, [.int (zI opr), .int (zI odi), .int (zI odr), .int (zI omc), .int (zI osc), .ref oqn, .ref oqm, .ref oqs])), (oqn, .inl (zk G 1, 6, .inr (.inl (zB onm)))), (oqm, .inl (zk G 0, 36, .inl (zA omn))), (oqs, .inl (zk G 0, 90, .inl (zA osn)))]) (ref := RX1) (index := 35) hx hb hts hin1 tyX1 tyX1_ok nmX1 hown hW 0 rfl rfl 4 (by decide) (List.mem_of_getElem? (i := 5) rfl) (fun _ h9 => h9) rfl (tyX1_ok 4 (by decide)) rfl rfl (Nat.le_of_ble_eq_true rfl) rfl dX1_copyFrom_37 (fun H locs hW => ?_)
  have hW := hW.exj 1 (f := nm) (g := zcp nm onm 0) rfl (fun j h0 _ => (if_neg (by omega)).symm) rfl
  refine zv_iconst (pc := 40) (n := 0) hx hb dX1_copyFrom_40 ?_
  refine lv_istore_n (pc := 41) (lv' := [(2, .int (zI 0)), (0, .ref q), (1, .ref oq)]) hx hb dX1_copyFrom_41 rfl hl (by decide) rfl (fun ls hl => ?_)
  have J42 : ∀ (fuel42 : Nat) (k : Int) (k0 : 0 ≤ k) (k1 : k ≤ 6) (hfu42 : (6 - k).toNat < fuel42) (H : Heap) (locs : List Loc) (ls : Array Slot) (hW : zW G (va_A [(q, .inr (1, [.int (zI pr), .int (zI di), .int (zI dr), .int (zI mc), .int (zI sc), .ref qn, .ref qm, .ref qs])), (qn, .inl (zk G 1, 6, .inr (.inl (zB nm)))), (qm, .inl (zk G 0, 36, .inl (zA mn))), (qs, .inl (zk G 0, 90, .inl (zA sn))), (oq, .inr (1, [.int (zI opr), .int (zI odi), .int (zI odr), .int (zI omc), .int (zI osc), .ref oqn, .ref oqm, .ref oqs])), (oqn, .inl (zk G 1, 6, .inr (.inl (zB onm)))), (oqm, .inl (zk G 0, 36, .inl (zA omn))), (oqs, .inl (zk G 0, 90, .inl (zA osn)))] s.heap.size) s H locs [(q, .inr (1, [.int (zI opr), .int (zI odi), .int (zI odr), .int (zI omc), .int (zI osc), .ref qn, .ref qm, .ref qs])), (qn, .inl (zk G 1, 6, .inr (.inl (zB (zcp nm onm k))))), (qm, .inl (zk G 0, 36, .inl (zA mn))), (qs, .inl (zk G 0, 90, .inl (zA sn))), (oq, .inr (1, [.int (zI opr), .int (zI odi), .int (zI odr), .int (zI omc), .int (zI osc), .ref oqn, .ref oqm, .ref oqs])), (oqn, .inl (zk G 1, 6, .inr (.inl (zB onm)))), (oqm, .inl (zk G 0, 36, .inl (zA omn))), (oqs, .inl (zk G 0, 90, .inl (zA osn)))]) (hl : lv_has ls 3 [(2, .int (zI k)), (0, .ref q), (1, .ref oq)]), W p l e ({ frames := 1, cells := 0, slots := 0, locals := 22 } : Room) s m args below meth c H locs 0 0 (MQ below (zQ (S := Unit) zrv (fun _ => True) (zPost G [(q, .inr (1, [.int (zI pr), .int (zI di), .int (zI dr), .int (zI mc), .int (zI sc), .ref qn, .ref qm, .ref qs])), (qn, .inl (zk G 1, 6, .inr (.inl (zB nm)))), (qm, .inl (zk G 0, 36, .inl (zA mn))), (qs, .inl (zk G 0, 90, .inl (zA sn))), (oq, .inr (1, [.int (zI opr), .int (zI odi), .int (zI odr), .int (zI omc), .int (zI osc), .ref oqn, .ref oqm, .ref oqs])), (oqn, .inl (zk G 1, 6, .inr (.inl (zB onm)))), (oqm, .inl (zk G 0, 36, .inl (zA omn))), (oqs, .inl (zk G 0, 90, .inl (zA osn)))] s.heap.size (fun _ => [(q, .inr (1, [.int (zI opr), .int (zI odi), .int (zI odr), .int (zI omc), .int (zI osc), .ref qn, .ref qm, .ref qs])), (qn, .inl (zk G 1, 6, .inr (.inl (zB onm)))), (qm, .inl (zk G 0, 36, .inl (zA omn))), (qs, .inl (zk G 0, 90, .inl (zA osn))), (oq, .inr (1, [.int (zI opr), .int (zI odi), .int (zI odr), .int (zI omc), .int (zI osc), .ref oqn, .ref oqm, .ref oqs])), (oqn, .inl (zk G 1, 6, .inr (.inl (zB onm)))), (oqm, .inl (zk G 0, 36, .inl (zA omn))), (oqs, .inl (zk G 0, 90, .inl (zA osn)))])) (va_A [(q, .inr (1, [.int (zI pr), .int (zI di), .int (zI dr), .int (zI mc), .int (zI sc), .ref qn, .ref qm, .ref qs])), (qn, .inl (zk G 1, 6, .inr (.inl (zB nm)))), (qm, .inl (zk G 0, 36, .inl (zA mn))), (qs, .inl (zk G 0, 90, .inl (zA sn))), (oq, .inr (1, [.int (zI opr), .int (zI odi), .int (zI odr), .int (zI omc), .int (zI osc), .ref oqn, .ref oqm, .ref oqs])), (oqn, .inl (zk G 1, 6, .inr (.inl (zB onm)))), (oqm, .inl (zk G 0, 36, .inl (zA omn))), (oqs, .inl (zk G 0, 90, .inl (zA osn)))] s.heap.size)) args s 0 0 (va_A [(q, .inr (1, [.int (zI pr), .int (zI di), .int (zI dr), .int (zI mc), .int (zI sc), .ref qn, .ref qm, .ref qs])), (qn, .inl (zk G 1, 6, .inr (.inl (zB nm)))), (qm, .inl (zk G 0, 36, .inl (zA mn))), (qs, .inl (zk G 0, 90, .inl (zA sn))), (oq, .inr (1, [.int (zI opr), .int (zI odi), .int (zI odr), .int (zI omc), .int (zI osc), .ref oqn, .ref oqm, .ref oqs])), (oqn, .inl (zk G 1, 6, .inr (.inl (zB onm)))), (oqm, .inl (zk G 0, 36, .inl (zA omn))), (oqs, .inl (zk G 0, 90, .inl (zA osn)))] s.heap.size)) (F0 m 42 ls []) := by
    intro fuel42
    induction fuel42 with
    | zero =>
      intro k k0 k1 hfu42
      exact absurd hfu42 (Nat.not_lt_zero _)
    | succ fuel42 ih42 =>
      intro k k0 k1 hfu42 H locs ls hW hl
      refine lv_iload_n (pc := 42) hx hb dX1_copyFrom_42 rfl (lv_at hl 0 rfl) ?_
      refine lv_aload_n (pc := 43) hx hb dX1_copyFrom_43 rfl (lv_at hl 1 rfl) ?_
      refine zw_get (pc := 44) (ref := RX1) (index := 15) hx hb hts hin1 hown hW 0 rfl rfl 5 (by decide) (List.mem_of_getElem? (i := 6) rfl) (fun _ h9 => h9) rfl dX1_copyFrom_44 ?_
      refine zw_alen (pc := 47) hx hb hW 1 1 rfl rfl dX1_copyFrom_47 ?_
      refine zv_as (b := 6) (pc := 48) rfl ?_
      refine zv_icmp_ge (pc := 48) (tgt := 78) hx hb dX1_copyFrom_48 (by decide) ⟨by omega, by omega⟩ ⟨by omega, by omega⟩ (fun c48 => ?_) (fun c48 => ?_)
      · have hW := hW.exj 1 (f := zcp nm onm k) (g := onm) rfl (fun j h0 h1 => if_pos (by omega)) rfl
        refine lv_aload_n (pc := 78) hx hb dX1_copyFrom_78 rfl (lv_at hl 2 rfl) ?_
        refine zw_get (pc := 79) (ref := RX1) (index := 19) hx hb hts hin1 hown hW 4 rfl rfl 6 (by decide) (List.mem_of_getElem? (i := 7) rfl) (fun _ h9 => h9) rfl dX1_copyFrom_79 ?_
        refine lv_aload_n (pc := 82) hx hb dX1_copyFrom_82 rfl (lv_at hl 1 rfl) ?_
        refine zw_get (pc := 83) (ref := RX1) (index := 19) hx hb hts hin1 hown hW 0 rfl rfl 6 (by decide) (List.mem_of_getElem? (i := 7) rfl) (fun _ h9 => h9) rfl dX1_copyFrom_83 ?_
        refine z_S (pc := 86) (As := [.ref oqm, .ref qm]) (rest := []) (wn := (fun _ => [(q, .inr (1, [.int (zI opr), .int (zI odi), .int (zI odr), .int (zI omc), .int (zI osc), .ref qn, .ref qm, .ref qs])), (qn, .inl (zk G 1, 6, .inr (.inl (zB onm)))), (qm, .inl (zk G 0, 36, .inl (zA omn))), (qs, .inl (zk G 0, 90, .inl (zA sn))), (oq, .inr (1, [.int (zI opr), .int (zI odi), .int (zI odr), .int (zI omc), .int (zI osc), .ref oqn, .ref oqm, .ref oqs])), (oqn, .inl (zk G 1, 6, .inr (.inl (zB onm)))), (oqm, .inl (zk G 0, 36, .inl (zA omn))), (oqs, .inl (zk G 0, 90, .inl (zA osn)))])) (wr := [(q, .inr (1, [.int (zI opr), .int (zI odi), .int (zI odr), .int (zI omc), .int (zI osc), .ref qn, .ref qm, .ref qs])), (qn, .inl (zk G 1, 6, .inr (.inl (zB onm)))), (qs, .inl (zk G 0, 90, .inl (zA sn))), (oq, .inr (1, [.int (zI opr), .int (zI odi), .int (zI odr), .int (zI omc), .int (zI osc), .ref oqn, .ref oqm, .ref oqs])), (oqn, .inl (zk G 1, 6, .inr (.inl (zB onm)))), (oqs, .inl (zk G 0, 90, .inl (zA osn)))]) F (kX1_copyNumbers G l oqm qm 36 omn mn (by first | assumption | omega)) (va_cwS 2 hts gX1_copyFrom_X1_copyNumbers rfl rfl rfl (by decide +kernel) ⟨Nat.le_of_ble_eq_true rfl, Nat.le_of_ble_eq_true rfl⟩) hW [6, 2] [0, 1, 3, 4, 5, 7] (by decide) rfl rfl rfl (by decide) (by decide) [0, 1, 7, 2, 3, 4, 6, 5] (by decide) (fun _ => rfl) (fun _ => rfl) rfl hl.1 rfl (Nat.le_of_ble_eq_true rfl) dX1_copyFrom_86 ⟨Nat.le_of_ble_eq_true rfl, Nat.le_of_ble_eq_true rfl⟩ (fun _ H locs _ hW => ?_)
        refine lv_aload_n (pc := 89) hx hb dX1_copyFrom_89 rfl (lv_at hl 2 rfl) ?_
        refine zw_get (pc := 90) (ref := RX1) (index := 23) hx hb hts hin1 hown hW 4 rfl rfl 7 (by decide) (List.mem_of_getElem? (i := 8) rfl) (fun _ h9 => h9) rfl dX1_copyFrom_90 ?_
        refine lv_aload_n (pc := 93) hx hb dX1_copyFrom_93 rfl (lv_at hl 1 rfl) ?_
        refine zw_get (pc := 94) (ref := RX1) (index := 23) hx hb hts hin1 hown hW 0 rfl rfl 7 (by decide) (List.mem_of_getElem? (i := 8) rfl) (fun _ h9 => h9) rfl dX1_copyFrom_94 ?_
        refine z_S (pc := 97) (As := [.ref oqs, .ref qs]) (rest := []) (wn := (fun _ => [(q, .inr (1, [.int (zI opr), .int (zI odi), .int (zI odr), .int (zI omc), .int (zI osc), .ref qn, .ref qm, .ref qs])), (qn, .inl (zk G 1, 6, .inr (.inl (zB onm)))), (qm, .inl (zk G 0, 36, .inl (zA omn))), (qs, .inl (zk G 0, 90, .inl (zA osn))), (oq, .inr (1, [.int (zI opr), .int (zI odi), .int (zI odr), .int (zI omc), .int (zI osc), .ref oqn, .ref oqm, .ref oqs])), (oqn, .inl (zk G 1, 6, .inr (.inl (zB onm)))), (oqm, .inl (zk G 0, 36, .inl (zA omn))), (oqs, .inl (zk G 0, 90, .inl (zA osn)))])) (wr := [(q, .inr (1, [.int (zI opr), .int (zI odi), .int (zI odr), .int (zI omc), .int (zI osc), .ref qn, .ref qm, .ref qs])), (qn, .inl (zk G 1, 6, .inr (.inl (zB onm)))), (qm, .inl (zk G 0, 36, .inl (zA omn))), (oq, .inr (1, [.int (zI opr), .int (zI odi), .int (zI odr), .int (zI omc), .int (zI osc), .ref oqn, .ref oqm, .ref oqs])), (oqn, .inl (zk G 1, 6, .inr (.inl (zB onm)))), (oqm, .inl (zk G 0, 36, .inl (zA omn)))]) F (kX1_copyNumbers G l oqs qs 90 osn sn (by first | assumption | omega)) (va_cwS 2 hts gX1_copyFrom_X1_copyNumbers rfl rfl rfl (by decide +kernel) ⟨Nat.le_of_ble_eq_true rfl, Nat.le_of_ble_eq_true rfl⟩) hW [7, 3] [0, 1, 2, 4, 5, 6] (by decide) rfl rfl rfl (by decide) (by decide) [0, 1, 2, 7, 3, 4, 5, 6] (by decide) (fun _ => rfl) (fun _ => rfl) rfl hl.1 rfl (Nat.le_of_ble_eq_true rfl) dX1_copyFrom_97 ⟨Nat.le_of_ble_eq_true rfl, Nat.le_of_ble_eq_true rfl⟩ (fun _ H locs _ hW => ?_)
        exact ze_v (pc := 100) hx hb hr hlk hW () rfl trivial rfl dX1_copyFrom_100
      · refine lv_iload_n (pc := 51) hx hb dX1_copyFrom_51 rfl (lv_at hl 0 rfl) ?_
        refine lv_aload_n (pc := 52) hx hb dX1_copyFrom_52 rfl (lv_at hl 2 rfl) ?_
        refine zw_get (pc := 53) (ref := RX1) (index := 15) hx hb hts hin1 hown hW 4 rfl rfl 5 (by decide) (List.mem_of_getElem? (i := 6) rfl) (fun _ h9 => h9) rfl dX1_copyFrom_53 ?_
        refine zw_alen (pc := 56) hx hb hW 5 1 rfl rfl dX1_copyFrom_56 ?_
        refine zv_as (b := 6) (pc := 57) rfl ?_
        refine zv_icmp_ge (pc := 57) (tgt := 78) hx hb dX1_copyFrom_57 (by decide) ⟨by omega, by omega⟩ ⟨by omega, by omega⟩ (fun c57 => ?_) (fun c57 => ?_)
        · have hW := hW.exj 1 (f := zcp nm onm k) (g := onm) rfl (fun j h0 h1 => if_pos (by omega)) rfl
          refine lv_aload_n (pc := 78) hx hb dX1_copyFrom_78 rfl (lv_at hl 2 rfl) ?_
          refine zw_get (pc := 79) (ref := RX1) (index := 19) hx hb hts hin1 hown hW 4 rfl rfl 6 (by decide) (List.mem_of_getElem? (i := 7) rfl) (fun _ h9 => h9) rfl dX1_copyFrom_79 ?_
          refine lv_aload_n (pc := 82) hx hb dX1_copyFrom_82 rfl (lv_at hl 1 rfl) ?_
          refine zw_get (pc := 83) (ref := RX1) (index := 19) hx hb hts hin1 hown hW 0 rfl rfl 6 (by decide) (List.mem_of_getElem? (i := 7) rfl) (fun _ h9 => h9) rfl dX1_copyFrom_83 ?_
          refine z_S (pc := 86) (As := [.ref oqm, .ref qm]) (rest := []) (wn := (fun _ => [(q, .inr (1, [.int (zI opr), .int (zI odi), .int (zI odr), .int (zI omc), .int (zI osc), .ref qn, .ref qm, .ref qs])), (qn, .inl (zk G 1, 6, .inr (.inl (zB onm)))), (qm, .inl (zk G 0, 36, .inl (zA omn))), (qs, .inl (zk G 0, 90, .inl (zA sn))), (oq, .inr (1, [.int (zI opr), .int (zI odi), .int (zI odr), .int (zI omc), .int (zI osc), .ref oqn, .ref oqm, .ref oqs])), (oqn, .inl (zk G 1, 6, .inr (.inl (zB onm)))), (oqm, .inl (zk G 0, 36, .inl (zA omn))), (oqs, .inl (zk G 0, 90, .inl (zA osn)))])) (wr := [(q, .inr (1, [.int (zI opr), .int (zI odi), .int (zI odr), .int (zI omc), .int (zI osc), .ref qn, .ref qm, .ref qs])), (qn, .inl (zk G 1, 6, .inr (.inl (zB onm)))), (qs, .inl (zk G 0, 90, .inl (zA sn))), (oq, .inr (1, [.int (zI opr), .int (zI odi), .int (zI odr), .int (zI omc), .int (zI osc), .ref oqn, .ref oqm, .ref oqs])), (oqn, .inl (zk G 1, 6, .inr (.inl (zB onm)))), (oqs, .inl (zk G 0, 90, .inl (zA osn)))]) F (kX1_copyNumbers G l oqm qm 36 omn mn (by first | assumption | omega)) (va_cwS 2 hts gX1_copyFrom_X1_copyNumbers rfl rfl rfl (by decide +kernel) ⟨Nat.le_of_ble_eq_true rfl, Nat.le_of_ble_eq_true rfl⟩) hW [6, 2] [0, 1, 3, 4, 5, 7] (by decide) rfl rfl rfl (by decide) (by decide) [0, 1, 7, 2, 3, 4, 6, 5] (by decide) (fun _ => rfl) (fun _ => rfl) rfl hl.1 rfl (Nat.le_of_ble_eq_true rfl) dX1_copyFrom_86 ⟨Nat.le_of_ble_eq_true rfl, Nat.le_of_ble_eq_true rfl⟩ (fun _ H locs _ hW => ?_)
          refine lv_aload_n (pc := 89) hx hb dX1_copyFrom_89 rfl (lv_at hl 2 rfl) ?_
          refine zw_get (pc := 90) (ref := RX1) (index := 23) hx hb hts hin1 hown hW 4 rfl rfl 7 (by decide) (List.mem_of_getElem? (i := 8) rfl) (fun _ h9 => h9) rfl dX1_copyFrom_90 ?_
          refine lv_aload_n (pc := 93) hx hb dX1_copyFrom_93 rfl (lv_at hl 1 rfl) ?_
          refine zw_get (pc := 94) (ref := RX1) (index := 23) hx hb hts hin1 hown hW 0 rfl rfl 7 (by decide) (List.mem_of_getElem? (i := 8) rfl) (fun _ h9 => h9) rfl dX1_copyFrom_94 ?_
          refine z_S (pc := 97) (As := [.ref oqs, .ref qs]) (rest := []) (wn := (fun _ => [(q, .inr (1, [.int (zI opr), .int (zI odi), .int (zI odr), .int (zI omc), .int (zI osc), .ref qn, .ref qm, .ref qs])), (qn, .inl (zk G 1, 6, .inr (.inl (zB onm)))), (qm, .inl (zk G 0, 36, .inl (zA omn))), (qs, .inl (zk G 0, 90, .inl (zA osn))), (oq, .inr (1, [.int (zI opr), .int (zI odi), .int (zI odr), .int (zI omc), .int (zI osc), .ref oqn, .ref oqm, .ref oqs])), (oqn, .inl (zk G 1, 6, .inr (.inl (zB onm)))), (oqm, .inl (zk G 0, 36, .inl (zA omn))), (oqs, .inl (zk G 0, 90, .inl (zA osn)))])) (wr := [(q, .inr (1, [.int (zI opr), .int (zI odi), .int (zI odr), .int (zI omc), .int (zI osc), .ref qn, .ref qm, .ref qs])), (qn, .inl (zk G 1, 6, .inr (.inl (zB onm)))), (qm, .inl (zk G 0, 36, .inl (zA omn))), (oq, .inr (1, [.int (zI opr), .int (zI odi), .int (zI odr), .int (zI omc), .int (zI osc), .ref oqn, .ref oqm, .ref oqs])), (oqn, .inl (zk G 1, 6, .inr (.inl (zB onm)))), (oqm, .inl (zk G 0, 36, .inl (zA omn)))]) F (kX1_copyNumbers G l oqs qs 90 osn sn (by first | assumption | omega)) (va_cwS 2 hts gX1_copyFrom_X1_copyNumbers rfl rfl rfl (by decide +kernel) ⟨Nat.le_of_ble_eq_true rfl, Nat.le_of_ble_eq_true rfl⟩) hW [7, 3] [0, 1, 2, 4, 5, 6] (by decide) rfl rfl rfl (by decide) (by decide) [0, 1, 2, 7, 3, 4, 5, 6] (by decide) (fun _ => rfl) (fun _ => rfl) rfl hl.1 rfl (Nat.le_of_ble_eq_true rfl) dX1_copyFrom_97 ⟨Nat.le_of_ble_eq_true rfl, Nat.le_of_ble_eq_true rfl⟩ (fun _ H locs _ hW => ?_)
          exact ze_v (pc := 100) hx hb hr hlk hW () rfl trivial rfl dX1_copyFrom_100
        · refine lv_aload_n (pc := 60) hx hb dX1_copyFrom_60 rfl (lv_at hl 1 rfl) ?_
          refine zw_get (pc := 61) (ref := RX1) (index := 15) hx hb hts hin1 hown hW 0 rfl rfl 5 (by decide) (List.mem_of_getElem? (i := 6) rfl) (fun _ h9 => h9) rfl dX1_copyFrom_61 ?_
          refine lv_iload_n (pc := 64) hx hb dX1_copyFrom_64 rfl (lv_at hl 0 rfl) ?_
          refine lv_aload_n (pc := 65) hx hb dX1_copyFrom_65 rfl (lv_at hl 2 rfl) ?_
          refine zw_get (pc := 66) (ref := RX1) (index := 15) hx hb hts hin1 hown hW 4 rfl rfl 5 (by decide) (List.mem_of_getElem? (i := 6) rfl) (fun _ h9 => h9) rfl dX1_copyFrom_66 ?_
          refine lv_iload_n (pc := 69) hx hb dX1_copyFrom_69 rfl (lv_at hl 0 rfl) ?_
          refine zw_lald (pc := 70) hx hb hW 5 rfl (by omega) (by omega) (by decide) dX1_copyFrom_70 ?_
          refine zw_last (pc := 71) (ws' := [(q, .inr (1, [.int (zI opr), .int (zI odi), .int (zI odr), .int (zI omc), .int (zI osc), .ref qn, .ref qm, .ref qs])), (qn, .inl (zk G 1, 6, .inr (.inl (zB (zU (zcp nm onm k) k (onm k)))))), (qm, .inl (zk G 0, 36, .inl (zA mn))), (qs, .inl (zk G 0, 90, .inl (zA sn))), (oq, .inr (1, [.int (zI opr), .int (zI odi), .int (zI odr), .int (zI omc), .int (zI osc), .ref oqn, .ref oqm, .ref oqs])), (oqn, .inl (zk G 1, 6, .inr (.inl (zB onm)))), (oqm, .inl (zk G 0, 36, .inl (zA omn))), (oqs, .inl (zk G 0, 90, .inl (zA osn)))]) hx hb hW 1 rfl (by omega) (by omega) (by decide) rfl dX1_copyFrom_71 (fun H locs hW => ?_)
          refine zv_iinc (pc := 72) (lv' := [(2, .int (zI (k + 1))), (0, .ref q), (1, .ref oq)]) hx hb dX1_copyFrom_72 hl (k := 0) rfl (by decide) rfl (fun ls hl => ?_)
          rw [zcp_step] at hW
          refine lv_goto (pc := 75) (tgt := 42) hx hb dX1_copyFrom_75 (by decide) ?_
          exact ih42 (k + 1) (by omega) (by omega) (by omega) _ _ _ hW (lv_sub hl [0, 1, 2] rfl)
  exact J42 (((6 - 0 : Int).toNat) + 1) 0 (by omega) (by omega) (Nat.lt_succ_self _) _ _ _ hW (lv_sub hl [0, 1, 2] rfl)

set_option maxHeartbeats 4000000 in
set_option maxRecDepth 100000 in
/-- dropSight -/
theorem kX1_dropSight (G : zG) (l : Launch) (q : Nat) (qn : Nat) (qm : Nat) (qs : Nat) (pr : Int) (di : Int) (dr : Int) (mc : Int) (sc : Int) (sn : Int → Int) (dd : Int) (h0 : 0 ≤ dd) (h1 : dd < sc) (h2 : sc ≤ 30) : zM G l yX1_dropSight wsX1_dropSight { frames := 1, cells := 0, slots := 0, locals := 24 } [.ref q, .int (zI dd)] [(q, .inr (1, [.int (zI pr), .int (zI di), .int (zI dr), .int (zI mc), .int (zI sc), .ref qn, .ref qm, .ref qs])), (qs, .inl (zk G 0, 90, .inl (zA sn)))] (S := Unit) zrv (fun _ => True) (fun _ => [(q, .inr (1, [.int (zI pr), .int (zI di), .int (zI dr), .int (zI mc), .int (zI (sc - 1)), .ref qn, .ref qm, .ref qs])), (qs, .inl (zk G 0, 90, .inl (zA (zdrop sn dd sc))))]) 0 0 := by
  refine zM.of (cc := cX1_dropSight) (maxL := 4) (ret := none) (by decide) rfl (Nat.le_of_ble_eq_true rfl) (l0 := [(0, .ref q), (1, .int (zI dd))]) rfl ?_
  intro p e s m args below meth c ls F hr hlk hnm hW hl
  obtain ⟨hx, hb, hml, hown, hts⟩ := id F
  have hin1 : ∀ w ∈ wsX10, w ∈ wsX1_dropSight := fun _ h => List.mem_cons_of_mem _ (List.mem_append_right _ (h))
  have hW := hW.exi 1 (f := sn) (g := zdr sn dd (dd * 3)) rfl (fun j h0 _ => (if_neg (by omega)).symm) rfl
  refine lv_iload_n (pc := 0) hx hb dX1_dropSight_0 rfl (lv_at hl 1 rfl) ?_
  refine lv_istore_n (pc := 1) (lv' := [(2, .int (zI dd)), (0, .ref q), (1, .int (zI dd))]) hx hb dX1_dropSight_1 rfl hl (by decide) rfl (fun ls hl => ?_)
  have J2 : ∀ (fuel2 : Nat) (s2 : Int) (s0 : dd ≤ s2) (s1 : s2 ≤ sc - 1) (hfu2 : (sc - s2).toNat < fuel2) (H : Heap) (locs : List Loc) (ls : Array Slot) (hW : zW G (va_A [(q, .inr (1, [.int (zI pr), .int (zI di), .int (zI dr), .int (zI mc), .int (zI sc), .ref qn, .ref qm, .ref qs])), (qs, .inl (zk G 0, 90, .inl (zA sn)))] s.heap.size) s H locs [(q, .inr (1, [.int (zI pr), .int (zI di), .int (zI dr), .int (zI mc), .int (zI sc), .ref qn, .ref qm, .ref qs])), (qs, .inl (zk G 0, 90, .inl (zA (zdr sn dd (s2 * 3)))))]) (hl : lv_has ls 4 [(2, .int (zI s2)), (0, .ref q), (1, .int (zI dd))]), W p l e ({ frames := 1, cells := 0, slots := 0, locals := 24 } : Room) s m args below meth c H locs 0 0 (MQ below (zQ (S := Unit) zrv (fun _ => True) (zPost G [(q, .inr (1, [.int (zI pr), .int (zI di), .int (zI dr), .int (zI mc), .int (zI sc), .ref qn, .ref qm, .ref qs])), (qs, .inl (zk G 0, 90, .inl (zA sn)))] s.heap.size (fun _ => [(q, .inr (1, [.int (zI pr), .int (zI di), .int (zI dr), .int (zI mc), .int (zI (sc - 1)), .ref qn, .ref qm, .ref qs])), (qs, .inl (zk G 0, 90, .inl (zA (zdrop sn dd sc))))])) (va_A [(q, .inr (1, [.int (zI pr), .int (zI di), .int (zI dr), .int (zI mc), .int (zI sc), .ref qn, .ref qm, .ref qs])), (qs, .inl (zk G 0, 90, .inl (zA sn)))] s.heap.size)) args s 0 0 (va_A [(q, .inr (1, [.int (zI pr), .int (zI di), .int (zI dr), .int (zI mc), .int (zI sc), .ref qn, .ref qm, .ref qs])), (qs, .inl (zk G 0, 90, .inl (zA sn)))] s.heap.size)) (F0 m 2 ls []) := by
    intro fuel2
    induction fuel2 with
    | zero =>
      intro s2 s0 s1 hfu2
      exact absurd hfu2 (Nat.not_lt_zero _)
    | succ fuel2 ih2 =>
      intro s2 s0 s1 hfu2 H locs ls hW hl
      refine lv_iload_n (pc := 2) hx hb dX1_dropSight_2 rfl (lv_at hl 0 rfl) ?_
      refine lv_aload_n (pc := 3) hx hb dX1_dropSight_3 rfl (lv_at hl 1 rfl) ?_
      refine zw_get (pc := 4) (ref := RX1) (index := 35) hx hb hts hin1 hown hW 0 rfl rfl 4 (by decide) (List.mem_of_getElem? (i := 1) rfl) (fun _ h9 => h9) rfl dX1_dropSight_4 ?_
      refine zv_iconst (pc := 7) (n := 1) hx hb dX1_dropSight_7 ?_
      refine zv_isub (pc := 8) hx hb dX1_dropSight_8 ?_
      refine zv_icmp_ge (pc := 9) (tgt := 45) hx hb dX1_dropSight_9 (by decide) ⟨by omega, by omega⟩ ⟨by omega, by omega⟩ (fun c9 => ?_) (fun c9 => ?_)
      · rw [show s2 = sc - 1 by omega] at hW
        refine lv_aload_n (pc := 45) hx hb dX1_dropSight_45 rfl (lv_at hl 1 rfl) ?_
        refine lv_dup (pc := 46) hx hb dX1_dropSight_46 rfl ?_
        refine zw_get (pc := 47) (ref := RX1) (index := 35) hx hb hts hin1 hown hW 0 rfl rfl 4 (by decide) (List.mem_of_getElem? (i := 1) rfl) (fun _ h9 => h9) rfl dX1_dropSight_47 ?_
        refine zv_iconst (pc := 50) (n := 1) hx hb dX1_dropSight_50 ?_
        refine zv_isub (pc := 51) hx hb dX1_dropSight_51 ?_
        refine zw_put (pc := 52) (ws' := [(q, .inr (1, [.int (zI pr), .int (zI di), .int (zI dr), .int (zI mc), .int (zI (sc - 1)), .ref qn, .ref qm, .ref qs])), (qs, .inl (zk G 0, 90, .inl (zA (zdr sn dd ((sc - 1) * 3)))))]) (ref := RX1) (index := 35) hx hb hts hin1 tyX1 tyX1_ok nmX1 hown hW 0 rfl rfl 4 (by decide) (List.mem_of_getElem? (i := 1) rfl) (fun _ h9 => h9) rfl (tyX1_ok 4 (by decide)) rfl rfl (Nat.le_of_ble_eq_true rfl) rfl dX1_dropSight_52 (fun H locs hW => ?_)
        exact ze_v (pc := 55) hx hb hr hlk hW () rfl trivial rfl dX1_dropSight_55
      · rw [show s2 * 3 = s2 * 3 + 0 from (Int.add_zero _).symm] at hW
        refine zv_iconst (pc := 12) (n := 0) hx hb dX1_dropSight_12 ?_
        refine lv_istore_n (pc := 13) (lv' := [(3, .int (zI 0)), (2, .int (zI s2)), (0, .ref q), (1, .int (zI dd))]) hx hb dX1_dropSight_13 rfl hl (by decide) rfl (fun ls hl => ?_)
        have J14 : ∀ (fuel14 : Nat) (w : Int) (w0 : 0 ≤ w) (w1 : w ≤ 3) (hfu14 : (3 - w).toNat < fuel14) (H : Heap) (locs : List Loc) (ls : Array Slot) (hW : zW G (va_A [(q, .inr (1, [.int (zI pr), .int (zI di), .int (zI dr), .int (zI mc), .int (zI sc), .ref qn, .ref qm, .ref qs])), (qs, .inl (zk G 0, 90, .inl (zA sn)))] s.heap.size) s H locs [(q, .inr (1, [.int (zI pr), .int (zI di), .int (zI dr), .int (zI mc), .int (zI sc), .ref qn, .ref qm, .ref qs])), (qs, .inl (zk G 0, 90, .inl (zA (zdr sn dd (s2 * 3 + w)))))]) (hl : lv_has ls 4 [(3, .int (zI w)), (2, .int (zI s2)), (0, .ref q), (1, .int (zI dd))]), W p l e ({ frames := 1, cells := 0, slots := 0, locals := 24 } : Room) s m args below meth c H locs 0 0 (MQ below (zQ (S := Unit) zrv (fun _ => True) (zPost G [(q, .inr (1, [.int (zI pr), .int (zI di), .int (zI dr), .int (zI mc), .int (zI sc), .ref qn, .ref qm, .ref qs])), (qs, .inl (zk G 0, 90, .inl (zA sn)))] s.heap.size (fun _ => [(q, .inr (1, [.int (zI pr), .int (zI di), .int (zI dr), .int (zI mc), .int (zI (sc - 1)), .ref qn, .ref qm, .ref qs])), (qs, .inl (zk G 0, 90, .inl (zA (zdrop sn dd sc))))])) (va_A [(q, .inr (1, [.int (zI pr), .int (zI di), .int (zI dr), .int (zI mc), .int (zI sc), .ref qn, .ref qm, .ref qs])), (qs, .inl (zk G 0, 90, .inl (zA sn)))] s.heap.size)) args s 0 0 (va_A [(q, .inr (1, [.int (zI pr), .int (zI di), .int (zI dr), .int (zI mc), .int (zI sc), .ref qn, .ref qm, .ref qs])), (qs, .inl (zk G 0, 90, .inl (zA sn)))] s.heap.size)) (F0 m 14 ls []) := by
          intro fuel14
          induction fuel14 with
          | zero =>
            intro w w0 w1 hfu14
            exact absurd hfu14 (Nat.not_lt_zero _)
          | succ fuel14 ih14 =>
            intro w w0 w1 hfu14 H locs ls hW hl
            refine lv_iload_n (pc := 14) hx hb dX1_dropSight_14 rfl (lv_at hl 0 rfl) ?_
            refine zv_iconst (pc := 15) (n := 3) hx hb dX1_dropSight_15 ?_
            refine zv_icmp_ge (pc := 16) (tgt := 39) hx hb dX1_dropSight_16 (by decide) ⟨by omega, by omega⟩ ⟨by omega, by omega⟩ (fun c16 => ?_) (fun c16 => ?_)
            · rw [show s2 * 3 + w = (s2 + 1) * 3 by omega] at hW
              refine zv_iinc (pc := 39) (lv' := [(2, .int (zI (s2 + 1))), (3, .int (zI w)), (0, .ref q), (1, .int (zI dd))]) hx hb dX1_dropSight_39 hl (k := 1) rfl (by decide) rfl (fun ls hl => ?_)
              refine lv_goto (pc := 42) (tgt := 2) hx hb dX1_dropSight_42 (by decide) ?_
              exact ih2 (s2 + 1) (by omega) (by omega) (by omega) _ _ _ hW (lv_sub hl [0, 2, 3] rfl)
            · refine lv_aload_n (pc := 19) hx hb dX1_dropSight_19 rfl (lv_at hl 2 rfl) ?_
              refine lv_iload_n (pc := 20) hx hb dX1_dropSight_20 rfl (lv_at hl 1 rfl) ?_
              refine lv_iload_n (pc := 21) hx hb dX1_dropSight_21 rfl (lv_at hl 0 rfl) ?_
              refine lv_aload_n (pc := 22) hx hb dX1_dropSight_22 rfl (lv_at hl 2 rfl) ?_
              refine lv_iload_n (pc := 23) hx hb dX1_dropSight_23 rfl (lv_at hl 1 rfl) ?_
              refine zv_iconst (pc := 24) (n := 1) hx hb dX1_dropSight_24 ?_
              refine zv_iadd (pc := 25) hx hb dX1_dropSight_25 ?_
              refine lv_iload_n (pc := 26) hx hb dX1_dropSight_26 rfl (lv_at hl 0 rfl) ?_
              refine z_V (pc := 27) (As := [.int (zI (s2 + 1)), .int (zI w)]) (rest := [.int (zI w), .int (zI s2), .ref q]) (wn := (fun _ => [(q, .inr (1, [.int (zI pr), .int (zI di), .int (zI dr), .int (zI mc), .int (zI sc), .ref qn, .ref qm, .ref qs])), (qs, .inl (zk G 0, 90, .inl (zA (zdr sn dd (s2 * 3 + w)))))])) (wr := []) F (kX1_sightNumber G l q qn qm qs pr di dr mc sc (zdr sn dd (s2 * 3 + w)) (s2 + 1) w (by first | assumption | omega) (by first | assumption | omega) (by first | assumption | omega) (by first | assumption | omega)) (cwV 2 hts gX1_dropSight_X1_sightNumber rfl rfl rfl (by decide +kernel) ⟨Nat.le_of_ble_eq_true rfl, Nat.le_of_ble_eq_true rfl⟩) hW 0 rfl rfl [0, 1] [] (by decide) rfl rfl rfl (by decide) (by decide) [0, 1] (by decide) (fun _ => rfl) (fun _ => rfl) rfl hl.1 rfl (Nat.le_of_ble_eq_true rfl) dX1_dropSight_27 ⟨Nat.le_of_ble_eq_true rfl, Nat.le_of_ble_eq_true rfl⟩ (fun _ H locs _ hW => ?_)
              show W p l e _ s m args below meth c H locs _ _ _ (F0 m 30 ls [.int (zI ((zdr sn dd (s2 * 3 + w)) ((s2 + 1) * 3 + w))), .int (zI w), .int (zI s2), .ref q])
              refine z_V (pc := 30) (As := [.int (zI s2), .int (zI w), .int (zI ((zdr sn dd (s2 * 3 + w)) ((s2 + 1) * 3 + w)))]) (rest := []) (wn := (fun _ => [(q, .inr (1, [.int (zI pr), .int (zI di), .int (zI dr), .int (zI mc), .int (zI sc), .ref qn, .ref qm, .ref qs])), (qs, .inl (zk G 0, 90, .inl (zA (zU (zdr sn dd (s2 * 3 + w)) (s2 * 3 + w) ((zdr sn dd (s2 * 3 + w)) ((s2 + 1) * 3 + w))))))])) (wr := []) F (kX1_putSightNumber G l q qn qm qs pr di dr mc sc (zdr sn dd (s2 * 3 + w)) s2 w ((zdr sn dd (s2 * 3 + w)) ((s2 + 1) * 3 + w)) (by first | assumption | omega) (by first | assumption | omega) (by first | assumption | omega) (by first | assumption | omega)) (cwV 3 hts gX1_dropSight_X1_putSightNumber rfl rfl rfl (by decide +kernel) ⟨Nat.le_of_ble_eq_true rfl, Nat.le_of_ble_eq_true rfl⟩) hW 0 rfl rfl [0, 1] [] (by decide) rfl rfl rfl (by decide) (by decide) [0, 1] (by decide) (fun _ => rfl) (fun _ => rfl) rfl hl.1 rfl (Nat.le_of_ble_eq_true rfl) dX1_dropSight_30 ⟨Nat.le_of_ble_eq_true rfl, Nat.le_of_ble_eq_true rfl⟩ (fun _ H locs _ hW => ?_)
              rw [zdr_at (show s2 * 3 + w ≤ (s2 + 1) * 3 + w by omega), show (s2 + 1) * 3 + w = s2 * 3 + w + 3 by omega, zdr_step (show dd * 3 ≤ s2 * 3 + w by omega), Int.add_assoc] at hW
              refine zv_iinc (pc := 33) (lv' := [(3, .int (zI (w + 1))), (2, .int (zI s2)), (0, .ref q), (1, .int (zI dd))]) hx hb dX1_dropSight_33 hl (k := 0) rfl (by decide) rfl (fun ls hl => ?_)
              refine lv_goto (pc := 36) (tgt := 14) hx hb dX1_dropSight_36 (by decide) ?_
              exact ih14 (w + 1) (by omega) (by omega) (by omega) _ _ _ hW (lv_sub hl [0, 1, 2, 3] rfl)
        exact J14 (((3 - 0 : Int).toNat) + 1) 0 (by omega) (by omega) (Nat.lt_succ_self _) _ _ _ hW (lv_sub hl [0, 1, 2, 3] rfl)
  exact J2 (((sc - dd : Int).toNat) + 1) dd (by omega) (by omega) (Nat.lt_succ_self _) _ _ _ hW (lv_sub hl [0, 1, 2] rfl)
