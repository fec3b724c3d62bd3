set_option maxHeartbeats 4000000 in
set_option maxRecDepth 100000 in
/-- moonNumber of a moon that there may be -/
theorem kX1_moonNumber (G : zG) (l : Launch) (q : Nat) (qn : Nat) (qm : Nat) (qs : Nat) (pr : Int) (di : Int) (dr : Int) (mc : Int) (sc : Int) (mn : Int → Int) (mo : Int) (wh : Int) (h1 : 0 ≤ mo) (h2 : mo < 6) (h3 : 0 ≤ wh) (h4 : wh < 6) : zM G l yX1_moonNumber wsX1_moonNumber { frames := 0, cells := 0, slots := 0, locals := 0 } [.ref q, .int (zI mo), .int (zI wh)] [(q, .inr (1, [.int (zI pr), .int (zI di), .int (zI dr), .int (zI mc), .int (zI sc), .ref qn, .ref qm, .ref qs])), (qm, .inl (zk G 0, 36, .inl (zA mn)))] (S := Unit) (zri (fun _ => mn (mo * 6 + wh))) (fun _ => True) (fun _ => [(q, .inr (1, [.int (zI pr), .int (zI di), .int (zI dr), .int (zI mc), .int (zI sc), .ref qn, .ref qm, .ref qs])), (qm, .inl (zk G 0, 36, .inl (zA mn)))]) 0 0 := by
  refine zM.of (cc := cX1_moonNumber) (maxL := 4) (ret := (some .int)) (by decide) rfl (Nat.le_of_ble_eq_true rfl) (l0 := [(0, .ref q), (1, .int (zI mo)), (2, .int (zI wh))]) rfl ?_
  intro p e s m args below meth c ls F hr hlk hnm hW hl
  obtain ⟨hx, hb, hml, hown, hts⟩ := id F
  have hin1 : ∀ w ∈ wsX10, w ∈ wsX1_moonNumber := fun _ h => List.mem_cons_of_mem _ (List.mem_append_right _ (h))
  refine lv_iload_n (pc := 0) hx hb dX1_moonNumber_0 rfl (lv_at hl 1 rfl) ?_
  refine zv_bipush (pc := 1) (n := 6) hx hb dX1_moonNumber_1 (by decide) ?_
  refine zv_imul (pc := 3) hx hb dX1_moonNumber_3 ?_
  refine lv_iload_n (pc := 4) hx hb dX1_moonNumber_4 rfl (lv_at hl 2 rfl) ?_
  refine zv_iadd (pc := 5) hx hb dX1_moonNumber_5 ?_
  refine zv_name (fun ix hix => ?_)
  refine lv_istore_n (pc := 6) (lv' := [(3, .int (zI ix)), (0, .ref q), (1, .int (zI mo)), (2, .int (zI wh))]) hx hb dX1_moonNumber_6 rfl hl (by decide) rfl (fun ls hl => ?_)
  refine lv_iload_n (pc := 7) hx hb dX1_moonNumber_7 rfl (lv_at hl 0 rfl) ?_
  refine zv_if_lt (pc := 8) (tgt := 29) hx hb dX1_moonNumber_8 (by decide) ⟨by omega, by omega⟩ (fun c8 => absurd c8 (by omega)) (fun c8 => ?_)
  refine lv_iload_n (pc := 11) hx hb dX1_moonNumber_11 rfl (lv_at hl 0 rfl) ?_
  refine lv_aload_n (pc := 12) hx hb dX1_moonNumber_12 rfl (lv_at hl 1 rfl) ?_
  refine zw_get (pc := 13) (ref := RX1) (index := 19) hx hb hts hin1 hown hW 0 rfl rfl 6 (by decide) (List.mem_of_getElem? (i := 1) rfl) (fun _ h9 => h9) rfl dX1_moonNumber_13 ?_
  refine zw_alen (pc := 16) hx hb hW 1 0 rfl rfl dX1_moonNumber_16 ?_
  refine zv_as (b := 36) (pc := 17) rfl ?_
  refine zv_icmp_ge (pc := 17) (tgt := 29) hx hb dX1_moonNumber_17 (by decide) ⟨by omega, by omega⟩ ⟨by omega, by omega⟩ (fun c17 => absurd c17 (by omega)) (fun c17 => ?_)
  refine lv_aload_n (pc := 20) hx hb dX1_moonNumber_20 rfl (lv_at hl 1 rfl) ?_
  refine zw_get (pc := 21) (ref := RX1) (index := 19) hx hb hts hin1 hown hW 0 rfl rfl 6 (by decide) (List.mem_of_getElem? (i := 1) rfl) (fun _ h9 => h9) rfl dX1_moonNumber_21 ?_
  refine lv_iload_n (pc := 24) hx hb dX1_moonNumber_24 rfl (lv_at hl 0 rfl) ?_
  refine zw_iald (pc := 25) hx hb hW 1 rfl (by omega) (by omega) (by decide) dX1_moonNumber_25 ?_
  refine lv_goto (pc := 26) (tgt := 30) hx hb dX1_moonNumber_26 (by decide) ?_
  refine zv_as (pc := 30) (a := mn ix) (b := mn (mo * 6 + wh)) (by rw [hix]) ?_
  exact ze_i (pc := 30) hx hb hr hlk hW () rfl trivial rfl dX1_moonNumber_30

set_option maxHeartbeats 4000000 in
set_option maxRecDepth 100000 in
/-- putMoonNumber -/
theorem kX1_putMoonNumber (G : zG) (l : Launch) (q : Nat) (qn : Nat) (qm : Nat) (qs : Nat) (pr : Int) (di : Int) (dr : Int) (mc : Int) (sc : Int) (mn : Int → Int) (mo : Int) (wh : Int) (v : Int) (h1 : 0 ≤ mo) (h2 : mo < 6) (h3 : 0 ≤ wh) (h4 : wh < 6) : zM G l yX1_putMoonNumber wsX1_putMoonNumber { frames := 0, cells := 0, slots := 0, locals := 0 } [.ref q, .int (zI mo), .int (zI wh), .int (zI v)] [(q, .inr (1, [.int (zI pr), .int (zI di), .int (zI dr), .int (zI mc), .int (zI sc), .ref qn, .ref qm, .ref qs])), (qm, .inl (zk G 0, 36, .inl (zA mn)))] (S := Unit) zrv (fun _ => True) (fun _ => [(q, .inr (1, [.int (zI pr), .int (zI di), .int (zI dr), .int (zI mc), .int (zI sc), .ref qn, .ref qm, .ref qs])), (qm, .inl (zk G 0, 36, .inl (zA (zU mn (mo * 6 + wh) v))))]) 0 0 := by
  refine zM.of (cc := cX1_putMoonNumber) (maxL := 5) (ret := none) (by decide) rfl (Nat.le_of_ble_eq_true rfl) (l0 := [(0, .ref q), (1, .int (zI mo)), (2, .int (zI wh)), (3, .int (zI v))]) rfl ?_
  intro p e s m args below meth c ls F hr hlk hnm hW hl
  obtain ⟨hx, hb, hml, hown, hts⟩ := id F
  have hin1 : ∀ w ∈ wsX10, w ∈ wsX1_putMoonNumber := fun _ h => List.mem_cons_of_mem _ (List.mem_append_right _ (h))
  refine lv_iload_n (pc := 0) hx hb dX1_putMoonNumber_0 rfl (lv_at hl 1 rfl) ?_
  refine zv_bipush (pc := 1) (n := 6) hx hb dX1_putMoonNumber_1 (by decide) ?_
  refine zv_imul (pc := 3) hx hb dX1_putMoonNumber_3 ?_
  refine lv_iload_n (pc := 4) hx hb dX1_putMoonNumber_4 rfl (lv_at hl 2 rfl) ?_
  refine zv_iadd (pc := 5) hx hb dX1_putMoonNumber_5 ?_
  refine zv_name (fun ix hix => ?_)
  refine lv_istore (pc := 6) (lv' := [(4, .int (zI ix)), (0, .ref q), (1, .int (zI mo)), (2, .int (zI wh)), (3, .int (zI v))]) hx hb dX1_putMoonNumber_6 hl (by decide) rfl (fun ls hl => ?_)
  refine lv_iload (pc := 8) hx hb dX1_putMoonNumber_8 (lv_at hl 0 rfl) ?_
  refine zv_if_lt (pc := 10) (tgt := 31) hx hb dX1_putMoonNumber_10 (by decide) ⟨by omega, by omega⟩ (fun c10 => absurd c10 (by omega)) (fun c10 => ?_)
  refine lv_iload (pc := 13) hx hb dX1_putMoonNumber_13 (lv_at hl 0 rfl) ?_
  refine lv_aload_n (pc := 15) hx hb dX1_putMoonNumber_15 rfl (lv_at hl 1 rfl) ?_
  refine zw_get (pc := 16) (ref := RX1) (index := 19) hx hb hts hin1 hown hW 0 rfl rfl 6 (by decide) (List.mem_of_getElem? (i := 1) rfl) (fun _ h9 => h9) rfl dX1_putMoonNumber_16 ?_
  refine zw_alen (pc := 19) hx hb hW 1 0 rfl rfl dX1_putMoonNumber_19 ?_
  refine zv_as (b := 36) (pc := 20) rfl ?_
  refine zv_icmp_ge (pc := 20) (tgt := 31) hx hb dX1_putMoonNumber_20 (by decide) ⟨by omega, by omega⟩ ⟨by omega, by omega⟩ (fun c20 => absurd c20 (by omega)) (fun c20 => ?_)
  refine lv_aload_n (pc := 23) hx hb dX1_putMoonNumber_23 rfl (lv_at hl 1 rfl) ?_
  refine zw_get (pc := 24) (ref := RX1) (index := 19) hx hb hts hin1 hown hW 0 rfl rfl 6 (by decide) (List.mem_of_getElem? (i := 1) rfl) (fun _ h9 => h9) rfl dX1_putMoonNumber_24 ?_
  refine lv_iload (pc := 27) hx hb dX1_putMoonNumber_27 (lv_at hl 0 rfl) ?_
  refine lv_iload_n (pc := 29) hx hb dX1_putMoonNumber_29 rfl (lv_at hl 4 rfl) ?_
  refine zw_iast (pc := 30) (ws' := [(q, .inr (1, [.int (zI pr), .int (zI di), .int (zI dr), .int (zI mc), .int (zI sc), .ref qn, .ref qm, .ref qs])), (qm, .inl (zk G 0, 36, .inl (zA (zU mn ix v))))]) hx hb hW 1 rfl (by omega) (by omega) (by decide) rfl dX1_putMoonNumber_30 (fun H locs hW => ?_)
  subst hix
  exact ze_v (pc := 31) hx hb hr hlk hW () rfl trivial rfl dX1_putMoonNumber_31

set_option maxHeartbeats 4000000 in
set_option maxRecDepth 100000 in
/-- sightNumber -/
theorem kX1_sightNumber (G : zG) (l : Launch) (q : Nat) (qn : Nat) (qm : Nat) (qs : Nat) (pr : Int) (di : Int) (dr : Int) (mc : Int) (sc : Int) (sn : Int → Int) (si : Int) (wh : Int) (h1 : 0 ≤ si) (h2 : si < 30) (h3 : 0 ≤ wh) (h4 : wh < 3) : zM G l yX1_sightNumber wsX1_sightNumber { frames := 0, cells := 0, slots := 0, locals := 0 } [.ref q, .int (zI si), .int (zI wh)] [(q, .inr (1, [.int (zI pr), .int (zI di), .int (zI dr), .int (zI mc), .int (zI sc), .ref qn, .ref qm, .ref qs])), (qs, .inl (zk G 0, 90, .inl (zA sn)))] (S := Unit) (zri (fun _ => sn (si * 3 + wh))) (fun _ => True) (fun _ => [(q, .inr (1, [.int (zI pr), .int (zI di), .int (zI dr), .int (zI mc), .int (zI sc), .ref qn, .ref qm, .ref qs])), (qs, .inl (zk G 0, 90, .inl (zA sn)))]) 0 0 := by
  refine zM.of (cc := cX1_sightNumber) (maxL := 4) (ret := (some .int)) (by decide) rfl (Nat.le_of_ble_eq_true rfl) (l0 := [(0, .ref q), (1, .int (zI si)), (2, .int (zI wh))]) rfl ?_
  intro p e s m args below meth c ls F hr hlk hnm hW hl
  obtain ⟨hx, hb, hml, hown, hts⟩ := id F
  have hin1 : ∀ w ∈ wsX10, w ∈ wsX1_sightNumber := fun _ h => List.mem_cons_of_mem _ (List.mem_append_right _ (h))
  refine lv_iload_n (pc := 0) hx hb dX1_sightNumber_0 rfl (lv_at hl 1 rfl) ?_
  refine zv_iconst (pc := 1) (n := 3) hx hb dX1_sightNumber_1 ?_
  refine zv_imul (pc := 2) hx hb dX1_sightNumber_2 ?_
  refine lv_iload_n (pc := 3) hx hb dX1_sightNumber_3 rfl (lv_at hl 2 rfl) ?_
  refine zv_iadd (pc := 4) hx hb dX1_sightNumber_4 ?_
  refine zv_name (fun ix hix => ?_)
  refine lv_istore_n (pc := 5) (lv' := [(3, .int (zI ix)), (0, .ref q), (1, .int (zI si)), (2, .int (zI wh))]) hx hb dX1_sightNumber_5 rfl hl (by decide) rfl (fun ls hl => ?_)
  refine lv_iload_n (pc := 6) hx hb dX1_sightNumber_6 rfl (lv_at hl 0 rfl) ?_
  refine zv_if_lt (pc := 7) (tgt := 28) hx hb dX1_sightNumber_7 (by decide) ⟨by omega, by omega⟩ (fun c7 => absurd c7 (by omega)) (fun c7 => ?_)
  refine lv_iload_n (pc := 10) hx hb dX1_sightNumber_10 rfl (lv_at hl 0 rfl) ?_
  refine lv_aload_n (pc := 11) hx hb dX1_sightNumber_11 rfl (lv_at hl 1 rfl) ?_
  refine zw_get (pc := 12) (ref := RX1) (index := 23) hx hb hts hin1 hown hW 0 rfl rfl 7 (by decide) (List.mem_of_getElem? (i := 1) rfl) (fun _ h9 => h9) rfl dX1_sightNumber_12 ?_
  refine zw_alen (pc := 15) hx hb hW 1 0 rfl rfl dX1_sightNumber_15 ?_
  refine zv_as (b := 90) (pc := 16) rfl ?_
  refine zv_icmp_ge (pc := 16) (tgt := 28) hx hb dX1_sightNumber_16 (by decide) ⟨by omega, by omega⟩ ⟨by omega, by omega⟩ (fun c16 => absurd c16 (by omega)) (fun c16 => ?_)
  refine lv_aload_n (pc := 19) hx hb dX1_sightNumber_19 rfl (lv_at hl 1 rfl) ?_
  refine zw_get (pc := 20) (ref := RX1) (index := 23) hx hb hts hin1 hown hW 0 rfl rfl 7 (by decide) (List.mem_of_getElem? (i := 1) rfl) (fun _ h9 => h9) rfl dX1_sightNumber_20 ?_
  refine lv_iload_n (pc := 23) hx hb dX1_sightNumber_23 rfl (lv_at hl 0 rfl) ?_
  refine zw_iald (pc := 24) hx hb hW 1 rfl (by omega) (by omega) (by decide) dX1_sightNumber_24 ?_
  refine lv_goto (pc := 25) (tgt := 29) hx hb dX1_sightNumber_25 (by decide) ?_
  refine zv_as (pc := 29) (a := sn ix) (b := sn (si * 3 + wh)) (by rw [hix]) ?_
  exact ze_i (pc := 29) hx hb hr hlk hW () rfl trivial rfl dX1_sightNumber_29

set_option maxHeartbeats 4000000 in
set_option maxRecDepth 100000 in
/-- putSightNumber -/
theorem kX1_putSightNumber (G : zG) (l : Launch) (q : Nat) (qn : Nat) (qm : Nat) (qs : Nat) (pr : Int) (di : Int) (dr : Int) (mc : Int) (sc : Int) (sn : Int → Int) (si : Int) (wh : Int) (v : Int) (h1 : 0 ≤ si) (h2 : si < 30) (h3 : 0 ≤ wh) (h4 : wh < 3) : zM G l yX1_putSightNumber wsX1_putSightNumber { frames := 0, cells := 0, slots := 0, locals := 0 } [.ref q, .int (zI si), .int (zI wh), .int (zI v)] [(q, .inr (1, [.int (zI pr), .int (zI di), .int (zI dr), .int (zI mc), .int (zI sc), .ref qn, .ref qm, .ref qs])), (qs, .inl (zk G 0, 90, .inl (zA sn)))] (S := Unit) zrv (fun _ => True) (fun _ => [(q, .inr (1, [.int (zI pr), .int (zI di), .int (zI dr), .int (zI mc), .int (zI sc), .ref qn, .ref qm, .ref qs])), (qs, .inl (zk G 0, 90, .inl (zA (zU sn (si * 3 + wh) v))))]) 0 0 := by
  refine zM.of (cc := cX1_putSightNumber) (maxL := 5) (ret := none) (by decide) rfl (Nat.le_of_ble_eq_true rfl) (l0 := [(0, .ref q), (1, .int (zI si)), (2, .int (zI wh)), (3, .int (zI v))]) rfl ?_
  intro p e s m args below meth c ls F hr hlk hnm hW hl
  obtain ⟨hx, hb, hml, hown, hts⟩ := id F
  have hin1 : ∀ w ∈ wsX10, w ∈ wsX1_putSightNumber := fun _ h => List.mem_cons_of_mem _ (List.mem_append_right _ (h))
  refine lv_iload_n (pc := 0) hx hb dX1_putSightNumber_0 rfl (lv_at hl 1 rfl) ?_
  refine zv_iconst (pc := 1) (n := 3) hx hb dX1_putSightNumber_1 ?_
  refine zv_imul (pc := 2) hx hb dX1_putSightNumber_2 ?_
  refine lv_iload_n (pc := 3) hx hb dX1_putSightNumber_3 rfl (lv_at hl 2 rfl) ?_
  refine zv_iadd (pc := 4) hx hb dX1_putSightNumber_4 ?_
  refine zv_name (fun ix hix => ?_)
  refine lv_istore (pc := 5) (lv' := [(4, .int (zI ix)), (0, .ref q), (1, .int (zI si)), (2, .int (zI wh)), (3, .int (zI v))]) hx hb dX1_putSightNumber_5 hl (by decide) rfl (fun ls hl => ?_)
  refine lv_iload (pc := 7) hx hb dX1_putSightNumber_7 (lv_at hl 0 rfl) ?_
  refine zv_if_lt (pc := 9) (tgt := 30) hx hb dX1_putSightNumber_9 (by decide) ⟨by omega, by omega⟩ (fun c9 => absurd c9 (by omega)) (fun c9 => ?_)
  refine lv_iload (pc := 12) hx hb dX1_putSightNumber_12 (lv_at hl 0 rfl) ?_
  refine lv_aload_n (pc := 14) hx hb dX1_putSightNumber_14 rfl (lv_at hl 1 rfl) ?_
  refine zw_get (pc := 15) (ref := RX1) (index := 23) hx hb hts hin1 hown hW 0 rfl rfl 7 (by decide) (List.mem_of_getElem? (i := 1) rfl) (fun _ h9 => h9) rfl dX1_putSightNumber_15 ?_
  refine zw_alen (pc := 18) hx hb hW 1 0 rfl rfl dX1_putSightNumber_18 ?_
  refine zv_as (b := 90) (pc := 19) rfl ?_
  refine zv_icmp_ge (pc := 19) (tgt := 30) hx hb dX1_putSightNumber_19 (by decide) ⟨by omega, by omega⟩ ⟨by omega, by omega⟩ (fun c19 => absurd c19 (by omega)) (fun c19 => ?_)
  refine lv_aload_n (pc := 22) hx hb dX1_putSightNumber_22 rfl (lv_at hl 1 rfl) ?_
  refine zw_get (pc := 23) (ref := RX1) (index := 23) hx hb hts hin1 hown hW 0 rfl rfl 7 (by decide) (List.mem_of_getElem? (i := 1) rfl) (fun _ h9 => h9) rfl dX1_putSightNumber_23 ?_
  refine lv_iload (pc := 26) hx hb dX1_putSightNumber_26 (lv_at hl 0 rfl) ?_
  refine lv_iload_n (pc := 28) hx hb dX1_putSightNumber_28 rfl (lv_at hl 4 rfl) ?_
  refine zw_iast (pc := 29) (ws' := [(q, .inr (1, [.int (zI pr), .int (zI di), .int (zI dr), .int (zI mc), .int (zI sc), .ref qn, .ref qm, .ref qs])), (qs, .inl (zk G 0, 90, .inl (zA (zU sn ix v))))]) hx hb hW 1 rfl (by omega) (by omega) (by decide) rfl dX1_putSightNumber_29 (fun H locs hW => ?_)
  subst hix
  exact ze_v (pc := 30) hx hb hr hlk hW () rfl trivial rfl dX1_putSightNumber_30

set_option maxHeartbeats 4000000 in
set_option maxRecDepth 100000 in
/-- nameOf -/
theorem kX1_nameOf (G : zG) (l : Launch) (q : Nat) (qn : Nat) (qm : Nat) (qs : Nat) (pr : Int) (di : Int) (dr : Int) (mc : Int) (sc : Int) (nm : Int → Int) (mo : Int) (h1 : 0 ≤ mo) (h2 : mo < 6) : zM G l yX1_nameOf wsX1_nameOf { frames := 0, cells := 0, slots := 0, locals := 0 } [.ref q, .int (zI mo)] [(q, .inr (1, [.int (zI pr), .int (zI di), .int (zI dr), .int (zI mc), .int (zI sc), .ref qn, .ref qm, .ref qs])), (qn, .inl (zk G 1, 6, .inr (.inl (zB nm))))] (S := Unit) (zrl (fun _ => nm mo)) (fun _ => True) (fun _ => [(q, .inr (1, [.int (zI pr), .int (zI di), .int (zI dr), .int (zI mc), .int (zI sc), .ref qn, .ref qm, .ref qs])), (qn, .inl (zk G 1, 6, .inr (.inl (zB nm))))]) 0 0 := by
  refine zM.of (cc := cX1_nameOf) (maxL := 2) (ret := (some .long)) (by decide) rfl (Nat.le_of_ble_eq_true rfl) (l0 := [(0, .ref q), (1, .int (zI mo))]) rfl ?_
  intro p e s m args below meth c ls F hr hlk hnm hW hl
  obtain ⟨hx, hb, hml, hown, hts⟩ := id F
  have hin1 : ∀ w ∈ wsX10, w ∈ wsX1_nameOf := fun _ h => List.mem_cons_of_mem _ (List.mem_append_right _ (h))
  refine lv_iload_n (pc := 0) hx hb dX1_nameOf_0 rfl (lv_at hl 1 rfl) ?_
  refine zv_if_lt (pc := 1) (tgt := 22) hx hb dX1_nameOf_1 (by decide) ⟨by omega, by omega⟩ (fun c1 => absurd c1 (by omega)) (fun c1 => ?_)
  refine lv_iload_n (pc := 4) hx hb dX1_nameOf_4 rfl (lv_at hl 1 rfl) ?_
  refine lv_aload_n (pc := 5) hx hb dX1_nameOf_5 rfl (lv_at hl 0 rfl) ?_
  refine zw_get (pc := 6) (ref := RX1) (index := 15) hx hb hts hin1 hown hW 0 rfl rfl 5 (by decide) (List.mem_of_getElem? (i := 1) rfl) (fun _ h9 => h9) rfl dX1_nameOf_6 ?_
  refine zw_alen (pc := 9) hx hb hW 1 1 rfl rfl dX1_nameOf_9 ?_
  refine zv_as (b := 6) (pc := 10) rfl ?_
  refine zv_icmp_ge (pc := 10) (tgt := 22) hx hb dX1_nameOf_10 (by decide) ⟨by omega, by omega⟩ ⟨by omega, by omega⟩ (fun c10 => absurd c10 (by omega)) (fun c10 => ?_)
  refine lv_aload_n (pc := 13) hx hb dX1_nameOf_13 rfl (lv_at hl 0 rfl) ?_
  refine zw_get (pc := 14) (ref := RX1) (index := 15) hx hb hts hin1 hown hW 0 rfl rfl 5 (by decide) (List.mem_of_getElem? (i := 1) rfl) (fun _ h9 => h9) rfl dX1_nameOf_14 ?_
  refine lv_iload_n (pc := 17) hx hb dX1_nameOf_17 rfl (lv_at hl 1 rfl) ?_
  refine zw_lald (pc := 18) hx hb hW 1 rfl (by omega) (by omega) (by decide) dX1_nameOf_18 ?_
  refine lv_goto (pc := 19) (tgt := 23) hx hb dX1_nameOf_19 (by decide) ?_
  exact ze_l (pc := 23) hx hb hr hlk hW () rfl trivial rfl dX1_nameOf_23

set_option maxHeartbeats 4000000 in
set_option maxRecDepth 100000 in
/-- putName -/
theorem kX1_putName (G : zG) (l : Launch) (q : Nat) (qn : Nat) (qm : Nat) (qs : Nat) (pr : Int) (di : Int) (dr : Int) (mc : Int) (sc : Int) (nm : Int → Int) (mo : Int) (v : Int) (h1 : 0 ≤ mo) (h2 : mo < 6) : zM G l yX1_putName wsX1_putName { frames := 0, cells := 0, slots := 0, locals := 0 } [.ref q, .int (zI mo), .long (zL v)] [(q, .inr (1, [.int (zI pr), .int (zI di), .int (zI dr), .int (zI mc), .int (zI sc), .ref qn, .ref qm, .ref qs])), (qn, .inl (zk G 1, 6, .inr (.inl (zB nm))))] (S := Unit) zrv (fun _ => True) (fun _ => [(q, .inr (1, [.int (zI pr), .int (zI di), .int (zI dr), .int (zI mc), .int (zI sc), .ref qn, .ref qm, .ref qs])), (qn, .inl (zk G 1, 6, .inr (.inl (zB (zU nm mo v)))))]) 0 0 := by
  refine zM.of (cc := cX1_putName) (maxL := 4) (ret := none) (by decide) rfl (Nat.le_of_ble_eq_true rfl) (l0 := [(0, .ref q), (1, .int (zI mo)), (2, .long (zL v))]) rfl ?_
  intro p e s m args below meth c ls F hr hlk hnm hW hl
  obtain ⟨hx, hb, hml, hown, hts⟩ := id F
  have hin1 : ∀ w ∈ wsX10, w ∈ wsX1_putName := fun _ h => List.mem_cons_of_mem _ (List.mem_append_right _ (h))
  refine lv_iload_n (pc := 0) hx hb dX1_putName_0 rfl (lv_at hl 1 rfl) ?_
  refine zv_if_lt (pc := 1) (tgt := 20) hx hb dX1_putName_1 (by decide) ⟨by omega, by omega⟩ (fun c1 => absurd c1 (by omega)) (fun c1 => ?_)
  refine lv_iload_n (pc := 4) hx hb dX1_putName_4 rfl (lv_at hl 1 rfl) ?_
  refine lv_aload_n (pc := 5) hx hb dX1_putName_5 rfl (lv_at hl 0 rfl) ?_
  refine zw_get (pc := 6) (ref := RX1) (index := 15) hx hb hts hin1 hown hW 0 rfl rfl 5 (by decide) (List.mem_of_getElem? (i := 1) rfl) (fun _ h9 => h9) rfl dX1_putName_6 ?_
  refine zw_alen (pc := 9) hx hb hW 1 1 rfl rfl dX1_putName_9 ?_
  refine zv_as (b := 6) (pc := 10) rfl ?_
  refine zv_icmp_ge (pc := 10) (tgt := 20) hx hb dX1_putName_10 (by decide) ⟨by omega, by omega⟩ ⟨by omega, by omega⟩ (fun c10 => absurd c10 (by omega)) (fun c10 => ?_)
  refine lv_aload_n (pc := 13) hx hb dX1_putName_13 rfl (lv_at hl 0 rfl) ?_
  refine zw_get (pc := 14) (ref := RX1) (index := 15) hx hb hts hin1 hown hW 0 rfl rfl 5 (by decide) (List.mem_of_getElem? (i := 1) rfl) (fun _ h9 => h9) rfl dX1_putName_14 ?_
  refine lv_iload_n (pc := 17) hx hb dX1_putName_17 rfl (lv_at hl 1 rfl) ?_
  refine lv_lload_n (pc := 18) hx hb dX1_putName_18 rfl (lv_at hl 2 rfl) ?_
  refine zw_last (pc := 19) (ws' := [(q, .inr (1, [.int (zI pr), .int (zI di), .int (zI dr), .int (zI mc), .int (zI sc), .ref qn, .ref qm, .ref qs])), (qn, .inl (zk G 1, 6, .inr (.inl (zB (zU nm mo v)))))]) hx hb hW 1 rfl (by omega) (by omega) (by decide) rfl dX1_putName_19 (fun H locs hW => ?_)
  exact ze_v (pc := 20) hx hb hr hlk hW () rfl trivial rfl dX1_putName_20

set_option maxHeartbeats 4000000 in
set_option maxRecDepth 100000 in
/-- empty -/
theorem kX1_empty (G : zG) (l : Launch) (q : Nat) (qn : Nat) (qm : Nat) (qs : Nat) (pr : Int) (di : Int) (dr : Int) (mc : Int) (sc : Int) : zM G l yX1_empty wsX1_empty { frames := 0, cells := 0, slots := 0, locals := 0 } [.ref q] [(q, .inr (1, [.int (zI pr), .int (zI di), .int (zI dr), .int (zI mc), .int (zI sc), .ref qn, .ref qm, .ref qs]))] (S := Unit) zrv (fun _ => True) (fun _ => [(q, .inr (1, [.int (zI pr), .int (zI 0), .int (zI 0), .int (zI 0), .int (zI 0), .ref qn, .ref qm, .ref qs]))]) 0 0 := by
  refine zM.of (cc := cX1_empty) (maxL := 1) (ret := none) (by decide) rfl (Nat.le_of_ble_eq_true rfl) (l0 := [(0, .ref q)]) rfl ?_
  intro p e s m args below meth c ls F hr hlk hnm hW hl
  obtain ⟨hx, hb, hml, hown, hts⟩ := id F
  have hin1 : ∀ w ∈ wsX10, w ∈ wsX1_empty := fun _ h => List.mem_cons_of_mem _ (List.mem_append_right _ (h))
  refine lv_aload_n (pc := 0) hx hb dX1_empty_0 rfl (lv_at hl 0 rfl) ?_
  refine zv_iconst (pc := 1) (n := 0) hx hb dX1_empty_1 ?_
  refine zw_put (pc := 2) (ws' := [(q, .inr (1, [.int (zI pr), .int (zI 0), .int (zI dr), .int (zI mc), .int (zI sc), .ref qn, .ref qm, .ref qs]))]) (ref := RX1) (index := 26) hx hb hts hin1 tyX1 tyX1_ok nmX1 hown hW 0 rfl rfl 1 (by decide) (List.mem_of_getElem? (i := 1) rfl) (fun _ h9 => h9) rfl (tyX1_ok 1 (by decide)) rfl rfl (Nat.le_of_ble_eq_true rfl) rfl dX1_empty_2 (fun H locs hW => ?_)
  refine lv_aload_n (pc := 5) hx hb dX1_empty_5 rfl (lv_at hl 0 rfl) ?_
  refine zv_iconst (pc := 6) (n := 0) hx hb dX1_empty_6 ?_
  refine zw_put (pc := 7) (ws' := [(q, .inr (1, [.int (zI pr), .int (zI 0), .int (zI 0), .int (zI mc), .int (zI sc), .ref qn, .ref qm, .ref qs]))]) (ref := RX1) (index := 29) hx hb hts hin1 tyX1 tyX1_ok nmX1 hown hW 0 rfl rfl 2 (by decide) (List.mem_of_getElem? (i := 2) rfl) (fun _ h9 => h9) rfl (tyX1_ok 2 (by decide)) rfl rfl (Nat.le_of_ble_eq_true rfl) rfl dX1_empty_7 (fun H locs hW => ?_)
  refine lv_aload_n (pc := 10) hx hb dX1_empty_10 rfl (lv_at hl 0 rfl) ?_
  refine zv_iconst (pc := 11) (n := 0) hx hb dX1_empty_11 ?_
  refine zw_put (pc := 12) (ws' := [(q, .inr (1, [.int (zI pr), .int (zI 0), .int (zI 0), .int (zI 0), .int (zI sc), .ref qn, .ref qm, .ref qs]))]) (ref := RX1) (index := 32) hx hb hts hin1 tyX1 tyX1_ok nmX1 hown hW 0 rfl rfl 3 (by decide) (List.mem_of_getElem? (i := 3) rfl) (fun _ h9 => h9) rfl (tyX1_ok 3 (by decide)) rfl rfl (Nat.le_of_ble_eq_true rfl) rfl dX1_empty_12 (fun H locs hW => ?_)
  refine lv_aload_n (pc := 15) hx hb dX1_empty_15 rfl (lv_at hl 0 rfl) ?_
  refine zv_iconst (pc := 16) (n := 0) hx hb dX1_empty_16 ?_
  refine zw_put (pc := 17) (ws' := [(q, .inr (1, [.int (zI pr), .int (zI 0), .int (zI 0), .int (zI 0), .int (zI 0), .ref qn, .ref qm, .ref qs]))]) (ref := RX1) (index := 35) hx hb hts hin1 tyX1 tyX1_ok nmX1 hown hW 0 rfl rfl 4 (by decide) (List.mem_of_getElem? (i := 4) rfl) (fun _ h9 => h9) rfl (tyX1_ok 4 (by decide)) rfl rfl (Nat.le_of_ble_eq_true rfl) rfl dX1_empty_17 (fun H locs hW => ?_)
  exact ze_v (pc := 20) hx hb hr hlk hW () rfl trivial rfl dX1_empty_20
