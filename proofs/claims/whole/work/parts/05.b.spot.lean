set_option maxHeartbeats 4000000 in
set_option maxRecDepth 100000 in
/-- floorMod by a number above 0 -/
theorem kJ9_floorMod_7cf53 (G : zG) (l : Launch) (a : Int) (b : Int) (ha1 : -2147483648 ≤ a) (ha2 : a ≤ 2147483647) (hb1 : 0 < b) (hb2 : b ≤ 2147483647) : zM G l yJ9_floorMod_7cf53 wsJ9_floorMod_7cf53 { frames := 0, cells := 0, slots := 0, locals := 0 } [.int (zI a), .int (zI b)] [] (S := Unit) (zri (fun _ => a % b)) (fun _ => True) (fun _ => []) 0 0 := by
  refine zM.ofF (cc := cJ9_floorMod_7cf53) (maxL := 3) (ret := (some .int)) (by decide +kernel) rfl (Nat.le_of_ble_eq_true rfl) (l0 := [(0, .int (zI a)), (1, .int (zI b))]) rfl ?_
  intro p e s m args below meth c ls F hr hlk hnm hW hl
  obtain ⟨hx, hb, hml, hown, hts⟩ := id F
  refine lv_iload_n (pc := 0) hx hb dJ9_floorMod_7cf53_0 rfl (lv_at hl 0 rfl) ?_
  refine lv_iload_n (pc := 1) hx hb dJ9_floorMod_7cf53_1 rfl (lv_at hl 1 rfl) ?_
  refine zv_irem (pc := 2) hx hb dJ9_floorMod_7cf53_2 ⟨by omega, by omega⟩ ⟨by omega, by omega⟩ (by omega) ?_
  refine zv_name (fun rr hrr => ?_)
  refine lv_istore_n (pc := 3) (lv' := [(2, .int (zI rr)), (0, .int (zI a)), (1, .int (zI b))]) hx hb dJ9_floorMod_7cf53_3 rfl hl (by decide) rfl (fun ls hl => ?_)
  refine lv_iload_n (pc := 4) hx hb dJ9_floorMod_7cf53_4 rfl (lv_at hl 1 rfl) ?_
  refine lv_iload_n (pc := 5) hx hb dJ9_floorMod_7cf53_5 rfl (lv_at hl 2 rfl) ?_
  refine zv_ixor (pc := 6) hx hb dJ9_floorMod_7cf53_6 ?_
  have hsg := zxor_neg (a := a) (b := b) ⟨ha1, ha2⟩ ⟨by omega, hb2⟩ hb1
  have hfm := zfm_cases a b hb1
  rw [← hrr] at hfm
  refine zv_if_ge (pc := 7) (tgt := 18) hx hb dJ9_floorMod_7cf53_7 (by decide) (zxor_in _ _) (fun c7 => ?_) (fun c7 => ?_)
  · refine lv_iload_n (pc := 18) hx hb dJ9_floorMod_7cf53_18 rfl (lv_at hl 0 rfl) ?_
    refine zv_as (pc := 19) (a := rr) (b := a % b) (by first | exact hfm.1 (by omega) | (exact (hfm.2 (by omega)).2 c11) | (rw [(hfm.2 (by omega)).1 c11]; exact c11)) ?_
    exact ze_i (pc := 19) hx hb hr hlk hW () rfl trivial rfl dJ9_floorMod_7cf53_19
  · refine lv_iload_n (pc := 10) hx hb dJ9_floorMod_7cf53_10 rfl (lv_at hl 0 rfl) ?_
    refine zv_if_eq (pc := 11) (tgt := 18) hx hb dJ9_floorMod_7cf53_11 (by decide) (have q := ztm_in (a := a) hb1; ⟨by omega, by omega⟩) (fun c11 => ?_) (fun c11 => ?_)
    · refine lv_iload_n (pc := 18) hx hb dJ9_floorMod_7cf53_18 rfl (lv_at hl 0 rfl) ?_
      refine zv_as (pc := 19) (a := rr) (b := a % b) (by first | exact hfm.1 (by omega) | (exact (hfm.2 (by omega)).2 c11) | (rw [(hfm.2 (by omega)).1 c11]; exact c11)) ?_
      exact ze_i (pc := 19) hx hb hr hlk hW () rfl trivial rfl dJ9_floorMod_7cf53_19
    · refine lv_iload_n (pc := 14) hx hb dJ9_floorMod_7cf53_14 rfl (lv_at hl 0 rfl) ?_
      refine lv_iload_n (pc := 15) hx hb dJ9_floorMod_7cf53_15 rfl (lv_at hl 2 rfl) ?_
      refine zv_iadd (pc := 16) hx hb dJ9_floorMod_7cf53_16 ?_
      refine zv_as (pc := 17) (a := rr + b) (b := a % b) (by first | exact hfm.1 (by omega) | (exact (hfm.2 (by omega)).2 c11) | (rw [(hfm.2 (by omega)).1 c11]; exact c11)) ?_
      exact ze_i (pc := 17) hx hb hr hlk hW () rfl trivial rfl dJ9_floorMod_7cf53_17

set_option maxHeartbeats 4000000 in
set_option maxRecDepth 100000 in
/-- the sine -/
theorem kX6_sineOf (G : zG) (l : Launch) (a : Int) (ha1 : -2147483648 ≤ a) (ha2 : a ≤ 2147483647) : zM G l yX6_sineOf wsX6_sineOf { frames := 0, cells := 0, slots := 0, locals := 0 } [.int (zI a)] [] (S := Unit) (zri (fun _ => zs a)) (fun _ => True) (fun _ => []) 0 0 := by
  refine zM.of (cc := cX6_sineOf) (maxL := 10) (ret := (some .int)) (by decide) rfl (Nat.le_of_ble_eq_true rfl) (l0 := [(0, .int (zI a))]) rfl ?_
  intro p e s m args below meth c ls F hr hlk hnm hW hl
  obtain ⟨hx, hb, hml, hown, hts⟩ := id F
  refine lv_iload_n (pc := 0) hx hb dX6_sineOf_0 rfl (lv_at hl 0 rfl) ?_
  refine zv_ldc (pc := 1) (v := 36000) hx hb hown (hts _ (List.mem_of_getElem? (i := 1) rfl)) rfl dX6_sineOf_1 ?_
  refine zv_irem (pc := 3) hx hb dX6_sineOf_3 ⟨by omega, by omega⟩ ⟨by omega, by omega⟩ (by omega) ?_
  refine zv_name (fun t ht => ?_)
  refine lv_istore_n (pc := 4) (lv' := [(1, .int (zI t)), (0, .int (zI a))]) hx hb dX6_sineOf_4 rfl hl (by decide) rfl (fun ls hl => ?_)
  have J14 : ∀ (t : Int) (ht : t = a % 36000) (H : Heap) (locs : List Loc) (ls : Array Slot) (hW : zW G (va_A [] s.heap.size) s H locs []) (hl : lv_has ls 10 [(1, .int (zI t)), (0, .int (zI a))]), W p l e ({ frames := 0, cells := 0, slots := 0, locals := 0 } : Room) s m args below meth c H locs 0 0 (MQ below (zQ (S := Unit) (zri (fun _ => zs a)) (fun _ => True) (zPost G [] s.heap.size (fun _ => [])) (va_A [] s.heap.size)) args s 0 0 (va_A [] s.heap.size)) (F0 m 14 ls []) := by
    intro t ht H locs ls hW hl
    refine lv_iload_n (pc := 14) hx hb dX6_sineOf_14 rfl (lv_at hl 0 rfl) ?_
    refine zv_sipush (pc := 15) (n := 18000) hx hb dX6_sineOf_15 (by decide) ?_
    refine zv_icmp_le (pc := 18) (tgt := 25) hx hb dX6_sineOf_18 (by decide) ⟨by omega, by omega⟩ ⟨by omega, by omega⟩ (fun c18 => ?_) (fun c18 => ?_)
    · refine zv_iconst (pc := 25) (n := 0) hx hb dX6_sineOf_25 ?_
      refine lv_istore_n (pc := 26) (lv' := [(2, .int (zI 0)), (1, .int (zI t)), (0, .int (zI a))]) hx hb dX6_sineOf_26 rfl hl (by decide) rfl (fun ls hl => ?_)
      refine lv_iload_n (pc := 27) hx hb dX6_sineOf_27 rfl (lv_at hl 0 rfl) ?_
      refine zv_if_eq (pc := 28) (tgt := 40) hx hb dX6_sineOf_28 (by decide) ⟨by omega, by omega⟩ (fun c28 => ?_) (fun c28 => absurd c28 (by omega))
      refine lv_iload_n (pc := 40) hx hb dX6_sineOf_40 rfl (lv_at hl 1 rfl) ?_
      refine zv_i2l (pc := 41) hx hb dX6_sineOf_41 ⟨by omega, by omega⟩ ?_
      refine zv_nameL (fun pa hpa => ?_)
      refine lv_lstore_n (pc := 42) (lv' := [(3, .long (zL pa)), (2, .int (zI 0)), (1, .int (zI t)), (0, .int (zI a))]) hx hb dX6_sineOf_42 rfl hl (by decide) rfl (fun ls hl => ?_)
      refine lv_lload_n (pc := 43) hx hb dX6_sineOf_43 rfl (lv_at hl 0 rfl) ?_
      refine zv_ldc2 (pc := 44) (v := 18000) hx hb hown (hts _ (List.mem_of_getElem? (i := 2) rfl)) rfl dX6_sineOf_44 ?_
      refine lv_lload_n (pc := 47) hx hb dX6_sineOf_47 rfl (lv_at hl 0 rfl) ?_
      refine zv_lsub (pc := 48) hx hb dX6_sineOf_48 ?_
      refine zv_lmul (pc := 49) hx hb dX6_sineOf_49 ?_
      refine zv_nameL (fun pp hpp => ?_)
      refine lv_lstore (pc := 50) (lv' := [(5, .long (zL pp)), (3, .long (zL pa)), (2, .int (zI 0)), (1, .int (zI t)), (0, .int (zI a))]) hx hb dX6_sineOf_50 hl (by decide) rfl (fun ls hl => ?_)
      refine zv_ldc2 (pc := 52) (v := 405000000) hx hb hown (hts _ (List.mem_of_getElem? (i := 3) rfl)) rfl dX6_sineOf_52 ?_
      refine lv_lload (pc := 55) hx hb dX6_sineOf_55 (lv_at hl 0 rfl) ?_
      refine zv_lsub (pc := 57) hx hb dX6_sineOf_57 ?_
      refine zv_nameL (fun dd hdd => ?_)
      refine lv_lstore (pc := 58) (lv' := [(7, .long (zL dd)), (5, .long (zL pp)), (3, .long (zL pa)), (2, .int (zI 0)), (1, .int (zI t)), (0, .int (zI a))]) hx hb dX6_sineOf_58 hl (by decide) rfl (fun ls hl => ?_)
      have hP := zprod (p := pa) (by omega) (by omega)
      rw [← hpp] at hP
      refine lv_lload (pc := 60) hx hb dX6_sineOf_60 (lv_at hl 0 rfl) ?_
      refine zv_lconst (pc := 62) (v := 0) hx hb dX6_sineOf_62 rfl ?_
      refine zv_lcmp_le (pc := 63) (tgt := 80) hx hb dX6_sineOf_63 dX6_sineOf_64 (by decide) ⟨by omega, by omega⟩ ⟨by omega, by omega⟩ (fun c63 => absurd c63 (by omega)) (fun c63 => ?_)
      refine zv_ldc2 (pc := 67) (v := 40000) hx hb hown (hts _ (List.mem_of_getElem? (i := 4) rfl)) rfl dX6_sineOf_67 ?_
      refine lv_lload (pc := 70) hx hb dX6_sineOf_70 (lv_at hl 1 rfl) ?_
      refine zv_lmul (pc := 72) hx hb dX6_sineOf_72 ?_
      refine lv_lload (pc := 73) hx hb dX6_sineOf_73 (lv_at hl 0 rfl) ?_
      refine zv_ldiv (pc := 75) hx hb dX6_sineOf_75 ⟨by omega, by omega⟩ ⟨by omega, by omega⟩ (by omega) ?_
      refine zv_l2i (pc := 76) hx hb dX6_sineOf_76 ?_
      refine lv_goto (pc := 77) (tgt := 81) hx hb dX6_sineOf_77 (by decide) ?_
      refine zv_name (fun sz hsz => ?_)
      refine lv_istore (pc := 81) (lv' := [(9, .int (zI sz)), (7, .long (zL dd)), (5, .long (zL pp)), (3, .long (zL pa)), (2, .int (zI 0)), (1, .int (zI t)), (0, .int (zI a))]) hx hb dX6_sineOf_81 hl (by decide) rfl (fun ls hl => ?_)
      refine lv_iload_n (pc := 83) hx hb dX6_sineOf_83 rfl (lv_at hl 4 rfl) ?_
      refine zv_if_eq (pc := 84) (tgt := 93) hx hb dX6_sineOf_84 (by decide) ⟨by omega, by omega⟩ (fun c84 => ?_) (fun c84 => absurd c84 (by omega))
      refine lv_iload (pc := 93) hx hb dX6_sineOf_93 (lv_at hl 0 rfl) ?_
      refine zv_as (pc := 95) (a := sz) (b := zs a) (by first | (unfold zs zsp; rw [← ht, if_pos c18, hsz, hdd, hpp, hpa]; done) | (unfold zs zsp; rw [← ht, if_neg (by omega), hsz, hdd, hpp, hpa]; done)) ?_
      exact ze_i (pc := 95) hx hb hr hlk hW () rfl trivial rfl dX6_sineOf_95
    · refine zv_iconst (pc := 21) (n := 1) hx hb dX6_sineOf_21 ?_
      refine lv_goto (pc := 22) (tgt := 26) hx hb dX6_sineOf_22 (by decide) ?_
      refine lv_istore_n (pc := 26) (lv' := [(2, .int (zI 1)), (1, .int (zI t)), (0, .int (zI a))]) hx hb dX6_sineOf_26 rfl hl (by decide) rfl (fun ls hl => ?_)
      refine lv_iload_n (pc := 27) hx hb dX6_sineOf_27 rfl (lv_at hl 0 rfl) ?_
      refine zv_if_eq (pc := 28) (tgt := 40) hx hb dX6_sineOf_28 (by decide) ⟨by omega, by omega⟩ (fun c28 => absurd c28 (by omega)) (fun c28 => ?_)
      refine lv_iload_n (pc := 31) hx hb dX6_sineOf_31 rfl (lv_at hl 1 rfl) ?_
      refine zv_sipush (pc := 32) (n := 18000) hx hb dX6_sineOf_32 (by decide) ?_
      refine zv_isub (pc := 35) hx hb dX6_sineOf_35 ?_
      refine zv_i2l (pc := 36) hx hb dX6_sineOf_36 ⟨by omega, by omega⟩ ?_
      refine lv_goto (pc := 37) (tgt := 42) hx hb dX6_sineOf_37 (by decide) ?_
      refine zv_nameL (fun pa hpa => ?_)
      refine lv_lstore_n (pc := 42) (lv' := [(3, .long (zL pa)), (2, .int (zI 1)), (1, .int (zI t)), (0, .int (zI a))]) hx hb dX6_sineOf_42 rfl hl (by decide) rfl (fun ls hl => ?_)
      refine lv_lload_n (pc := 43) hx hb dX6_sineOf_43 rfl (lv_at hl 0 rfl) ?_
      refine zv_ldc2 (pc := 44) (v := 18000) hx hb hown (hts _ (List.mem_of_getElem? (i := 2) rfl)) rfl dX6_sineOf_44 ?_
      refine lv_lload_n (pc := 47) hx hb dX6_sineOf_47 rfl (lv_at hl 0 rfl) ?_
      refine zv_lsub (pc := 48) hx hb dX6_sineOf_48 ?_
      refine zv_lmul (pc := 49) hx hb dX6_sineOf_49 ?_
      refine zv_nameL (fun pp hpp => ?_)
      refine lv_lstore (pc := 50) (lv' := [(5, .long (zL pp)), (3, .long (zL pa)), (2, .int (zI 1)), (1, .int (zI t)), (0, .int (zI a))]) hx hb dX6_sineOf_50 hl (by decide) rfl (fun ls hl => ?_)
      refine zv_ldc2 (pc := 52) (v := 405000000) hx hb hown (hts _ (List.mem_of_getElem? (i := 3) rfl)) rfl dX6_sineOf_52 ?_
      refine lv_lload (pc := 55) hx hb dX6_sineOf_55 (lv_at hl 0 rfl) ?_
      refine zv_lsub (pc := 57) hx hb dX6_sineOf_57 ?_
      refine zv_nameL (fun dd hdd => ?_)
      refine lv_lstore (pc := 58) (lv' := [(7, .long (zL dd)), (5, .long (zL pp)), (3, .long (zL pa)), (2, .int (zI 1)), (1, .int (zI t)), (0, .int (zI a))]) hx hb dX6_sineOf_58 hl (by decide) rfl (fun ls hl => ?_)
      have hP := zprod (p := pa) (by omega) (by omega)
      rw [← hpp] at hP
      refine lv_lload (pc := 60) hx hb dX6_sineOf_60 (lv_at hl 0 rfl) ?_
      refine zv_lconst (pc := 62) (v := 0) hx hb dX6_sineOf_62 rfl ?_
      refine zv_lcmp_le (pc := 63) (tgt := 80) hx hb dX6_sineOf_63 dX6_sineOf_64 (by decide) ⟨by omega, by omega⟩ ⟨by omega, by omega⟩ (fun c63 => absurd c63 (by omega)) (fun c63 => ?_)
      refine zv_ldc2 (pc := 67) (v := 40000) hx hb hown (hts _ (List.mem_of_getElem? (i := 4) rfl)) rfl dX6_sineOf_67 ?_
      refine lv_lload (pc := 70) hx hb dX6_sineOf_70 (lv_at hl 1 rfl) ?_
      refine zv_lmul (pc := 72) hx hb dX6_sineOf_72 ?_
      refine lv_lload (pc := 73) hx hb dX6_sineOf_73 (lv_at hl 0 rfl) ?_
      refine zv_ldiv (pc := 75) hx hb dX6_sineOf_75 ⟨by omega, by omega⟩ ⟨by omega, by omega⟩ (by omega) ?_
      refine zv_l2i (pc := 76) hx hb dX6_sineOf_76 ?_
      refine lv_goto (pc := 77) (tgt := 81) hx hb dX6_sineOf_77 (by decide) ?_
      refine zv_name (fun sz hsz => ?_)
      refine lv_istore (pc := 81) (lv' := [(9, .int (zI sz)), (7, .long (zL dd)), (5, .long (zL pp)), (3, .long (zL pa)), (2, .int (zI 1)), (1, .int (zI t)), (0, .int (zI a))]) hx hb dX6_sineOf_81 hl (by decide) rfl (fun ls hl => ?_)
      refine lv_iload_n (pc := 83) hx hb dX6_sineOf_83 rfl (lv_at hl 4 rfl) ?_
      refine zv_if_eq (pc := 84) (tgt := 93) hx hb dX6_sineOf_84 (by decide) ⟨by omega, by omega⟩ (fun c84 => absurd c84 (by omega)) (fun c84 => ?_)
      refine lv_iload (pc := 87) hx hb dX6_sineOf_87 (lv_at hl 0 rfl) ?_
      refine zv_ineg (pc := 89) hx hb dX6_sineOf_89 ?_
      refine lv_goto (pc := 90) (tgt := 95) hx hb dX6_sineOf_90 (by decide) ?_
      refine zv_as (pc := 95) (a := -sz) (b := zs a) (by first | (unfold zs zsp; rw [← ht, if_pos c18, hsz, hdd, hpp, hpa]; done) | (unfold zs zsp; rw [← ht, if_neg (by omega), hsz, hdd, hpp, hpa]; done)) ?_
      exact ze_i (pc := 95) hx hb hr hlk hW () rfl trivial rfl dX6_sineOf_95
  refine lv_iload_n (pc := 5) hx hb dX6_sineOf_5 rfl (lv_at hl 0 rfl) ?_
  refine zv_if_ge (pc := 6) (tgt := 14) hx hb dX6_sineOf_6 (by decide) (have q := ztm_in (a := a) (b := 36000) (by omega); ⟨by omega, by omega⟩) (fun c6 => ?_) (fun c6 => ?_)
  · exact J14 t (by have := ztmod_cases a; omega) _ _ _ hW (lv_sub hl [0, 1] rfl)
  · refine lv_iload_n (pc := 9) hx hb dX6_sineOf_9 rfl (lv_at hl 0 rfl) ?_
    refine zv_ldc (pc := 10) (v := 36000) hx hb hown (hts _ (List.mem_of_getElem? (i := 1) rfl)) rfl dX6_sineOf_10 ?_
    refine zv_iadd (pc := 12) hx hb dX6_sineOf_12 ?_
    refine zv_name (fun t2 ht2 => ?_)
    refine lv_istore_n (pc := 13) (lv' := [(1, .int (zI t2)), (0, .int (zI a))]) hx hb dX6_sineOf_13 rfl hl (by decide) rfl (fun ls hl => ?_)
    exact J14 t2 (by have := ztmod_cases a; omega) _ _ _ hW (lv_sub hl [0, 1] rfl)

set_option maxHeartbeats 4000000 in
set_option maxRecDepth 100000 in
/-- the angle of the light, as it is reckoned -/
theorem kX6_lightAngle (G : zG) (l : Launch) (di : Int) (dr : Int) (t : Int) : zM G l yX6_lightAngle wsX6_lightAngle { frames := 0, cells := 0, slots := 0, locals := 0 } [.int (zI di), .int (zI dr), .int (zI t)] [] (S := Unit) (zri (fun _ => zli di dr t)) (fun _ => True) (fun _ => []) 0 0 := by
  refine zM.of (cc := cX6_lightAngle) (maxL := 3) (ret := (some .int)) (by decide) rfl (Nat.le_of_ble_eq_true rfl) (l0 := [(0, .int (zI di)), (1, .int (zI dr)), (2, .int (zI t))]) rfl ?_
  intro p e s m args below meth c ls F hr hlk hnm hW hl
  obtain ⟨hx, hb, hml, hown, hts⟩ := id F
  refine zv_bipush (pc := 0) (n := 100) hx hb dX6_lightAngle_0 (by decide) ?_
  refine lv_iload_n (pc := 2) hx hb dX6_lightAngle_2 rfl (lv_at hl 0 rfl) ?_
  refine zv_imul (pc := 3) hx hb dX6_lightAngle_3 ?_
  refine lv_iload_n (pc := 4) hx hb dX6_lightAngle_4 rfl (lv_at hl 1 rfl) ?_
  refine lv_iload_n (pc := 5) hx hb dX6_lightAngle_5 rfl (lv_at hl 2 rfl) ?_
  refine zv_imul (pc := 6) hx hb dX6_lightAngle_6 ?_
  refine zv_iadd (pc := 7) hx hb dX6_lightAngle_7 ?_
  refine zv_as (pc := 8) (a := (100 * di) + (dr * t)) (b := zli di dr t) (rfl) ?_
  exact ze_i (pc := 8) hx hb hr hlk hW () rfl trivial rfl dX6_lightAngle_8

set_option maxHeartbeats 4000000 in
set_option maxRecDepth 100000 in
/-- hasKind -/
theorem kX6_hasKind (G : zG) (l : Launch) (a : Int) (k : Int) : zM G l yX6_hasKind wsX6_hasKind { frames := 0, cells := 0, slots := 0, locals := 0 } [.int (zI a), .int (zI k)] [] (S := Unit) (zri (fun _ => zb (zhas a k))) (fun _ => True) (fun _ => []) 0 0 := by
  refine zM.of (cc := cX6_hasKind) (maxL := 2) (ret := (some .boolean)) (by decide) rfl (Nat.le_of_ble_eq_true rfl) (l0 := [(0, .int (zI a)), (1, .int (zI k))]) rfl ?_
  intro p e s m args below meth c ls F hr hlk hnm hW hl
  obtain ⟨hx, hb, hml, hown, hts⟩ := id F
  refine lv_iload_n (pc := 0) hx hb dX6_hasKind_0 rfl (lv_at hl 0 rfl) ?_
  refine lv_iload_n (pc := 1) hx hb dX6_hasKind_1 rfl (lv_at hl 1 rfl) ?_
  refine zv_ishr (pc := 2) hx hb dX6_hasKind_2 ?_
  refine zv_iconst (pc := 3) (n := 1) hx hb dX6_hasKind_3 ?_
  refine zv_iand (pc := 4) hx hb dX6_hasKind_4 ?_
  refine zv_if_eq (pc := 5) (tgt := 12) hx hb dX6_hasKind_5 (by decide) (zand_in _ _) (fun c5 => ?_) (fun c5 => ?_)
  · refine zv_iconst (pc := 12) (n := 0) hx hb dX6_hasKind_12 ?_
    refine zv_as (pc := 13) (a := 0) (b := zb (zhas a k)) (by unfold zhas; simp [c5]) ?_
    exact ze_z (pc := 13) hx hb hr hlk hW () rfl trivial rfl dX6_hasKind_13
  · refine zv_iconst (pc := 8) (n := 1) hx hb dX6_hasKind_8 ?_
    refine lv_goto (pc := 9) (tgt := 13) hx hb dX6_hasKind_9 (by decide) ?_
    refine zv_as (pc := 13) (a := 1) (b := zb (zhas a k)) (by unfold zhas; simp [c5]) ?_
    exact ze_z (pc := 13) hx hb hr hlk hW () rfl trivial rfl dX6_hasKind_13

set_option maxHeartbeats 4000000 in
set_option maxRecDepth 100000 in
/-- widthOf -/
theorem kX3_widthOf (G : zG) (l : Launch) (fl : Int) (h1 : 0 ≤ fl) (h2 : fl ≤ 60) : zM G l yX3_widthOf wsX3_widthOf { frames := 0, cells := 0, slots := 0, locals := 0 } [.int (zI fl)] [] (S := Unit) (zri (fun _ => zwid (10000 - fl * fl))) (fun _ => True) (fun _ => []) 0 0 := by
  refine zM.of (cc := cX3_widthOf) (maxL := 3) (ret := (some .int)) (by decide) rfl (Nat.le_of_ble_eq_true rfl) (l0 := [(0, .int (zI fl))]) rfl ?_
  intro p e s m args below meth c ls F hr hlk hnm hW hl
  obtain ⟨hx, hb, hml, hown, hts⟩ := id F
  have hfl := zmul_abs (a := fl) (b := fl) (A := 60) (B := 60) (by omega) (by omega) rfl
  have hfl0 := Int.mul_nonneg h1 h1
  refine zv_sipush (pc := 0) (n := 10000) hx hb dX3_widthOf_0 (by decide) ?_
  refine lv_iload_n (pc := 3) hx hb dX3_widthOf_3 rfl (lv_at hl 0 rfl) ?_
  refine lv_iload_n (pc := 4) hx hb dX3_widthOf_4 rfl (lv_at hl 0 rfl) ?_
  refine zv_imul (pc := 5) hx hb dX3_widthOf_5 ?_
  refine zv_isub (pc := 6) hx hb dX3_widthOf_6 ?_
  refine zv_name (fun v hv => ?_)
  refine lv_istore_n (pc := 7) (lv' := [(1, .int (zI v)), (0, .int (zI fl))]) hx hb dX3_widthOf_7 rfl hl (by decide) rfl (fun ls hl => ?_)
  refine zv_bipush (pc := 8) (n := 100) hx hb dX3_widthOf_8 (by decide) ?_
  refine lv_istore_n (pc := 10) (lv' := [(2, .int (zI 100)), (1, .int (zI v)), (0, .int (zI fl))]) hx hb dX3_widthOf_10 rfl hl (by decide) rfl (fun ls hl => ?_)
  have J11 : ∀ (fuel11 : Nat) (w : Int) (w0 : 0 ≤ w) (w1 : w ≤ 100) (hq : v < (w + 1) * (w + 1)) (hfu11 : w.toNat < fuel11) (H : Heap) (locs : List Loc) (ls : Array Slot) (hW : zW G (va_A [] s.heap.size) s H locs []) (hl : lv_has ls 3 [(2, .int (zI w)), (1, .int (zI v)), (0, .int (zI fl))]), W p l e ({ frames := 0, cells := 0, slots := 0, locals := 0 } : Room) s m args below meth c H locs 0 0 (MQ below (zQ (S := Unit) (zri (fun _ => zwid (10000 - fl * fl))) (fun _ => True) (zPost G [] s.heap.size (fun _ => [])) (va_A [] s.heap.size)) args s 0 0 (va_A [] s.heap.size)) (F0 m 11 ls []) := by
    intro fuel11
    induction fuel11 with
    | zero =>
      intro w w0 w1 hq hfu11
      exact absurd hfu11 (Nat.not_lt_zero _)
    | succ fuel11 ih11 =>
      intro w w0 w1 hq hfu11 H locs ls hW hl
      refine lv_iload_n (pc := 11) hx hb dX3_widthOf_11 rfl (lv_at hl 0 rfl) ?_
      refine zv_if_le (pc := 12) (tgt := 28) hx hb dX3_widthOf_12 (by decide) ⟨by omega, by omega⟩ (fun c12 => ?_) (fun c12 => ?_)
      · refine lv_iload_n (pc := 28) hx hb dX3_widthOf_28 rfl (lv_at hl 0 rfl) ?_
        refine zv_as (pc := 29) (a := w) (b := zwid (10000 - fl * fl)) (by rw [← hv]; exact (zwid_is w0 w1 (by first | exact c19 | (have e1 : w = 0 := (by omega); rw [e1]; omega)) hq).symm) ?_
        exact ze_i (pc := 29) hx hb hr hlk hW () rfl trivial rfl dX3_widthOf_29
      · refine lv_iload_n (pc := 15) hx hb dX3_widthOf_15 rfl (lv_at hl 0 rfl) ?_
        refine lv_iload_n (pc := 16) hx hb dX3_widthOf_16 rfl (lv_at hl 0 rfl) ?_
        refine zv_imul (pc := 17) hx hb dX3_widthOf_17 ?_
        refine lv_iload_n (pc := 18) hx hb dX3_widthOf_18 rfl (lv_at hl 1 rfl) ?_
        refine zv_icmp_le (pc := 19) (tgt := 28) hx hb dX3_widthOf_19 (by decide) (have q := zmul_abs (a := w) (b := w) (A := 100) (B := 100) (by omega) (by omega) rfl; ⟨by omega, by omega⟩) ⟨by omega, by omega⟩ (fun c19 => ?_) (fun c19 => ?_)
        · refine lv_iload_n (pc := 28) hx hb dX3_widthOf_28 rfl (lv_at hl 0 rfl) ?_
          refine zv_as (pc := 29) (a := w) (b := zwid (10000 - fl * fl)) (by rw [← hv]; exact (zwid_is w0 w1 (by first | exact c19 | (have e1 : w = 0 := (by omega); rw [e1]; omega)) hq).symm) ?_
          exact ze_i (pc := 29) hx hb hr hlk hW () rfl trivial rfl dX3_widthOf_29
        · refine zv_iinc (pc := 22) (lv' := [(2, .int (zI (w + (-1)))), (1, .int (zI v)), (0, .int (zI fl))]) hx hb dX3_widthOf_22 hl (k := 0) rfl (by decide) rfl (fun ls hl => ?_)
          refine lv_goto (pc := 25) (tgt := 11) hx hb dX3_widthOf_25 (by decide) ?_
          exact ih11 (w + (-1)) (by omega) (by omega) (by first | omega | (have e1 : w + (-1) + 1 = w := (by omega); rw [e1]; exact c19)) (by omega) _ _ _ hW (lv_sub hl [0, 1, 2] rfl)
  exact J11 ((100 : Int).toNat + 1) 100 (by omega) (by omega) (by first | omega | (have e1 : w + (-1) + 1 = w := (by omega); rw [e1]; exact c19)) (Nat.lt_succ_self _) _ _ _ hW (lv_sub hl [0, 1, 2] rfl)

set_option maxHeartbeats 4000000 in
set_option maxRecDepth 100000 in
/-- aim -/
theorem kX3_aim (G : zG) (l : Launch) (sp : Nat) (x : Int) (y : Int) (h : Int) (d : Int) (o4 : Int) (o5 : Int) (o6 : Int) (o7 : Int) (o8 : Int) (o9 : Int) (o10 : Int) (o11 : Int) (o12 : Int) (o13 : Int) (o14 : Int) (q : Nat) (qn : Nat) (qm : Nat) (qs : Nat) (pr : Int) (di : Int) (dr : Int) (mc : Int) (sc : Int) (mn : Int → Int) (mo : Int) (h1 : 0 ≤ mo) (h2 : mo < 6) (hg : zgok (zg mn mo)) : zM G l yX3_aim wsX3_aim { frames := 1, cells := 0, slots := 0, locals := 29 } [.ref sp, .ref q, .int (zI mo)] [(sp, .inr (3, [.int (zI x), .int (zI y), .int (zI h), .int (zI d), .int (zI o4), .int (zI o5), .int (zI o6), .int (zI o7), .long (zL o8), .int (zI o9), .int (zI o10), .long (zL o11), .long (zL o12), .int (zI o13), .int (zI o14)])), (q, .inr (1, [.int (zI pr), .int (zI di), .int (zI dr), .int (zI mc), .int (zI sc), .ref qn, .ref qm, .ref qs])), (qm, .inl (zk G 0, 36, .inl (zA mn)))] (S := Unit) zrv (fun _ => True) (fun _ => [(sp, .inr (3, [.int (zI x), .int (zI y), .int (zI h), .int (zI d), .int (zI (100 * pr)), .int (zI (100 * (zg mn mo) 5)), .int (zI di), .int (zI dr), .long (zL ((zg mn mo) 0)), .int (zI ((zg mn mo) 1)), .int (zI (zwid (10000 - (zg mn mo) 1 * (zg mn mo) 1))), .long (zL (zs (100 * (zg mn mo) 2))), .long (zL (zs (100 * (zg mn mo) 2 + 9000))), .int (zI ((zg mn mo) 3)), .int (zI (100 * (zg mn mo) 4))])), (q, .inr (1, [.int (zI pr), .int (zI di), .int (zI dr), .int (zI mc), .int (zI sc), .ref qn, .ref qm, .ref qs])), (qm, .inl (zk G 0, 36, .inl (zA mn)))]) 0 0 := by
  refine zM.of (cc := cX3_aim) (maxL := 4) (ret := none) (by decide) rfl (Nat.le_of_ble_eq_true rfl) (l0 := [(0, .ref sp), (1, .ref q), (2, .int (zI mo))]) rfl ?_
  intro p e s m args below meth c ls F hr hlk hnm hW hl
  obtain ⟨hx, hb, hml, hown, hts⟩ := id F
  have hin1 : ∀ w ∈ wsX10, w ∈ wsX3_aim := fun _ h => List.mem_cons_of_mem _ (List.mem_append_left _ (List.mem_append_right _ (h)))
  have hin3 : ∀ w ∈ wsX30, w ∈ wsX3_aim := fun _ h => List.mem_cons_of_mem _ (List.mem_append_right _ (h))
  obtain ⟨g0, g1, g2, g3, g4, g5⟩ : (2 ≤ mn (mo * 6 + 0) ∧ mn (mo * 6 + 0) ≤ 9999) ∧ (0 ≤ mn (mo * 6 + 1) ∧ mn (mo * 6 + 1) ≤ 60) ∧ (0 ≤ mn (mo * 6 + 2) ∧ mn (mo * 6 + 2) ≤ 359) ∧ (8 ≤ mn (mo * 6 + 3) ∧ mn (mo * 6 + 3) ≤ 99999) ∧ (0 ≤ mn (mo * 6 + 4) ∧ mn (mo * 6 + 4) ≤ 359) ∧ (0 ≤ mn (mo * 6 + 5) ∧ mn (mo * 6 + 5) ≤ 99) := id hg
  refine lv_aload_n (pc := 0) hx hb dX3_aim_0 rfl (lv_at hl 0 rfl) ?_
  refine zv_bipush (pc := 1) (n := 100) hx hb dX3_aim_1 (by decide) ?_
  refine lv_aload_n (pc := 3) hx hb dX3_aim_3 rfl (lv_at hl 1 rfl) ?_
  refine zw_get (pc := 4) (ref := RX1) (index := 9) hx hb hts hin1 hown hW 1 rfl rfl 0 (by decide) (List.mem_of_getElem? (i := 1) rfl) (fun _ h9 => h9) rfl dX3_aim_4 ?_
  refine zv_imul (pc := 7) hx hb dX3_aim_7 ?_
  refine zw_put (pc := 8) (ws' := [(sp, .inr (3, [.int (zI x), .int (zI y), .int (zI h), .int (zI d), .int (zI (100 * pr)), .int (zI o5), .int (zI o6), .int (zI o7), .long (zL o8), .int (zI o9), .int (zI o10), .long (zL o11), .long (zL o12), .int (zI o13), .int (zI o14)])), (q, .inr (1, [.int (zI pr), .int (zI di), .int (zI dr), .int (zI mc), .int (zI sc), .ref qn, .ref qm, .ref qs])), (qm, .inl (zk G 0, 36, .inl (zA mn)))]) (ref := RX3) (index := 15) hx hb hts hin3 tyX3 tyX3_ok nmX3 hown hW 0 rfl rfl 4 (by decide) (List.mem_of_getElem? (i := 2) rfl) (fun _ h9 => h9) rfl (tyX3_ok 4 (by decide)) rfl rfl (Nat.le_of_ble_eq_true rfl) rfl dX3_aim_8 (fun H locs hW => ?_)
  refine lv_aload_n (pc := 11) hx hb dX3_aim_11 rfl (lv_at hl 0 rfl) ?_
  refine zv_bipush (pc := 12) (n := 100) hx hb dX3_aim_12 (by decide) ?_
  refine lv_aload_n (pc := 14) hx hb dX3_aim_14 rfl (lv_at hl 1 rfl) ?_
  refine lv_iload_n (pc := 15) hx hb dX3_aim_15 rfl (lv_at hl 2 rfl) ?_
  refine zv_iconst (pc := 16) (n := 5) hx hb dX3_aim_16 ?_
  refine z_V (pc := 17) (As := [.int (zI mo), .int (zI 5)]) (rest := [.int (zI 100), .ref sp]) (wn := (fun _ => [(sp, .inr (3, [.int (zI x), .int (zI y), .int (zI h), .int (zI d), .int (zI (100 * pr)), .int (zI o5), .int (zI o6), .int (zI o7), .long (zL o8), .int (zI o9), .int (zI o10), .long (zL o11), .long (zL o12), .int (zI o13), .int (zI o14)])), (q, .inr (1, [.int (zI pr), .int (zI di), .int (zI dr), .int (zI mc), .int (zI sc), .ref qn, .ref qm, .ref qs])), (qm, .inl (zk G 0, 36, .inl (zA mn)))])) (wr := [(sp, .inr (3, [.int (zI x), .int (zI y), .int (zI h), .int (zI d), .int (zI (100 * pr)), .int (zI o5), .int (zI o6), .int (zI o7), .long (zL o8), .int (zI o9), .int (zI o10), .long (zL o11), .long (zL o12), .int (zI o13), .int (zI o14)]))]) F (kX1_moonNumber G l q qn qm qs pr di dr mc sc mn mo 5 (by first | assumption | omega) (by first | assumption | omega) (by first | assumption | omega) (by first | assumption | omega)) (cwV 2 hts gX3_aim_X1_moonNumber rfl rfl rfl (by decide +kernel) ⟨Nat.le_of_ble_eq_true rfl, Nat.le_of_ble_eq_true rfl⟩) hW 1 rfl rfl [1, 2] [0] (by decide) rfl rfl rfl (by decide) (by decide) [0, 1, 2] (by decide) (fun _ => rfl) (fun _ => rfl) rfl hl.1 rfl (Nat.le_of_ble_eq_true rfl) dX3_aim_17 ⟨Nat.le_of_ble_eq_true rfl, Nat.le_of_ble_eq_true rfl⟩ (fun _ H locs _ hW => ?_)
  show W p l e _ s m args below meth c H locs _ _ _ (F0 m 20 ls [.int (zI (mn (mo * 6 + 5))), .int (zI 100), .ref sp])
  refine zv_imul (pc := 20) hx hb dX3_aim_20 ?_
  refine zw_put (pc := 21) (ws' := [(sp, .inr (3, [.int (zI x), .int (zI y), .int (zI h), .int (zI d), .int (zI (100 * pr)), .int (zI (100 * (mn (mo * 6 + 5)))), .int (zI o6), .int (zI o7), .long (zL o8), .int (zI o9), .int (zI o10), .long (zL o11), .long (zL o12), .int (zI o13), .int (zI o14)])), (q, .inr (1, [.int (zI pr), .int (zI di), .int (zI dr), .int (zI mc), .int (zI sc), .ref qn, .ref qm, .ref qs])), (qm, .inl (zk G 0, 36, .inl (zA mn)))]) (ref := RX3) (index := 24) hx hb hts hin3 tyX3 tyX3_ok nmX3 hown hW 0 rfl rfl 5 (by decide) (List.mem_of_getElem? (i := 3) rfl) (fun _ h9 => h9) rfl (tyX3_ok 5 (by decide)) rfl rfl (Nat.le_of_ble_eq_true rfl) rfl dX3_aim_21 (fun H locs hW => ?_)
  refine lv_aload_n (pc := 24) hx hb dX3_aim_24 rfl (lv_at hl 0 rfl) ?_
  refine lv_aload_n (pc := 25) hx hb dX3_aim_25 rfl (lv_at hl 1 rfl) ?_
  refine zw_get (pc := 26) (ref := RX1) (index := 27) hx hb hts hin1 hown hW 1 rfl rfl 1 (by decide) (List.mem_of_getElem? (i := 4) rfl) (fun _ h9 => h9) rfl dX3_aim_26 ?_
  refine zw_put (pc := 29) (ws' := [(sp, .inr (3, [.int (zI x), .int (zI y), .int (zI h), .int (zI d), .int (zI (100 * pr)), .int (zI (100 * (mn (mo * 6 + 5)))), .int (zI di), .int (zI o7), .long (zL o8), .int (zI o9), .int (zI o10), .long (zL o11), .long (zL o12), .int (zI o13), .int (zI o14)])), (q, .inr (1, [.int (zI pr), .int (zI di), .int (zI dr), .int (zI mc), .int (zI sc), .ref qn, .ref qm, .ref qs])), (qm, .inl (zk G 0, 36, .inl (zA mn)))]) (ref := RX3) (index := 30) hx hb hts hin3 tyX3 tyX3_ok nmX3 hown hW 0 rfl rfl 6 (by decide) (List.mem_of_getElem? (i := 5) rfl) (fun _ h9 => h9) rfl (tyX3_ok 6 (by decide)) rfl rfl (Nat.le_of_ble_eq_true rfl) rfl dX3_aim_29 (fun H locs hW => ?_)
  refine lv_aload_n (pc := 32) hx hb dX3_aim_32 rfl (lv_at hl 0 rfl) ?_
  refine lv_aload_n (pc := 33) hx hb dX3_aim_33 rfl (lv_at hl 1 rfl) ?_
  refine zw_get (pc := 34) (ref := RX1) (index := 31) hx hb hts hin1 hown hW 1 rfl rfl 2 (by decide) (List.mem_of_getElem? (i := 6) rfl) (fun _ h9 => h9) rfl dX3_aim_34 ?_
  refine zw_put (pc := 37) (ws' := [(sp, .inr (3, [.int (zI x), .int (zI y), .int (zI h), .int (zI d), .int (zI (100 * pr)), .int (zI (100 * (mn (mo * 6 + 5)))), .int (zI di), .int (zI dr), .long (zL o8), .int (zI o9), .int (zI o10), .long (zL o11), .long (zL o12), .int (zI o13), .int (zI o14)])), (q, .inr (1, [.int (zI pr), .int (zI di), .int (zI dr), .int (zI mc), .int (zI sc), .ref qn, .ref qm, .ref qs])), (qm, .inl (zk G 0, 36, .inl (zA mn)))]) (ref := RX3) (index := 34) hx hb hts hin3 tyX3 tyX3_ok nmX3 hown hW 0 rfl rfl 7 (by decide) (List.mem_of_getElem? (i := 7) rfl) (fun _ h9 => h9) rfl (tyX3_ok 7 (by decide)) rfl rfl (Nat.le_of_ble_eq_true rfl) rfl dX3_aim_37 (fun H locs hW => ?_)
  refine lv_aload_n (pc := 40) hx hb dX3_aim_40 rfl (lv_at hl 0 rfl) ?_
  refine lv_aload_n (pc := 41) hx hb dX3_aim_41 rfl (lv_at hl 1 rfl) ?_
  refine lv_iload_n (pc := 42) hx hb dX3_aim_42 rfl (lv_at hl 2 rfl) ?_
  refine zv_iconst (pc := 43) (n := 0) hx hb dX3_aim_43 ?_
  refine z_V (pc := 44) (As := [.int (zI mo), .int (zI 0)]) (rest := [.ref sp]) (wn := (fun _ => [(sp, .inr (3, [.int (zI x), .int (zI y), .int (zI h), .int (zI d), .int (zI (100 * pr)), .int (zI (100 * (mn (mo * 6 + 5)))), .int (zI di), .int (zI dr), .long (zL o8), .int (zI o9), .int (zI o10), .long (zL o11), .long (zL o12), .int (zI o13), .int (zI o14)])), (q, .inr (1, [.int (zI pr), .int (zI di), .int (zI dr), .int (zI mc), .int (zI sc), .ref qn, .ref qm, .ref qs])), (qm, .inl (zk G 0, 36, .inl (zA mn)))])) (wr := [(sp, .inr (3, [.int (zI x), .int (zI y), .int (zI h), .int (zI d), .int (zI (100 * pr)), .int (zI (100 * (mn (mo * 6 + 5)))), .int (zI di), .int (zI dr), .long (zL o8), .int (zI o9), .int (zI o10), .long (zL o11), .long (zL o12), .int (zI o13), .int (zI o14)]))]) F (kX1_moonNumber G l q qn qm qs pr di dr mc sc mn mo 0 (by first | assumption | omega) (by first | assumption | omega) (by first | assumption | omega) (by first | assumption | omega)) (cwV 2 hts gX3_aim_X1_moonNumber rfl rfl rfl (by decide +kernel) ⟨Nat.le_of_ble_eq_true rfl, Nat.le_of_ble_eq_true rfl⟩) hW 1 rfl rfl [1, 2] [0] (by decide) rfl rfl rfl (by decide) (by decide) [0, 1, 2] (by decide) (fun _ => rfl) (fun _ => rfl) rfl hl.1 rfl (Nat.le_of_ble_eq_true rfl) dX3_aim_44 ⟨Nat.le_of_ble_eq_true rfl, Nat.le_of_ble_eq_true rfl⟩ (fun _ H locs _ hW => ?_)
  show W p l e _ s m args below meth c H locs _ _ _ (F0 m 47 ls [.int (zI (mn (mo * 6 + 0))), .ref sp])
  refine zv_i2l (pc := 47) hx hb dX3_aim_47 ⟨by omega, by omega⟩ ?_
  refine zw_put (pc := 48) (ws' := [(sp, .inr (3, [.int (zI x), .int (zI y), .int (zI h), .int (zI d), .int (zI (100 * pr)), .int (zI (100 * (mn (mo * 6 + 5)))), .int (zI di), .int (zI dr), .long (zL (mn (mo * 6 + 0))), .int (zI o9), .int (zI o10), .long (zL o11), .long (zL o12), .int (zI o13), .int (zI o14)])), (q, .inr (1, [.int (zI pr), .int (zI di), .int (zI dr), .int (zI mc), .int (zI sc), .ref qn, .ref qm, .ref qs])), (qm, .inl (zk G 0, 36, .inl (zA mn)))]) (ref := RX3) (index := 35) hx hb hts hin3 tyX3 tyX3_ok nmX3 hown hW 0 rfl rfl 8 (by decide) (List.mem_of_getElem? (i := 8) rfl) (fun _ h9 => h9) rfl (tyX3_ok 8 (by decide)) rfl rfl (Nat.le_of_ble_eq_true rfl) rfl dX3_aim_48 (fun H locs hW => ?_)
  refine lv_aload_n (pc := 51) hx hb dX3_aim_51 rfl (lv_at hl 0 rfl) ?_
  refine lv_aload_n (pc := 52) hx hb dX3_aim_52 rfl (lv_at hl 1 rfl) ?_
  refine lv_iload_n (pc := 53) hx hb dX3_aim_53 rfl (lv_at hl 2 rfl) ?_
  refine zv_iconst (pc := 54) (n := 1) hx hb dX3_aim_54 ?_
  refine z_V (pc := 55) (As := [.int (zI mo), .int (zI 1)]) (rest := [.ref sp]) (wn := (fun _ => [(sp, .inr (3, [.int (zI x), .int (zI y), .int (zI h), .int (zI d), .int (zI (100 * pr)), .int (zI (100 * (mn (mo * 6 + 5)))), .int (zI di), .int (zI dr), .long (zL (mn (mo * 6 + 0))), .int (zI o9), .int (zI o10), .long (zL o11), .long (zL o12), .int (zI o13), .int (zI o14)])), (q, .inr (1, [.int (zI pr), .int (zI di), .int (zI dr), .int (zI mc), .int (zI sc), .ref qn, .ref qm, .ref qs])), (qm, .inl (zk G 0, 36, .inl (zA mn)))])) (wr := [(sp, .inr (3, [.int (zI x), .int (zI y), .int (zI h), .int (zI d), .int (zI (100 * pr)), .int (zI (100 * (mn (mo * 6 + 5)))), .int (zI di), .int (zI dr), .long (zL (mn (mo * 6 + 0))), .int (zI o9), .int (zI o10), .long (zL o11), .long (zL o12), .int (zI o13), .int (zI o14)]))]) F (kX1_moonNumber G l q qn qm qs pr di dr mc sc mn mo 1 (by first | assumption | omega) (by first | assumption | omega) (by first | assumption | omega) (by first | assumption | omega)) (cwV 2 hts gX3_aim_X1_moonNumber rfl rfl rfl (by decide +kernel) ⟨Nat.le_of_ble_eq_true rfl, Nat.le_of_ble_eq_true rfl⟩) hW 1 rfl rfl [1, 2] [0] (by decide) rfl rfl rfl (by decide) (by decide) [0, 1, 2] (by decide) (fun _ => rfl) (fun _ => rfl) rfl hl.1 rfl (Nat.le_of_ble_eq_true rfl) dX3_aim_55 ⟨Nat.le_of_ble_eq_true rfl, Nat.le_of_ble_eq_true rfl⟩ (fun _ H locs _ hW => ?_)
  show W p l e _ s m args below meth c H locs _ _ _ (F0 m 58 ls [.int (zI (mn (mo * 6 + 1))), .ref sp])
  refine zw_put (pc := 58) (ws' := [(sp, .inr (3, [.int (zI x), .int (zI y), .int (zI h), .int (zI d), .int (zI (100 * pr)), .int (zI (100 * (mn (mo * 6 + 5)))), .int (zI di), .int (zI dr), .long (zL (mn (mo * 6 + 0))), .int (zI (mn (mo * 6 + 1))), .int (zI o10), .long (zL o11), .long (zL o12), .int (zI o13), .int (zI o14)])), (q, .inr (1, [.int (zI pr), .int (zI di), .int (zI dr), .int (zI mc), .int (zI sc), .ref qn, .ref qm, .ref qs])), (qm, .inl (zk G 0, 36, .inl (zA mn)))]) (ref := RX3) (index := 39) hx hb hts hin3 tyX3 tyX3_ok nmX3 hown hW 0 rfl rfl 9 (by decide) (List.mem_of_getElem? (i := 9) rfl) (fun _ h9 => h9) rfl (tyX3_ok 9 (by decide)) rfl rfl (Nat.le_of_ble_eq_true rfl) rfl dX3_aim_58 (fun H locs hW => ?_)
  refine lv_aload_n (pc := 61) hx hb dX3_aim_61 rfl (lv_at hl 0 rfl) ?_
  refine lv_aload_n (pc := 62) hx hb dX3_aim_62 rfl (lv_at hl 0 rfl) ?_
  refine zw_get (pc := 63) (ref := RX3) (index := 39) hx hb hts hin3 hown hW 0 rfl rfl 9 (by decide) (List.mem_of_getElem? (i := 9) rfl) (fun _ h9 => h9) rfl dX3_aim_63 ?_
  refine z_S (pc := 66) (As := [.int (zI (mn (mo * 6 + 1)))]) (rest := [.ref sp]) (wn := (fun _ => [(sp, .inr (3, [.int (zI x), .int (zI y), .int (zI h), .int (zI d), .int (zI (100 * pr)), .int (zI (100 * (mn (mo * 6 + 5)))), .int (zI di), .int (zI dr), .long (zL (mn (mo * 6 + 0))), .int (zI (mn (mo * 6 + 1))), .int (zI o10), .long (zL o11), .long (zL o12), .int (zI o13), .int (zI o14)])), (q, .inr (1, [.int (zI pr), .int (zI di), .int (zI dr), .int (zI mc), .int (zI sc), .ref qn, .ref qm, .ref qs])), (qm, .inl (zk G 0, 36, .inl (zA mn)))])) (wr := [(sp, .inr (3, [.int (zI x), .int (zI y), .int (zI h), .int (zI d), .int (zI (100 * pr)), .int (zI (100 * (mn (mo * 6 + 5)))), .int (zI di), .int (zI dr), .long (zL (mn (mo * 6 + 0))), .int (zI (mn (mo * 6 + 1))), .int (zI o10), .long (zL o11), .long (zL o12), .int (zI o13), .int (zI o14)])), (q, .inr (1, [.int (zI pr), .int (zI di), .int (zI dr), .int (zI mc), .int (zI sc), .ref qn, .ref qm, .ref qs])), (qm, .inl (zk G 0, 36, .inl (zA mn)))]) F (kX3_widthOf G l (mn (mo * 6 + 1)) (by first | assumption | omega) (by first | assumption | omega)) (va_cwS 1 hts gX3_aim_X3_widthOf rfl rfl rfl (by decide +kernel) ⟨Nat.le_of_ble_eq_true rfl, Nat.le_of_ble_eq_true rfl⟩) hW [] [0, 1, 2] (by decide) rfl rfl rfl (by decide) (by decide) [0, 1, 2] (by decide) (fun _ => rfl) (fun _ => rfl) rfl hl.1 rfl (Nat.le_of_ble_eq_true rfl) dX3_aim_66 ⟨Nat.le_of_ble_eq_true rfl, Nat.le_of_ble_eq_true rfl⟩ (fun _ H locs _ hW => ?_)
  show W p l e _ s m args below meth c H locs _ _ _ (F0 m 69 ls [.int (zI (zwid (10000 - (mn (mo * 6 + 1)) * (mn (mo * 6 + 1))))), .ref sp])
  refine zw_put (pc := 69) (ws' := [(sp, .inr (3, [.int (zI x), .int (zI y), .int (zI h), .int (zI d), .int (zI (100 * pr)), .int (zI (100 * (mn (mo * 6 + 5)))), .int (zI di), .int (zI dr), .long (zL (mn (mo * 6 + 0))), .int (zI (mn (mo * 6 + 1))), .int (zI (zwid (10000 - (mn (mo * 6 + 1)) * (mn (mo * 6 + 1))))), .long (zL o11), .long (zL o12), .int (zI o13), .int (zI o14)])), (q, .inr (1, [.int (zI pr), .int (zI di), .int (zI dr), .int (zI mc), .int (zI sc), .ref qn, .ref qm, .ref qs])), (qm, .inl (zk G 0, 36, .inl (zA mn)))]) (ref := RX3) (index := 46) hx hb hts hin3 tyX3 tyX3_ok nmX3 hown hW 0 rfl rfl 10 (by decide) (List.mem_of_getElem? (i := 10) rfl) (fun _ h9 => h9) rfl (tyX3_ok 10 (by decide)) rfl rfl (Nat.le_of_ble_eq_true rfl) rfl dX3_aim_69 (fun H locs hW => ?_)
  refine zv_bipush (pc := 72) (n := 100) hx hb dX3_aim_72 (by decide) ?_
  refine lv_aload_n (pc := 74) hx hb dX3_aim_74 rfl (lv_at hl 1 rfl) ?_
  refine lv_iload_n (pc := 75) hx hb dX3_aim_75 rfl (lv_at hl 2 rfl) ?_
  refine zv_iconst (pc := 76) (n := 2) hx hb dX3_aim_76 ?_
  refine z_V (pc := 77) (As := [.int (zI mo), .int (zI 2)]) (rest := [.int (zI 100)]) (wn := (fun _ => [(sp, .inr (3, [.int (zI x), .int (zI y), .int (zI h), .int (zI d), .int (zI (100 * pr)), .int (zI (100 * (mn (mo * 6 + 5)))), .int (zI di), .int (zI dr), .long (zL (mn (mo * 6 + 0))), .int (zI (mn (mo * 6 + 1))), .int (zI (zwid (10000 - (mn (mo * 6 + 1)) * (mn (mo * 6 + 1))))), .long (zL o11), .long (zL o12), .int (zI o13), .int (zI o14)])), (q, .inr (1, [.int (zI pr), .int (zI di), .int (zI dr), .int (zI mc), .int (zI sc), .ref qn, .ref qm, .ref qs])), (qm, .inl (zk G 0, 36, .inl (zA mn)))])) (wr := [(sp, .inr (3, [.int (zI x), .int (zI y), .int (zI h), .int (zI d), .int (zI (100 * pr)), .int (zI (100 * (mn (mo * 6 + 5)))), .int (zI di), .int (zI dr), .long (zL (mn (mo * 6 + 0))), .int (zI (mn (mo * 6 + 1))), .int (zI (zwid (10000 - (mn (mo * 6 + 1)) * (mn (mo * 6 + 1))))), .long (zL o11), .long (zL o12), .int (zI o13), .int (zI o14)]))]) F (kX1_moonNumber G l q qn qm qs pr di dr mc sc mn mo 2 (by first | assumption | omega) (by first | assumption | omega) (by first | assumption | omega) (by first | assumption | omega)) (cwV 2 hts gX3_aim_X1_moonNumber rfl rfl rfl (by decide +kernel) ⟨Nat.le_of_ble_eq_true rfl, Nat.le_of_ble_eq_true rfl⟩) hW 1 rfl rfl [1, 2] [0] (by decide) rfl rfl rfl (by decide) (by decide) [0, 1, 2] (by decide) (fun _ => rfl) (fun _ => rfl) rfl hl.1 rfl (Nat.le_of_ble_eq_true rfl) dX3_aim_77 ⟨Nat.le_of_ble_eq_true rfl, Nat.le_of_ble_eq_true rfl⟩ (fun _ H locs _ hW => ?_)
  show W p l e _ s m args below meth c H locs _ _ _ (F0 m 80 ls [.int (zI (mn (mo * 6 + 2))), .int (zI 100)])
  refine zv_imul (pc := 80) hx hb dX3_aim_80 ?_
  refine lv_istore_n (pc := 81) (lv' := [(3, .int (zI (100 * (mn (mo * 6 + 2))))), (0, .ref sp), (1, .ref q), (2, .int (zI mo))]) hx hb dX3_aim_81 rfl hl (by decide) rfl (fun ls hl => ?_)
  refine lv_aload_n (pc := 82) hx hb dX3_aim_82 rfl (lv_at hl 1 rfl) ?_
  refine lv_iload_n (pc := 83) hx hb dX3_aim_83 rfl (lv_at hl 0 rfl) ?_
  refine z_SN (pc := 84) (As := [.int (zI (100 * (mn (mo * 6 + 2))))]) (rest := [.ref sp]) (wn := (fun _ => [(sp, .inr (3, [.int (zI x), .int (zI y), .int (zI h), .int (zI d), .int (zI (100 * pr)), .int (zI (100 * (mn (mo * 6 + 5)))), .int (zI di), .int (zI dr), .long (zL (mn (mo * 6 + 0))), .int (zI (mn (mo * 6 + 1))), .int (zI (zwid (10000 - (mn (mo * 6 + 1)) * (mn (mo * 6 + 1))))), .long (zL o11), .long (zL o12), .int (zI o13), .int (zI o14)])), (q, .inr (1, [.int (zI pr), .int (zI di), .int (zI dr), .int (zI mc), .int (zI sc), .ref qn, .ref qm, .ref qs])), (qm, .inl (zk G 0, 36, .inl (zA mn)))])) (wr := [(sp, .inr (3, [.int (zI x), .int (zI y), .int (zI h), .int (zI d), .int (zI (100 * pr)), .int (zI (100 * (mn (mo * 6 + 5)))), .int (zI di), .int (zI dr), .long (zL (mn (mo * 6 + 0))), .int (zI (mn (mo * 6 + 1))), .int (zI (zwid (10000 - (mn (mo * 6 + 1)) * (mn (mo * 6 + 1))))), .long (zL o11), .long (zL o12), .int (zI o13), .int (zI o14)])), (q, .inr (1, [.int (zI pr), .int (zI di), .int (zI dr), .int (zI mc), .int (zI sc), .ref qn, .ref qm, .ref qs])), (qm, .inl (zk G 0, 36, .inl (zA mn)))]) F (kX6_sineOf G l (100 * (mn (mo * 6 + 2))) (by first | assumption | omega) (by first | assumption | omega)) ⟨va_cnB 1 hts gX3_aim_X6_sineOf_n49 rfl rfl rfl (zXn hW 11 rfl) (hts _ (List.mem_of_getElem? (i := 26) rfl)) (by decide +kernel) ⟨Nat.le_of_ble_eq_true rfl, Nat.le_of_ble_eq_true rfl⟩, hts _ (List.mem_of_getElem? (i := 25) rfl), trivial⟩ hW [] [0, 1, 2] (by decide) rfl rfl rfl (by decide) (by decide) [0, 1, 2] (by decide) (fun _ => rfl) (fun _ => rfl) rfl hl.1 rfl (Nat.le_of_ble_eq_true rfl) dX3_aim_84 ⟨Nat.le_of_ble_eq_true rfl, Nat.le_of_ble_eq_true rfl⟩ (fun _ H locs _ hW => ?_)
  show W p l e _ s m args below meth c H locs _ _ _ (F0 m 87 ls [.int (zI (zs (100 * (mn (mo * 6 + 2))))), .ref sp])
  have zr84 := zs_in ((100 * (mn (mo * 6 + 2))))
  refine zv_i2l (pc := 87) hx hb dX3_aim_87 ⟨by omega, by omega⟩ ?_
  refine zw_put (pc := 88) (ws' := [(sp, .inr (3, [.int (zI x), .int (zI y), .int (zI h), .int (zI d), .int (zI (100 * pr)), .int (zI (100 * (mn (mo * 6 + 5)))), .int (zI di), .int (zI dr), .long (zL (mn (mo * 6 + 0))), .int (zI (mn (mo * 6 + 1))), .int (zI (zwid (10000 - (mn (mo * 6 + 1)) * (mn (mo * 6 + 1))))), .long (zL (zs (100 * (mn (mo * 6 + 2))))), .long (zL o12), .int (zI o13), .int (zI o14)])), (q, .inr (1, [.int (zI pr), .int (zI di), .int (zI dr), .int (zI mc), .int (zI sc), .ref qn, .ref qm, .ref qs])), (qm, .inl (zk G 0, 36, .inl (zA mn)))]) (ref := RX3) (index := 52) hx hb hts hin3 tyX3 tyX3_ok nmX3 hown hW 0 rfl rfl 11 (by decide) (List.mem_of_getElem? (i := 11) rfl) (fun _ h9 => h9) rfl (tyX3_ok 11 (by decide)) rfl rfl (Nat.le_of_ble_eq_true rfl) rfl dX3_aim_88 (fun H locs hW => ?_)
  refine lv_aload_n (pc := 91) hx hb dX3_aim_91 rfl (lv_at hl 1 rfl) ?_
  refine lv_iload_n (pc := 92) hx hb dX3_aim_92 rfl (lv_at hl 0 rfl) ?_
  refine zv_sipush (pc := 93) (n := 9000) hx hb dX3_aim_93 (by decide) ?_
  refine zv_iadd (pc := 96) hx hb dX3_aim_96 ?_
  refine z_SN (pc := 97) (As := [.int (zI ((100 * (mn (mo * 6 + 2))) + 9000))]) (rest := [.ref sp]) (wn := (fun _ => [(sp, .inr (3, [.int (zI x), .int (zI y), .int (zI h), .int (zI d), .int (zI (100 * pr)), .int (zI (100 * (mn (mo * 6 + 5)))), .int (zI di), .int (zI dr), .long (zL (mn (mo * 6 + 0))), .int (zI (mn (mo * 6 + 1))), .int (zI (zwid (10000 - (mn (mo * 6 + 1)) * (mn (mo * 6 + 1))))), .long (zL (zs (100 * (mn (mo * 6 + 2))))), .long (zL o12), .int (zI o13), .int (zI o14)])), (q, .inr (1, [.int (zI pr), .int (zI di), .int (zI dr), .int (zI mc), .int (zI sc), .ref qn, .ref qm, .ref qs])), (qm, .inl (zk G 0, 36, .inl (zA mn)))])) (wr := [(sp, .inr (3, [.int (zI x), .int (zI y), .int (zI h), .int (zI d), .int (zI (100 * pr)), .int (zI (100 * (mn (mo * 6 + 5)))), .int (zI di), .int (zI dr), .long (zL (mn (mo * 6 + 0))), .int (zI (mn (mo * 6 + 1))), .int (zI (zwid (10000 - (mn (mo * 6 + 1)) * (mn (mo * 6 + 1))))), .long (zL (zs (100 * (mn (mo * 6 + 2))))), .long (zL o12), .int (zI o13), .int (zI o14)])), (q, .inr (1, [.int (zI pr), .int (zI di), .int (zI dr), .int (zI mc), .int (zI sc), .ref qn, .ref qm, .ref qs])), (qm, .inl (zk G 0, 36, .inl (zA mn)))]) F (kX6_sineOf G l ((100 * (mn (mo * 6 + 2))) + 9000) (by first | assumption | omega) (by first | assumption | omega)) ⟨va_cnB 1 hts gX3_aim_X6_sineOf_n49 rfl rfl rfl (zXn hW 11 rfl) (hts _ (List.mem_of_getElem? (i := 26) rfl)) (by decide +kernel) ⟨Nat.le_of_ble_eq_true rfl, Nat.le_of_ble_eq_true rfl⟩, hts _ (List.mem_of_getElem? (i := 25) rfl), trivial⟩ hW [] [0, 1, 2] (by decide) rfl rfl rfl (by decide) (by decide) [0, 1, 2] (by decide) (fun _ => rfl) (fun _ => rfl) rfl hl.1 rfl (Nat.le_of_ble_eq_true rfl) dX3_aim_97 ⟨Nat.le_of_ble_eq_true rfl, Nat.le_of_ble_eq_true rfl⟩ (fun _ H locs _ hW => ?_)
  show W p l e _ s m args below meth c H locs _ _ _ (F0 m 100 ls [.int (zI (zs ((100 * (mn (mo * 6 + 2))) + 9000))), .ref sp])
  have zr97 := zs_in (((100 * (mn (mo * 6 + 2))) + 9000))
  refine zv_i2l (pc := 100) hx hb dX3_aim_100 ⟨by omega, by omega⟩ ?_
  refine zw_put (pc := 101) (ws' := [(sp, .inr (3, [.int (zI x), .int (zI y), .int (zI h), .int (zI d), .int (zI (100 * pr)), .int (zI (100 * (mn (mo * 6 + 5)))), .int (zI di), .int (zI dr), .long (zL (mn (mo * 6 + 0))), .int (zI (mn (mo * 6 + 1))), .int (zI (zwid (10000 - (mn (mo * 6 + 1)) * (mn (mo * 6 + 1))))), .long (zL (zs (100 * (mn (mo * 6 + 2))))), .long (zL (zs ((100 * (mn (mo * 6 + 2))) + 9000))), .int (zI o13), .int (zI o14)])), (q, .inr (1, [.int (zI pr), .int (zI di), .int (zI dr), .int (zI mc), .int (zI sc), .ref qn, .ref qm, .ref qs])), (qm, .inl (zk G 0, 36, .inl (zA mn)))]) (ref := RX3) (index := 55) hx hb hts hin3 tyX3 tyX3_ok nmX3 hown hW 0 rfl rfl 12 (by decide) (List.mem_of_getElem? (i := 12) rfl) (fun _ h9 => h9) rfl (tyX3_ok 12 (by decide)) rfl rfl (Nat.le_of_ble_eq_true rfl) rfl dX3_aim_101 (fun H locs hW => ?_)
  refine lv_aload_n (pc := 104) hx hb dX3_aim_104 rfl (lv_at hl 1 rfl) ?_
  refine lv_aload_n (pc := 105) hx hb dX3_aim_105 rfl (lv_at hl 2 rfl) ?_
  refine lv_iload_n (pc := 106) hx hb dX3_aim_106 rfl (lv_at hl 3 rfl) ?_
  refine zv_iconst (pc := 107) (n := 3) hx hb dX3_aim_107 ?_
  refine z_V (pc := 108) (As := [.int (zI mo), .int (zI 3)]) (rest := [.ref sp]) (wn := (fun _ => [(sp, .inr (3, [.int (zI x), .int (zI y), .int (zI h), .int (zI d), .int (zI (100 * pr)), .int (zI (100 * (mn (mo * 6 + 5)))), .int (zI di), .int (zI dr), .long (zL (mn (mo * 6 + 0))), .int (zI (mn (mo * 6 + 1))), .int (zI (zwid (10000 - (mn (mo * 6 + 1)) * (mn (mo * 6 + 1))))), .long (zL (zs (100 * (mn (mo * 6 + 2))))), .long (zL (zs ((100 * (mn (mo * 6 + 2))) + 9000))), .int (zI o13), .int (zI o14)])), (q, .inr (1, [.int (zI pr), .int (zI di), .int (zI dr), .int (zI mc), .int (zI sc), .ref qn, .ref qm, .ref qs])), (qm, .inl (zk G 0, 36, .inl (zA mn)))])) (wr := [(sp, .inr (3, [.int (zI x), .int (zI y), .int (zI h), .int (zI d), .int (zI (100 * pr)), .int (zI (100 * (mn (mo * 6 + 5)))), .int (zI di), .int (zI dr), .long (zL (mn (mo * 6 + 0))), .int (zI (mn (mo * 6 + 1))), .int (zI (zwid (10000 - (mn (mo * 6 + 1)) * (mn (mo * 6 + 1))))), .long (zL (zs (100 * (mn (mo * 6 + 2))))), .long (zL (zs ((100 * (mn (mo * 6 + 2))) + 9000))), .int (zI o13), .int (zI o14)]))]) F (kX1_moonNumber G l q qn qm qs pr di dr mc sc mn mo 3 (by first | assumption | omega) (by first | assumption | omega) (by first | assumption | omega) (by first | assumption | omega)) (cwV 2 hts gX3_aim_X1_moonNumber rfl rfl rfl (by decide +kernel) ⟨Nat.le_of_ble_eq_true rfl, Nat.le_of_ble_eq_true rfl⟩) hW 1 rfl rfl [1, 2] [0] (by decide) rfl rfl rfl (by decide) (by decide) [0, 1, 2] (by decide) (fun _ => rfl) (fun _ => rfl) rfl hl.1 rfl (Nat.le_of_ble_eq_true rfl) dX3_aim_108 ⟨Nat.le_of_ble_eq_true rfl, Nat.le_of_ble_eq_true rfl⟩ (fun _ H locs _ hW => ?_)
  show W p l e _ s m args below meth c H locs _ _ _ (F0 m 111 ls [.int (zI (mn (mo * 6 + 3))), .ref sp])
  refine zw_put (pc := 111) (ws' := [(sp, .inr (3, [.int (zI x), .int (zI y), .int (zI h), .int (zI d), .int (zI (100 * pr)), .int (zI (100 * (mn (mo * 6 + 5)))), .int (zI di), .int (zI dr), .long (zL (mn (mo * 6 + 0))), .int (zI (mn (mo * 6 + 1))), .int (zI (zwid (10000 - (mn (mo * 6 + 1)) * (mn (mo * 6 + 1))))), .long (zL (zs (100 * (mn (mo * 6 + 2))))), .long (zL (zs ((100 * (mn (mo * 6 + 2))) + 9000))), .int (zI (mn (mo * 6 + 3))), .int (zI o14)])), (q, .inr (1, [.int (zI pr), .int (zI di), .int (zI dr), .int (zI mc), .int (zI sc), .ref qn, .ref qm, .ref qs])), (qm, .inl (zk G 0, 36, .inl (zA mn)))]) (ref := RX3) (index := 58) hx hb hts hin3 tyX3 tyX3_ok nmX3 hown hW 0 rfl rfl 13 (by decide) (List.mem_of_getElem? (i := 13) rfl) (fun _ h9 => h9) rfl (tyX3_ok 13 (by decide)) rfl rfl (Nat.le_of_ble_eq_true rfl) rfl dX3_aim_111 (fun H locs hW => ?_)
  refine lv_aload_n (pc := 114) hx hb dX3_aim_114 rfl (lv_at hl 1 rfl) ?_
  refine zv_bipush (pc := 115) (n := 100) hx hb dX3_aim_115 (by decide) ?_
  refine lv_aload_n (pc := 117) hx hb dX3_aim_117 rfl (lv_at hl 2 rfl) ?_
  refine lv_iload_n (pc := 118) hx hb dX3_aim_118 rfl (lv_at hl 3 rfl) ?_
  refine zv_iconst (pc := 119) (n := 4) hx hb dX3_aim_119 ?_
  refine z_V (pc := 120) (As := [.int (zI mo), .int (zI 4)]) (rest := [.int (zI 100), .ref sp]) (wn := (fun _ => [(sp, .inr (3, [.int (zI x), .int (zI y), .int (zI h), .int (zI d), .int (zI (100 * pr)), .int (zI (100 * (mn (mo * 6 + 5)))), .int (zI di), .int (zI dr), .long (zL (mn (mo * 6 + 0))), .int (zI (mn (mo * 6 + 1))), .int (zI (zwid (10000 - (mn (mo * 6 + 1)) * (mn (mo * 6 + 1))))), .long (zL (zs (100 * (mn (mo * 6 + 2))))), .long (zL (zs ((100 * (mn (mo * 6 + 2))) + 9000))), .int (zI (mn (mo * 6 + 3))), .int (zI o14)])), (q, .inr (1, [.int (zI pr), .int (zI di), .int (zI dr), .int (zI mc), .int (zI sc), .ref qn, .ref qm, .ref qs])), (qm, .inl (zk G 0, 36, .inl (zA mn)))])) (wr := [(sp, .inr (3, [.int (zI x), .int (zI y), .int (zI h), .int (zI d), .int (zI (100 * pr)), .int (zI (100 * (mn (mo * 6 + 5)))), .int (zI di), .int (zI dr), .long (zL (mn (mo * 6 + 0))), .int (zI (mn (mo * 6 + 1))), .int (zI (zwid (10000 - (mn (mo * 6 + 1)) * (mn (mo * 6 + 1))))), .long (zL (zs (100 * (mn (mo * 6 + 2))))), .long (zL (zs ((100 * (mn (mo * 6 + 2))) + 9000))), .int (zI (mn (mo * 6 + 3))), .int (zI o14)]))]) F (kX1_moonNumber G l q qn qm qs pr di dr mc sc mn mo 4 (by first | assumption | omega) (by first | assumption | omega) (by first | assumption | omega) (by first | assumption | omega)) (cwV 2 hts gX3_aim_X1_moonNumber rfl rfl rfl (by decide +kernel) ⟨Nat.le_of_ble_eq_true rfl, Nat.le_of_ble_eq_true rfl⟩) hW 1 rfl rfl [1, 2] [0] (by decide) rfl rfl rfl (by decide) (by decide) [0, 1, 2] (by decide) (fun _ => rfl) (fun _ => rfl) rfl hl.1 rfl (Nat.le_of_ble_eq_true rfl) dX3_aim_120 ⟨Nat.le_of_ble_eq_true rfl, Nat.le_of_ble_eq_true rfl⟩ (fun _ H locs _ hW => ?_)
  show W p l e _ s m args below meth c H locs _ _ _ (F0 m 123 ls [.int (zI (mn (mo * 6 + 4))), .int (zI 100), .ref sp])
  refine zv_imul (pc := 123) hx hb dX3_aim_123 ?_
  refine zw_put (pc := 124) (ws' := [(sp, .inr (3, [.int (zI x), .int (zI y), .int (zI h), .int (zI d), .int (zI (100 * pr)), .int (zI (100 * (mn (mo * 6 + 5)))), .int (zI di), .int (zI dr), .long (zL (mn (mo * 6 + 0))), .int (zI (mn (mo * 6 + 1))), .int (zI (zwid (10000 - (mn (mo * 6 + 1)) * (mn (mo * 6 + 1))))), .long (zL (zs (100 * (mn (mo * 6 + 2))))), .long (zL (zs ((100 * (mn (mo * 6 + 2))) + 9000))), .int (zI (mn (mo * 6 + 3))), .int (zI (100 * (mn (mo * 6 + 4))))])), (q, .inr (1, [.int (zI pr), .int (zI di), .int (zI dr), .int (zI mc), .int (zI sc), .ref qn, .ref qm, .ref qs])), (qm, .inl (zk G 0, 36, .inl (zA mn)))]) (ref := RX3) (index := 61) hx hb hts hin3 tyX3 tyX3_ok nmX3 hown hW 0 rfl rfl 14 (by decide) (List.mem_of_getElem? (i := 14) rfl) (fun _ h9 => h9) rfl (tyX3_ok 14 (by decide)) rfl rfl (Nat.le_of_ble_eq_true rfl) rfl dX3_aim_124 (fun H locs hW => ?_)
  exact ze_v (pc := 127) hx hb hr hlk hW () rfl trivial rfl dX3_aim_127

set_option maxHeartbeats 4000000 in
set_option maxRecDepth 100000 in
/-- angleAt -/
theorem kX3_angleAt (G : zG) (l : Launch) (sp : Nat) (x : Int) (y : Int) (h : Int) (d : Int) (pr : Int) (di : Int) (dr : Int) (g : Int → Int) (t : Int) (hg : zgok g) (ht1 : 0 ≤ t) (ht2 : t ≤ 1000000) : zM G l yX3_angleAt wsX3_angleAt { frames := 1, cells := 0, slots := 0, locals := 29 } [.ref sp, .int (zI t)] [(sp, .inr (3, [.int (zI x), .int (zI y), .int (zI h), .int (zI d), .int (zI (100 * pr)), .int (zI (100 * g 5)), .int (zI di), .int (zI dr), .long (zL (g 0)), .int (zI (g 1)), .int (zI (zwid (10000 - g 1 * g 1))), .long (zL (zs (100 * g 2))), .long (zL (zs (100 * g 2 + 9000))), .int (zI (g 3)), .int (zI (100 * g 4))]))] (S := Unit) (zri (fun _ => zang g t)) (fun _ => True) (fun _ => [(sp, .inr (3, [.int (zI x), .int (zI y), .int (zI h), .int (zI d), .int (zI (100 * pr)), .int (zI (100 * g 5)), .int (zI di), .int (zI dr), .long (zL (g 0)), .int (zI (g 1)), .int (zI (zwid (10000 - g 1 * g 1))), .long (zL (zs (100 * g 2))), .long (zL (zs (100 * g 2 + 9000))), .int (zI (g 3)), .int (zI (100 * g 4))]))]) 0 0 := by
  refine zM.of (cc := cX3_angleAt) (maxL := 8) (ret := (some .int)) (by decide) rfl (Nat.le_of_ble_eq_true rfl) (l0 := [(0, .ref sp), (1, .int (zI t))]) rfl ?_
  intro p e s m args below meth c ls F hr hlk hnm hW hl
  obtain ⟨hx, hb, hml, hown, hts⟩ := id F
  have hin3 : ∀ w ∈ wsX30, w ∈ wsX3_angleAt := fun _ h => List.mem_cons_of_mem _ (List.mem_append_right _ (h))
  obtain ⟨gf0, gf1, gf2, gf3, gf4, gf5⟩ : (2 ≤ g 0 ∧ g 0 ≤ 9999) ∧ (0 ≤ g 1 ∧ g 1 ≤ 60) ∧ (0 ≤ g 2 ∧ g 2 ≤ 359) ∧ (8 ≤ g 3 ∧ g 3 ≤ 99999) ∧ (0 ≤ g 4 ∧ g 4 ≤ 359) ∧ (0 ≤ g 5 ∧ g 5 ≤ 99) := id hg
  refine lv_aload_n (pc := 0) hx hb dX3_angleAt_0 rfl (lv_at hl 0 rfl) ?_
  refine zw_get (pc := 1) (ref := RX3) (index := 58) hx hb hts hin3 hown hW 0 rfl rfl 13 (by decide) (List.mem_of_getElem? (i := 1) rfl) (fun _ h9 => h9) rfl dX3_angleAt_1 ?_
  refine zv_if_le (pc := 4) (tgt := 22) hx hb dX3_angleAt_4 (by decide) ⟨by omega, by omega⟩ (fun c4 => absurd c4 (by omega)) (fun c4 => ?_)
  refine zv_ldc2 (pc := 7) (v := 36000) hx hb hown (hts _ (List.mem_of_getElem? (i := 2) rfl)) rfl dX3_angleAt_7 ?_
  refine lv_iload_n (pc := 10) hx hb dX3_angleAt_10 rfl (lv_at hl 1 rfl) ?_
  refine zv_i2l (pc := 11) hx hb dX3_angleAt_11 ⟨by omega, by omega⟩ ?_
  refine zv_lmul (pc := 12) hx hb dX3_angleAt_12 ?_
  refine lv_aload_n (pc := 13) hx hb dX3_angleAt_13 rfl (lv_at hl 0 rfl) ?_
  refine zw_get (pc := 14) (ref := RX3) (index := 58) hx hb hts hin3 hown hW 0 rfl rfl 13 (by decide) (List.mem_of_getElem? (i := 1) rfl) (fun _ h9 => h9) rfl dX3_angleAt_14 ?_
  refine zv_i2l (pc := 17) hx hb dX3_angleAt_17 ⟨by omega, by omega⟩ ?_
  refine zv_ldiv (pc := 18) hx hb dX3_angleAt_18 ⟨by omega, by omega⟩ ⟨by omega, by omega⟩ (by omega) ?_
  refine lv_goto (pc := 19) (tgt := 23) hx hb dX3_angleAt_19 (by decide) ?_
  refine zv_nameL (fun tu htu => ?_)
  refine lv_lstore_n (pc := 23) (lv' := [(2, .long (zL tu)), (0, .ref sp), (1, .int (zI t))]) hx hb dX3_angleAt_23 rfl hl (by decide) rfl (fun ls hl => ?_)
  have htu1 : 0 ≤ tu := by rw [htu]; exact Int.tdiv_nonneg (by omega) (by omega)
  have htu2 := Int.natAbs_tdiv_le_natAbs (36000 * t) (g 3)
  rw [← htu] at htu2
  refine lv_aload_n (pc := 24) hx hb dX3_angleAt_24 rfl (lv_at hl 1 rfl) ?_
  refine zw_get (pc := 25) (ref := RX3) (index := 61) hx hb hts hin3 hown hW 0 rfl rfl 14 (by decide) (List.mem_of_getElem? (i := 3) rfl) (fun _ h9 => h9) rfl dX3_angleAt_25 ?_
  refine zv_i2l (pc := 28) hx hb dX3_angleAt_28 ⟨by omega, by omega⟩ ?_
  refine lv_lload_n (pc := 29) hx hb dX3_angleAt_29 rfl (lv_at hl 0 rfl) ?_
  refine zv_ladd (pc := 30) hx hb dX3_angleAt_30 ?_
  refine zv_ldc2 (pc := 31) (v := 36000) hx hb hown (hts _ (List.mem_of_getElem? (i := 2) rfl)) rfl dX3_angleAt_31 ?_
  refine zv_lrem (pc := 34) hx hb dX3_angleAt_34 ⟨by omega, by omega⟩ ⟨by omega, by omega⟩ (by omega) ?_
  refine zv_l2i (pc := 35) hx hb dX3_angleAt_35 ?_
  refine zv_name (fun M hM => ?_)
  refine lv_istore (pc := 36) (lv' := [(4, .int (zI M)), (2, .long (zL tu)), (0, .ref sp), (1, .int (zI t))]) hx hb dX3_angleAt_36 hl (by decide) rfl (fun ls hl => ?_)
  have hMz : zmean g t = M := by rw [hM, htu]; rfl
  have hMr := zmean_in (g := g) (t := t) hg ht1
  rw [hMz] at hMr
  refine lv_iload (pc := 38) hx hb dX3_angleAt_38 (lv_at hl 0 rfl) ?_
  refine lv_istore (pc := 40) (lv' := [(5, .int (zI M)), (4, .int (zI M)), (2, .long (zL tu)), (0, .ref sp), (1, .int (zI t))]) hx hb dX3_angleAt_40 hl (by decide) rfl (fun ls hl => ?_)
  refine zv_iconst (pc := 42) (n := 0) hx hb dX3_angleAt_42 ?_
  refine lv_istore (pc := 43) (lv' := [(6, .int (zI 0)), (5, .int (zI M)), (4, .int (zI M)), (2, .long (zL tu)), (0, .ref sp), (1, .int (zI t))]) hx hb dX3_angleAt_43 hl (by decide) rfl (fun ls hl => ?_)
  have J45 : ∀ (fuel45 : Nat) (E : Int) (k : Int) (k0 : 0 ≤ k) (k1 : k ≤ 6) (hE : zit M (g 1) (6 - k).toNat E = zang g t) (hEr : -4000 ≤ E - M ∧ E - M ≤ 4000) (hfu45 : (6 - k).toNat < fuel45) (H : Heap) (locs : List Loc) (ls : Array Slot) (hW : zW G (va_A [(sp, .inr (3, [.int (zI x), .int (zI y), .int (zI h), .int (zI d), .int (zI (100 * pr)), .int (zI (100 * g 5)), .int (zI di), .int (zI dr), .long (zL (g 0)), .int (zI (g 1)), .int (zI (zwid (10000 - g 1 * g 1))), .long (zL (zs (100 * g 2))), .long (zL (zs (100 * g 2 + 9000))), .int (zI (g 3)), .int (zI (100 * g 4))]))] s.heap.size) s H locs [(sp, .inr (3, [.int (zI x), .int (zI y), .int (zI h), .int (zI d), .int (zI (100 * pr)), .int (zI (100 * g 5)), .int (zI di), .int (zI dr), .long (zL (g 0)), .int (zI (g 1)), .int (zI (zwid (10000 - g 1 * g 1))), .long (zL (zs (100 * g 2))), .long (zL (zs (100 * g 2 + 9000))), .int (zI (g 3)), .int (zI (100 * g 4))]))]) (hl : lv_has ls 8 [(6, .int (zI k)), (5, .int (zI E)), (4, .int (zI M)), (2, .long (zL tu)), (0, .ref sp), (1, .int (zI t))]), W p l e ({ frames := 1, cells := 0, slots := 0, locals := 29 } : Room) s m args below meth c H locs 0 0 (MQ below (zQ (S := Unit) (zri (fun _ => zang g t)) (fun _ => True) (zPost G [(sp, .inr (3, [.int (zI x), .int (zI y), .int (zI h), .int (zI d), .int (zI (100 * pr)), .int (zI (100 * g 5)), .int (zI di), .int (zI dr), .long (zL (g 0)), .int (zI (g 1)), .int (zI (zwid (10000 - g 1 * g 1))), .long (zL (zs (100 * g 2))), .long (zL (zs (100 * g 2 + 9000))), .int (zI (g 3)), .int (zI (100 * g 4))]))] s.heap.size (fun _ => [(sp, .inr (3, [.int (zI x), .int (zI y), .int (zI h), .int (zI d), .int (zI (100 * pr)), .int (zI (100 * g 5)), .int (zI di), .int (zI dr), .long (zL (g 0)), .int (zI (g 1)), .int (zI (zwid (10000 - g 1 * g 1))), .long (zL (zs (100 * g 2))), .long (zL (zs (100 * g 2 + 9000))), .int (zI (g 3)), .int (zI (100 * g 4))]))])) (va_A [(sp, .inr (3, [.int (zI x), .int (zI y), .int (zI h), .int (zI d), .int (zI (100 * pr)), .int (zI (100 * g 5)), .int (zI di), .int (zI dr), .long (zL (g 0)), .int (zI (g 1)), .int (zI (zwid (10000 - g 1 * g 1))), .long (zL (zs (100 * g 2))), .long (zL (zs (100 * g 2 + 9000))), .int (zI (g 3)), .int (zI (100 * g 4))]))] s.heap.size)) args s 0 0 (va_A [(sp, .inr (3, [.int (zI x), .int (zI y), .int (zI h), .int (zI d), .int (zI (100 * pr)), .int (zI (100 * g 5)), .int (zI di), .int (zI dr), .long (zL (g 0)), .int (zI (g 1)), .int (zI (zwid (10000 - g 1 * g 1))), .long (zL (zs (100 * g 2))), .long (zL (zs (100 * g 2 + 9000))), .int (zI (g 3)), .int (zI (100 * g 4))]))] s.heap.size)) (F0 m 45 ls []) := by
    intro fuel45
    induction fuel45 with
    | zero =>
      intro E k k0 k1 hE hEr hfu45
      exact absurd hfu45 (Nat.not_lt_zero _)
    | succ fuel45 ih45 =>
      intro E k k0 k1 hE hEr hfu45 H locs ls hW hl
      refine lv_iload (pc := 45) hx hb dX3_angleAt_45 (lv_at hl 0 rfl) ?_
      refine zv_bipush (pc := 47) (n := 6) hx hb dX3_angleAt_47 (by decide) ?_
      refine zv_icmp_ge (pc := 49) (tgt := 94) hx hb dX3_angleAt_49 (by decide) ⟨by omega, by omega⟩ ⟨by omega, by omega⟩ (fun c49 => ?_) (fun c49 => ?_)
      · refine lv_iload (pc := 94) hx hb dX3_angleAt_94 (lv_at hl 1 rfl) ?_
        refine zv_as (pc := 96) (a := E) (b := zang g t) (by first | (have e1 : (6 - k).toNat = 0 := (by omega); rw [e1] at hE; exact hE) | (rw [← hE]; exact (zit_stay (by rw [← hBs]; exact c78) _).symm)) ?_
        exact ze_i (pc := 96) hx hb hr hlk hW () rfl trivial rfl dX3_angleAt_96
      · refine lv_iload (pc := 52) hx hb dX3_angleAt_52 (lv_at hl 2 rfl) ?_
        refine lv_aload_n (pc := 54) hx hb dX3_angleAt_54 rfl (lv_at hl 4 rfl) ?_
        refine zw_get (pc := 55) (ref := RX3) (index := 39) hx hb hts hin3 hown hW 0 rfl rfl 9 (by decide) (List.mem_of_getElem? (i := 4) rfl) (fun _ h9 => h9) rfl dX3_angleAt_55 ?_
        refine lv_iload (pc := 58) hx hb dX3_angleAt_58 (lv_at hl 1 rfl) ?_
        have hzE := zs_in E
        refine z_SN (pc := 60) (As := [.int (zI E)]) (rest := [.int (zI (g 1)), .int (zI M)]) (wn := (fun _ => [(sp, .inr (3, [.int (zI x), .int (zI y), .int (zI h), .int (zI d), .int (zI (100 * pr)), .int (zI (100 * g 5)), .int (zI di), .int (zI dr), .long (zL (g 0)), .int (zI (g 1)), .int (zI (zwid (10000 - g 1 * g 1))), .long (zL (zs (100 * g 2))), .long (zL (zs (100 * g 2 + 9000))), .int (zI (g 3)), .int (zI (100 * g 4))]))])) (wr := [(sp, .inr (3, [.int (zI x), .int (zI y), .int (zI h), .int (zI d), .int (zI (100 * pr)), .int (zI (100 * g 5)), .int (zI di), .int (zI dr), .long (zL (g 0)), .int (zI (g 1)), .int (zI (zwid (10000 - g 1 * g 1))), .long (zL (zs (100 * g 2))), .long (zL (zs (100 * g 2 + 9000))), .int (zI (g 3)), .int (zI (100 * g 4))]))]) F (kX6_sineOf G l E (by first | assumption | omega) (by first | assumption | omega)) ⟨va_cnB 1 hts gX3_angleAt_X6_sineOf_n49 rfl rfl rfl (zXn hW 11 rfl) (hts _ (List.mem_of_getElem? (i := 7) rfl)) (by decide +kernel) ⟨Nat.le_of_ble_eq_true rfl, Nat.le_of_ble_eq_true rfl⟩, hts _ (List.mem_of_getElem? (i := 6) rfl), trivial⟩ hW [] [0] (by decide) rfl rfl rfl (by decide) (by decide) [0] (by decide) (fun _ => rfl) (fun _ => rfl) rfl hl.1 rfl (Nat.le_of_ble_eq_true rfl) dX3_angleAt_60 ⟨Nat.le_of_ble_eq_true rfl, Nat.le_of_ble_eq_true rfl⟩ (fun _ H locs _ hW => ?_)
        show W p l e _ s m args below meth c H locs _ _ _ (F0 m 63 ls [.int (zI (zs E)), .int (zI (g 1)), .int (zI M)])
        have zr60 := zs_in (E)
        have hp1 := zmul_abs (a := g 1) (b := zs E) (A := 60) (B := 10000) (by omega) (by omega) rfl
        have hp2 := zmul_abs (a := g 1 * zs E) (b := 573) (A := 600000) (B := 573) (by omega) (by omega) rfl
        refine zv_imul (pc := 63) hx hb dX3_angleAt_63 ?_
        refine zv_sipush (pc := 64) (n := 573) hx hb dX3_angleAt_64 (by decide) ?_
        refine zv_imul (pc := 67) hx hb dX3_angleAt_67 ?_
        refine zv_ldc (pc := 68) (v := 100000) hx hb hown (hts _ (List.mem_of_getElem? (i := 5) rfl)) rfl dX3_angleAt_68 ?_
        refine zv_idiv (pc := 70) hx hb dX3_angleAt_70 ⟨by omega, by omega⟩ ⟨by omega, by omega⟩ (by omega) ?_
        refine zv_iadd (pc := 71) hx hb dX3_angleAt_71 ?_
        refine zv_name (fun B hB => ?_)
        refine lv_istore (pc := 72) (lv' := [(7, .int (zI B)), (6, .int (zI k)), (5, .int (zI E)), (4, .int (zI M)), (2, .long (zL tu)), (0, .ref sp), (1, .int (zI t))]) hx hb dX3_angleAt_72 hl (by decide) rfl (fun ls hl => ?_)
        have hBs : B = zstep M (g 1) E := hB
        have hBr := zstep_in (M := M) (fl := g 1) (E := E) gf1
        rw [← hBs] at hBr
        refine lv_iload (pc := 74) hx hb dX3_angleAt_74 (lv_at hl 0 rfl) ?_
        refine lv_iload (pc := 76) hx hb dX3_angleAt_76 (lv_at hl 2 rfl) ?_
        refine zv_icmp_ne (pc := 78) (tgt := 84) hx hb dX3_angleAt_78 (by decide) ⟨by omega, by omega⟩ ⟨by omega, by omega⟩ (fun c78 => ?_) (fun c78 => ?_)
        · refine lv_iload (pc := 84) hx hb dX3_angleAt_84 (lv_at hl 0 rfl) ?_
          refine lv_istore (pc := 86) (lv' := [(5, .int (zI B)), (7, .int (zI B)), (6, .int (zI k)), (4, .int (zI M)), (2, .long (zL tu)), (0, .ref sp), (1, .int (zI t))]) hx hb dX3_angleAt_86 hl (by decide) rfl (fun ls hl => ?_)
          refine zv_iinc (pc := 88) (lv' := [(6, .int (zI (k + 1))), (5, .int (zI B)), (7, .int (zI B)), (4, .int (zI M)), (2, .long (zL tu)), (0, .ref sp), (1, .int (zI t))]) hx hb dX3_angleAt_88 hl (k := 2) rfl (by decide) rfl (fun ls hl => ?_)
          refine lv_goto (pc := 91) (tgt := 45) hx hb dX3_angleAt_91 (by decide) ?_
          exact ih45 B (k + 1) (by omega) (by omega) (by first | (show zit M (g 1) 6 M = zit (zmean g t) (g 1) 6 (zmean g t); rw [hMz]; done) | (have e1 : (6 - k).toNat = (6 - (k + 1)).toNat + 1 := (by omega); rw [e1] at hE; rw [hBs]; exact hE)) (by omega) (by omega) _ _ _ hW (lv_sub hl [0, 1, 3, 4, 5, 6] rfl)
        · refine lv_iload (pc := 81) hx hb dX3_angleAt_81 (lv_at hl 2 rfl) ?_
          refine zv_as (pc := 83) (a := E) (b := zang g t) (by first | (have e1 : (6 - k).toNat = 0 := (by omega); rw [e1] at hE; exact hE) | (rw [← hE]; exact (zit_stay (by rw [← hBs]; exact c78) _).symm)) ?_
          exact ze_i (pc := 83) hx hb hr hlk hW () rfl trivial rfl dX3_angleAt_83
  exact J45 (((6 - 0 : Int).toNat) + 1) M 0 (by omega) (by omega) (by first | (show zit M (g 1) 6 M = zit (zmean g t) (g 1) 6 (zmean g t); rw [hMz]; done) | (have e1 : (6 - k).toNat = (6 - (k + 1)).toNat + 1 := (by omega); rw [e1] at hE; rw [hBs]; exact hE)) (by omega) (Nat.lt_succ_self _) _ _ _ hW (lv_sub hl [0, 1, 2, 3, 4, 5] rfl)

set_option maxHeartbeats 4000000 in
set_option maxRecDepth 100000 in
/-- look -/
theorem kX3_look (G : zG) (l : Launch) (sp : Nat) (x : Int) (y : Int) (h : Int) (d : Int) (pr : Int) (di : Int) (dr : Int) (g : Int → Int) (t : Int) (hg : zgok g) (hd1 : 0 ≤ di) (hd2 : di ≤ 359) (hr1 : -999 ≤ dr) (hr2 : dr ≤ 999) (ht1 : 0 ≤ t) (ht2 : t ≤ 1000000) : zM G l yX3_look wsX3_look { frames := 2, cells := 0, slots := 0, locals := 56 } [.ref sp, .int (zI t)] [(sp, .inr (3, [.int (zI x), .int (zI y), .int (zI h), .int (zI d), .int (zI (100 * pr)), .int (zI (100 * g 5)), .int (zI di), .int (zI dr), .long (zL (g 0)), .int (zI (g 1)), .int (zI (zwid (10000 - g 1 * g 1))), .long (zL (zs (100 * g 2))), .long (zL (zs (100 * g 2 + 9000))), .int (zI (g 3)), .int (zI (100 * g 4))]))] (S := Unit) zrv (fun _ => True) (fun _ => [(sp, .inr (3, [.int (zI (zlx g t)), .int (zI (zly g t)), .int (zI (zlh di dr g t)), .int (zI (zls di dr g t)), .int (zI (100 * pr)), .int (zI (100 * g 5)), .int (zI di), .int (zI dr), .long (zL (g 0)), .int (zI (g 1)), .int (zI (zwid (10000 - g 1 * g 1))), .long (zL (zs (100 * g 2))), .long (zL (zs (100 * g 2 + 9000))), .int (zI (g 3)), .int (zI (100 * g 4))]))]) 0 0 := by
  refine zM.of (cc := cX3_look) (maxL := 12) (ret := none) (by decide) rfl (Nat.le_of_ble_eq_true rfl) (l0 := [(0, .ref sp), (1, .int (zI t))]) rfl ?_
  intro p e s m args below meth c ls F hr hlk hnm hW hl
  obtain ⟨hx, hb, hml, hown, hts⟩ := id F
  have hin3 : ∀ w ∈ wsX30, w ∈ wsX3_look := fun _ h => List.mem_cons_of_mem _ (List.mem_append_right _ (h))
  obtain ⟨gf0, gf1, gf2, gf3, gf4, gf5⟩ : (2 ≤ g 0 ∧ g 0 ≤ 9999) ∧ (0 ≤ g 1 ∧ g 1 ≤ 60) ∧ (0 ≤ g 2 ∧ g 2 ≤ 359) ∧ (8 ≤ g 3 ∧ g 3 ≤ 99999) ∧ (0 ≤ g 4 ∧ g 4 ≤ 359) ∧ (0 ≤ g 5 ∧ g 5 ≤ 99) := id hg
  have bal := zal_in (t := t) hg
  have bac := zac_in (t := t) hg
  have bx := zlx_in (t := t) hg
  have by1 := zly_in (t := t) hg
  have bli := zli_in (di := di) (dr := dr) (t := t) ⟨hd1, hd2⟩ ⟨hr1, hr2⟩ ⟨ht1, ht2⟩
  have bw := zac_mul hg
  have bn1 := zs_in (100 * g 2)
  have bn2 := zs_in (100 * g 2 + 9000)
  have bm1 := zmul_abs (B := 10000) bal bn2 rfl
  have bm2 := zmul_abs (B := 10000) bac bn1 rfl
  have bm3 := zmul_abs (B := 10000) bal bn1 rfl
  have bm4 := zmul_abs (B := 10000) bac bn2 rfl
  have bl1 := zs_in (zli di dr t)
  have bl2 := zs_in (zli di dr t + 9000)
  have bq1 := zmul_abs (B := 10000) bx bl2 rfl
  have bq2 := zmul_abs (B := 10000) by1 bl1 rfl
  have bq3 := zmul_abs (B := 10000) by1 bl2 rfl
  have bq4 := zmul_abs (B := 10000) bx bl1 rfl
  refine lv_aload_n (pc := 0) hx hb dX3_look_0 rfl (lv_at hl 0 rfl) ?_
  refine lv_iload_n (pc := 1) hx hb dX3_look_1 rfl (lv_at hl 1 rfl) ?_
  refine z_V (pc := 2) (As := [.int (zI t)]) (rest := []) (wn := (fun _ => [(sp, .inr (3, [.int (zI x), .int (zI y), .int (zI h), .int (zI d), .int (zI (100 * pr)), .int (zI (100 * g 5)), .int (zI di), .int (zI dr), .long (zL (g 0)), .int (zI (g 1)), .int (zI (zwid (10000 - g 1 * g 1))), .long (zL (zs (100 * g 2))), .long (zL (zs (100 * g 2 + 9000))), .int (zI (g 3)), .int (zI (100 * g 4))]))])) (wr := []) F (kX3_angleAt G l sp x y h d pr di dr g t (by first | assumption | omega) (by first | assumption | omega) (by first | assumption | omega)) (cwV 1 hts gX3_look_X3_angleAt rfl rfl rfl (by decide +kernel) ⟨Nat.le_of_ble_eq_true rfl, Nat.le_of_ble_eq_true rfl⟩) hW 0 rfl rfl [0] [] (by decide) rfl rfl rfl (by decide) (by decide) [0] (by decide) (fun _ => rfl) (fun _ => rfl) rfl hl.1 rfl (Nat.le_of_ble_eq_true rfl) dX3_look_2 ⟨Nat.le_of_ble_eq_true rfl, Nat.le_of_ble_eq_true rfl⟩ (fun _ H locs _ hW => ?_)
  show W p l e _ s m args below meth c H locs _ _ _ (F0 m 5 ls [.int (zI (zang g t))])
  have an2 := zang_in (g := g) (t := t) ‹_› (by first | assumption | omega)
  refine lv_istore_n (pc := 5) (lv' := [(2, .int (zI (zang g t))), (0, .ref sp), (1, .int (zI t))]) hx hb dX3_look_5 rfl hl (by decide) rfl (fun ls hl => ?_)
  refine lv_aload_n (pc := 6) hx hb dX3_look_6 rfl (lv_at hl 1 rfl) ?_
  refine zw_get (pc := 7) (ref := RX3) (index := 35) hx hb hts hin3 hown hW 0 rfl rfl 8 (by decide) (List.mem_of_getElem? (i := 1) rfl) (fun _ h9 => h9) rfl dX3_look_7 ?_
  refine lv_iload_n (pc := 10) hx hb dX3_look_10 rfl (lv_at hl 0 rfl) ?_
  refine zv_sipush (pc := 11) (n := 9000) hx hb dX3_look_11 (by decide) ?_
  refine zv_iadd (pc := 14) hx hb dX3_look_14 ?_
  refine z_SN (pc := 15) (As := [.int (zI ((zang g t) + 9000))]) (rest := [.long (zL (g 0))]) (wn := (fun _ => [(sp, .inr (3, [.int (zI x), .int (zI y), .int (zI h), .int (zI d), .int (zI (100 * pr)), .int (zI (100 * g 5)), .int (zI di), .int (zI dr), .long (zL (g 0)), .int (zI (g 1)), .int (zI (zwid (10000 - g 1 * g 1))), .long (zL (zs (100 * g 2))), .long (zL (zs (100 * g 2 + 9000))), .int (zI (g 3)), .int (zI (100 * g 4))]))])) (wr := [(sp, .inr (3, [.int (zI x), .int (zI y), .int (zI h), .int (zI d), .int (zI (100 * pr)), .int (zI (100 * g 5)), .int (zI di), .int (zI dr), .long (zL (g 0)), .int (zI (g 1)), .int (zI (zwid (10000 - g 1 * g 1))), .long (zL (zs (100 * g 2))), .long (zL (zs (100 * g 2 + 9000))), .int (zI (g 3)), .int (zI (100 * g 4))]))]) F (kX6_sineOf G l ((zang g t) + 9000) (by first | assumption | omega) (by first | assumption | omega)) ⟨va_cnB 1 hts gX3_look_X6_sineOf_n49 rfl rfl rfl (zXn hW 11 rfl) (hts _ (List.mem_of_getElem? (i := 24) rfl)) (by decide +kernel) ⟨Nat.le_of_ble_eq_true rfl, Nat.le_of_ble_eq_true rfl⟩, hts _ (List.mem_of_getElem? (i := 23) rfl), trivial⟩ hW [] [0] (by decide) rfl rfl rfl (by decide) (by decide) [0] (by decide) (fun _ => rfl) (fun _ => rfl) rfl hl.1 rfl (Nat.le_of_ble_eq_true rfl) dX3_look_15 ⟨Nat.le_of_ble_eq_true rfl, Nat.le_of_ble_eq_true rfl⟩ (fun _ H locs _ hW => ?_)
  show W p l e _ s m args below meth c H locs _ _ _ (F0 m 18 ls [.int (zI (zs ((zang g t) + 9000))), .long (zL (g 0))])
  have zr15 := zs_in (((zang g t) + 9000))
  refine zv_bipush (pc := 18) (n := 100) hx hb dX3_look_18 (by decide) ?_
  refine lv_aload_n (pc := 20) hx hb dX3_look_20 rfl (lv_at hl 1 rfl) ?_
  refine zw_get (pc := 21) (ref := RX3) (index := 39) hx hb hts hin3 hown hW 0 rfl rfl 9 (by decide) (List.mem_of_getElem? (i := 2) rfl) (fun _ h9 => h9) rfl dX3_look_21 ?_
  refine zv_imul (pc := 24) hx hb dX3_look_24 ?_
  refine zv_isub (pc := 25) hx hb dX3_look_25 ?_
  refine zv_i2l (pc := 26) hx hb dX3_look_26 ⟨by omega, by omega⟩ ?_
  have b27 := zmul_abs (a := g 0) (b := zs (zang g t + 9000) - 100 * g 1) (A := 10000) (B := 16000) (by omega) (by omega) rfl
  refine zv_lmul (pc := 27) hx hb dX3_look_27 ?_
  refine zv_ldc2 (pc := 28) (v := 100) hx hb hown (hts _ (List.mem_of_getElem? (i := 3) rfl)) rfl dX3_look_28 ?_
  refine zv_ldiv (pc := 31) hx hb dX3_look_31 ⟨by omega, by omega⟩ ⟨by omega, by omega⟩ (by omega) ?_
  refine zv_asL (pc := 32) (a := Int.tdiv ((g 0) * ((zs ((zang g t) + 9000)) - (100 * (g 1)))) 100) (b := zal g t) (rfl) ?_
  refine lv_lstore_n (pc := 32) (lv' := [(3, .long (zL (zal g t))), (2, .int (zI (zang g t))), (0, .ref sp), (1, .int (zI t))]) hx hb dX3_look_32 rfl hl (by decide) rfl (fun ls hl => ?_)
  refine lv_aload_n (pc := 33) hx hb dX3_look_33 rfl (lv_at hl 2 rfl) ?_
  refine zw_get (pc := 34) (ref := RX3) (index := 35) hx hb hts hin3 hown hW 0 rfl rfl 8 (by decide) (List.mem_of_getElem? (i := 1) rfl) (fun _ h9 => h9) rfl dX3_look_34 ?_
  refine lv_aload_n (pc := 37) hx hb dX3_look_37 rfl (lv_at hl 2 rfl) ?_
  refine zw_get (pc := 38) (ref := RX3) (index := 46) hx hb hts hin3 hown hW 0 rfl rfl 10 (by decide) (List.mem_of_getElem? (i := 4) rfl) (fun _ h9 => h9) rfl dX3_look_38 ?_
  refine zv_i2l (pc := 41) hx hb dX3_look_41 (have q := (zac_mul hg).1; ⟨by omega, by omega⟩) ?_
  refine zv_lmul (pc := 42) hx hb dX3_look_42 ?_
  refine lv_iload_n (pc := 43) hx hb dX3_look_43 rfl (lv_at hl 1 rfl) ?_
  refine z_SN (pc := 44) (As := [.int (zI (zang g t))]) (rest := [.long (zL ((g 0) * (zwid (10000 - g 1 * g 1))))]) (wn := (fun _ => [(sp, .inr (3, [.int (zI x), .int (zI y), .int (zI h), .int (zI d), .int (zI (100 * pr)), .int (zI (100 * g 5)), .int (zI di), .int (zI dr), .long (zL (g 0)), .int (zI (g 1)), .int (zI (zwid (10000 - g 1 * g 1))), .long (zL (zs (100 * g 2))), .long (zL (zs (100 * g 2 + 9000))), .int (zI (g 3)), .int (zI (100 * g 4))]))])) (wr := [(sp, .inr (3, [.int (zI x), .int (zI y), .int (zI h), .int (zI d), .int (zI (100 * pr)), .int (zI (100 * g 5)), .int (zI di), .int (zI dr), .long (zL (g 0)), .int (zI (g 1)), .int (zI (zwid (10000 - g 1 * g 1))), .long (zL (zs (100 * g 2))), .long (zL (zs (100 * g 2 + 9000))), .int (zI (g 3)), .int (zI (100 * g 4))]))]) F (kX6_sineOf G l (zang g t) (by first | assumption | omega) (by first | assumption | omega)) ⟨va_cnB 1 hts gX3_look_X6_sineOf_n49 rfl rfl rfl (zXn hW 11 rfl) (hts _ (List.mem_of_getElem? (i := 24) rfl)) (by decide +kernel) ⟨Nat.le_of_ble_eq_true rfl, Nat.le_of_ble_eq_true rfl⟩, hts _ (List.mem_of_getElem? (i := 23) rfl), trivial⟩ hW [] [0] (by decide) rfl rfl rfl (by decide) (by decide) [0] (by decide) (fun _ => rfl) (fun _ => rfl) rfl hl.1 rfl (Nat.le_of_ble_eq_true rfl) dX3_look_44 ⟨Nat.le_of_ble_eq_true rfl, Nat.le_of_ble_eq_true rfl⟩ (fun _ H locs _ hW => ?_)
  show W p l e _ s m args below meth c H locs _ _ _ (F0 m 47 ls [.int (zI (zs (zang g t))), .long (zL ((g 0) * (zwid (10000 - g 1 * g 1))))])
  have zr44 := zs_in ((zang g t))
  refine zv_i2l (pc := 47) hx hb dX3_look_47 ⟨by omega, by omega⟩ ?_
  have b48 := zmul_abs (B := 10000) bw.2 (zs_in (zang g t)) rfl
  refine zv_lmul (pc := 48) hx hb dX3_look_48 ?_
  refine zv_ldc2 (pc := 49) (v := 10000) hx hb hown (hts _ (List.mem_of_getElem? (i := 5) rfl)) rfl dX3_look_49 ?_
  refine zv_ldiv (pc := 52) hx hb dX3_look_52 ⟨by omega, by omega⟩ ⟨by omega, by omega⟩ (by omega) ?_
  refine zv_asL (pc := 53) (a := Int.tdiv (((g 0) * (zwid (10000 - g 1 * g 1))) * (zs (zang g t))) 10000) (b := zac g t) (rfl) ?_
  refine lv_lstore (pc := 53) (lv' := [(5, .long (zL (zac g t))), (3, .long (zL (zal g t))), (2, .int (zI (zang g t))), (0, .ref sp), (1, .int (zI t))]) hx hb dX3_look_53 hl (by decide) rfl (fun ls hl => ?_)
  refine lv_aload_n (pc := 55) hx hb dX3_look_55 rfl (lv_at hl 3 rfl) ?_
  refine lv_lload_n (pc := 56) hx hb dX3_look_56 rfl (lv_at hl 1 rfl) ?_
  refine lv_aload_n (pc := 57) hx hb dX3_look_57 rfl (lv_at hl 3 rfl) ?_
  refine zw_get (pc := 58) (ref := RX3) (index := 55) hx hb hts hin3 hown hW 0 rfl rfl 12 (by decide) (List.mem_of_getElem? (i := 6) rfl) (fun _ h9 => h9) rfl dX3_look_58 ?_
  refine zv_lmul (pc := 61) hx hb dX3_look_61 ?_
  refine lv_lload (pc := 62) hx hb dX3_look_62 (lv_at hl 0 rfl) ?_
  refine lv_aload_n (pc := 64) hx hb dX3_look_64 rfl (lv_at hl 3 rfl) ?_
  refine zw_get (pc := 65) (ref := RX3) (index := 52) hx hb hts hin3 hown hW 0 rfl rfl 11 (by decide) (List.mem_of_getElem? (i := 7) rfl) (fun _ h9 => h9) rfl dX3_look_65 ?_
  refine zv_lmul (pc := 68) hx hb dX3_look_68 ?_
  refine zv_lsub (pc := 69) hx hb dX3_look_69 ?_
  refine zv_ldc2 (pc := 70) (v := 10000) hx hb hown (hts _ (List.mem_of_getElem? (i := 5) rfl)) rfl dX3_look_70 ?_
  refine zv_ldiv (pc := 73) hx hb dX3_look_73 ⟨by omega, by omega⟩ ⟨by omega, by omega⟩ (by omega) ?_
  refine zv_asL (pc := 74) (a := Int.tdiv (((zal g t) * (zs (100 * g 2 + 9000))) - ((zac g t) * (zs (100 * g 2)))) 10000) (b := zlx g t) (rfl) ?_
  refine zv_l2i (pc := 74) hx hb dX3_look_74 ?_
  refine zw_put (pc := 75) (ws' := [(sp, .inr (3, [.int (zI (zlx g t)), .int (zI y), .int (zI h), .int (zI d), .int (zI (100 * pr)), .int (zI (100 * g 5)), .int (zI di), .int (zI dr), .long (zL (g 0)), .int (zI (g 1)), .int (zI (zwid (10000 - g 1 * g 1))), .long (zL (zs (100 * g 2))), .long (zL (zs (100 * g 2 + 9000))), .int (zI (g 3)), .int (zI (100 * g 4))]))]) (ref := RX3) (index := 71) hx hb hts hin3 tyX3 tyX3_ok nmX3 hown hW 0 rfl rfl 0 (by decide) (List.mem_of_getElem? (i := 8) rfl) (fun _ h9 => h9) rfl (tyX3_ok 0 (by decide)) rfl rfl (Nat.le_of_ble_eq_true rfl) rfl dX3_look_75 (fun H locs hW => ?_)
  refine lv_aload_n (pc := 78) hx hb dX3_look_78 rfl (lv_at hl 3 rfl) ?_
  refine lv_lload_n (pc := 79) hx hb dX3_look_79 rfl (lv_at hl 1 rfl) ?_
  refine lv_aload_n (pc := 80) hx hb dX3_look_80 rfl (lv_at hl 3 rfl) ?_
  refine zw_get (pc := 81) (ref := RX3) (index := 52) hx hb hts hin3 hown hW 0 rfl rfl 11 (by decide) (List.mem_of_getElem? (i := 7) rfl) (fun _ h9 => h9) rfl dX3_look_81 ?_
  refine zv_lmul (pc := 84) hx hb dX3_look_84 ?_
  refine lv_lload (pc := 85) hx hb dX3_look_85 (lv_at hl 0 rfl) ?_
  refine lv_aload_n (pc := 87) hx hb dX3_look_87 rfl (lv_at hl 3 rfl) ?_
  refine zw_get (pc := 88) (ref := RX3) (index := 55) hx hb hts hin3 hown hW 0 rfl rfl 12 (by decide) (List.mem_of_getElem? (i := 6) rfl) (fun _ h9 => h9) rfl dX3_look_88 ?_
  refine zv_lmul (pc := 91) hx hb dX3_look_91 ?_
  refine zv_ladd (pc := 92) hx hb dX3_look_92 ?_
  refine zv_ldc2 (pc := 93) (v := 10000) hx hb hown (hts _ (List.mem_of_getElem? (i := 5) rfl)) rfl dX3_look_93 ?_
  refine zv_ldiv (pc := 96) hx hb dX3_look_96 ⟨by omega, by omega⟩ ⟨by omega, by omega⟩ (by omega) ?_
  refine zv_asL (pc := 97) (a := Int.tdiv (((zal g t) * (zs (100 * g 2))) + ((zac g t) * (zs (100 * g 2 + 9000)))) 10000) (b := zly g t) (rfl) ?_
  refine zv_l2i (pc := 97) hx hb dX3_look_97 ?_
  refine zw_put (pc := 98) (ws' := [(sp, .inr (3, [.int (zI (zlx g t)), .int (zI (zly g t)), .int (zI h), .int (zI d), .int (zI (100 * pr)), .int (zI (100 * g 5)), .int (zI di), .int (zI dr), .long (zL (g 0)), .int (zI (g 1)), .int (zI (zwid (10000 - g 1 * g 1))), .long (zL (zs (100 * g 2))), .long (zL (zs (100 * g 2 + 9000))), .int (zI (g 3)), .int (zI (100 * g 4))]))]) (ref := RX3) (index := 74) hx hb hts hin3 tyX3 tyX3_ok nmX3 hown hW 0 rfl rfl 1 (by decide) (List.mem_of_getElem? (i := 9) rfl) (fun _ h9 => h9) rfl (tyX3_ok 1 (by decide)) rfl rfl (Nat.le_of_ble_eq_true rfl) rfl dX3_look_98 (fun H locs hW => ?_)
  refine lv_aload_n (pc := 101) hx hb dX3_look_101 rfl (lv_at hl 3 rfl) ?_
  refine zw_get (pc := 102) (ref := RX3) (index := 30) hx hb hts hin3 hown hW 0 rfl rfl 6 (by decide) (List.mem_of_getElem? (i := 10) rfl) (fun _ h9 => h9) rfl dX3_look_102 ?_
  refine lv_aload_n (pc := 105) hx hb dX3_look_105 rfl (lv_at hl 3 rfl) ?_
  refine zw_get (pc := 106) (ref := RX3) (index := 34) hx hb hts hin3 hown hW 0 rfl rfl 7 (by decide) (List.mem_of_getElem? (i := 11) rfl) (fun _ h9 => h9) rfl dX3_look_106 ?_
  refine lv_iload_n (pc := 109) hx hb dX3_look_109 rfl (lv_at hl 4 rfl) ?_
  refine z_SN (pc := 110) (As := [.int (zI di), .int (zI dr), .int (zI t)]) (rest := []) (wn := (fun _ => [(sp, .inr (3, [.int (zI (zlx g t)), .int (zI (zly g t)), .int (zI h), .int (zI d), .int (zI (100 * pr)), .int (zI (100 * g 5)), .int (zI di), .int (zI dr), .long (zL (g 0)), .int (zI (g 1)), .int (zI (zwid (10000 - g 1 * g 1))), .long (zL (zs (100 * g 2))), .long (zL (zs (100 * g 2 + 9000))), .int (zI (g 3)), .int (zI (100 * g 4))]))])) (wr := [(sp, .inr (3, [.int (zI (zlx g t)), .int (zI (zly g t)), .int (zI h), .int (zI d), .int (zI (100 * pr)), .int (zI (100 * g 5)), .int (zI di), .int (zI dr), .long (zL (g 0)), .int (zI (g 1)), .int (zI (zwid (10000 - g 1 * g 1))), .long (zL (zs (100 * g 2))), .long (zL (zs (100 * g 2 + 9000))), .int (zI (g 3)), .int (zI (100 * g 4))]))]) F (kX6_lightAngle G l di dr t) ⟨va_cnB 3 hts gX3_look_X6_lightAngle_n77 rfl rfl rfl (zXn hW 12 rfl) (hts _ (List.mem_of_getElem? (i := 24) rfl)) (by decide +kernel) ⟨Nat.le_of_ble_eq_true rfl, Nat.le_of_ble_eq_true rfl⟩, hts _ (List.mem_of_getElem? (i := 30) rfl), trivial⟩ hW [] [0] (by decide) rfl rfl rfl (by decide) (by decide) [0] (by decide) (fun _ => rfl) (fun _ => rfl) rfl hl.1 rfl (Nat.le_of_ble_eq_true rfl) dX3_look_110 ⟨Nat.le_of_ble_eq_true rfl, Nat.le_of_ble_eq_true rfl⟩ (fun _ H locs _ hW => ?_)
  show W p l e _ s m args below meth c H locs _ _ _ (F0 m 113 ls [.int (zI (zli di dr t))])
  refine lv_istore (pc := 113) (lv' := [(7, .int (zI (zli di dr t))), (5, .long (zL (zac g t))), (3, .long (zL (zal g t))), (2, .int (zI (zang g t))), (0, .ref sp), (1, .int (zI t))]) hx hb dX3_look_113 hl (by decide) rfl (fun ls hl => ?_)
  refine lv_iload (pc := 115) hx hb dX3_look_115 (lv_at hl 0 rfl) ?_
  refine z_SN (pc := 117) (As := [.int (zI (zli di dr t))]) (rest := []) (wn := (fun _ => [(sp, .inr (3, [.int (zI (zlx g t)), .int (zI (zly g t)), .int (zI h), .int (zI d), .int (zI (100 * pr)), .int (zI (100 * g 5)), .int (zI di), .int (zI dr), .long (zL (g 0)), .int (zI (g 1)), .int (zI (zwid (10000 - g 1 * g 1))), .long (zL (zs (100 * g 2))), .long (zL (zs (100 * g 2 + 9000))), .int (zI (g 3)), .int (zI (100 * g 4))]))])) (wr := [(sp, .inr (3, [.int (zI (zlx g t)), .int (zI (zly g t)), .int (zI h), .int (zI d), .int (zI (100 * pr)), .int (zI (100 * g 5)), .int (zI di), .int (zI dr), .long (zL (g 0)), .int (zI (g 1)), .int (zI (zwid (10000 - g 1 * g 1))), .long (zL (zs (100 * g 2))), .long (zL (zs (100 * g 2 + 9000))), .int (zI (g 3)), .int (zI (100 * g 4))]))]) F (kX6_sineOf G l (zli di dr t) (by first | assumption | omega) (by first | assumption | omega)) ⟨va_cnB 1 hts gX3_look_X6_sineOf_n49 rfl rfl rfl (zXn hW 11 rfl) (hts _ (List.mem_of_getElem? (i := 24) rfl)) (by decide +kernel) ⟨Nat.le_of_ble_eq_true rfl, Nat.le_of_ble_eq_true rfl⟩, hts _ (List.mem_of_getElem? (i := 23) rfl), trivial⟩ hW [] [0] (by decide) rfl rfl rfl (by decide) (by decide) [0] (by decide) (fun _ => rfl) (fun _ => rfl) rfl hl.1 rfl (Nat.le_of_ble_eq_true rfl) dX3_look_117 ⟨Nat.le_of_ble_eq_true rfl, Nat.le_of_ble_eq_true rfl⟩ (fun _ H locs _ hW => ?_)
  show W p l e _ s m args below meth c H locs _ _ _ (F0 m 120 ls [.int (zI (zs (zli di dr t)))])
  have zr117 := zs_in ((zli di dr t))
  refine zv_i2l (pc := 120) hx hb dX3_look_120 ⟨by omega, by omega⟩ ?_
  refine lv_lstore (pc := 121) (lv' := [(8, .long (zL (zs (zli di dr t)))), (7, .int (zI (zli di dr t))), (5, .long (zL (zac g t))), (3, .long (zL (zal g t))), (2, .int (zI (zang g t))), (0, .ref sp), (1, .int (zI t))]) hx hb dX3_look_121 hl (by decide) rfl (fun ls hl => ?_)
  refine lv_iload (pc := 123) hx hb dX3_look_123 (lv_at hl 1 rfl) ?_
  refine zv_sipush (pc := 125) (n := 9000) hx hb dX3_look_125 (by decide) ?_
  refine zv_iadd (pc := 128) hx hb dX3_look_128 ?_
  refine z_SN (pc := 129) (As := [.int (zI ((zli di dr t) + 9000))]) (rest := []) (wn := (fun _ => [(sp, .inr (3, [.int (zI (zlx g t)), .int (zI (zly g t)), .int (zI h), .int (zI d), .int (zI (100 * pr)), .int (zI (100 * g 5)), .int (zI di), .int (zI dr), .long (zL (g 0)), .int (zI (g 1)), .int (zI (zwid (10000 - g 1 * g 1))), .long (zL (zs (100 * g 2))), .long (zL (zs (100 * g 2 + 9000))), .int (zI (g 3)), .int (zI (100 * g 4))]))])) (wr := [(sp, .inr (3, [.int (zI (zlx g t)), .int (zI (zly g t)), .int (zI h), .int (zI d), .int (zI (100 * pr)), .int (zI (100 * g 5)), .int (zI di), .int (zI dr), .long (zL (g 0)), .int (zI (g 1)), .int (zI (zwid (10000 - g 1 * g 1))), .long (zL (zs (100 * g 2))), .long (zL (zs (100 * g 2 + 9000))), .int (zI (g 3)), .int (zI (100 * g 4))]))]) F (kX6_sineOf G l ((zli di dr t) + 9000) (by first | assumption | omega) (by first | assumption | omega)) ⟨va_cnB 1 hts gX3_look_X6_sineOf_n49 rfl rfl rfl (zXn hW 11 rfl) (hts _ (List.mem_of_getElem? (i := 24) rfl)) (by decide +kernel) ⟨Nat.le_of_ble_eq_true rfl, Nat.le_of_ble_eq_true rfl⟩, hts _ (List.mem_of_getElem? (i := 23) rfl), trivial⟩ hW [] [0] (by decide) rfl rfl rfl (by decide) (by decide) [0] (by decide) (fun _ => rfl) (fun _ => rfl) rfl hl.1 rfl (Nat.le_of_ble_eq_true rfl) dX3_look_129 ⟨Nat.le_of_ble_eq_true rfl, Nat.le_of_ble_eq_true rfl⟩ (fun _ H locs _ hW => ?_)
  show W p l e _ s m args below meth c H locs _ _ _ (F0 m 132 ls [.int (zI (zs ((zli di dr t) + 9000)))])
  have zr129 := zs_in (((zli di dr t) + 9000))
  refine zv_i2l (pc := 132) hx hb dX3_look_132 ⟨by omega, by omega⟩ ?_
  refine lv_lstore (pc := 133) (lv' := [(10, .long (zL (zs ((zli di dr t) + 9000)))), (8, .long (zL (zs (zli di dr t)))), (7, .int (zI (zli di dr t))), (5, .long (zL (zac g t))), (3, .long (zL (zal g t))), (2, .int (zI (zang g t))), (0, .ref sp), (1, .int (zI t))]) hx hb dX3_look_133 hl (by decide) rfl (fun ls hl => ?_)
  refine lv_aload_n (pc := 135) hx hb dX3_look_135 rfl (lv_at hl 6 rfl) ?_
  refine lv_aload_n (pc := 136) hx hb dX3_look_136 rfl (lv_at hl 6 rfl) ?_
  refine zw_get (pc := 137) (ref := RX3) (index := 71) hx hb hts hin3 hown hW 0 rfl rfl 0 (by decide) (List.mem_of_getElem? (i := 8) rfl) (fun _ h9 => h9) rfl dX3_look_137 ?_
  refine zv_i2l (pc := 140) hx hb dX3_look_140 ⟨by omega, by omega⟩ ?_
  refine lv_lload (pc := 141) hx hb dX3_look_141 (lv_at hl 0 rfl) ?_
  refine zv_lmul (pc := 143) hx hb dX3_look_143 ?_
  refine lv_aload_n (pc := 144) hx hb dX3_look_144 rfl (lv_at hl 6 rfl) ?_
  refine zw_get (pc := 145) (ref := RX3) (index := 74) hx hb hts hin3 hown hW 0 rfl rfl 1 (by decide) (List.mem_of_getElem? (i := 9) rfl) (fun _ h9 => h9) rfl dX3_look_145 ?_
  refine zv_i2l (pc := 148) hx hb dX3_look_148 ⟨by omega, by omega⟩ ?_
  refine lv_lload (pc := 149) hx hb dX3_look_149 (lv_at hl 1 rfl) ?_
  refine zv_lmul (pc := 151) hx hb dX3_look_151 ?_
  refine zv_ladd (pc := 152) hx hb dX3_look_152 ?_
  refine zv_ldc2 (pc := 153) (v := 10000) hx hb hown (hts _ (List.mem_of_getElem? (i := 5) rfl)) rfl dX3_look_153 ?_
  refine zv_ldiv (pc := 156) hx hb dX3_look_156 ⟨by omega, by omega⟩ ⟨by omega, by omega⟩ (by omega) ?_
  refine zv_asL (pc := 157) (a := Int.tdiv (((zlx g t) * (zs ((zli di dr t) + 9000))) + ((zly g t) * (zs (zli di dr t)))) 10000) (b := zlh di dr g t) (rfl) ?_
  refine zv_l2i (pc := 157) hx hb dX3_look_157 ?_
  refine zw_put (pc := 158) (ws' := [(sp, .inr (3, [.int (zI (zlx g t)), .int (zI (zly g t)), .int (zI (zlh di dr g t)), .int (zI d), .int (zI (100 * pr)), .int (zI (100 * g 5)), .int (zI di), .int (zI dr), .long (zL (g 0)), .int (zI (g 1)), .int (zI (zwid (10000 - g 1 * g 1))), .long (zL (zs (100 * g 2))), .long (zL (zs (100 * g 2 + 9000))), .int (zI (g 3)), .int (zI (100 * g 4))]))]) (ref := RX3) (index := 81) hx hb hts hin3 tyX3 tyX3_ok nmX3 hown hW 0 rfl rfl 2 (by decide) (List.mem_of_getElem? (i := 12) rfl) (fun _ h9 => h9) rfl (tyX3_ok 2 (by decide)) rfl rfl (Nat.le_of_ble_eq_true rfl) rfl dX3_look_158 (fun H locs hW => ?_)
  refine lv_aload_n (pc := 161) hx hb dX3_look_161 rfl (lv_at hl 6 rfl) ?_
  refine lv_aload_n (pc := 162) hx hb dX3_look_162 rfl (lv_at hl 6 rfl) ?_
  refine zw_get (pc := 163) (ref := RX3) (index := 74) hx hb hts hin3 hown hW 0 rfl rfl 1 (by decide) (List.mem_of_getElem? (i := 9) rfl) (fun _ h9 => h9) rfl dX3_look_163 ?_
  refine zv_i2l (pc := 166) hx hb dX3_look_166 ⟨by omega, by omega⟩ ?_
  refine lv_lload (pc := 167) hx hb dX3_look_167 (lv_at hl 0 rfl) ?_
  refine zv_lmul (pc := 169) hx hb dX3_look_169 ?_
  refine lv_aload_n (pc := 170) hx hb dX3_look_170 rfl (lv_at hl 6 rfl) ?_
  refine zw_get (pc := 171) (ref := RX3) (index := 71) hx hb hts hin3 hown hW 0 rfl rfl 0 (by decide) (List.mem_of_getElem? (i := 8) rfl) (fun _ h9 => h9) rfl dX3_look_171 ?_
  refine zv_i2l (pc := 174) hx hb dX3_look_174 ⟨by omega, by omega⟩ ?_
  refine lv_lload (pc := 175) hx hb dX3_look_175 (lv_at hl 1 rfl) ?_
  refine zv_lmul (pc := 177) hx hb dX3_look_177 ?_
  refine zv_lsub (pc := 178) hx hb dX3_look_178 ?_
  refine zv_ldc2 (pc := 179) (v := 10000) hx hb hown (hts _ (List.mem_of_getElem? (i := 5) rfl)) rfl dX3_look_179 ?_
  refine zv_ldiv (pc := 182) hx hb dX3_look_182 ⟨by omega, by omega⟩ ⟨by omega, by omega⟩ (by omega) ?_
  refine zv_asL (pc := 183) (a := Int.tdiv (((zly g t) * (zs ((zli di dr t) + 9000))) - ((zlx g t) * (zs (zli di dr t)))) 10000) (b := zls di dr g t) (rfl) ?_
  refine zv_l2i (pc := 183) hx hb dX3_look_183 ?_
  refine zw_put (pc := 184) (ws' := [(sp, .inr (3, [.int (zI (zlx g t)), .int (zI (zly g t)), .int (zI (zlh di dr g t)), .int (zI (zls di dr g t)), .int (zI (100 * pr)), .int (zI (100 * g 5)), .int (zI di), .int (zI dr), .long (zL (g 0)), .int (zI (g 1)), .int (zI (zwid (10000 - g 1 * g 1))), .long (zL (zs (100 * g 2))), .long (zL (zs (100 * g 2 + 9000))), .int (zI (g 3)), .int (zI (100 * g 4))]))]) (ref := RX3) (index := 84) hx hb hts hin3 tyX3 tyX3_ok nmX3 hown hW 0 rfl rfl 3 (by decide) (List.mem_of_getElem? (i := 13) rfl) (fun _ h9 => h9) rfl (tyX3_ok 3 (by decide)) rfl rfl (Nat.le_of_ble_eq_true rfl) rfl dX3_look_184 (fun H locs hW => ?_)
  exact ze_v (pc := 187) hx hb hr hlk hW () rfl trivial rfl dX3_look_187

set_option maxHeartbeats 4000000 in
set_option maxRecDepth 100000 in
/-- shadowState -/
theorem kX3_shadowState (G : zG) (l : Launch) (sp : Nat) (x : Int) (y : Int) (h : Int) (d : Int) (pr : Int) (di : Int) (dr : Int) (g : Int → Int) (hx1 : -5200000 ≤ h) (hx2 : h ≤ 5200000) (hy1 : -5200000 ≤ d) (hy2 : d ≤ 5200000) (hp1 : 0 ≤ pr) (hp2 : pr ≤ 999) (hq1 : 0 ≤ g 5) (hq2 : g 5 ≤ 99) : zM G l yX3_shadowState wsX3_shadowState { frames := 1, cells := 0, slots := 0, locals := 22 } [.ref sp] [(sp, .inr (3, [.int (zI x), .int (zI y), .int (zI h), .int (zI d), .int (zI (100 * pr)), .int (zI (100 * g 5)), .int (zI di), .int (zI dr), .long (zL (g 0)), .int (zI (g 1)), .int (zI (zwid (10000 - g 1 * g 1))), .long (zL (zs (100 * g 2))), .long (zL (zs (100 * g 2 + 9000))), .int (zI (g 3)), .int (zI (100 * g 4))]))] (S := Unit) (zri (fun _ => zst pr (g 5) h d)) (fun _ => True) (fun _ => [(sp, .inr (3, [.int (zI x), .int (zI y), .int (zI h), .int (zI d), .int (zI (100 * pr)), .int (zI (100 * g 5)), .int (zI di), .int (zI dr), .long (zL (g 0)), .int (zI (g 1)), .int (zI (zwid (10000 - g 1 * g 1))), .long (zL (zs (100 * g 2))), .long (zL (zs (100 * g 2 + 9000))), .int (zI (g 3)), .int (zI (100 * g 4))]))]) 0 0 := by
  refine zM.of (cc := cX3_shadowState) (maxL := 2) (ret := (some .int)) (by decide) rfl (Nat.le_of_ble_eq_true rfl) (l0 := [(0, .ref sp)]) rfl ?_
  intro p e s m args below meth c ls F hr hlk hnm hW hl
  obtain ⟨hx, hb, hml, hown, hts⟩ := id F
  have hin3 : ∀ w ∈ wsX30, w ∈ wsX3_shadowState := fun _ h => List.mem_cons_of_mem _ (List.mem_append_right _ (h))
  refine lv_aload_n (pc := 0) hx hb dX3_shadowState_0 rfl (lv_at hl 0 rfl) ?_
  refine zw_get (pc := 1) (ref := RX3) (index := 81) hx hb hts hin3 hown hW 0 rfl rfl 2 (by decide) (List.mem_of_getElem? (i := 1) rfl) (fun _ h9 => h9) rfl dX3_shadowState_1 ?_
  refine zv_if_lt (pc := 4) (tgt := 9) hx hb dX3_shadowState_4 (by decide) ⟨by omega, by omega⟩ (fun c4 => ?_) (fun c4 => ?_)
  · refine lv_aload_n (pc := 9) hx hb dX3_shadowState_9 rfl (lv_at hl 0 rfl) ?_
    refine zw_get (pc := 10) (ref := RX3) (index := 84) hx hb hts hin3 hown hW 0 rfl rfl 3 (by decide) (List.mem_of_getElem? (i := 2) rfl) (fun _ h9 => h9) rfl dX3_shadowState_10 ?_
    refine zv_abs (pc := 13) hx hb (hml.trans hl.1.symm) hown (hts _ (List.mem_of_getElem? (i := 3) rfl)) (hts _ (List.mem_of_getElem? (i := 4) rfl)) (hts _ (List.mem_of_getElem? (i := 5) rfl)) (hts _ (List.mem_of_getElem? (i := 6) rfl)) (Nat.le_of_ble_eq_true rfl) (Nat.le_of_ble_eq_true rfl) (Nat.le_of_ble_eq_true rfl) (Nat.le_of_ble_eq_true rfl) dX3_shadowState_13 ⟨by omega, by omega⟩ ?_
    have ab13 := zabs_sp d
    refine lv_istore_n (pc := 16) (lv' := [(1, .int (zI (zabs d))), (0, .ref sp)]) hx hb dX3_shadowState_16 rfl hl (by decide) rfl (fun ls hl => ?_)
    refine lv_iload_n (pc := 17) hx hb dX3_shadowState_17 rfl (lv_at hl 0 rfl) ?_
    refine lv_aload_n (pc := 18) hx hb dX3_shadowState_18 rfl (lv_at hl 1 rfl) ?_
    refine zw_get (pc := 19) (ref := RX3) (index := 24) hx hb hts hin3 hown hW 0 rfl rfl 5 (by decide) (List.mem_of_getElem? (i := 7) rfl) (fun _ h9 => h9) rfl dX3_shadowState_19 ?_
    refine zv_iadd (pc := 22) hx hb dX3_shadowState_22 ?_
    refine lv_aload_n (pc := 23) hx hb dX3_shadowState_23 rfl (lv_at hl 1 rfl) ?_
    refine zw_get (pc := 24) (ref := RX3) (index := 15) hx hb hts hin3 hown hW 0 rfl rfl 4 (by decide) (List.mem_of_getElem? (i := 8) rfl) (fun _ h9 => h9) rfl dX3_shadowState_24 ?_
    refine zv_icmp_gt (pc := 27) (tgt := 32) hx hb dX3_shadowState_27 (by decide) ⟨by omega, by omega⟩ ⟨by omega, by omega⟩ (fun c27 => ?_) (fun c27 => ?_)
    · refine lv_iload_n (pc := 32) hx hb dX3_shadowState_32 rfl (lv_at hl 0 rfl) ?_
      refine lv_aload_n (pc := 33) hx hb dX3_shadowState_33 rfl (lv_at hl 1 rfl) ?_
      refine zw_get (pc := 34) (ref := RX3) (index := 15) hx hb hts hin3 hown hW 0 rfl rfl 4 (by decide) (List.mem_of_getElem? (i := 8) rfl) (fun _ h9 => h9) rfl dX3_shadowState_34 ?_
      refine lv_aload_n (pc := 37) hx hb dX3_shadowState_37 rfl (lv_at hl 1 rfl) ?_
      refine zw_get (pc := 38) (ref := RX3) (index := 24) hx hb hts hin3 hown hW 0 rfl rfl 5 (by decide) (List.mem_of_getElem? (i := 7) rfl) (fun _ h9 => h9) rfl dX3_shadowState_38 ?_
      refine zv_iadd (pc := 41) hx hb dX3_shadowState_41 ?_
      refine zv_icmp_ge (pc := 42) (tgt := 49) hx hb dX3_shadowState_42 (by decide) ⟨by omega, by omega⟩ ⟨by omega, by omega⟩ (fun c42 => ?_) (fun c42 => ?_)
      · refine zv_iconst (pc := 49) (n := 0) hx hb dX3_shadowState_49 ?_
        refine zv_as (pc := 50) (a := 0) (b := zst pr (g 5) h d) (by unfold zst; first | rw [if_pos (by omega)] | rw [if_neg (by omega), if_pos (by omega)] | rw [if_neg (by omega), if_neg (by omega), if_pos (by omega)] | rw [if_neg (by omega), if_neg (by omega), if_neg (by omega)]) ?_
        exact ze_i (pc := 50) hx hb hr hlk hW () rfl trivial rfl dX3_shadowState_50
      · refine zv_iconst (pc := 45) (n := 1) hx hb dX3_shadowState_45 ?_
        refine lv_goto (pc := 46) (tgt := 50) hx hb dX3_shadowState_46 (by decide) ?_
        refine zv_as (pc := 50) (a := 1) (b := zst pr (g 5) h d) (by unfold zst; first | rw [if_pos (by omega)] | rw [if_neg (by omega), if_pos (by omega)] | rw [if_neg (by omega), if_neg (by omega), if_pos (by omega)] | rw [if_neg (by omega), if_neg (by omega), if_neg (by omega)]) ?_
        exact ze_i (pc := 50) hx hb hr hlk hW () rfl trivial rfl dX3_shadowState_50
    · refine zv_iconst (pc := 30) (n := 2) hx hb dX3_shadowState_30 ?_
      refine zv_as (pc := 31) (a := 2) (b := zst pr (g 5) h d) (by unfold zst; first | rw [if_pos (by omega)] | rw [if_neg (by omega), if_pos (by omega)] | rw [if_neg (by omega), if_neg (by omega), if_pos (by omega)] | rw [if_neg (by omega), if_neg (by omega), if_neg (by omega)]) ?_
      exact ze_i (pc := 31) hx hb hr hlk hW () rfl trivial rfl dX3_shadowState_31
  · refine zv_iconst (pc := 7) (n := 0) hx hb dX3_shadowState_7 ?_
    refine zv_as (pc := 8) (a := 0) (b := zst pr (g 5) h d) (by unfold zst; first | rw [if_pos (by omega)] | rw [if_neg (by omega), if_pos (by omega)] | rw [if_neg (by omega), if_neg (by omega), if_pos (by omega)] | rw [if_neg (by omega), if_neg (by omega), if_neg (by omega)]) ?_
    exact ze_i (pc := 8) hx hb hr hlk hW () rfl trivial rfl dX3_shadowState_8

set_option maxHeartbeats 4000000 in
set_option maxRecDepth 100000 in
/-- castsShadow -/
theorem kX3_castsShadow (G : zG) (l : Launch) (sp : Nat) (x : Int) (y : Int) (h : Int) (d : Int) (pr : Int) (di : Int) (dr : Int) (g : Int → Int) (hx1 : -5200000 ≤ h) (hx2 : h ≤ 5200000) (hy1 : -5200000 ≤ d) (hy2 : d ≤ 5200000) (hp1 : 0 ≤ pr) (hp2 : pr ≤ 999) (hq1 : 0 ≤ g 5) (hq2 : g 5 ≤ 99) : zM G l yX3_castsShadow wsX3_castsShadow { frames := 1, cells := 0, slots := 0, locals := 22 } [.ref sp] [(sp, .inr (3, [.int (zI x), .int (zI y), .int (zI h), .int (zI d), .int (zI (100 * pr)), .int (zI (100 * g 5)), .int (zI di), .int (zI dr), .long (zL (g 0)), .int (zI (g 1)), .int (zI (zwid (10000 - g 1 * g 1))), .long (zL (zs (100 * g 2))), .long (zL (zs (100 * g 2 + 9000))), .int (zI (g 3)), .int (zI (100 * g 4))]))] (S := Unit) (zri (fun _ => zb (zca pr (g 5) h d))) (fun _ => True) (fun _ => [(sp, .inr (3, [.int (zI x), .int (zI y), .int (zI h), .int (zI d), .int (zI (100 * pr)), .int (zI (100 * g 5)), .int (zI di), .int (zI dr), .long (zL (g 0)), .int (zI (g 1)), .int (zI (zwid (10000 - g 1 * g 1))), .long (zL (zs (100 * g 2))), .long (zL (zs (100 * g 2 + 9000))), .int (zI (g 3)), .int (zI (100 * g 4))]))]) 0 0 := by
  refine zM.of (cc := cX3_castsShadow) (maxL := 1) (ret := (some .boolean)) (by decide) rfl (Nat.le_of_ble_eq_true rfl) (l0 := [(0, .ref sp)]) rfl ?_
  intro p e s m args below meth c ls F hr hlk hnm hW hl
  obtain ⟨hx, hb, hml, hown, hts⟩ := id F
  have hin3 : ∀ w ∈ wsX30, w ∈ wsX3_castsShadow := fun _ h => List.mem_cons_of_mem _ (List.mem_append_right _ (h))
  refine lv_aload_n (pc := 0) hx hb dX3_castsShadow_0 rfl (lv_at hl 0 rfl) ?_
  refine zw_get (pc := 1) (ref := RX3) (index := 81) hx hb hts hin3 hown hW 0 rfl rfl 2 (by decide) (List.mem_of_getElem? (i := 1) rfl) (fun _ h9 => h9) rfl dX3_castsShadow_1 ?_
  refine zv_if_le (pc := 4) (tgt := 30) hx hb dX3_castsShadow_4 (by decide) ⟨by omega, by omega⟩ (fun c4 => ?_) (fun c4 => ?_)
  · refine zv_iconst (pc := 30) (n := 0) hx hb dX3_castsShadow_30 ?_
    refine zv_as (pc := 31) (a := 0) (b := zb (zca pr (g 5) h d)) (by unfold zca; first | (rw [decide_eq_true (show 0 < h by omega), decide_eq_true (by omega)]; rfl) | (rw [decide_eq_false (show ¬ 0 < h by omega)]; rfl) | (rw [decide_eq_true (show 0 < h by omega), decide_eq_false (by omega)]; rfl)) ?_
    exact ze_z (pc := 31) hx hb hr hlk hW () rfl trivial rfl dX3_castsShadow_31
  · refine lv_aload_n (pc := 7) hx hb dX3_castsShadow_7 rfl (lv_at hl 0 rfl) ?_
    refine zw_get (pc := 8) (ref := RX3) (index := 84) hx hb hts hin3 hown hW 0 rfl rfl 3 (by decide) (List.mem_of_getElem? (i := 2) rfl) (fun _ h9 => h9) rfl dX3_castsShadow_8 ?_
    refine zv_abs (pc := 11) hx hb (hml.trans hl.1.symm) hown (hts _ (List.mem_of_getElem? (i := 3) rfl)) (hts _ (List.mem_of_getElem? (i := 4) rfl)) (hts _ (List.mem_of_getElem? (i := 5) rfl)) (hts _ (List.mem_of_getElem? (i := 6) rfl)) (Nat.le_of_ble_eq_true rfl) (Nat.le_of_ble_eq_true rfl) (Nat.le_of_ble_eq_true rfl) (Nat.le_of_ble_eq_true rfl) dX3_castsShadow_11 ⟨by omega, by omega⟩ ?_
    have ab11 := zabs_sp d
    refine lv_aload_n (pc := 14) hx hb dX3_castsShadow_14 rfl (lv_at hl 0 rfl) ?_
    refine zw_get (pc := 15) (ref := RX3) (index := 15) hx hb hts hin3 hown hW 0 rfl rfl 4 (by decide) (List.mem_of_getElem? (i := 7) rfl) (fun _ h9 => h9) rfl dX3_castsShadow_15 ?_
    refine lv_aload_n (pc := 18) hx hb dX3_castsShadow_18 rfl (lv_at hl 0 rfl) ?_
    refine zw_get (pc := 19) (ref := RX3) (index := 24) hx hb hts hin3 hown hW 0 rfl rfl 5 (by decide) (List.mem_of_getElem? (i := 8) rfl) (fun _ h9 => h9) rfl dX3_castsShadow_19 ?_
    refine zv_iadd (pc := 22) hx hb dX3_castsShadow_22 ?_
    refine zv_icmp_ge (pc := 23) (tgt := 30) hx hb dX3_castsShadow_23 (by decide) ⟨by omega, by omega⟩ ⟨by omega, by omega⟩ (fun c23 => ?_) (fun c23 => ?_)
    · refine zv_iconst (pc := 30) (n := 0) hx hb dX3_castsShadow_30 ?_
      refine zv_as (pc := 31) (a := 0) (b := zb (zca pr (g 5) h d)) (by unfold zca; first | (rw [decide_eq_true (show 0 < h by omega), decide_eq_true (by omega)]; rfl) | (rw [decide_eq_false (show ¬ 0 < h by omega)]; rfl) | (rw [decide_eq_true (show 0 < h by omega), decide_eq_false (by omega)]; rfl)) ?_
      exact ze_z (pc := 31) hx hb hr hlk hW () rfl trivial rfl dX3_castsShadow_31
    · refine zv_iconst (pc := 26) (n := 1) hx hb dX3_castsShadow_26 ?_
      refine lv_goto (pc := 27) (tgt := 31) hx hb dX3_castsShadow_27 (by decide) ?_
      refine zv_as (pc := 31) (a := 1) (b := zb (zca pr (g 5) h d)) (by unfold zca; first | (rw [decide_eq_true (show 0 < h by omega), decide_eq_true (by omega)]; rfl) | (rw [decide_eq_false (show ¬ 0 < h by omega)]; rfl) | (rw [decide_eq_true (show 0 < h by omega), decide_eq_false (by omega)]; rfl)) ?_
      exact ze_z (pc := 31) hx hb hr hlk hW () rfl trivial rfl dX3_castsShadow_31

set_option maxHeartbeats 4000000 in
set_option maxRecDepth 100000 in
/-- isShadedBy -/
theorem kX3_isShadedBy (G : zG) (l : Launch) (sp : Nat) (x : Int) (y : Int) (h : Int) (d : Int) (pr : Int) (di : Int) (dr : Int) (g : Int → Int) (sp2 : Nat) (x2 : Int) (y2 : Int) (h2 : Int) (d2 : Int) (g2 : Int → Int) (hx1 : -5200000 ≤ h) (hx2 : h ≤ 5200000) (hy1 : -5200000 ≤ d) (hy2 : d ≤ 5200000) (hq1 : 0 ≤ g 5) (hq2 : g 5 ≤ 99) (h21 : -5200000 ≤ h2) (h22 : h2 ≤ 5200000) (d21 : -5200000 ≤ d2) (d22 : d2 ≤ 5200000) (q21 : 0 ≤ g2 5) (q22 : g2 5 ≤ 99) : zM G l yX3_isShadedBy wsX3_isShadedBy { frames := 1, cells := 0, slots := 0, locals := 22 } [.ref sp, .ref sp2] [(sp, .inr (3, [.int (zI x), .int (zI y), .int (zI h), .int (zI d), .int (zI (100 * pr)), .int (zI (100 * g 5)), .int (zI di), .int (zI dr), .long (zL (g 0)), .int (zI (g 1)), .int (zI (zwid (10000 - g 1 * g 1))), .long (zL (zs (100 * g 2))), .long (zL (zs (100 * g 2 + 9000))), .int (zI (g 3)), .int (zI (100 * g 4))])), (sp2, .inr (3, [.int (zI x2), .int (zI y2), .int (zI h2), .int (zI d2), .int (zI (100 * pr)), .int (zI (100 * g2 5)), .int (zI di), .int (zI dr), .long (zL (g2 0)), .int (zI (g2 1)), .int (zI (zwid (10000 - g2 1 * g2 1))), .long (zL (zs (100 * g2 2))), .long (zL (zs (100 * g2 2 + 9000))), .int (zI (g2 3)), .int (zI (100 * g2 4))]))] (S := Unit) (zri (fun _ => zb (zsb h d (g 5) h2 d2 (g2 5)))) (fun _ => True) (fun _ => [(sp, .inr (3, [.int (zI x), .int (zI y), .int (zI h), .int (zI d), .int (zI (100 * pr)), .int (zI (100 * g 5)), .int (zI di), .int (zI dr), .long (zL (g 0)), .int (zI (g 1)), .int (zI (zwid (10000 - g 1 * g 1))), .long (zL (zs (100 * g 2))), .long (zL (zs (100 * g 2 + 9000))), .int (zI (g 3)), .int (zI (100 * g 4))])), (sp2, .inr (3, [.int (zI x2), .int (zI y2), .int (zI h2), .int (zI d2), .int (zI (100 * pr)), .int (zI (100 * g2 5)), .int (zI di), .int (zI dr), .long (zL (g2 0)), .int (zI (g2 1)), .int (zI (zwid (10000 - g2 1 * g2 1))), .long (zL (zs (100 * g2 2))), .long (zL (zs (100 * g2 2 + 9000))), .int (zI (g2 3)), .int (zI (100 * g2 4))]))]) 0 0 := by
  refine zM.of (cc := cX3_isShadedBy) (maxL := 2) (ret := (some .boolean)) (by decide) rfl (Nat.le_of_ble_eq_true rfl) (l0 := [(0, .ref sp), (1, .ref sp2)]) rfl ?_
  intro p e s m args below meth c ls F hr hlk hnm hW hl
  obtain ⟨hx, hb, hml, hown, hts⟩ := id F
  have hin3 : ∀ w ∈ wsX30, w ∈ wsX3_isShadedBy := fun _ h => List.mem_cons_of_mem _ (List.mem_append_right _ (h))
  refine lv_aload_n (pc := 0) hx hb dX3_isShadedBy_0 rfl (lv_at hl 1 rfl) ?_
  refine zw_get (pc := 1) (ref := RX3) (index := 81) hx hb hts hin3 hown hW 1 rfl rfl 2 (by decide) (List.mem_of_getElem? (i := 1) rfl) (fun _ h9 => h9) rfl dX3_isShadedBy_1 ?_
  refine lv_aload_n (pc := 4) hx hb dX3_isShadedBy_4 rfl (lv_at hl 0 rfl) ?_
  refine zw_get (pc := 5) (ref := RX3) (index := 81) hx hb hts hin3 hown hW 0 rfl rfl 2 (by decide) (List.mem_of_getElem? (i := 1) rfl) (fun _ h9 => h9) rfl dX3_isShadedBy_5 ?_
  refine zv_icmp_le (pc := 8) (tgt := 39) hx hb dX3_isShadedBy_8 (by decide) ⟨by omega, by omega⟩ ⟨by omega, by omega⟩ (fun c8 => ?_) (fun c8 => ?_)
  · refine zv_iconst (pc := 39) (n := 0) hx hb dX3_isShadedBy_39 ?_
    refine zv_as (pc := 40) (a := 0) (b := zb (zsb h d (g 5) h2 d2 (g2 5))) (by unfold zsb; first | (rw [decide_eq_true (show h < h2 by omega), decide_eq_true (by omega)]; rfl) | (rw [decide_eq_false (show ¬ h < h2 by omega)]; rfl) | (rw [decide_eq_true (show h < h2 by omega), decide_eq_false (by omega)]; rfl)) ?_
    exact ze_z (pc := 40) hx hb hr hlk hW () rfl trivial rfl dX3_isShadedBy_40
  · refine lv_aload_n (pc := 11) hx hb dX3_isShadedBy_11 rfl (lv_at hl 0 rfl) ?_
    refine zw_get (pc := 12) (ref := RX3) (index := 84) hx hb hts hin3 hown hW 0 rfl rfl 3 (by decide) (List.mem_of_getElem? (i := 2) rfl) (fun _ h9 => h9) rfl dX3_isShadedBy_12 ?_
    refine lv_aload_n (pc := 15) hx hb dX3_isShadedBy_15 rfl (lv_at hl 1 rfl) ?_
    refine zw_get (pc := 16) (ref := RX3) (index := 84) hx hb hts hin3 hown hW 1 rfl rfl 3 (by decide) (List.mem_of_getElem? (i := 2) rfl) (fun _ h9 => h9) rfl dX3_isShadedBy_16 ?_
    refine zv_isub (pc := 19) hx hb dX3_isShadedBy_19 ?_
    refine zv_abs (pc := 20) hx hb (hml.trans hl.1.symm) hown (hts _ (List.mem_of_getElem? (i := 3) rfl)) (hts _ (List.mem_of_getElem? (i := 4) rfl)) (hts _ (List.mem_of_getElem? (i := 5) rfl)) (hts _ (List.mem_of_getElem? (i := 6) rfl)) (Nat.le_of_ble_eq_true rfl) (Nat.le_of_ble_eq_true rfl) (Nat.le_of_ble_eq_true rfl) (Nat.le_of_ble_eq_true rfl) dX3_isShadedBy_20 ⟨by omega, by omega⟩ ?_
    have ab20 := zabs_sp (d - d2)
    refine lv_aload_n (pc := 23) hx hb dX3_isShadedBy_23 rfl (lv_at hl 0 rfl) ?_
    refine zw_get (pc := 24) (ref := RX3) (index := 24) hx hb hts hin3 hown hW 0 rfl rfl 5 (by decide) (List.mem_of_getElem? (i := 7) rfl) (fun _ h9 => h9) rfl dX3_isShadedBy_24 ?_
    refine lv_aload_n (pc := 27) hx hb dX3_isShadedBy_27 rfl (lv_at hl 1 rfl) ?_
    refine zw_get (pc := 28) (ref := RX3) (index := 24) hx hb hts hin3 hown hW 1 rfl rfl 5 (by decide) (List.mem_of_getElem? (i := 7) rfl) (fun _ h9 => h9) rfl dX3_isShadedBy_28 ?_
    refine zv_iadd (pc := 31) hx hb dX3_isShadedBy_31 ?_
    refine zv_icmp_ge (pc := 32) (tgt := 39) hx hb dX3_isShadedBy_32 (by decide) ⟨by omega, by omega⟩ ⟨by omega, by omega⟩ (fun c32 => ?_) (fun c32 => ?_)
    · refine zv_iconst (pc := 39) (n := 0) hx hb dX3_isShadedBy_39 ?_
      refine zv_as (pc := 40) (a := 0) (b := zb (zsb h d (g 5) h2 d2 (g2 5))) (by unfold zsb; first | (rw [decide_eq_true (show h < h2 by omega), decide_eq_true (by omega)]; rfl) | (rw [decide_eq_false (show ¬ h < h2 by omega)]; rfl) | (rw [decide_eq_true (show h < h2 by omega), decide_eq_false (by omega)]; rfl)) ?_
      exact ze_z (pc := 40) hx hb hr hlk hW () rfl trivial rfl dX3_isShadedBy_40
    · refine zv_iconst (pc := 35) (n := 1) hx hb dX3_isShadedBy_35 ?_
      refine lv_goto (pc := 36) (tgt := 40) hx hb dX3_isShadedBy_36 (by decide) ?_
      refine zv_as (pc := 40) (a := 1) (b := zb (zsb h d (g 5) h2 d2 (g2 5))) (by unfold zsb; first | (rw [decide_eq_true (show h < h2 by omega), decide_eq_true (by omega)]; rfl) | (rw [decide_eq_false (show ¬ h < h2 by omega)]; rfl) | (rw [decide_eq_true (show h < h2 by omega), decide_eq_false (by omega)]; rfl)) ?_
      exact ze_z (pc := 40) hx hb hr hlk hW () rfl trivial rfl dX3_isShadedBy_40

set_option maxHeartbeats 4000000 in
set_option maxRecDepth 100000 in
/-- conditionsAt -/
theorem kX3_conditionsAt (G : zG) (l : Launch) (sp : Nat) (x : Int) (y : Int) (h : Int) (d : Int) (pr : Int) (di : Int) (dr : Int) (g : Int → Int) (t : Int) (hg : zgok g) (hd1 : 0 ≤ di) (hd2 : di ≤ 359) (hr1 : -999 ≤ dr) (hr2 : dr ≤ 999) (hp1 : 0 ≤ pr) (hp2 : pr ≤ 999) (ht1 : 0 ≤ t) (ht2 : t ≤ 1000000) : zM G l yX3_conditionsAt wsX3_conditionsAt { frames := 3, cells := 0, slots := 0, locals := 87 } [.ref sp, .int (zI t)] [(sp, .inr (3, [.int (zI x), .int (zI y), .int (zI h), .int (zI d), .int (zI (100 * pr)), .int (zI (100 * g 5)), .int (zI di), .int (zI dr), .long (zL (g 0)), .int (zI (g 1)), .int (zI (zwid (10000 - g 1 * g 1))), .long (zL (zs (100 * g 2))), .long (zL (zs (100 * g 2 + 9000))), .int (zI (g 3)), .int (zI (100 * g 4))]))] (S := Unit) (zri (fun _ => zbits (zL2 pr di dr g t))) (fun _ => True) (fun _ => [(sp, .inr (3, [.int (zI (zlx g t)), .int (zI (zly g t)), .int (zI (zlh di dr g t)), .int (zI (zls di dr g t)), .int (zI (100 * pr)), .int (zI (100 * g 5)), .int (zI di), .int (zI dr), .long (zL (g 0)), .int (zI (g 1)), .int (zI (zwid (10000 - g 1 * g 1))), .long (zL (zs (100 * g 2))), .long (zL (zs (100 * g 2 + 9000))), .int (zI (g 3)), .int (zI (100 * g 4))]))]) 0 0 := by
  refine zM.of (cc := cX3_conditionsAt) (maxL := 4) (ret := (some .int)) (by decide) rfl (Nat.le_of_ble_eq_true rfl) (l0 := [(0, .ref sp), (1, .int (zI t))]) rfl ?_
  intro p e s m args below meth c ls F hr hlk hnm hW hl
  obtain ⟨hx, hb, hml, hown, hts⟩ := id F
  obtain ⟨gf0, gf1, gf2, gf3, gf4, gf5⟩ : (2 ≤ g 0 ∧ g 0 ≤ 9999) ∧ (0 ≤ g 1 ∧ g 1 ≤ 60) ∧ (0 ≤ g 2 ∧ g 2 ≤ 359) ∧ (8 ≤ g 3 ∧ g 3 ≤ 99999) ∧ (0 ≤ g 4 ∧ g 4 ≤ 359) ∧ (0 ≤ g 5 ∧ g 5 ≤ 99) := id hg
  have blh := zlh_in (di := di) (dr := dr) (t := t) hg
  have bls := zls_in (di := di) (dr := dr) (t := t) hg
  refine lv_aload_n (pc := 0) hx hb dX3_conditionsAt_0 rfl (lv_at hl 0 rfl) ?_
  refine lv_iload_n (pc := 1) hx hb dX3_conditionsAt_1 rfl (lv_at hl 1 rfl) ?_
  refine z_V (pc := 2) (As := [.int (zI t)]) (rest := []) (wn := (fun _ => [(sp, .inr (3, [.int (zI (zlx g t)), .int (zI (zly g t)), .int (zI (zlh di dr g t)), .int (zI (zls di dr g t)), .int (zI (100 * pr)), .int (zI (100 * g 5)), .int (zI di), .int (zI dr), .long (zL (g 0)), .int (zI (g 1)), .int (zI (zwid (10000 - g 1 * g 1))), .long (zL (zs (100 * g 2))), .long (zL (zs (100 * g 2 + 9000))), .int (zI (g 3)), .int (zI (100 * g 4))]))])) (wr := []) F (kX3_look G l sp x y h d pr di dr g t (by first | assumption | omega) (by first | assumption | omega) (by first | assumption | omega) (by first | assumption | omega) (by first | assumption | omega) (by first | assumption | omega) (by first | assumption | omega)) (cwV 1 hts gX3_conditionsAt_X3_look rfl rfl rfl (by decide +kernel) ⟨Nat.le_of_ble_eq_true rfl, Nat.le_of_ble_eq_true rfl⟩) hW 0 rfl rfl [0] [] (by decide) rfl rfl rfl (by decide) (by decide) [0] (by decide) (fun _ => rfl) (fun _ => rfl) rfl hl.1 rfl (Nat.le_of_ble_eq_true rfl) dX3_conditionsAt_2 ⟨Nat.le_of_ble_eq_true rfl, Nat.le_of_ble_eq_true rfl⟩ (fun _ H locs _ hW => ?_)
  refine lv_aload_n (pc := 5) hx hb dX3_conditionsAt_5 rfl (lv_at hl 0 rfl) ?_
  refine z_V (pc := 6) (As := []) (rest := []) (wn := (fun _ => [(sp, .inr (3, [.int (zI (zlx g t)), .int (zI (zly g t)), .int (zI (zlh di dr g t)), .int (zI (zls di dr g t)), .int (zI (100 * pr)), .int (zI (100 * g 5)), .int (zI di), .int (zI dr), .long (zL (g 0)), .int (zI (g 1)), .int (zI (zwid (10000 - g 1 * g 1))), .long (zL (zs (100 * g 2))), .long (zL (zs (100 * g 2 + 9000))), .int (zI (g 3)), .int (zI (100 * g 4))]))])) (wr := []) F (kX3_shadowState G l sp (zlx g t) (zly g t) (zlh di dr g t) (zls di dr g t) pr di dr g (by first | assumption | omega) (by first | assumption | omega) (by first | assumption | omega) (by first | assumption | omega) (by first | assumption | omega) (by first | assumption | omega) (by first | assumption | omega) (by first | assumption | omega)) (cwV 0 hts gX3_conditionsAt_X3_shadowState rfl rfl rfl (by decide +kernel) ⟨Nat.le_of_ble_eq_true rfl, Nat.le_of_ble_eq_true rfl⟩) hW 0 rfl rfl [0] [] (by decide) rfl rfl rfl (by decide) (by decide) [0] (by decide) (fun _ => rfl) (fun _ => rfl) rfl hl.1 rfl (Nat.le_of_ble_eq_true rfl) dX3_conditionsAt_6 ⟨Nat.le_of_ble_eq_true rfl, Nat.le_of_ble_eq_true rfl⟩ (fun _ H locs _ hW => ?_)
  show W p l e _ s m args below meth c H locs _ _ _ (F0 m 9 ls [.int (zI (zst pr (g 5) (zlh di dr g t) (zls di dr g t)))])
  have ss6 := zst_in (pr) ((g) 5) ((zlh di dr g t)) ((zls di dr g t))
  refine zv_if_eq (pc := 9) (tgt := 16) hx hb dX3_conditionsAt_9 (by decide) ⟨by omega, by omega⟩ (fun c9 => ?_) (fun c9 => ?_)
  · refine zv_iconst (pc := 16) (n := 2) hx hb dX3_conditionsAt_16 ?_
    refine lv_istore_n (pc := 17) (lv' := [(2, .int (zI 2)), (0, .ref sp), (1, .int (zI t))]) hx hb dX3_conditionsAt_17 rfl hl (by decide) rfl (fun ls hl => ?_)
    refine lv_aload_n (pc := 18) hx hb dX3_conditionsAt_18 rfl (lv_at hl 1 rfl) ?_
    refine z_V (pc := 19) (As := []) (rest := []) (wn := (fun _ => [(sp, .inr (3, [.int (zI (zlx g t)), .int (zI (zly g t)), .int (zI (zlh di dr g t)), .int (zI (zls di dr g t)), .int (zI (100 * pr)), .int (zI (100 * g 5)), .int (zI di), .int (zI dr), .long (zL (g 0)), .int (zI (g 1)), .int (zI (zwid (10000 - g 1 * g 1))), .long (zL (zs (100 * g 2))), .long (zL (zs (100 * g 2 + 9000))), .int (zI (g 3)), .int (zI (100 * g 4))]))])) (wr := []) F (kX3_castsShadow G l sp (zlx g t) (zly g t) (zlh di dr g t) (zls di dr g t) pr di dr g (by first | assumption | omega) (by first | assumption | omega) (by first | assumption | omega) (by first | assumption | omega) (by first | assumption | omega) (by first | assumption | omega) (by first | assumption | omega) (by first | assumption | omega)) (cwV 0 hts gX3_conditionsAt_X3_castsShadow rfl rfl rfl (by decide +kernel) ⟨Nat.le_of_ble_eq_true rfl, Nat.le_of_ble_eq_true rfl⟩) hW 0 rfl rfl [0] [] (by decide) rfl rfl rfl (by decide) (by decide) [0] (by decide) (fun _ => rfl) (fun _ => rfl) rfl hl.1 rfl (Nat.le_of_ble_eq_true rfl) dX3_conditionsAt_19 ⟨Nat.le_of_ble_eq_true rfl, Nat.le_of_ble_eq_true rfl⟩ (fun _ H locs _ hW => ?_)
    show W p l e _ s m args below meth c H locs _ _ _ (F0 m 22 ls [.int (zI (zb (zca pr (g 5) (zlh di dr g t) (zls di dr g t))))])
    refine zv_b_eq (pc := 22) (tgt := 29) hx hb dX3_conditionsAt_22 (by decide) (fun c22 => ?_) (fun c22 => ?_)
    · refine zv_bipush (pc := 29) (n := 8) hx hb dX3_conditionsAt_29 (by decide) ?_
      refine lv_istore_n (pc := 31) (lv' := [(3, .int (zI 8)), (2, .int (zI 2)), (0, .ref sp), (1, .int (zI t))]) hx hb dX3_conditionsAt_31 rfl hl (by decide) rfl (fun ls hl => ?_)
      refine lv_iload_n (pc := 32) hx hb dX3_conditionsAt_32 rfl (lv_at hl 1 rfl) ?_
      refine lv_iload_n (pc := 33) hx hb dX3_conditionsAt_33 rfl (lv_at hl 0 rfl) ?_
      refine zv_ior (pc := 34) hx hb dX3_conditionsAt_34 ?_
      refine zv_as (pc := 35) (a := zor 2 8) (b := zbits (zL2 pr di dr g t)) (by refine Eq.trans ?_ (zbits_is pr (g 5) (zlh di dr g t) (zls di dr g t)); by_cases q1 : zst pr (g 5) (zlh di dr g t) (zls di dr g t) = 0 <;> by_cases q2 : zca pr (g 5) (zlh di dr g t) (zls di dr g t) = true <;> simp_all [zb]) ?_
      exact ze_i (pc := 35) hx hb hr hlk hW () rfl trivial rfl dX3_conditionsAt_35
    · refine zv_iconst (pc := 25) (n := 4) hx hb dX3_conditionsAt_25 ?_
      refine lv_goto (pc := 26) (tgt := 31) hx hb dX3_conditionsAt_26 (by decide) ?_
      refine lv_istore_n (pc := 31) (lv' := [(3, .int (zI 4)), (2, .int (zI 2)), (0, .ref sp), (1, .int (zI t))]) hx hb dX3_conditionsAt_31 rfl hl (by decide) rfl (fun ls hl => ?_)
      refine lv_iload_n (pc := 32) hx hb dX3_conditionsAt_32 rfl (lv_at hl 1 rfl) ?_
      refine lv_iload_n (pc := 33) hx hb dX3_conditionsAt_33 rfl (lv_at hl 0 rfl) ?_
      refine zv_ior (pc := 34) hx hb dX3_conditionsAt_34 ?_
      refine zv_as (pc := 35) (a := zor 2 4) (b := zbits (zL2 pr di dr g t)) (by refine Eq.trans ?_ (zbits_is pr (g 5) (zlh di dr g t) (zls di dr g t)); by_cases q1 : zst pr (g 5) (zlh di dr g t) (zls di dr g t) = 0 <;> by_cases q2 : zca pr (g 5) (zlh di dr g t) (zls di dr g t) = true <;> simp_all [zb]) ?_
      exact ze_i (pc := 35) hx hb hr hlk hW () rfl trivial rfl dX3_conditionsAt_35
  · refine zv_iconst (pc := 12) (n := 1) hx hb dX3_conditionsAt_12 ?_
    refine lv_goto (pc := 13) (tgt := 17) hx hb dX3_conditionsAt_13 (by decide) ?_
    refine lv_istore_n (pc := 17) (lv' := [(2, .int (zI 1)), (0, .ref sp), (1, .int (zI t))]) hx hb dX3_conditionsAt_17 rfl hl (by decide) rfl (fun ls hl => ?_)
    refine lv_aload_n (pc := 18) hx hb dX3_conditionsAt_18 rfl (lv_at hl 1 rfl) ?_
    refine z_V (pc := 19) (As := []) (rest := []) (wn := (fun _ => [(sp, .inr (3, [.int (zI (zlx g t)), .int (zI (zly g t)), .int (zI (zlh di dr g t)), .int (zI (zls di dr g t)), .int (zI (100 * pr)), .int (zI (100 * g 5)), .int (zI di), .int (zI dr), .long (zL (g 0)), .int (zI (g 1)), .int (zI (zwid (10000 - g 1 * g 1))), .long (zL (zs (100 * g 2))), .long (zL (zs (100 * g 2 + 9000))), .int (zI (g 3)), .int (zI (100 * g 4))]))])) (wr := []) F (kX3_castsShadow G l sp (zlx g t) (zly g t) (zlh di dr g t) (zls di dr g t) pr di dr g (by first | assumption | omega) (by first | assumption | omega) (by first | assumption | omega) (by first | assumption | omega) (by first | assumption | omega) (by first | assumption | omega) (by first | assumption | omega) (by first | assumption | omega)) (cwV 0 hts gX3_conditionsAt_X3_castsShadow rfl rfl rfl (by decide +kernel) ⟨Nat.le_of_ble_eq_true rfl, Nat.le_of_ble_eq_true rfl⟩) hW 0 rfl rfl [0] [] (by decide) rfl rfl rfl (by decide) (by decide) [0] (by decide) (fun _ => rfl) (fun _ => rfl) rfl hl.1 rfl (Nat.le_of_ble_eq_true rfl) dX3_conditionsAt_19 ⟨Nat.le_of_ble_eq_true rfl, Nat.le_of_ble_eq_true rfl⟩ (fun _ H locs _ hW => ?_)
    show W p l e _ s m args below meth c H locs _ _ _ (F0 m 22 ls [.int (zI (zb (zca pr (g 5) (zlh di dr g t) (zls di dr g t))))])
    refine zv_b_eq (pc := 22) (tgt := 29) hx hb dX3_conditionsAt_22 (by decide) (fun c22 => ?_) (fun c22 => ?_)
    · refine zv_bipush (pc := 29) (n := 8) hx hb dX3_conditionsAt_29 (by decide) ?_
      refine lv_istore_n (pc := 31) (lv' := [(3, .int (zI 8)), (2, .int (zI 1)), (0, .ref sp), (1, .int (zI t))]) hx hb dX3_conditionsAt_31 rfl hl (by decide) rfl (fun ls hl => ?_)
      refine lv_iload_n (pc := 32) hx hb dX3_conditionsAt_32 rfl (lv_at hl 1 rfl) ?_
      refine lv_iload_n (pc := 33) hx hb dX3_conditionsAt_33 rfl (lv_at hl 0 rfl) ?_
      refine zv_ior (pc := 34) hx hb dX3_conditionsAt_34 ?_
      refine zv_as (pc := 35) (a := zor 1 8) (b := zbits (zL2 pr di dr g t)) (by refine Eq.trans ?_ (zbits_is pr (g 5) (zlh di dr g t) (zls di dr g t)); by_cases q1 : zst pr (g 5) (zlh di dr g t) (zls di dr g t) = 0 <;> by_cases q2 : zca pr (g 5) (zlh di dr g t) (zls di dr g t) = true <;> simp_all [zb]) ?_
      exact ze_i (pc := 35) hx hb hr hlk hW () rfl trivial rfl dX3_conditionsAt_35
    · refine zv_iconst (pc := 25) (n := 4) hx hb dX3_conditionsAt_25 ?_
      refine lv_goto (pc := 26) (tgt := 31) hx hb dX3_conditionsAt_26 (by decide) ?_
      refine lv_istore_n (pc := 31) (lv' := [(3, .int (zI 4)), (2, .int (zI 1)), (0, .ref sp), (1, .int (zI t))]) hx hb dX3_conditionsAt_31 rfl hl (by decide) rfl (fun ls hl => ?_)
      refine lv_iload_n (pc := 32) hx hb dX3_conditionsAt_32 rfl (lv_at hl 1 rfl) ?_
      refine lv_iload_n (pc := 33) hx hb dX3_conditionsAt_33 rfl (lv_at hl 0 rfl) ?_
      refine zv_ior (pc := 34) hx hb dX3_conditionsAt_34 ?_
      refine zv_as (pc := 35) (a := zor 1 4) (b := zbits (zL2 pr di dr g t)) (by refine Eq.trans ?_ (zbits_is pr (g 5) (zlh di dr g t) (zls di dr g t)); by_cases q1 : zst pr (g 5) (zlh di dr g t) (zls di dr g t) = 0 <;> by_cases q2 : zca pr (g 5) (zlh di dr g t) (zls di dr g t) = true <;> simp_all [zb]) ?_
      exact ze_i (pc := 35) hx hb hr hlk hW () rfl trivial rfl dX3_conditionsAt_35
