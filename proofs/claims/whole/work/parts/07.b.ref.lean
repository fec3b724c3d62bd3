set_option maxHeartbeats 4000000 in
set_option maxRecDepth 100000 in
/-- isEvent -/
theorem kX7_isEvent (G : zG) (l : Launch) (kd : Int) (was : Int) (now : Int) (k0 : 0 ≤ kd) (k3 : kd ≤ 3) (was1 : -2147483648 ≤ was) (was2 : was ≤ 2147483647) (now1 : -2147483648 ≤ now) (now2 : now ≤ 2147483647) : zM G l yX7_isEvent wsX7_isEvent { frames := 0, cells := 0, slots := 0, locals := 0 } [.int (zI kd), .int (zI was), .int (zI now)] [] (S := Unit) (zri (fun _ => zb (zev kd was now))) (fun _ => True) (fun _ => []) 0 0 := by
  refine zM.of (cc := cX7_isEvent) (maxL := 4) (ret := (some .boolean)) (by decide) rfl (Nat.le_of_ble_eq_true rfl) (l0 := [(0, .int (zI kd)), (1, .int (zI was)), (2, .int (zI now))]) rfl ?_
  intro p e s m args below meth c ls F hr hlk hnm hW hl
  obtain ⟨hx, hb, hml, hown, hts⟩ := id F
  have hm2 : Int.tmod kd 2 = kd % 2 := Int.tmod_eq_emod_of_nonneg k0
  refine lv_iload_n (pc := 0) hx hb dX7_isEvent_0 rfl (lv_at hl 0 rfl) ?_
  refine zv_iconst (pc := 1) (n := 2) hx hb dX7_isEvent_1 ?_
  refine zv_icmp_ge (pc := 2) (tgt := 9) hx hb dX7_isEvent_2 (by decide) ⟨by omega, by omega⟩ ⟨by omega, by omega⟩ (fun c2 => ?_) (fun c2 => ?_)
  · refine zv_iconst (pc := 9) (n := 2) hx hb dX7_isEvent_9 ?_
    refine lv_istore_n (pc := 10) (lv' := [(3, .int (zI 2)), (0, .int (zI kd)), (1, .int (zI was)), (2, .int (zI now))]) hx hb dX7_isEvent_10 rfl hl (by decide) rfl (fun ls hl => ?_)
    refine lv_iload_n (pc := 11) hx hb dX7_isEvent_11 rfl (lv_at hl 2 rfl) ?_
    refine lv_iload_n (pc := 12) hx hb dX7_isEvent_12 rfl (lv_at hl 0 rfl) ?_
    refine zv_icmp_ne (pc := 13) (tgt := 20) hx hb dX7_isEvent_13 (by decide) ⟨by omega, by omega⟩ ⟨by omega, by omega⟩ (fun c13 => ?_) (fun c13 => ?_)
    · refine zv_iconst (pc := 20) (n := 0) hx hb dX7_isEvent_20 ?_
      refine lv_iload_n (pc := 21) hx hb dX7_isEvent_21 rfl (lv_at hl 3 rfl) ?_
      refine lv_iload_n (pc := 22) hx hb dX7_isEvent_22 rfl (lv_at hl 0 rfl) ?_
      refine zv_icmp_ne (pc := 23) (tgt := 30) hx hb dX7_isEvent_23 (by decide) ⟨by omega, by omega⟩ ⟨by omega, by omega⟩ (fun c23 => ?_) (fun c23 => ?_)
      · refine zv_iconst (pc := 30) (n := 0) hx hb dX7_isEvent_30 ?_
        refine zv_icmp_eq (pc := 31) (tgt := 62) hx hb dX7_isEvent_31 (by decide) ⟨by omega, by omega⟩ ⟨by omega, by omega⟩ (fun c31 => ?_) (fun c31 => absurd c31 (by omega))
        refine zv_iconst (pc := 62) (n := 0) hx hb dX7_isEvent_62 ?_
        refine zv_as (pc := 63) (a := 0) (b := zb (zev kd was now)) (by first | (rw [zev_true.mpr (by omega)]; rfl) | (rw [zev_false (by omega)]; rfl)) ?_
        exact ze_z (pc := 63) hx hb hr hlk hW () rfl trivial rfl dX7_isEvent_63
      · refine zv_iconst (pc := 26) (n := 1) hx hb dX7_isEvent_26 ?_
        refine lv_goto (pc := 27) (tgt := 31) hx hb dX7_isEvent_27 (by decide) ?_
        refine zv_icmp_eq (pc := 31) (tgt := 62) hx hb dX7_isEvent_31 (by decide) ⟨by omega, by omega⟩ ⟨by omega, by omega⟩ (fun c31 => absurd c31 (by omega)) (fun c31 => ?_)
        refine lv_iload_n (pc := 34) hx hb dX7_isEvent_34 rfl (lv_at hl 3 rfl) ?_
        refine lv_iload_n (pc := 35) hx hb dX7_isEvent_35 rfl (lv_at hl 0 rfl) ?_
        refine zv_icmp_ne (pc := 36) (tgt := 43) hx hb dX7_isEvent_36 (by decide) ⟨by omega, by omega⟩ ⟨by omega, by omega⟩ (fun c36 => ?_) (fun c36 => ?_)
        · refine zv_iconst (pc := 43) (n := 0) hx hb dX7_isEvent_43 ?_
          refine lv_iload_n (pc := 44) hx hb dX7_isEvent_44 rfl (lv_at hl 1 rfl) ?_
          refine zv_iconst (pc := 45) (n := 2) hx hb dX7_isEvent_45 ?_
          refine zv_irem (pc := 46) hx hb dX7_isEvent_46 ⟨by omega, by omega⟩ ⟨by omega, by omega⟩ (by omega) ?_
          refine zv_if_ne (pc := 47) (tgt := 54) hx hb dX7_isEvent_47 (by decide) ⟨by omega, by omega⟩ (fun c47 => ?_) (fun c47 => ?_)
          · refine zv_iconst (pc := 54) (n := 0) hx hb dX7_isEvent_54 ?_
            refine zv_icmp_ne (pc := 55) (tgt := 62) hx hb dX7_isEvent_55 (by decide) ⟨by omega, by omega⟩ ⟨by omega, by omega⟩ (fun c55 => absurd c55 (by omega)) (fun c55 => ?_)
            refine zv_iconst (pc := 58) (n := 1) hx hb dX7_isEvent_58 ?_
            refine lv_goto (pc := 59) (tgt := 63) hx hb dX7_isEvent_59 (by decide) ?_
            refine zv_as (pc := 63) (a := 1) (b := zb (zev kd was now)) (by first | (rw [zev_true.mpr (by omega)]; rfl) | (rw [zev_false (by omega)]; rfl)) ?_
            exact ze_z (pc := 63) hx hb hr hlk hW () rfl trivial rfl dX7_isEvent_63
          · refine zv_iconst (pc := 50) (n := 1) hx hb dX7_isEvent_50 ?_
            refine lv_goto (pc := 51) (tgt := 55) hx hb dX7_isEvent_51 (by decide) ?_
            refine zv_icmp_ne (pc := 55) (tgt := 62) hx hb dX7_isEvent_55 (by decide) ⟨by omega, by omega⟩ ⟨by omega, by omega⟩ (fun c55 => ?_) (fun c55 => absurd c55 (by omega))
            refine zv_iconst (pc := 62) (n := 0) hx hb dX7_isEvent_62 ?_
            refine zv_as (pc := 63) (a := 0) (b := zb (zev kd was now)) (by first | (rw [zev_true.mpr (by omega)]; rfl) | (rw [zev_false (by omega)]; rfl)) ?_
            exact ze_z (pc := 63) hx hb hr hlk hW () rfl trivial rfl dX7_isEvent_63
        · refine zv_iconst (pc := 39) (n := 1) hx hb dX7_isEvent_39 ?_
          refine lv_goto (pc := 40) (tgt := 44) hx hb dX7_isEvent_40 (by decide) ?_
          refine lv_iload_n (pc := 44) hx hb dX7_isEvent_44 rfl (lv_at hl 1 rfl) ?_
          refine zv_iconst (pc := 45) (n := 2) hx hb dX7_isEvent_45 ?_
          refine zv_irem (pc := 46) hx hb dX7_isEvent_46 ⟨by omega, by omega⟩ ⟨by omega, by omega⟩ (by omega) ?_
          refine zv_if_ne (pc := 47) (tgt := 54) hx hb dX7_isEvent_47 (by decide) ⟨by omega, by omega⟩ (fun c47 => ?_) (fun c47 => ?_)
          · refine zv_iconst (pc := 54) (n := 0) hx hb dX7_isEvent_54 ?_
            refine zv_icmp_ne (pc := 55) (tgt := 62) hx hb dX7_isEvent_55 (by decide) ⟨by omega, by omega⟩ ⟨by omega, by omega⟩ (fun c55 => ?_) (fun c55 => absurd c55 (by omega))
            refine zv_iconst (pc := 62) (n := 0) hx hb dX7_isEvent_62 ?_
            refine zv_as (pc := 63) (a := 0) (b := zb (zev kd was now)) (by first | (rw [zev_true.mpr (by omega)]; rfl) | (rw [zev_false (by omega)]; rfl)) ?_
            exact ze_z (pc := 63) hx hb hr hlk hW () rfl trivial rfl dX7_isEvent_63
          · refine zv_iconst (pc := 50) (n := 1) hx hb dX7_isEvent_50 ?_
            refine lv_goto (pc := 51) (tgt := 55) hx hb dX7_isEvent_51 (by decide) ?_
            refine zv_icmp_ne (pc := 55) (tgt := 62) hx hb dX7_isEvent_55 (by decide) ⟨by omega, by omega⟩ ⟨by omega, by omega⟩ (fun c55 => absurd c55 (by omega)) (fun c55 => ?_)
            refine zv_iconst (pc := 58) (n := 1) hx hb dX7_isEvent_58 ?_
            refine lv_goto (pc := 59) (tgt := 63) hx hb dX7_isEvent_59 (by decide) ?_
            refine zv_as (pc := 63) (a := 1) (b := zb (zev kd was now)) (by first | (rw [zev_true.mpr (by omega)]; rfl) | (rw [zev_false (by omega)]; rfl)) ?_
            exact ze_z (pc := 63) hx hb hr hlk hW () rfl trivial rfl dX7_isEvent_63
    · refine zv_iconst (pc := 16) (n := 1) hx hb dX7_isEvent_16 ?_
      refine lv_goto (pc := 17) (tgt := 21) hx hb dX7_isEvent_17 (by decide) ?_
      refine lv_iload_n (pc := 21) hx hb dX7_isEvent_21 rfl (lv_at hl 3 rfl) ?_
      refine lv_iload_n (pc := 22) hx hb dX7_isEvent_22 rfl (lv_at hl 0 rfl) ?_
      refine zv_icmp_ne (pc := 23) (tgt := 30) hx hb dX7_isEvent_23 (by decide) ⟨by omega, by omega⟩ ⟨by omega, by omega⟩ (fun c23 => ?_) (fun c23 => ?_)
      · refine zv_iconst (pc := 30) (n := 0) hx hb dX7_isEvent_30 ?_
        refine zv_icmp_eq (pc := 31) (tgt := 62) hx hb dX7_isEvent_31 (by decide) ⟨by omega, by omega⟩ ⟨by omega, by omega⟩ (fun c31 => absurd c31 (by omega)) (fun c31 => ?_)
        refine lv_iload_n (pc := 34) hx hb dX7_isEvent_34 rfl (lv_at hl 3 rfl) ?_
        refine lv_iload_n (pc := 35) hx hb dX7_isEvent_35 rfl (lv_at hl 0 rfl) ?_
        refine zv_icmp_ne (pc := 36) (tgt := 43) hx hb dX7_isEvent_36 (by decide) ⟨by omega, by omega⟩ ⟨by omega, by omega⟩ (fun c36 => ?_) (fun c36 => ?_)
        · refine zv_iconst (pc := 43) (n := 0) hx hb dX7_isEvent_43 ?_
          refine lv_iload_n (pc := 44) hx hb dX7_isEvent_44 rfl (lv_at hl 1 rfl) ?_
          refine zv_iconst (pc := 45) (n := 2) hx hb dX7_isEvent_45 ?_
          refine zv_irem (pc := 46) hx hb dX7_isEvent_46 ⟨by omega, by omega⟩ ⟨by omega, by omega⟩ (by omega) ?_
          refine zv_if_ne (pc := 47) (tgt := 54) hx hb dX7_isEvent_47 (by decide) ⟨by omega, by omega⟩ (fun c47 => ?_) (fun c47 => ?_)
          · refine zv_iconst (pc := 54) (n := 0) hx hb dX7_isEvent_54 ?_
            refine zv_icmp_ne (pc := 55) (tgt := 62) hx hb dX7_isEvent_55 (by decide) ⟨by omega, by omega⟩ ⟨by omega, by omega⟩ (fun c55 => absurd c55 (by omega)) (fun c55 => ?_)
            refine zv_iconst (pc := 58) (n := 1) hx hb dX7_isEvent_58 ?_
            refine lv_goto (pc := 59) (tgt := 63) hx hb dX7_isEvent_59 (by decide) ?_
            refine zv_as (pc := 63) (a := 1) (b := zb (zev kd was now)) (by first | (rw [zev_true.mpr (by omega)]; rfl) | (rw [zev_false (by omega)]; rfl)) ?_
            exact ze_z (pc := 63) hx hb hr hlk hW () rfl trivial rfl dX7_isEvent_63
          · refine zv_iconst (pc := 50) (n := 1) hx hb dX7_isEvent_50 ?_
            refine lv_goto (pc := 51) (tgt := 55) hx hb dX7_isEvent_51 (by decide) ?_
            refine zv_icmp_ne (pc := 55) (tgt := 62) hx hb dX7_isEvent_55 (by decide) ⟨by omega, by omega⟩ ⟨by omega, by omega⟩ (fun c55 => ?_) (fun c55 => absurd c55 (by omega))
            refine zv_iconst (pc := 62) (n := 0) hx hb dX7_isEvent_62 ?_
            refine zv_as (pc := 63) (a := 0) (b := zb (zev kd was now)) (by first | (rw [zev_true.mpr (by omega)]; rfl) | (rw [zev_false (by omega)]; rfl)) ?_
            exact ze_z (pc := 63) hx hb hr hlk hW () rfl trivial rfl dX7_isEvent_63
        · refine zv_iconst (pc := 39) (n := 1) hx hb dX7_isEvent_39 ?_
          refine lv_goto (pc := 40) (tgt := 44) hx hb dX7_isEvent_40 (by decide) ?_
          refine lv_iload_n (pc := 44) hx hb dX7_isEvent_44 rfl (lv_at hl 1 rfl) ?_
          refine zv_iconst (pc := 45) (n := 2) hx hb dX7_isEvent_45 ?_
          refine zv_irem (pc := 46) hx hb dX7_isEvent_46 ⟨by omega, by omega⟩ ⟨by omega, by omega⟩ (by omega) ?_
          refine zv_if_ne (pc := 47) (tgt := 54) hx hb dX7_isEvent_47 (by decide) ⟨by omega, by omega⟩ (fun c47 => ?_) (fun c47 => ?_)
          · refine zv_iconst (pc := 54) (n := 0) hx hb dX7_isEvent_54 ?_
            refine zv_icmp_ne (pc := 55) (tgt := 62) hx hb dX7_isEvent_55 (by decide) ⟨by omega, by omega⟩ ⟨by omega, by omega⟩ (fun c55 => ?_) (fun c55 => absurd c55 (by omega))
            refine zv_iconst (pc := 62) (n := 0) hx hb dX7_isEvent_62 ?_
            refine zv_as (pc := 63) (a := 0) (b := zb (zev kd was now)) (by first | (rw [zev_true.mpr (by omega)]; rfl) | (rw [zev_false (by omega)]; rfl)) ?_
            exact ze_z (pc := 63) hx hb hr hlk hW () rfl trivial rfl dX7_isEvent_63
          · refine zv_iconst (pc := 50) (n := 1) hx hb dX7_isEvent_50 ?_
            refine lv_goto (pc := 51) (tgt := 55) hx hb dX7_isEvent_51 (by decide) ?_
            refine zv_icmp_ne (pc := 55) (tgt := 62) hx hb dX7_isEvent_55 (by decide) ⟨by omega, by omega⟩ ⟨by omega, by omega⟩ (fun c55 => absurd c55 (by omega)) (fun c55 => ?_)
            refine zv_iconst (pc := 58) (n := 1) hx hb dX7_isEvent_58 ?_
            refine lv_goto (pc := 59) (tgt := 63) hx hb dX7_isEvent_59 (by decide) ?_
            refine zv_as (pc := 63) (a := 1) (b := zb (zev kd was now)) (by first | (rw [zev_true.mpr (by omega)]; rfl) | (rw [zev_false (by omega)]; rfl)) ?_
            exact ze_z (pc := 63) hx hb hr hlk hW () rfl trivial rfl dX7_isEvent_63
      · refine zv_iconst (pc := 26) (n := 1) hx hb dX7_isEvent_26 ?_
        refine lv_goto (pc := 27) (tgt := 31) hx hb dX7_isEvent_27 (by decide) ?_
        refine zv_icmp_eq (pc := 31) (tgt := 62) hx hb dX7_isEvent_31 (by decide) ⟨by omega, by omega⟩ ⟨by omega, by omega⟩ (fun c31 => ?_) (fun c31 => absurd c31 (by omega))
        refine zv_iconst (pc := 62) (n := 0) hx hb dX7_isEvent_62 ?_
        refine zv_as (pc := 63) (a := 0) (b := zb (zev kd was now)) (by first | (rw [zev_true.mpr (by omega)]; rfl) | (rw [zev_false (by omega)]; rfl)) ?_
        exact ze_z (pc := 63) hx hb hr hlk hW () rfl trivial rfl dX7_isEvent_63
  · refine zv_iconst (pc := 5) (n := 1) hx hb dX7_isEvent_5 ?_
    refine lv_goto (pc := 6) (tgt := 10) hx hb dX7_isEvent_6 (by decide) ?_
    refine lv_istore_n (pc := 10) (lv' := [(3, .int (zI 1)), (0, .int (zI kd)), (1, .int (zI was)), (2, .int (zI now))]) hx hb dX7_isEvent_10 rfl hl (by decide) rfl (fun ls hl => ?_)
    refine lv_iload_n (pc := 11) hx hb dX7_isEvent_11 rfl (lv_at hl 2 rfl) ?_
    refine lv_iload_n (pc := 12) hx hb dX7_isEvent_12 rfl (lv_at hl 0 rfl) ?_
    refine zv_icmp_ne (pc := 13) (tgt := 20) hx hb dX7_isEvent_13 (by decide) ⟨by omega, by omega⟩ ⟨by omega, by omega⟩ (fun c13 => ?_) (fun c13 => ?_)
    · refine zv_iconst (pc := 20) (n := 0) hx hb dX7_isEvent_20 ?_
      refine lv_iload_n (pc := 21) hx hb dX7_isEvent_21 rfl (lv_at hl 3 rfl) ?_
      refine lv_iload_n (pc := 22) hx hb dX7_isEvent_22 rfl (lv_at hl 0 rfl) ?_
      refine zv_icmp_ne (pc := 23) (tgt := 30) hx hb dX7_isEvent_23 (by decide) ⟨by omega, by omega⟩ ⟨by omega, by omega⟩ (fun c23 => ?_) (fun c23 => ?_)
      · refine zv_iconst (pc := 30) (n := 0) hx hb dX7_isEvent_30 ?_
        refine zv_icmp_eq (pc := 31) (tgt := 62) hx hb dX7_isEvent_31 (by decide) ⟨by omega, by omega⟩ ⟨by omega, by omega⟩ (fun c31 => ?_) (fun c31 => absurd c31 (by omega))
        refine zv_iconst (pc := 62) (n := 0) hx hb dX7_isEvent_62 ?_
        refine zv_as (pc := 63) (a := 0) (b := zb (zev kd was now)) (by first | (rw [zev_true.mpr (by omega)]; rfl) | (rw [zev_false (by omega)]; rfl)) ?_
        exact ze_z (pc := 63) hx hb hr hlk hW () rfl trivial rfl dX7_isEvent_63
      · refine zv_iconst (pc := 26) (n := 1) hx hb dX7_isEvent_26 ?_
        refine lv_goto (pc := 27) (tgt := 31) hx hb dX7_isEvent_27 (by decide) ?_
        refine zv_icmp_eq (pc := 31) (tgt := 62) hx hb dX7_isEvent_31 (by decide) ⟨by omega, by omega⟩ ⟨by omega, by omega⟩ (fun c31 => absurd c31 (by omega)) (fun c31 => ?_)
        refine lv_iload_n (pc := 34) hx hb dX7_isEvent_34 rfl (lv_at hl 3 rfl) ?_
        refine lv_iload_n (pc := 35) hx hb dX7_isEvent_35 rfl (lv_at hl 0 rfl) ?_
        refine zv_icmp_ne (pc := 36) (tgt := 43) hx hb dX7_isEvent_36 (by decide) ⟨by omega, by omega⟩ ⟨by omega, by omega⟩ (fun c36 => ?_) (fun c36 => ?_)
        · refine zv_iconst (pc := 43) (n := 0) hx hb dX7_isEvent_43 ?_
          refine lv_iload_n (pc := 44) hx hb dX7_isEvent_44 rfl (lv_at hl 1 rfl) ?_
          refine zv_iconst (pc := 45) (n := 2) hx hb dX7_isEvent_45 ?_
          refine zv_irem (pc := 46) hx hb dX7_isEvent_46 ⟨by omega, by omega⟩ ⟨by omega, by omega⟩ (by omega) ?_
          refine zv_if_ne (pc := 47) (tgt := 54) hx hb dX7_isEvent_47 (by decide) ⟨by omega, by omega⟩ (fun c47 => ?_) (fun c47 => ?_)
          · refine zv_iconst (pc := 54) (n := 0) hx hb dX7_isEvent_54 ?_
            refine zv_icmp_ne (pc := 55) (tgt := 62) hx hb dX7_isEvent_55 (by decide) ⟨by omega, by omega⟩ ⟨by omega, by omega⟩ (fun c55 => absurd c55 (by omega)) (fun c55 => ?_)
            refine zv_iconst (pc := 58) (n := 1) hx hb dX7_isEvent_58 ?_
            refine lv_goto (pc := 59) (tgt := 63) hx hb dX7_isEvent_59 (by decide) ?_
            refine zv_as (pc := 63) (a := 1) (b := zb (zev kd was now)) (by first | (rw [zev_true.mpr (by omega)]; rfl) | (rw [zev_false (by omega)]; rfl)) ?_
            exact ze_z (pc := 63) hx hb hr hlk hW () rfl trivial rfl dX7_isEvent_63
          · refine zv_iconst (pc := 50) (n := 1) hx hb dX7_isEvent_50 ?_
            refine lv_goto (pc := 51) (tgt := 55) hx hb dX7_isEvent_51 (by decide) ?_
            refine zv_icmp_ne (pc := 55) (tgt := 62) hx hb dX7_isEvent_55 (by decide) ⟨by omega, by omega⟩ ⟨by omega, by omega⟩ (fun c55 => ?_) (fun c55 => absurd c55 (by omega))
            refine zv_iconst (pc := 62) (n := 0) hx hb dX7_isEvent_62 ?_
            refine zv_as (pc := 63) (a := 0) (b := zb (zev kd was now)) (by first | (rw [zev_true.mpr (by omega)]; rfl) | (rw [zev_false (by omega)]; rfl)) ?_
            exact ze_z (pc := 63) hx hb hr hlk hW () rfl trivial rfl dX7_isEvent_63
        · refine zv_iconst (pc := 39) (n := 1) hx hb dX7_isEvent_39 ?_
          refine lv_goto (pc := 40) (tgt := 44) hx hb dX7_isEvent_40 (by decide) ?_
          refine lv_iload_n (pc := 44) hx hb dX7_isEvent_44 rfl (lv_at hl 1 rfl) ?_
          refine zv_iconst (pc := 45) (n := 2) hx hb dX7_isEvent_45 ?_
          refine zv_irem (pc := 46) hx hb dX7_isEvent_46 ⟨by omega, by omega⟩ ⟨by omega, by omega⟩ (by omega) ?_
          refine zv_if_ne (pc := 47) (tgt := 54) hx hb dX7_isEvent_47 (by decide) ⟨by omega, by omega⟩ (fun c47 => ?_) (fun c47 => ?_)
          · refine zv_iconst (pc := 54) (n := 0) hx hb dX7_isEvent_54 ?_
            refine zv_icmp_ne (pc := 55) (tgt := 62) hx hb dX7_isEvent_55 (by decide) ⟨by omega, by omega⟩ ⟨by omega, by omega⟩ (fun c55 => ?_) (fun c55 => absurd c55 (by omega))
            refine zv_iconst (pc := 62) (n := 0) hx hb dX7_isEvent_62 ?_
            refine zv_as (pc := 63) (a := 0) (b := zb (zev kd was now)) (by first | (rw [zev_true.mpr (by omega)]; rfl) | (rw [zev_false (by omega)]; rfl)) ?_
            exact ze_z (pc := 63) hx hb hr hlk hW () rfl trivial rfl dX7_isEvent_63
          · refine zv_iconst (pc := 50) (n := 1) hx hb dX7_isEvent_50 ?_
            refine lv_goto (pc := 51) (tgt := 55) hx hb dX7_isEvent_51 (by decide) ?_
            refine zv_icmp_ne (pc := 55) (tgt := 62) hx hb dX7_isEvent_55 (by decide) ⟨by omega, by omega⟩ ⟨by omega, by omega⟩ (fun c55 => absurd c55 (by omega)) (fun c55 => ?_)
            refine zv_iconst (pc := 58) (n := 1) hx hb dX7_isEvent_58 ?_
            refine lv_goto (pc := 59) (tgt := 63) hx hb dX7_isEvent_59 (by decide) ?_
            refine zv_as (pc := 63) (a := 1) (b := zb (zev kd was now)) (by first | (rw [zev_true.mpr (by omega)]; rfl) | (rw [zev_false (by omega)]; rfl)) ?_
            exact ze_z (pc := 63) hx hb hr hlk hW () rfl trivial rfl dX7_isEvent_63
    · refine zv_iconst (pc := 16) (n := 1) hx hb dX7_isEvent_16 ?_
      refine lv_goto (pc := 17) (tgt := 21) hx hb dX7_isEvent_17 (by decide) ?_
      refine lv_iload_n (pc := 21) hx hb dX7_isEvent_21 rfl (lv_at hl 3 rfl) ?_
      refine lv_iload_n (pc := 22) hx hb dX7_isEvent_22 rfl (lv_at hl 0 rfl) ?_
      refine zv_icmp_ne (pc := 23) (tgt := 30) hx hb dX7_isEvent_23 (by decide) ⟨by omega, by omega⟩ ⟨by omega, by omega⟩ (fun c23 => ?_) (fun c23 => ?_)
      · refine zv_iconst (pc := 30) (n := 0) hx hb dX7_isEvent_30 ?_
        refine zv_icmp_eq (pc := 31) (tgt := 62) hx hb dX7_isEvent_31 (by decide) ⟨by omega, by omega⟩ ⟨by omega, by omega⟩ (fun c31 => absurd c31 (by omega)) (fun c31 => ?_)
        refine lv_iload_n (pc := 34) hx hb dX7_isEvent_34 rfl (lv_at hl 3 rfl) ?_
        refine lv_iload_n (pc := 35) hx hb dX7_isEvent_35 rfl (lv_at hl 0 rfl) ?_
        refine zv_icmp_ne (pc := 36) (tgt := 43) hx hb dX7_isEvent_36 (by decide) ⟨by omega, by omega⟩ ⟨by omega, by omega⟩ (fun c36 => ?_) (fun c36 => ?_)
        · refine zv_iconst (pc := 43) (n := 0) hx hb dX7_isEvent_43 ?_
          refine lv_iload_n (pc := 44) hx hb dX7_isEvent_44 rfl (lv_at hl 1 rfl) ?_
          refine zv_iconst (pc := 45) (n := 2) hx hb dX7_isEvent_45 ?_
          refine zv_irem (pc := 46) hx hb dX7_isEvent_46 ⟨by omega, by omega⟩ ⟨by omega, by omega⟩ (by omega) ?_
          refine zv_if_ne (pc := 47) (tgt := 54) hx hb dX7_isEvent_47 (by decide) ⟨by omega, by omega⟩ (fun c47 => ?_) (fun c47 => ?_)
          · refine zv_iconst (pc := 54) (n := 0) hx hb dX7_isEvent_54 ?_
            refine zv_icmp_ne (pc := 55) (tgt := 62) hx hb dX7_isEvent_55 (by decide) ⟨by omega, by omega⟩ ⟨by omega, by omega⟩ (fun c55 => absurd c55 (by omega)) (fun c55 => ?_)
            refine zv_iconst (pc := 58) (n := 1) hx hb dX7_isEvent_58 ?_
            refine lv_goto (pc := 59) (tgt := 63) hx hb dX7_isEvent_59 (by decide) ?_
            refine zv_as (pc := 63) (a := 1) (b := zb (zev kd was now)) (by first | (rw [zev_true.mpr (by omega)]; rfl) | (rw [zev_false (by omega)]; rfl)) ?_
            exact ze_z (pc := 63) hx hb hr hlk hW () rfl trivial rfl dX7_isEvent_63
          · refine zv_iconst (pc := 50) (n := 1) hx hb dX7_isEvent_50 ?_
            refine lv_goto (pc := 51) (tgt := 55) hx hb dX7_isEvent_51 (by decide) ?_
            refine zv_icmp_ne (pc := 55) (tgt := 62) hx hb dX7_isEvent_55 (by decide) ⟨by omega, by omega⟩ ⟨by omega, by omega⟩ (fun c55 => ?_) (fun c55 => absurd c55 (by omega))
            refine zv_iconst (pc := 62) (n := 0) hx hb dX7_isEvent_62 ?_
            refine zv_as (pc := 63) (a := 0) (b := zb (zev kd was now)) (by first | (rw [zev_true.mpr (by omega)]; rfl) | (rw [zev_false (by omega)]; rfl)) ?_
            exact ze_z (pc := 63) hx hb hr hlk hW () rfl trivial rfl dX7_isEvent_63
        · refine zv_iconst (pc := 39) (n := 1) hx hb dX7_isEvent_39 ?_
          refine lv_goto (pc := 40) (tgt := 44) hx hb dX7_isEvent_40 (by decide) ?_
          refine lv_iload_n (pc := 44) hx hb dX7_isEvent_44 rfl (lv_at hl 1 rfl) ?_
          refine zv_iconst (pc := 45) (n := 2) hx hb dX7_isEvent_45 ?_
          refine zv_irem (pc := 46) hx hb dX7_isEvent_46 ⟨by omega, by omega⟩ ⟨by omega, by omega⟩ (by omega) ?_
          refine zv_if_ne (pc := 47) (tgt := 54) hx hb dX7_isEvent_47 (by decide) ⟨by omega, by omega⟩ (fun c47 => ?_) (fun c47 => ?_)
          · refine zv_iconst (pc := 54) (n := 0) hx hb dX7_isEvent_54 ?_
            refine zv_icmp_ne (pc := 55) (tgt := 62) hx hb dX7_isEvent_55 (by decide) ⟨by omega, by omega⟩ ⟨by omega, by omega⟩ (fun c55 => ?_) (fun c55 => absurd c55 (by omega))
            refine zv_iconst (pc := 62) (n := 0) hx hb dX7_isEvent_62 ?_
            refine zv_as (pc := 63) (a := 0) (b := zb (zev kd was now)) (by first | (rw [zev_true.mpr (by omega)]; rfl) | (rw [zev_false (by omega)]; rfl)) ?_
            exact ze_z (pc := 63) hx hb hr hlk hW () rfl trivial rfl dX7_isEvent_63
          · refine zv_iconst (pc := 50) (n := 1) hx hb dX7_isEvent_50 ?_
            refine lv_goto (pc := 51) (tgt := 55) hx hb dX7_isEvent_51 (by decide) ?_
            refine zv_icmp_ne (pc := 55) (tgt := 62) hx hb dX7_isEvent_55 (by decide) ⟨by omega, by omega⟩ ⟨by omega, by omega⟩ (fun c55 => absurd c55 (by omega)) (fun c55 => ?_)
            refine zv_iconst (pc := 58) (n := 1) hx hb dX7_isEvent_58 ?_
            refine lv_goto (pc := 59) (tgt := 63) hx hb dX7_isEvent_59 (by decide) ?_
            refine zv_as (pc := 63) (a := 1) (b := zb (zev kd was now)) (by first | (rw [zev_true.mpr (by omega)]; rfl) | (rw [zev_false (by omega)]; rfl)) ?_
            exact ze_z (pc := 63) hx hb hr hlk hW () rfl trivial rfl dX7_isEvent_63
      · refine zv_iconst (pc := 26) (n := 1) hx hb dX7_isEvent_26 ?_
        refine lv_goto (pc := 27) (tgt := 31) hx hb dX7_isEvent_27 (by decide) ?_
        refine zv_icmp_eq (pc := 31) (tgt := 62) hx hb dX7_isEvent_31 (by decide) ⟨by omega, by omega⟩ ⟨by omega, by omega⟩ (fun c31 => ?_) (fun c31 => absurd c31 (by omega))
        refine zv_iconst (pc := 62) (n := 0) hx hb dX7_isEvent_62 ?_
        refine zv_as (pc := 63) (a := 0) (b := zb (zev kd was now)) (by first | (rw [zev_true.mpr (by omega)]; rfl) | (rw [zev_false (by omega)]; rfl)) ?_
        exact ze_z (pc := 63) hx hb hr hlk hW () rfl trivial rfl dX7_isEvent_63

set_option maxHeartbeats 4000000 in
set_option maxRecDepth 100000 in
/-- isThere -/
theorem kX7_isThere (G : zG) (l : Launch) (z : Nat) (r0 : Nat) (r1 : Nat) (r2 : Nat) (r3 : Nat) (r4 : Nat) (km : Int) (th : Int) (r7 : Nat) (bu : Int) (pa : Int) (pb : Int) (ki : Int) (nu : Int) (wr : Int) (wa : Int) (ea : Int) (lx : Int) (ly : Int) (lh : Int) (lz : Int) (r20 : Nat) (go : Int) (iT : Int) (iM : Int) (iK : Int) (r25 : Nat) (wm : Int) (tm : Int) (te : Bool) (fa : Int → Int) (mo : Int) (kd : Int) (t : Int) (hv : yval fa) (h1 : 0 ≤ mo) (h2 : mo < fa 3) (k0 : 0 ≤ kd) (k3 : kd ≤ 3) (t1 : -2147483648 ≤ t) (t2 : t ≤ 2147483647) : zM G l yX7_isThere wsX7_isThere { frames := 6, cells := 0, slots := 0, locals := 141 } [.ref z, .int (zI mo), .int (zI kd), .int (zI t)] [(z, .inr (7, [.ref r0, .ref r1, .ref r2, .ref r3, .ref r4, .int (zI km), .int (zI th), .ref r7, .int (zI bu), .int (zI pa), .int (zI pb), .int (zI ki), .int (zI nu), .int (zI wr), .int (zI wa), .int (zI ea), .long (zL lx), .long (zL ly), .long (zL lh), .long (zL lz), .ref r20, .int (zI go), .int (zI iT), .int (zI iM), .int (zI iK), .ref r25, .int (zI wm), .int (zI tm), .int (zI (zb te))])), (r0, .inl (zk G 0, 179, .inl (zA fa)))] (S := Int × Int × Int × Int) (zri (fun u => zb (zth (fa 0) (fa 1) (fa 2) (ya fa mo) kd t))) (fun u => True) (fun u => [(z, .inr (7, [.ref r0, .ref r1, .ref r2, .ref r3, .ref r4, .int (zI km), .int (zI th), .ref r7, .int (zI bu), .int (zI pa), .int (zI pb), .int (zI ki), .int (zI nu), .int (zI wr), .int (zI wa), .int (zI ea), .long (zL u.1), .long (zL u.2.1), .long (zL u.2.2.1), .long (zL u.2.2.2), .ref r20, .int (zI go), .int (zI iT), .int (zI iM), .int (zI iK), .ref r25, .int (zI wm), .int (zI tm), .int (zI (zb te))])), (r0, .inl (zk G 0, 179, .inl (zA fa)))]) 0 0 := by
  refine zM.of (cc := cX7_isThere) (maxL := 4) (ret := (some .boolean)) (by decide) rfl (Nat.le_of_ble_eq_true rfl) (l0 := [(0, .ref z), (1, .int (zI mo)), (2, .int (zI kd)), (3, .int (zI t))]) rfl ?_
  intro p e s m args below meth c ls F hr hlk hnm hW hl
  obtain ⟨hx, hb, hml, hown, hts⟩ := id F
  obtain ⟨⟨⟨vp1, vp2⟩, ⟨vd1, vd2⟩, ⟨ve1, ve2⟩, ⟨vm1, vm2⟩, ⟨vs1, vs2⟩⟩, vmo, vsi⟩ := id hv
  have hg := vmo mo h1 h2
  refine lv_iload_n (pc := 0) hx hb dX7_isThere_0 rfl (lv_at hl 3 rfl) ?_
  refine zv_iconst (pc := 1) (n := 1) hx hb dX7_isThere_1 ?_
  refine zv_ldc (pc := 2) (v := 1000000) hx hb hown (hts _ (List.mem_of_getElem? (i := 1) rfl)) rfl dX7_isThere_2 ?_
  refine z_S (pc := 4) (As := [.int (zI t), .int (zI 1), .int (zI 1000000)]) (rest := []) (wn := (fun _ => [(z, .inr (7, [.ref r0, .ref r1, .ref r2, .ref r3, .ref r4, .int (zI km), .int (zI th), .ref r7, .int (zI bu), .int (zI pa), .int (zI pb), .int (zI ki), .int (zI nu), .int (zI wr), .int (zI wa), .int (zI ea), .long (zL lx), .long (zL ly), .long (zL lh), .long (zL lz), .ref r20, .int (zI go), .int (zI iT), .int (zI iM), .int (zI iK), .ref r25, .int (zI wm), .int (zI tm), .int (zI (zb te))])), (r0, .inl (zk G 0, 179, .inl (zA fa)))])) (wr := [(z, .inr (7, [.ref r0, .ref r1, .ref r2, .ref r3, .ref r4, .int (zI km), .int (zI th), .ref r7, .int (zI bu), .int (zI pa), .int (zI pb), .int (zI ki), .int (zI nu), .int (zI wr), .int (zI wa), .int (zI ea), .long (zL lx), .long (zL ly), .long (zL lh), .long (zL lz), .ref r20, .int (zI go), .int (zI iT), .int (zI iM), .int (zI iK), .ref r25, .int (zI wm), .int (zI tm), .int (zI (zb te))])), (r0, .inl (zk G 0, 179, .inl (zA fa)))]) F (kX7_isIn G l t 1 1000000 (by first | assumption | omega) (by first | assumption | omega) (by first | assumption | omega) (by first | assumption | omega) (by first | assumption | omega) (by first | assumption | omega)) (va_cwS 3 hts gX7_isThere_X7_isIn rfl rfl rfl (by decide +kernel) ⟨Nat.le_of_ble_eq_true rfl, Nat.le_of_ble_eq_true rfl⟩) hW [] [0, 1] (by decide) rfl rfl rfl (by decide) (by decide) [0, 1] (by decide) (fun _ => rfl) (fun _ => rfl) rfl hl.1 rfl (Nat.le_of_ble_eq_true rfl) dX7_isThere_4 ⟨Nat.le_of_ble_eq_true rfl, Nat.le_of_ble_eq_true rfl⟩ (fun _ H locs _ hW => ?_)
  show W p l e _ s m args below meth c H locs _ _ _ (F0 m 7 ls [.int (zI (zb (decide (1 ≤ t ∧ t ≤ 1000000))))])
  refine zv_b_eq (pc := 7) (tgt := 35) hx hb dX7_isThere_7 (by decide) (fun c7 => ?_) (fun c7 => ?_)
  · refine zv_iconst (pc := 35) (n := 0) hx hb dX7_isThere_35 ?_
    refine zv_as (pc := 36) (a := 0) (b := zb (zth (fa 0) (fa 1) (fa 2) (ya fa mo) kd t)) (by unfold zth; first | (rw [c7, c28]; rfl) | (rw [c7]; rfl)) ?_
    exact ze_z (pc := 36) hx hb hr hlk hW (lx, ly, lh, lz) rfl trivial rfl dX7_isThere_36
  · have c7q := of_decide_eq_true c7
    refine lv_iload_n (pc := 10) hx hb dX7_isThere_10 rfl (lv_at hl 2 rfl) ?_
    refine lv_aload_n (pc := 11) hx hb dX7_isThere_11 rfl (lv_at hl 0 rfl) ?_
    refine lv_iload_n (pc := 12) hx hb dX7_isThere_12 rfl (lv_at hl 1 rfl) ?_
    refine lv_iload_n (pc := 13) hx hb dX7_isThere_13 rfl (lv_at hl 3 rfl) ?_
    refine zv_iconst (pc := 14) (n := 1) hx hb dX7_isThere_14 ?_
    refine zv_isub (pc := 15) hx hb dX7_isThere_15 ?_
    refine z_V (pc := 16) (As := [.int (zI mo), .int (zI (t - 1))]) (rest := [.int (zI kd)]) (wn := (fun _ => [(z, .inr (7, [.ref r0, .ref r1, .ref r2, .ref r3, .ref r4, .int (zI km), .int (zI th), .ref r7, .int (zI bu), .int (zI pa), .int (zI pb), .int (zI ki), .int (zI nu), .int (zI wr), .int (zI wa), .int (zI ea), .long (zL (zlx (ya fa mo) (t - 1))), .long (zL (zly (ya fa mo) (t - 1))), .long (zL (zlh (fa 1) (fa 2) (ya fa mo) (t - 1))), .long (zL (zls (fa 1) (fa 2) (ya fa mo) (t - 1))), .ref r20, .int (zI go), .int (zI iT), .int (zI iM), .int (zI iK), .ref r25, .int (zI wm), .int (zI tm), .int (zI (zb te))])), (r0, .inl (zk G 0, 179, .inl (zA fa)))])) (wr := []) F (kX7_looksAt G l z r0 r1 r2 r3 r4 km th r7 bu pa pb ki nu wr wa ea lx ly lh lz r20 go iT iM iK r25 wm tm te fa mo (t - 1) (by first | assumption | omega) (by first | assumption | omega) (by first | assumption | omega) (by first | assumption | omega) (by first | assumption | omega) (by first | assumption | omega) (by first | assumption | omega) (by first | assumption | omega) (by first | assumption | omega) (by first | assumption | omega) (by first | assumption | omega)) (cwV 2 hts gX7_isThere_X7_looksAt rfl rfl rfl (by decide +kernel) ⟨Nat.le_of_ble_eq_true rfl, Nat.le_of_ble_eq_true rfl⟩) hW 0 rfl rfl [0, 1] [] (by decide) rfl rfl rfl (by decide) (by decide) [0, 1] (by decide) (fun _ => rfl) (fun _ => rfl) rfl hl.1 rfl (Nat.le_of_ble_eq_true rfl) dX7_isThere_16 ⟨Nat.le_of_ble_eq_true rfl, Nat.le_of_ble_eq_true rfl⟩ (fun _ H locs _ hW => ?_)
    show W p l e _ s m args below meth c H locs _ _ _ (F0 m 19 ls [.int (zI (zL2 (fa 0) (fa 1) (fa 2) (ya fa mo) (t - 1))), .int (zI kd)])
    have lk16 := zlk_in (zS (fa 0) (fa 1) (fa 2) (ya fa mo) (t - 1)) (zC (fa 0) (fa 1) (fa 2) (ya fa mo) (t - 1))
    refine lv_aload_n (pc := 19) hx hb dX7_isThere_19 rfl (lv_at hl 0 rfl) ?_
    refine lv_iload_n (pc := 20) hx hb dX7_isThere_20 rfl (lv_at hl 1 rfl) ?_
    refine lv_iload_n (pc := 21) hx hb dX7_isThere_21 rfl (lv_at hl 3 rfl) ?_
    refine z_V (pc := 22) (As := [.int (zI mo), .int (zI t)]) (rest := [.int (zI (zL2 (fa 0) (fa 1) (fa 2) (ya fa mo) (t - 1))), .int (zI kd)]) (wn := (fun _ => [(z, .inr (7, [.ref r0, .ref r1, .ref r2, .ref r3, .ref r4, .int (zI km), .int (zI th), .ref r7, .int (zI bu), .int (zI pa), .int (zI pb), .int (zI ki), .int (zI nu), .int (zI wr), .int (zI wa), .int (zI ea), .long (zL (zlx (ya fa mo) t)), .long (zL (zly (ya fa mo) t)), .long (zL (zlh (fa 1) (fa 2) (ya fa mo) t)), .long (zL (zls (fa 1) (fa 2) (ya fa mo) t)), .ref r20, .int (zI go), .int (zI iT), .int (zI iM), .int (zI iK), .ref r25, .int (zI wm), .int (zI tm), .int (zI (zb te))])), (r0, .inl (zk G 0, 179, .inl (zA fa)))])) (wr := []) F (kX7_looksAt G l z r0 r1 r2 r3 r4 km th r7 bu pa pb ki nu wr wa ea (zlx (ya fa mo) (t - 1)) (zly (ya fa mo) (t - 1)) (zlh (fa 1) (fa 2) (ya fa mo) (t - 1)) (zls (fa 1) (fa 2) (ya fa mo) (t - 1)) r20 go iT iM iK r25 wm tm te fa mo t (by first | assumption | omega) (by first | assumption | omega) (by first | assumption | omega) (by first | assumption | omega) (by first | assumption | omega) (by first | assumption | omega) (by first | assumption | omega) (by first | assumption | omega) (by first | assumption | omega) (by first | assumption | omega) (by first | assumption | omega)) (cwV 2 hts gX7_isThere_X7_looksAt rfl rfl rfl (by decide +kernel) ⟨Nat.le_of_ble_eq_true rfl, Nat.le_of_ble_eq_true rfl⟩) hW 0 rfl rfl [0, 1] [] (by decide) rfl rfl rfl (by decide) (by decide) [0, 1] (by decide) (fun _ => rfl) (fun _ => rfl) rfl hl.1 rfl (Nat.le_of_ble_eq_true rfl) dX7_isThere_22 ⟨Nat.le_of_ble_eq_true rfl, Nat.le_of_ble_eq_true rfl⟩ (fun _ H locs _ hW => ?_)
    show W p l e _ s m args below meth c H locs _ _ _ (F0 m 25 ls [.int (zI (zL2 (fa 0) (fa 1) (fa 2) (ya fa mo) t)), .int (zI (zL2 (fa 0) (fa 1) (fa 2) (ya fa mo) (t - 1))), .int (zI kd)])
    have lk22 := zlk_in (zS (fa 0) (fa 1) (fa 2) (ya fa mo) t) (zC (fa 0) (fa 1) (fa 2) (ya fa mo) t)
    refine z_S (pc := 25) (As := [.int (zI kd), .int (zI (zL2 (fa 0) (fa 1) (fa 2) (ya fa mo) (t - 1))), .int (zI (zL2 (fa 0) (fa 1) (fa 2) (ya fa mo) t))]) (rest := []) (wn := (fun _ => [(z, .inr (7, [.ref r0, .ref r1, .ref r2, .ref r3, .ref r4, .int (zI km), .int (zI th), .ref r7, .int (zI bu), .int (zI pa), .int (zI pb), .int (zI ki), .int (zI nu), .int (zI wr), .int (zI wa), .int (zI ea), .long (zL (zlx (ya fa mo) t)), .long (zL (zly (ya fa mo) t)), .long (zL (zlh (fa 1) (fa 2) (ya fa mo) t)), .long (zL (zls (fa 1) (fa 2) (ya fa mo) t)), .ref r20, .int (zI go), .int (zI iT), .int (zI iM), .int (zI iK), .ref r25, .int (zI wm), .int (zI tm), .int (zI (zb te))])), (r0, .inl (zk G 0, 179, .inl (zA fa)))])) (wr := [(z, .inr (7, [.ref r0, .ref r1, .ref r2, .ref r3, .ref r4, .int (zI km), .int (zI th), .ref r7, .int (zI bu), .int (zI pa), .int (zI pb), .int (zI ki), .int (zI nu), .int (zI wr), .int (zI wa), .int (zI ea), .long (zL (zlx (ya fa mo) t)), .long (zL (zly (ya fa mo) t)), .long (zL (zlh (fa 1) (fa 2) (ya fa mo) t)), .long (zL (zls (fa 1) (fa 2) (ya fa mo) t)), .ref r20, .int (zI go), .int (zI iT), .int (zI iM), .int (zI iK), .ref r25, .int (zI wm), .int (zI tm), .int (zI (zb te))])), (r0, .inl (zk G 0, 179, .inl (zA fa)))]) F (kX7_isEvent G l kd (zL2 (fa 0) (fa 1) (fa 2) (ya fa mo) (t - 1)) (zL2 (fa 0) (fa 1) (fa 2) (ya fa mo) t) (by first | assumption | omega) (by first | assumption | omega) (by first | assumption | omega) (by first | assumption | omega) (by first | assumption | omega) (by first | assumption | omega)) (va_cwS 3 hts gX7_isThere_X7_isEvent rfl rfl rfl (by decide +kernel) ⟨Nat.le_of_ble_eq_true rfl, Nat.le_of_ble_eq_true rfl⟩) hW [] [0, 1] (by decide) rfl rfl rfl (by decide) (by decide) [0, 1] (by decide) (fun _ => rfl) (fun _ => rfl) rfl hl.1 rfl (Nat.le_of_ble_eq_true rfl) dX7_isThere_25 ⟨Nat.le_of_ble_eq_true rfl, Nat.le_of_ble_eq_true rfl⟩ (fun _ H locs _ hW => ?_)
    show W p l e _ s m args below meth c H locs _ _ _ (F0 m 28 ls [.int (zI (zb (zev kd (zL2 (fa 0) (fa 1) (fa 2) (ya fa mo) (t - 1)) (zL2 (fa 0) (fa 1) (fa 2) (ya fa mo) t))))])
    refine zv_b_eq (pc := 28) (tgt := 35) hx hb dX7_isThere_28 (by decide) (fun c28 => ?_) (fun c28 => ?_)
    · refine zv_iconst (pc := 35) (n := 0) hx hb dX7_isThere_35 ?_
      refine zv_as (pc := 36) (a := 0) (b := zb (zth (fa 0) (fa 1) (fa 2) (ya fa mo) kd t)) (by unfold zth; first | (rw [c7, c28]; rfl) | (rw [c7]; rfl)) ?_
      exact ze_z (pc := 36) hx hb hr hlk hW (zlx (ya fa mo) t, zly (ya fa mo) t, zlh (fa 1) (fa 2) (ya fa mo) t, zls (fa 1) (fa 2) (ya fa mo) t) rfl trivial rfl dX7_isThere_36
    · refine zv_iconst (pc := 31) (n := 1) hx hb dX7_isThere_31 ?_
      refine lv_goto (pc := 32) (tgt := 36) hx hb dX7_isThere_32 (by decide) ?_
      refine zv_as (pc := 36) (a := 1) (b := zb (zth (fa 0) (fa 1) (fa 2) (ya fa mo) kd t)) (by unfold zth; first | (rw [c7, c28]; rfl) | (rw [c7]; rfl)) ?_
      exact ze_z (pc := 36) hx hb hr hlk hW (zlx (ya fa mo) t, zly (ya fa mo) t, zlh (fa 1) (fa 2) (ya fa mo) t, zls (fa 1) (fa 2) (ya fa mo) t) rfl trivial rfl dX7_isThere_36

set_option maxHeartbeats 4000000 in
set_option maxRecDepth 100000 in
/-- offOf -/
theorem kX7_offOf (G : zG) (l : Launch) (z : Nat) (r0 : Nat) (r1 : Nat) (r2 : Nat) (r3 : Nat) (r4 : Nat) (km : Int) (th : Int) (r7 : Nat) (bu : Int) (pa : Int) (pb : Int) (ki : Int) (nu : Int) (wr : Int) (wa : Int) (ea : Int) (lx : Int) (ly : Int) (lh : Int) (lz : Int) (r20 : Nat) (go : Int) (iT : Int) (iM : Int) (iK : Int) (r25 : Nat) (wm : Int) (tm : Int) (te : Bool) (fa : Int → Int) (si : Int) (hv : yval fa) (h1 : 0 ≤ si) (h2 : si < fa 4) : zM G l yX7_offOf wsX7_offOf { frames := 7, cells := 0, slots := 0, locals := 164 } [.ref z, .int (zI si)] [(z, .inr (7, [.ref r0, .ref r1, .ref r2, .ref r3, .ref r4, .int (zI km), .int (zI th), .ref r7, .int (zI bu), .int (zI pa), .int (zI pb), .int (zI ki), .int (zI nu), .int (zI wr), .int (zI wa), .int (zI ea), .long (zL lx), .long (zL ly), .long (zL lh), .long (zL lz), .ref r20, .int (zI go), .int (zI iT), .int (zI iM), .int (zI iK), .ref r25, .int (zI wm), .int (zI tm), .int (zI (zb te))])), (r0, .inl (zk G 0, 179, .inl (zA fa)))] (S := Int × Int × Int × Int) (zri (fun u => yoff fa si)) (fun u => True) (fun u => [(z, .inr (7, [.ref r0, .ref r1, .ref r2, .ref r3, .ref r4, .int (zI km), .int (zI th), .ref r7, .int (zI bu), .int (zI pa), .int (zI pb), .int (zI ki), .int (zI nu), .int (zI wr), .int (zI wa), .int (zI ea), .long (zL u.1), .long (zL u.2.1), .long (zL u.2.2.1), .long (zL u.2.2.2), .ref r20, .int (zI go), .int (zI iT), .int (zI iM), .int (zI iK), .ref r25, .int (zI wm), .int (zI tm), .int (zI (zb te))])), (r0, .inl (zk G 0, 179, .inl (zA fa)))]) 0 0 := by
  refine zM.of (cc := cX7_offOf) (maxL := 4) (ret := (some .int)) (by decide) rfl (Nat.le_of_ble_eq_true rfl) (l0 := [(0, .ref z), (1, .int (zI si))]) rfl ?_
  intro p e s m args below meth c ls F hr hlk hnm hW hl
  obtain ⟨hx, hb, hml, hown, hts⟩ := id F
  obtain ⟨⟨⟨vp1, vp2⟩, ⟨vd1, vd2⟩, ⟨ve1, ve2⟩, ⟨vm1, vm2⟩, ⟨vs1, vs2⟩⟩, vmo, vsi⟩ := id hv
  obtain ⟨⟨s1, s2⟩, ⟨s3, s4⟩, ⟨s5, s6⟩⟩ := vsi si h1 h2
  refine lv_aload_n (pc := 0) hx hb dX7_offOf_0 rfl (lv_at hl 0 rfl) ?_
  refine lv_iload_n (pc := 1) hx hb dX7_offOf_1 rfl (lv_at hl 1 rfl) ?_
  refine zv_iconst (pc := 2) (n := 0) hx hb dX7_offOf_2 ?_
  refine z_V (pc := 3) (As := [.int (zI si), .int (zI 0)]) (rest := []) (wn := (fun _ => [(z, .inr (7, [.ref r0, .ref r1, .ref r2, .ref r3, .ref r4, .int (zI km), .int (zI th), .ref r7, .int (zI bu), .int (zI pa), .int (zI pb), .int (zI ki), .int (zI nu), .int (zI wr), .int (zI wa), .int (zI ea), .long (zL lx), .long (zL ly), .long (zL lh), .long (zL lz), .ref r20, .int (zI go), .int (zI iT), .int (zI iM), .int (zI iK), .ref r25, .int (zI wm), .int (zI tm), .int (zI (zb te))])), (r0, .inl (zk G 0, 179, .inl (zA fa)))])) (wr := []) F (kX7_inSight G l z r0 r1 r2 r3 r4 km th r7 bu pa pb ki nu wr wa ea lx ly lh lz r20 go iT iM iK r25 wm tm te fa si 0 (by first | assumption | omega) (by first | assumption | omega) (by first | assumption | omega) (by first | assumption | omega)) (cwV 2 hts gX7_offOf_X7_inSight rfl rfl rfl (by decide +kernel) ⟨Nat.le_of_ble_eq_true rfl, Nat.le_of_ble_eq_true rfl⟩) hW 0 rfl rfl [0, 1] [] (by decide) rfl rfl rfl (by decide) (by decide) [0, 1] (by decide) (fun _ => rfl) (fun _ => rfl) rfl hl.1 rfl (Nat.le_of_ble_eq_true rfl) dX7_offOf_3 ⟨Nat.le_of_ble_eq_true rfl, Nat.le_of_ble_eq_true rfl⟩ (fun _ H locs _ hW => ?_)
  show W p l e _ s m args below meth c H locs _ _ _ (F0 m 6 ls [.int (zI (fa (89 + 3 * si + 0)))])
  refine lv_istore_n (pc := 6) (lv' := [(2, .int (zI (fa (89 + 3 * si + 0)))), (0, .ref z), (1, .int (zI si))]) hx hb dX7_offOf_6 rfl hl (by decide) rfl (fun ls hl => ?_)
  refine zv_iconst (pc := 7) (n := 0) hx hb dX7_offOf_7 ?_
  refine lv_istore_n (pc := 8) (lv' := [(3, .int (zI 0)), (2, .int (zI (fa (89 + 3 * si + 0)))), (0, .ref z), (1, .int (zI si))]) hx hb dX7_offOf_8 rfl hl (by decide) rfl (fun ls hl => ?_)
  have J9 : ∀ (fuel9 : Nat) (d : Int) (px8 : Int) (py8 : Int) (ph8 : Int) (ps8 : Int) (d0 : 0 ≤ d) (d1 : d ≤ 401) (hk : zoffN (zth (fa 0) (fa 1) (fa 2) (ya fa (fa (89 + 3 * si + 0))) (fa (89 + 3 * si + 1))) (fa (89 + 3 * si + 2)) (401 - d).toNat d = yoff fa si) (hfu9 : (401 - d).toNat < fuel9) (H : Heap) (locs : List Loc) (ls : Array Slot) (hW : zW G (va_A [(z, .inr (7, [.ref r0, .ref r1, .ref r2, .ref r3, .ref r4, .int (zI km), .int (zI th), .ref r7, .int (zI bu), .int (zI pa), .int (zI pb), .int (zI ki), .int (zI nu), .int (zI wr), .int (zI wa), .int (zI ea), .long (zL lx), .long (zL ly), .long (zL lh), .long (zL lz), .ref r20, .int (zI go), .int (zI iT), .int (zI iM), .int (zI iK), .ref r25, .int (zI wm), .int (zI tm), .int (zI (zb te))])), (r0, .inl (zk G 0, 179, .inl (zA fa)))] s.heap.size) s H locs [(z, .inr (7, [.ref r0, .ref r1, .ref r2, .ref r3, .ref r4, .int (zI km), .int (zI th), .ref r7, .int (zI bu), .int (zI pa), .int (zI pb), .int (zI ki), .int (zI nu), .int (zI wr), .int (zI wa), .int (zI ea), .long (zL px8), .long (zL py8), .long (zL ph8), .long (zL ps8), .ref r20, .int (zI go), .int (zI iT), .int (zI iM), .int (zI iK), .ref r25, .int (zI wm), .int (zI tm), .int (zI (zb te))])), (r0, .inl (zk G 0, 179, .inl (zA fa)))]) (hl : lv_has ls 4 [(3, .int (zI d)), (2, .int (zI (fa (89 + 3 * si + 0)))), (0, .ref z), (1, .int (zI si))]), W p l e ({ frames := 7, cells := 0, slots := 0, locals := 164 } : Room) s m args below meth c H locs 0 0 (MQ below (zQ (S := Int × Int × Int × Int) (zri (fun u => yoff fa si)) (fun u => True) (zPost G [(z, .inr (7, [.ref r0, .ref r1, .ref r2, .ref r3, .ref r4, .int (zI km), .int (zI th), .ref r7, .int (zI bu), .int (zI pa), .int (zI pb), .int (zI ki), .int (zI nu), .int (zI wr), .int (zI wa), .int (zI ea), .long (zL lx), .long (zL ly), .long (zL lh), .long (zL lz), .ref r20, .int (zI go), .int (zI iT), .int (zI iM), .int (zI iK), .ref r25, .int (zI wm), .int (zI tm), .int (zI (zb te))])), (r0, .inl (zk G 0, 179, .inl (zA fa)))] s.heap.size (fun u => [(z, .inr (7, [.ref r0, .ref r1, .ref r2, .ref r3, .ref r4, .int (zI km), .int (zI th), .ref r7, .int (zI bu), .int (zI pa), .int (zI pb), .int (zI ki), .int (zI nu), .int (zI wr), .int (zI wa), .int (zI ea), .long (zL u.1), .long (zL u.2.1), .long (zL u.2.2.1), .long (zL u.2.2.2), .ref r20, .int (zI go), .int (zI iT), .int (zI iM), .int (zI iK), .ref r25, .int (zI wm), .int (zI tm), .int (zI (zb te))])), (r0, .inl (zk G 0, 179, .inl (zA fa)))])) (va_A [(z, .inr (7, [.ref r0, .ref r1, .ref r2, .ref r3, .ref r4, .int (zI km), .int (zI th), .ref r7, .int (zI bu), .int (zI pa), .int (zI pb), .int (zI ki), .int (zI nu), .int (zI wr), .int (zI wa), .int (zI ea), .long (zL lx), .long (zL ly), .long (zL lh), .long (zL lz), .ref r20, .int (zI go), .int (zI iT), .int (zI iM), .int (zI iK), .ref r25, .int (zI wm), .int (zI tm), .int (zI (zb te))])), (r0, .inl (zk G 0, 179, .inl (zA fa)))] s.heap.size)) args s 0 0 (va_A [(z, .inr (7, [.ref r0, .ref r1, .ref r2, .ref r3, .ref r4, .int (zI km), .int (zI th), .ref r7, .int (zI bu), .int (zI pa), .int (zI pb), .int (zI ki), .int (zI nu), .int (zI wr), .int (zI wa), .int (zI ea), .long (zL lx), .long (zL ly), .long (zL lh), .long (zL lz), .ref r20, .int (zI go), .int (zI iT), .int (zI iM), .int (zI iK), .ref r25, .int (zI wm), .int (zI tm), .int (zI (zb te))])), (r0, .inl (zk G 0, 179, .inl (zA fa)))] s.heap.size)) (F0 m 9 ls []) := by
    intro fuel9
    induction fuel9 with
    | zero =>
      intro d px8 py8 ph8 ps8 d0 d1 hk hfu9
      exact absurd hfu9 (Nat.not_lt_zero _)
    | succ fuel9 ih9 =>
      intro d px8 py8 ph8 ps8 d0 d1 hk hfu9 H locs ls hW hl
      refine lv_iload_n (pc := 9) hx hb dX7_offOf_9 rfl (lv_at hl 0 rfl) ?_
      refine zv_sipush (pc := 10) (n := 400) hx hb dX7_offOf_10 (by decide) ?_
      refine zv_icmp_gt (pc := 13) (tgt := 71) hx hb dX7_offOf_13 (by decide) ⟨by omega, by omega⟩ ⟨by omega, by omega⟩ (fun c13 => ?_) (fun c13 => ?_)
      · refine zv_ldcw (pc := 71) (v := (-1000000)) hx hb hown (hts _ (List.mem_of_getElem? (i := 1) rfl)) rfl dX7_offOf_71 ?_
        refine zv_as (pc := 74) (a := (-1000000)) (b := yoff fa si) (by first | (rw [← hk]; exact (zoff_hit1 (by omega) c35).symm) | (rw [← hk]; exact (zoff_hit2 (by omega) c35 c60).symm) | (rw [← hk, show (401 - d).toNat = 0 by omega]; rfl)) ?_
        exact ze_i (pc := 74) hx hb hr hlk hW (px8, py8, ph8, ps8) rfl trivial rfl dX7_offOf_74
      · refine lv_aload_n (pc := 16) hx hb dX7_offOf_16 rfl (lv_at hl 2 rfl) ?_
        refine lv_iload_n (pc := 17) hx hb dX7_offOf_17 rfl (lv_at hl 1 rfl) ?_
        refine lv_aload_n (pc := 18) hx hb dX7_offOf_18 rfl (lv_at hl 2 rfl) ?_
        refine lv_iload_n (pc := 19) hx hb dX7_offOf_19 rfl (lv_at hl 3 rfl) ?_
        refine zv_iconst (pc := 20) (n := 1) hx hb dX7_offOf_20 ?_
        refine z_V (pc := 21) (As := [.int (zI si), .int (zI 1)]) (rest := [.int (zI (fa (89 + 3 * si + 0))), .ref z]) (wn := (fun _ => [(z, .inr (7, [.ref r0, .ref r1, .ref r2, .ref r3, .ref r4, .int (zI km), .int (zI th), .ref r7, .int (zI bu), .int (zI pa), .int (zI pb), .int (zI ki), .int (zI nu), .int (zI wr), .int (zI wa), .int (zI ea), .long (zL px8), .long (zL py8), .long (zL ph8), .long (zL ps8), .ref r20, .int (zI go), .int (zI iT), .int (zI iM), .int (zI iK), .ref r25, .int (zI wm), .int (zI tm), .int (zI (zb te))])), (r0, .inl (zk G 0, 179, .inl (zA fa)))])) (wr := []) F (kX7_inSight G l z r0 r1 r2 r3 r4 km th r7 bu pa pb ki nu wr wa ea px8 py8 ph8 ps8 r20 go iT iM iK r25 wm tm te fa si 1 (by first | assumption | omega) (by first | assumption | omega) (by first | assumption | omega) (by first | assumption | omega)) (cwV 2 hts gX7_offOf_X7_inSight rfl rfl rfl (by decide +kernel) ⟨Nat.le_of_ble_eq_true rfl, Nat.le_of_ble_eq_true rfl⟩) hW 0 rfl rfl [0, 1] [] (by decide) rfl rfl rfl (by decide) (by decide) [0, 1] (by decide) (fun _ => rfl) (fun _ => rfl) rfl hl.1 rfl (Nat.le_of_ble_eq_true rfl) dX7_offOf_21 ⟨Nat.le_of_ble_eq_true rfl, Nat.le_of_ble_eq_true rfl⟩ (fun _ H locs _ hW => ?_)
        show W p l e _ s m args below meth c H locs _ _ _ (F0 m 24 ls [.int (zI (fa (89 + 3 * si + 1))), .int (zI (fa (89 + 3 * si + 0))), .ref z])
        refine lv_aload_n (pc := 24) hx hb dX7_offOf_24 rfl (lv_at hl 2 rfl) ?_
        refine lv_iload_n (pc := 25) hx hb dX7_offOf_25 rfl (lv_at hl 3 rfl) ?_
        refine zv_iconst (pc := 26) (n := 2) hx hb dX7_offOf_26 ?_
        refine z_V (pc := 27) (As := [.int (zI si), .int (zI 2)]) (rest := [.int (zI (fa (89 + 3 * si + 1))), .int (zI (fa (89 + 3 * si + 0))), .ref z]) (wn := (fun _ => [(z, .inr (7, [.ref r0, .ref r1, .ref r2, .ref r3, .ref r4, .int (zI km), .int (zI th), .ref r7, .int (zI bu), .int (zI pa), .int (zI pb), .int (zI ki), .int (zI nu), .int (zI wr), .int (zI wa), .int (zI ea), .long (zL px8), .long (zL py8), .long (zL ph8), .long (zL ps8), .ref r20, .int (zI go), .int (zI iT), .int (zI iM), .int (zI iK), .ref r25, .int (zI wm), .int (zI tm), .int (zI (zb te))])), (r0, .inl (zk G 0, 179, .inl (zA fa)))])) (wr := []) F (kX7_inSight G l z r0 r1 r2 r3 r4 km th r7 bu pa pb ki nu wr wa ea px8 py8 ph8 ps8 r20 go iT iM iK r25 wm tm te fa si 2 (by first | assumption | omega) (by first | assumption | omega) (by first | assumption | omega) (by first | assumption | omega)) (cwV 2 hts gX7_offOf_X7_inSight rfl rfl rfl (by decide +kernel) ⟨Nat.le_of_ble_eq_true rfl, Nat.le_of_ble_eq_true rfl⟩) hW 0 rfl rfl [0, 1] [] (by decide) rfl rfl rfl (by decide) (by decide) [0, 1] (by decide) (fun _ => rfl) (fun _ => rfl) rfl hl.1 rfl (Nat.le_of_ble_eq_true rfl) dX7_offOf_27 ⟨Nat.le_of_ble_eq_true rfl, Nat.le_of_ble_eq_true rfl⟩ (fun _ H locs _ hW => ?_)
        show W p l e _ s m args below meth c H locs _ _ _ (F0 m 30 ls [.int (zI (fa (89 + 3 * si + 2))), .int (zI (fa (89 + 3 * si + 1))), .int (zI (fa (89 + 3 * si + 0))), .ref z])
        refine lv_iload_n (pc := 30) hx hb dX7_offOf_30 rfl (lv_at hl 0 rfl) ?_
        refine zv_isub (pc := 31) hx hb dX7_offOf_31 ?_
        refine z_V (pc := 32) (As := [.int (zI (fa (89 + 3 * si + 0))), .int (zI (fa (89 + 3 * si + 1))), .int (zI ((fa (89 + 3 * si + 2)) - d))]) (rest := []) (wn := (fun u32 => [(z, .inr (7, [.ref r0, .ref r1, .ref r2, .ref r3, .ref r4, .int (zI km), .int (zI th), .ref r7, .int (zI bu), .int (zI pa), .int (zI pb), .int (zI ki), .int (zI nu), .int (zI wr), .int (zI wa), .int (zI ea), .long (zL u32.1), .long (zL u32.2.1), .long (zL u32.2.2.1), .long (zL u32.2.2.2), .ref r20, .int (zI go), .int (zI iT), .int (zI iM), .int (zI iK), .ref r25, .int (zI wm), .int (zI tm), .int (zI (zb te))])), (r0, .inl (zk G 0, 179, .inl (zA fa)))])) (wr := []) F (kX7_isThere G l z r0 r1 r2 r3 r4 km th r7 bu pa pb ki nu wr wa ea px8 py8 ph8 ps8 r20 go iT iM iK r25 wm tm te fa (fa (89 + 3 * si + 0)) (fa (89 + 3 * si + 1)) ((fa (89 + 3 * si + 2)) - d) (by first | assumption | omega) (by first | assumption | omega) (by first | assumption | omega) (by first | assumption | omega) (by first | assumption | omega) (by first | assumption | omega) (by first | assumption | omega)) (cwV 3 hts gX7_offOf_X7_isThere rfl rfl rfl (by decide +kernel) ⟨Nat.le_of_ble_eq_true rfl, Nat.le_of_ble_eq_true rfl⟩) hW 0 rfl rfl [0, 1] [] (by decide) rfl rfl rfl (by decide) (by decide) [0, 1] (by decide) (fun _ => rfl) (fun _ => rfl) rfl hl.1 rfl (Nat.le_of_ble_eq_true rfl) dX7_offOf_32 ⟨Nat.le_of_ble_eq_true rfl, Nat.le_of_ble_eq_true rfl⟩ (fun u32 H locs _ hW => ?_)
        obtain ⟨px32, py32, ph32, ps32⟩ := u32
        show W p l e _ s m args below meth c H locs _ _ _ (F0 m 35 ls [.int (zI (zb (zth (fa 0) (fa 1) (fa 2) (ya fa (fa (89 + 3 * si + 0))) (fa (89 + 3 * si + 1)) ((fa (89 + 3 * si + 2)) - d))))])
        refine zv_b_eq (pc := 35) (tgt := 41) hx hb dX7_offOf_35 (by decide) (fun c35 => ?_) (fun c35 => ?_)
        · refine lv_aload_n (pc := 41) hx hb dX7_offOf_41 rfl (lv_at hl 2 rfl) ?_
          refine lv_iload_n (pc := 42) hx hb dX7_offOf_42 rfl (lv_at hl 1 rfl) ?_
          refine lv_aload_n (pc := 43) hx hb dX7_offOf_43 rfl (lv_at hl 2 rfl) ?_
          refine lv_iload_n (pc := 44) hx hb dX7_offOf_44 rfl (lv_at hl 3 rfl) ?_
          refine zv_iconst (pc := 45) (n := 1) hx hb dX7_offOf_45 ?_
          refine z_V (pc := 46) (As := [.int (zI si), .int (zI 1)]) (rest := [.int (zI (fa (89 + 3 * si + 0))), .ref z]) (wn := (fun _ => [(z, .inr (7, [.ref r0, .ref r1, .ref r2, .ref r3, .ref r4, .int (zI km), .int (zI th), .ref r7, .int (zI bu), .int (zI pa), .int (zI pb), .int (zI ki), .int (zI nu), .int (zI wr), .int (zI wa), .int (zI ea), .long (zL px32), .long (zL py32), .long (zL ph32), .long (zL ps32), .ref r20, .int (zI go), .int (zI iT), .int (zI iM), .int (zI iK), .ref r25, .int (zI wm), .int (zI tm), .int (zI (zb te))])), (r0, .inl (zk G 0, 179, .inl (zA fa)))])) (wr := []) F (kX7_inSight G l z r0 r1 r2 r3 r4 km th r7 bu pa pb ki nu wr wa ea px32 py32 ph32 ps32 r20 go iT iM iK r25 wm tm te fa si 1 (by first | assumption | omega) (by first | assumption | omega) (by first | assumption | omega) (by first | assumption | omega)) (cwV 2 hts gX7_offOf_X7_inSight rfl rfl rfl (by decide +kernel) ⟨Nat.le_of_ble_eq_true rfl, Nat.le_of_ble_eq_true rfl⟩) hW 0 rfl rfl [0, 1] [] (by decide) rfl rfl rfl (by decide) (by decide) [0, 1] (by decide) (fun _ => rfl) (fun _ => rfl) rfl hl.1 rfl (Nat.le_of_ble_eq_true rfl) dX7_offOf_46 ⟨Nat.le_of_ble_eq_true rfl, Nat.le_of_ble_eq_true rfl⟩ (fun _ H locs _ hW => ?_)
          show W p l e _ s m args below meth c H locs _ _ _ (F0 m 49 ls [.int (zI (fa (89 + 3 * si + 1))), .int (zI (fa (89 + 3 * si + 0))), .ref z])
          refine lv_aload_n (pc := 49) hx hb dX7_offOf_49 rfl (lv_at hl 2 rfl) ?_
          refine lv_iload_n (pc := 50) hx hb dX7_offOf_50 rfl (lv_at hl 3 rfl) ?_
          refine zv_iconst (pc := 51) (n := 2) hx hb dX7_offOf_51 ?_
          refine z_V (pc := 52) (As := [.int (zI si), .int (zI 2)]) (rest := [.int (zI (fa (89 + 3 * si + 1))), .int (zI (fa (89 + 3 * si + 0))), .ref z]) (wn := (fun _ => [(z, .inr (7, [.ref r0, .ref r1, .ref r2, .ref r3, .ref r4, .int (zI km), .int (zI th), .ref r7, .int (zI bu), .int (zI pa), .int (zI pb), .int (zI ki), .int (zI nu), .int (zI wr), .int (zI wa), .int (zI ea), .long (zL px32), .long (zL py32), .long (zL ph32), .long (zL ps32), .ref r20, .int (zI go), .int (zI iT), .int (zI iM), .int (zI iK), .ref r25, .int (zI wm), .int (zI tm), .int (zI (zb te))])), (r0, .inl (zk G 0, 179, .inl (zA fa)))])) (wr := []) F (kX7_inSight G l z r0 r1 r2 r3 r4 km th r7 bu pa pb ki nu wr wa ea px32 py32 ph32 ps32 r20 go iT iM iK r25 wm tm te fa si 2 (by first | assumption | omega) (by first | assumption | omega) (by first | assumption | omega) (by first | assumption | omega)) (cwV 2 hts gX7_offOf_X7_inSight rfl rfl rfl (by decide +kernel) ⟨Nat.le_of_ble_eq_true rfl, Nat.le_of_ble_eq_true rfl⟩) hW 0 rfl rfl [0, 1] [] (by decide) rfl rfl rfl (by decide) (by decide) [0, 1] (by decide) (fun _ => rfl) (fun _ => rfl) rfl hl.1 rfl (Nat.le_of_ble_eq_true rfl) dX7_offOf_52 ⟨Nat.le_of_ble_eq_true rfl, Nat.le_of_ble_eq_true rfl⟩ (fun _ H locs _ hW => ?_)
          show W p l e _ s m args below meth c H locs _ _ _ (F0 m 55 ls [.int (zI (fa (89 + 3 * si + 2))), .int (zI (fa (89 + 3 * si + 1))), .int (zI (fa (89 + 3 * si + 0))), .ref z])
          refine lv_iload_n (pc := 55) hx hb dX7_offOf_55 rfl (lv_at hl 0 rfl) ?_
          refine zv_iadd (pc := 56) hx hb dX7_offOf_56 ?_
          refine z_V (pc := 57) (As := [.int (zI (fa (89 + 3 * si + 0))), .int (zI (fa (89 + 3 * si + 1))), .int (zI ((fa (89 + 3 * si + 2)) + d))]) (rest := []) (wn := (fun u57 => [(z, .inr (7, [.ref r0, .ref r1, .ref r2, .ref r3, .ref r4, .int (zI km), .int (zI th), .ref r7, .int (zI bu), .int (zI pa), .int (zI pb), .int (zI ki), .int (zI nu), .int (zI wr), .int (zI wa), .int (zI ea), .long (zL u57.1), .long (zL u57.2.1), .long (zL u57.2.2.1), .long (zL u57.2.2.2), .ref r20, .int (zI go), .int (zI iT), .int (zI iM), .int (zI iK), .ref r25, .int (zI wm), .int (zI tm), .int (zI (zb te))])), (r0, .inl (zk G 0, 179, .inl (zA fa)))])) (wr := []) F (kX7_isThere G l z r0 r1 r2 r3 r4 km th r7 bu pa pb ki nu wr wa ea px32 py32 ph32 ps32 r20 go iT iM iK r25 wm tm te fa (fa (89 + 3 * si + 0)) (fa (89 + 3 * si + 1)) ((fa (89 + 3 * si + 2)) + d) (by first | assumption | omega) (by first | assumption | omega) (by first | assumption | omega) (by first | assumption | omega) (by first | assumption | omega) (by first | assumption | omega) (by first | assumption | omega)) (cwV 3 hts gX7_offOf_X7_isThere rfl rfl rfl (by decide +kernel) ⟨Nat.le_of_ble_eq_true rfl, Nat.le_of_ble_eq_true rfl⟩) hW 0 rfl rfl [0, 1] [] (by decide) rfl rfl rfl (by decide) (by decide) [0, 1] (by decide) (fun _ => rfl) (fun _ => rfl) rfl hl.1 rfl (Nat.le_of_ble_eq_true rfl) dX7_offOf_57 ⟨Nat.le_of_ble_eq_true rfl, Nat.le_of_ble_eq_true rfl⟩ (fun u57 H locs _ hW => ?_)
          obtain ⟨px57, py57, ph57, ps57⟩ := u57
          show W p l e _ s m args below meth c H locs _ _ _ (F0 m 60 ls [.int (zI (zb (zth (fa 0) (fa 1) (fa 2) (ya fa (fa (89 + 3 * si + 0))) (fa (89 + 3 * si + 1)) ((fa (89 + 3 * si + 2)) + d))))])
          refine zv_b_eq (pc := 60) (tgt := 65) hx hb dX7_offOf_60 (by decide) (fun c60 => ?_) (fun c60 => ?_)
          · refine zv_iinc (pc := 65) (lv' := [(3, .int (zI (d + 1))), (2, .int (zI (fa (89 + 3 * si + 0)))), (0, .ref z), (1, .int (zI si))]) hx hb dX7_offOf_65 hl (k := 0) rfl (by decide) rfl (fun ls hl => ?_)
            refine lv_goto (pc := 68) (tgt := 9) hx hb dX7_offOf_68 (by decide) ?_
            exact ih9 (d + 1) px57 py57 ph57 ps57 (by omega) (by omega) (by first | rfl | (rw [← hk]; exact (zoff_next (by omega) c35 c60).symm)) (by omega) _ _ _ hW (lv_sub hl [0, 1, 2, 3] rfl)
          · refine lv_iload_n (pc := 63) hx hb dX7_offOf_63 rfl (lv_at hl 0 rfl) ?_
            refine zv_as (pc := 64) (a := d) (b := yoff fa si) (by first | (rw [← hk]; exact (zoff_hit1 (by omega) c35).symm) | (rw [← hk]; exact (zoff_hit2 (by omega) c35 c60).symm) | (rw [← hk, show (401 - d).toNat = 0 by omega]; rfl)) ?_
            exact ze_i (pc := 64) hx hb hr hlk hW (px57, py57, ph57, ps57) rfl trivial rfl dX7_offOf_64
        · refine lv_iload_n (pc := 38) hx hb dX7_offOf_38 rfl (lv_at hl 0 rfl) ?_
          refine zv_ineg (pc := 39) hx hb dX7_offOf_39 ?_
          refine zv_as (pc := 40) (a := -d) (b := yoff fa si) (by first | (rw [← hk]; exact (zoff_hit1 (by omega) c35).symm) | (rw [← hk]; exact (zoff_hit2 (by omega) c35 c60).symm) | (rw [← hk, show (401 - d).toNat = 0 by omega]; rfl)) ?_
          exact ze_i (pc := 40) hx hb hr hlk hW (px32, py32, ph32, ps32) rfl trivial rfl dX7_offOf_40
  exact J9 (((401 - 0 : Int).toNat) + 1) 0 lx ly lh lz (by omega) (by omega) (by first | rfl | (rw [← hk]; exact (zoff_next (by omega) c35 c60).symm)) (Nat.lt_succ_self _) _ _ _ hW (lv_sub hl [0, 1, 2, 3] rfl)

set_option maxHeartbeats 4000000 in
set_option maxRecDepth 100000 in
/-- burdenOf -/
theorem kX7_burdenOf (G : zG) (l : Launch) (z : Nat) (r0 : Nat) (r1 : Nat) (r2 : Nat) (r3 : Nat) (r4 : Nat) (km : Int) (th : Int) (r7 : Nat) (bu : Int) (pa : Int) (pb : Int) (ki : Int) (nu : Int) (wr : Int) (wa : Int) (ea : Int) (lx : Int) (ly : Int) (lh : Int) (lz : Int) (r20 : Nat) (go : Int) (iT : Int) (iM : Int) (iK : Int) (r25 : Nat) (wm : Int) (tm : Int) (te : Bool) (fa : Int → Int) (mo : Int) (hv : yval fa) (mo1 : -2147483648 ≤ mo) (mo2 : mo ≤ 2147483647) : zM G l yX7_burdenOf wsX7_burdenOf { frames := 8, cells := 0, slots := 0, locals := 187 } [.ref z, .int (zI mo)] [(z, .inr (7, [.ref r0, .ref r1, .ref r2, .ref r3, .ref r4, .int (zI km), .int (zI th), .ref r7, .int (zI bu), .int (zI pa), .int (zI pb), .int (zI ki), .int (zI nu), .int (zI wr), .int (zI wa), .int (zI ea), .long (zL lx), .long (zL ly), .long (zL lh), .long (zL lz), .ref r20, .int (zI go), .int (zI iT), .int (zI iM), .int (zI iK), .ref r25, .int (zI wm), .int (zI tm), .int (zI (zb te))])), (r0, .inl (zk G 0, 179, .inl (zA fa)))] (S := Int × Int × Int × Int) (zri (fun u => ybur fa mo)) (fun u => True) (fun u => [(z, .inr (7, [.ref r0, .ref r1, .ref r2, .ref r3, .ref r4, .int (zI km), .int (zI th), .ref r7, .int (zI bu), .int (zI pa), .int (zI pb), .int (zI ki), .int (zI nu), .int (zI wr), .int (zI wa), .int (zI ea), .long (zL u.1), .long (zL u.2.1), .long (zL u.2.2.1), .long (zL u.2.2.2), .ref r20, .int (zI go), .int (zI iT), .int (zI iM), .int (zI iK), .ref r25, .int (zI wm), .int (zI tm), .int (zI (zb te))])), (r0, .inl (zk G 0, 179, .inl (zA fa)))]) 0 0 := by
  refine zM.of (cc := cX7_burdenOf) (maxL := 5) (ret := (some .int)) (by decide) rfl (Nat.le_of_ble_eq_true rfl) (l0 := [(0, .ref z), (1, .int (zI mo))]) rfl ?_
  intro p e s m args below meth c ls F hr hlk hnm hW hl
  obtain ⟨hx, hb, hml, hown, hts⟩ := id F
  have hin7 : ∀ w ∈ wsX70, w ∈ wsX7_burdenOf := fun _ h => List.mem_cons_of_mem _ (List.mem_append_right _ (h))
  obtain ⟨⟨⟨vp1, vp2⟩, ⟨vd1, vd2⟩, ⟨ve1, ve2⟩, ⟨vm1, vm2⟩, ⟨vs1, vs2⟩⟩, vmo, vsi⟩ := id hv
  refine zv_iconst (pc := 0) (n := 0) hx hb dX7_burdenOf_0 ?_
  refine lv_istore_n (pc := 1) (lv' := [(2, .int (zI 0)), (0, .ref z), (1, .int (zI mo))]) hx hb dX7_burdenOf_1 rfl hl (by decide) rfl (fun ls hl => ?_)
  refine zv_iconst (pc := 2) (n := 0) hx hb dX7_burdenOf_2 ?_
  refine lv_istore_n (pc := 3) (lv' := [(3, .int (zI 0)), (2, .int (zI 0)), (0, .ref z), (1, .int (zI mo))]) hx hb dX7_burdenOf_3 rfl hl (by decide) rfl (fun ls hl => ?_)
  have J4 : ∀ (fuel4 : Nat) (n : Int) (k : Int) (px8 : Int) (py8 : Int) (ph8 : Int) (ps8 : Int) (n0 : 0 ≤ n) (k0 : 0 ≤ k) (k1 : k ≤ fa 4) (hk : n + zsum (ybur1 fa mo) k (fa 4) = ybur fa mo) (hfu4 : (fa 4 - k).toNat < fuel4) (H : Heap) (locs : List Loc) (ls : Array Slot) (hW : zW G (va_A [(z, .inr (7, [.ref r0, .ref r1, .ref r2, .ref r3, .ref r4, .int (zI km), .int (zI th), .ref r7, .int (zI bu), .int (zI pa), .int (zI pb), .int (zI ki), .int (zI nu), .int (zI wr), .int (zI wa), .int (zI ea), .long (zL lx), .long (zL ly), .long (zL lh), .long (zL lz), .ref r20, .int (zI go), .int (zI iT), .int (zI iM), .int (zI iK), .ref r25, .int (zI wm), .int (zI tm), .int (zI (zb te))])), (r0, .inl (zk G 0, 179, .inl (zA fa)))] s.heap.size) s H locs [(z, .inr (7, [.ref r0, .ref r1, .ref r2, .ref r3, .ref r4, .int (zI km), .int (zI th), .ref r7, .int (zI bu), .int (zI pa), .int (zI pb), .int (zI ki), .int (zI nu), .int (zI wr), .int (zI wa), .int (zI ea), .long (zL px8), .long (zL py8), .long (zL ph8), .long (zL ps8), .ref r20, .int (zI go), .int (zI iT), .int (zI iM), .int (zI iK), .ref r25, .int (zI wm), .int (zI tm), .int (zI (zb te))])), (r0, .inl (zk G 0, 179, .inl (zA fa)))]) (hl : lv_has ls 5 [(3, .int (zI k)), (2, .int (zI n)), (0, .ref z), (1, .int (zI mo))]), W p l e ({ frames := 8, cells := 0, slots := 0, locals := 187 } : Room) s m args below meth c H locs 0 0 (MQ below (zQ (S := Int × Int × Int × Int) (zri (fun u => ybur fa mo)) (fun u => True) (zPost G [(z, .inr (7, [.ref r0, .ref r1, .ref r2, .ref r3, .ref r4, .int (zI km), .int (zI th), .ref r7, .int (zI bu), .int (zI pa), .int (zI pb), .int (zI ki), .int (zI nu), .int (zI wr), .int (zI wa), .int (zI ea), .long (zL lx), .long (zL ly), .long (zL lh), .long (zL lz), .ref r20, .int (zI go), .int (zI iT), .int (zI iM), .int (zI iK), .ref r25, .int (zI wm), .int (zI tm), .int (zI (zb te))])), (r0, .inl (zk G 0, 179, .inl (zA fa)))] s.heap.size (fun u => [(z, .inr (7, [.ref r0, .ref r1, .ref r2, .ref r3, .ref r4, .int (zI km), .int (zI th), .ref r7, .int (zI bu), .int (zI pa), .int (zI pb), .int (zI ki), .int (zI nu), .int (zI wr), .int (zI wa), .int (zI ea), .long (zL u.1), .long (zL u.2.1), .long (zL u.2.2.1), .long (zL u.2.2.2), .ref r20, .int (zI go), .int (zI iT), .int (zI iM), .int (zI iK), .ref r25, .int (zI wm), .int (zI tm), .int (zI (zb te))])), (r0, .inl (zk G 0, 179, .inl (zA fa)))])) (va_A [(z, .inr (7, [.ref r0, .ref r1, .ref r2, .ref r3, .ref r4, .int (zI km), .int (zI th), .ref r7, .int (zI bu), .int (zI pa), .int (zI pb), .int (zI ki), .int (zI nu), .int (zI wr), .int (zI wa), .int (zI ea), .long (zL lx), .long (zL ly), .long (zL lh), .long (zL lz), .ref r20, .int (zI go), .int (zI iT), .int (zI iM), .int (zI iK), .ref r25, .int (zI wm), .int (zI tm), .int (zI (zb te))])), (r0, .inl (zk G 0, 179, .inl (zA fa)))] s.heap.size)) args s 0 0 (va_A [(z, .inr (7, [.ref r0, .ref r1, .ref r2, .ref r3, .ref r4, .int (zI km), .int (zI th), .ref r7, .int (zI bu), .int (zI pa), .int (zI pb), .int (zI ki), .int (zI nu), .int (zI wr), .int (zI wa), .int (zI ea), .long (zL lx), .long (zL ly), .long (zL lh), .long (zL lz), .ref r20, .int (zI go), .int (zI iT), .int (zI iM), .int (zI iK), .ref r25, .int (zI wm), .int (zI tm), .int (zI (zb te))])), (r0, .inl (zk G 0, 179, .inl (zA fa)))] s.heap.size)) (F0 m 4 ls []) := by
    intro fuel4
    induction fuel4 with
    | zero =>
      intro n k px8 py8 ph8 ps8 n0 k0 k1 hk hfu4
      exact absurd hfu4 (Nat.not_lt_zero _)
    | succ fuel4 ih4 =>
      intro n k px8 py8 ph8 ps8 n0 k0 k1 hk hfu4 H locs ls hW hl
      refine lv_iload_n (pc := 4) hx hb dX7_burdenOf_4 rfl (lv_at hl 0 rfl) ?_
      refine lv_aload_n (pc := 5) hx hb dX7_burdenOf_5 rfl (lv_at hl 2 rfl) ?_
      refine zw_get (pc := 6) (ref := RX7) (index := 7) hx hb hts hin7 hown hW 0 rfl rfl 0 (by decide) (List.mem_of_getElem? (i := 1) rfl) (fun _ h9 => h9) rfl dX7_burdenOf_6 ?_
      refine zv_iconst (pc := 9) (n := 4) hx hb dX7_burdenOf_9 ?_
      refine zw_iald (pc := 10) hx hb hW 1 rfl (by omega) (by omega) (by decide) dX7_burdenOf_10 ?_
      refine zv_icmp_ge (pc := 11) (tgt := 70) hx hb dX7_burdenOf_11 (by decide) ⟨by omega, by omega⟩ ⟨by omega, by omega⟩ (fun c11 => ?_) (fun c11 => ?_)
      · refine lv_iload_n (pc := 70) hx hb dX7_burdenOf_70 rfl (lv_at hl 1 rfl) ?_
        refine zv_as (pc := 71) (a := n) (b := ybur fa mo) (by rw [← hk, zsum_end c11]; omega) ?_
        exact ze_i (pc := 71) hx hb hr hlk hW (px8, py8, ph8, ps8) rfl trivial rfl dX7_burdenOf_71
      · obtain ⟨⟨s1, s2⟩, ⟨s3, s4⟩, ⟨s5, s6⟩⟩ := vsi k k0 c11
        have hb1 := ybur1_in fa mo k
        have hzb := zsum_b (f := ybur1 fa mo) (i := k + 1) (e := fa 4) (b := 401) (by omega) (ybur1_in fa mo) (by omega)
        rw [zsum_next c11] at hk
        refine lv_aload_n (pc := 14) hx hb dX7_burdenOf_14 rfl (lv_at hl 2 rfl) ?_
        refine lv_iload_n (pc := 15) hx hb dX7_burdenOf_15 rfl (lv_at hl 0 rfl) ?_
        refine zv_iconst (pc := 16) (n := 0) hx hb dX7_burdenOf_16 ?_
        refine z_V (pc := 17) (As := [.int (zI k), .int (zI 0)]) (rest := []) (wn := (fun _ => [(z, .inr (7, [.ref r0, .ref r1, .ref r2, .ref r3, .ref r4, .int (zI km), .int (zI th), .ref r7, .int (zI bu), .int (zI pa), .int (zI pb), .int (zI ki), .int (zI nu), .int (zI wr), .int (zI wa), .int (zI ea), .long (zL px8), .long (zL py8), .long (zL ph8), .long (zL ps8), .ref r20, .int (zI go), .int (zI iT), .int (zI iM), .int (zI iK), .ref r25, .int (zI wm), .int (zI tm), .int (zI (zb te))])), (r0, .inl (zk G 0, 179, .inl (zA fa)))])) (wr := []) F (kX7_inSight G l z r0 r1 r2 r3 r4 km th r7 bu pa pb ki nu wr wa ea px8 py8 ph8 ps8 r20 go iT iM iK r25 wm tm te fa k 0 (by first | assumption | omega) (by first | assumption | omega) (by first | assumption | omega) (by first | assumption | omega)) (cwV 2 hts gX7_burdenOf_X7_inSight rfl rfl rfl (by decide +kernel) ⟨Nat.le_of_ble_eq_true rfl, Nat.le_of_ble_eq_true rfl⟩) hW 0 rfl rfl [0, 1] [] (by decide) rfl rfl rfl (by decide) (by decide) [0, 1] (by decide) (fun _ => rfl) (fun _ => rfl) rfl hl.1 rfl (Nat.le_of_ble_eq_true rfl) dX7_burdenOf_17 ⟨Nat.le_of_ble_eq_true rfl, Nat.le_of_ble_eq_true rfl⟩ (fun _ H locs _ hW => ?_)
        show W p l e _ s m args below meth c H locs _ _ _ (F0 m 20 ls [.int (zI (fa (89 + 3 * k + 0)))])
        refine lv_iload_n (pc := 20) hx hb dX7_burdenOf_20 rfl (lv_at hl 3 rfl) ?_
        refine zv_icmp_eq (pc := 21) (tgt := 27) hx hb dX7_burdenOf_21 (by decide) ⟨by omega, by omega⟩ ⟨by omega, by omega⟩ (fun c21 => ?_) (fun c21 => ?_)
        · refine lv_aload_n (pc := 27) hx hb dX7_burdenOf_27 rfl (lv_at hl 2 rfl) ?_
          refine lv_iload_n (pc := 28) hx hb dX7_burdenOf_28 rfl (lv_at hl 0 rfl) ?_
          refine z_V (pc := 29) (As := [.int (zI k)]) (rest := []) (wn := (fun u29 => [(z, .inr (7, [.ref r0, .ref r1, .ref r2, .ref r3, .ref r4, .int (zI km), .int (zI th), .ref r7, .int (zI bu), .int (zI pa), .int (zI pb), .int (zI ki), .int (zI nu), .int (zI wr), .int (zI wa), .int (zI ea), .long (zL u29.1), .long (zL u29.2.1), .long (zL u29.2.2.1), .long (zL u29.2.2.2), .ref r20, .int (zI go), .int (zI iT), .int (zI iM), .int (zI iK), .ref r25, .int (zI wm), .int (zI tm), .int (zI (zb te))])), (r0, .inl (zk G 0, 179, .inl (zA fa)))])) (wr := []) F (kX7_offOf G l z r0 r1 r2 r3 r4 km th r7 bu pa pb ki nu wr wa ea px8 py8 ph8 ps8 r20 go iT iM iK r25 wm tm te fa k (by first | assumption | omega) (by first | assumption | omega) (by first | assumption | omega)) (cwV 1 hts gX7_burdenOf_X7_offOf rfl rfl rfl (by decide +kernel) ⟨Nat.le_of_ble_eq_true rfl, Nat.le_of_ble_eq_true rfl⟩) hW 0 rfl rfl [0, 1] [] (by decide) rfl rfl rfl (by decide) (by decide) [0, 1] (by decide) (fun _ => rfl) (fun _ => rfl) rfl hl.1 rfl (Nat.le_of_ble_eq_true rfl) dX7_burdenOf_29 ⟨Nat.le_of_ble_eq_true rfl, Nat.le_of_ble_eq_true rfl⟩ (fun u29 H locs _ hW => ?_)
          obtain ⟨px29, py29, ph29, ps29⟩ := u29
          show W p l e _ s m args below meth c H locs _ _ _ (F0 m 32 ls [.int (zI (yoff fa k))])
          have of29 := zoff_in (zth (fa 0) (fa 1) (fa 2) (ya fa (fa (89 + 3 * k + 0))) (fa (89 + 3 * k + 1))) (fa (89 + 3 * k + 2))
          have of29 : yoff fa k = -1000000 ∨ (-401 ≤ yoff fa k ∧ yoff fa k ≤ 401) := of29
          refine lv_istore (pc := 32) (lv' := [(4, .int (zI (yoff fa k))), (3, .int (zI k)), (2, .int (zI n)), (0, .ref z), (1, .int (zI mo))]) hx hb dX7_burdenOf_32 hl (by decide) rfl (fun ls hl => ?_)
          refine lv_iload_n (pc := 34) hx hb dX7_burdenOf_34 rfl (lv_at hl 2 rfl) ?_
          refine lv_iload (pc := 35) hx hb dX7_burdenOf_35 (lv_at hl 0 rfl) ?_
          have J62 : ∀ (cz : Int) (hcz : cz = zcost (yoff fa k)) (hcz0 : 0 ≤ cz ∧ cz ≤ 401) (H : Heap) (locs : List Loc) (ls : Array Slot) (hW : zW G (va_A [(z, .inr (7, [.ref r0, .ref r1, .ref r2, .ref r3, .ref r4, .int (zI km), .int (zI th), .ref r7, .int (zI bu), .int (zI pa), .int (zI pb), .int (zI ki), .int (zI nu), .int (zI wr), .int (zI wa), .int (zI ea), .long (zL lx), .long (zL ly), .long (zL lh), .long (zL lz), .ref r20, .int (zI go), .int (zI iT), .int (zI iM), .int (zI iK), .ref r25, .int (zI wm), .int (zI tm), .int (zI (zb te))])), (r0, .inl (zk G 0, 179, .inl (zA fa)))] s.heap.size) s H locs [(z, .inr (7, [.ref r0, .ref r1, .ref r2, .ref r3, .ref r4, .int (zI km), .int (zI th), .ref r7, .int (zI bu), .int (zI pa), .int (zI pb), .int (zI ki), .int (zI nu), .int (zI wr), .int (zI wa), .int (zI ea), .long (zL px29), .long (zL py29), .long (zL ph29), .long (zL ps29), .ref r20, .int (zI go), .int (zI iT), .int (zI iM), .int (zI iK), .ref r25, .int (zI wm), .int (zI tm), .int (zI (zb te))])), (r0, .inl (zk G 0, 179, .inl (zA fa)))]) (hl : lv_has ls 5 [(4, .int (zI (yoff fa k))), (3, .int (zI k)), (2, .int (zI n)), (0, .ref z), (1, .int (zI mo))]), W p l e ({ frames := 8, cells := 0, slots := 0, locals := 187 } : Room) s m args below meth c H locs 0 0 (MQ below (zQ (S := Int × Int × Int × Int) (zri (fun u => ybur fa mo)) (fun u => True) (zPost G [(z, .inr (7, [.ref r0, .ref r1, .ref r2, .ref r3, .ref r4, .int (zI km), .int (zI th), .ref r7, .int (zI bu), .int (zI pa), .int (zI pb), .int (zI ki), .int (zI nu), .int (zI wr), .int (zI wa), .int (zI ea), .long (zL lx), .long (zL ly), .long (zL lh), .long (zL lz), .ref r20, .int (zI go), .int (zI iT), .int (zI iM), .int (zI iK), .ref r25, .int (zI wm), .int (zI tm), .int (zI (zb te))])), (r0, .inl (zk G 0, 179, .inl (zA fa)))] s.heap.size (fun u => [(z, .inr (7, [.ref r0, .ref r1, .ref r2, .ref r3, .ref r4, .int (zI km), .int (zI th), .ref r7, .int (zI bu), .int (zI pa), .int (zI pb), .int (zI ki), .int (zI nu), .int (zI wr), .int (zI wa), .int (zI ea), .long (zL u.1), .long (zL u.2.1), .long (zL u.2.2.1), .long (zL u.2.2.2), .ref r20, .int (zI go), .int (zI iT), .int (zI iM), .int (zI iK), .ref r25, .int (zI wm), .int (zI tm), .int (zI (zb te))])), (r0, .inl (zk G 0, 179, .inl (zA fa)))])) (va_A [(z, .inr (7, [.ref r0, .ref r1, .ref r2, .ref r3, .ref r4, .int (zI km), .int (zI th), .ref r7, .int (zI bu), .int (zI pa), .int (zI pb), .int (zI ki), .int (zI nu), .int (zI wr), .int (zI wa), .int (zI ea), .long (zL lx), .long (zL ly), .long (zL lh), .long (zL lz), .ref r20, .int (zI go), .int (zI iT), .int (zI iM), .int (zI iK), .ref r25, .int (zI wm), .int (zI tm), .int (zI (zb te))])), (r0, .inl (zk G 0, 179, .inl (zA fa)))] s.heap.size)) args s 0 0 (va_A [(z, .inr (7, [.ref r0, .ref r1, .ref r2, .ref r3, .ref r4, .int (zI km), .int (zI th), .ref r7, .int (zI bu), .int (zI pa), .int (zI pb), .int (zI ki), .int (zI nu), .int (zI wr), .int (zI wa), .int (zI ea), .long (zL lx), .long (zL ly), .long (zL lh), .long (zL lz), .ref r20, .int (zI go), .int (zI iT), .int (zI iM), .int (zI iK), .ref r25, .int (zI wm), .int (zI tm), .int (zI (zb te))])), (r0, .inl (zk G 0, 179, .inl (zA fa)))] s.heap.size)) (F0 m 62 ls [.int (zI cz), .int (zI n)]) := by
            intro cz hcz hcz0 H locs ls hW hl
            refine zv_iadd (pc := 62) hx hb dX7_burdenOf_62 ?_
            refine zv_name (fun v63 hv63 => ?_)
            refine lv_istore_n (pc := 63) (lv' := [(2, .int (zI v63)), (4, .int (zI (yoff fa k))), (3, .int (zI k)), (0, .ref z), (1, .int (zI mo))]) hx hb dX7_burdenOf_63 rfl hl (by decide) rfl (fun ls hl => ?_)
            refine zv_iinc (pc := 64) (lv' := [(3, .int (zI (k + 1))), (2, .int (zI v63)), (4, .int (zI (yoff fa k))), (0, .ref z), (1, .int (zI mo))]) hx hb dX7_burdenOf_64 hl (k := 2) rfl (by decide) rfl (fun ls hl => ?_)
            refine lv_goto (pc := 67) (tgt := 4) hx hb dX7_burdenOf_67 (by decide) ?_
            exact ih4 v63 (k + 1) px29 py29 ph29 ps29 (by omega) (by omega) (by omega) (by first | (rw [Int.zero_add]; rfl) | (rw [show ybur1 fa mo k = 0 from if_neg c21] at hk; omega) | (rw [show ybur1 fa mo k = cz from by rw [hcz]; exact if_pos c21] at hk; omega)) (by omega) _ _ _ hW (lv_sub hl [0, 1, 3, 4] rfl)
          refine zv_ldcw (pc := 37) (v := (-1000000)) hx hb hown (hts _ (List.mem_of_getElem? (i := 2) rfl)) rfl dX7_burdenOf_37 ?_
          refine zv_icmp_ne (pc := 40) (tgt := 49) hx hb dX7_burdenOf_40 (by decide) ⟨by omega, by omega⟩ ⟨by omega, by omega⟩ (fun c40 => ?_) (fun c40 => ?_)
          · refine lv_iload (pc := 49) hx hb dX7_burdenOf_49 (lv_at hl 0 rfl) ?_
            refine zv_if_ge (pc := 51) (tgt := 60) hx hb dX7_burdenOf_51 (by decide) ⟨by omega, by omega⟩ (fun c51 => ?_) (fun c51 => ?_)
            · refine lv_iload (pc := 60) hx hb dX7_burdenOf_60 (lv_at hl 0 rfl) ?_
              exact J62 (yoff fa k) (by unfold zcost; first | rw [if_pos c40] | (rw [if_neg c40]; unfold zabs; first | rw [if_pos (by omega)] | rw [if_neg (by omega)])) (by omega) _ _ _ hW (lv_sub hl [0, 1, 2, 3, 4] rfl)
            · refine lv_iload (pc := 54) hx hb dX7_burdenOf_54 (lv_at hl 0 rfl) ?_
              refine zv_ineg (pc := 56) hx hb dX7_burdenOf_56 ?_
              refine lv_goto (pc := 57) (tgt := 62) hx hb dX7_burdenOf_57 (by decide) ?_
              exact J62 (-(yoff fa k)) (by unfold zcost; first | rw [if_pos c40] | (rw [if_neg c40]; unfold zabs; first | rw [if_pos (by omega)] | rw [if_neg (by omega)])) (by omega) _ _ _ hW (lv_sub hl [0, 1, 2, 3, 4] rfl)
          · refine zv_sipush (pc := 43) (n := 401) hx hb dX7_burdenOf_43 (by decide) ?_
            refine lv_goto (pc := 46) (tgt := 62) hx hb dX7_burdenOf_46 (by decide) ?_
            exact J62 401 (by unfold zcost; first | rw [if_pos c40] | (rw [if_neg c40]; unfold zabs; first | rw [if_pos (by omega)] | rw [if_neg (by omega)])) (by omega) _ _ _ hW (lv_sub hl [0, 1, 2, 3, 4] rfl)
        · refine lv_goto (pc := 24) (tgt := 64) hx hb dX7_burdenOf_24 (by decide) ?_
          refine zv_iinc (pc := 64) (lv' := [(3, .int (zI (k + 1))), (2, .int (zI n)), (0, .ref z), (1, .int (zI mo))]) hx hb dX7_burdenOf_64 hl (k := 0) rfl (by decide) rfl (fun ls hl => ?_)
          refine lv_goto (pc := 67) (tgt := 4) hx hb dX7_burdenOf_67 (by decide) ?_
          exact ih4 n (k + 1) px8 py8 ph8 ps8 (by omega) (by omega) (by omega) (by first | (rw [Int.zero_add]; rfl) | (rw [show ybur1 fa mo k = 0 from if_neg c21] at hk; omega) | (rw [show ybur1 fa mo k = cz from by rw [hcz]; exact if_pos c21] at hk; omega)) (by omega) _ _ _ hW (lv_sub hl [0, 1, 2, 3] rfl)
  exact J4 (((fa 4 - 0 : Int).toNat) + 1) 0 0 lx ly lh lz (by omega) (by omega) (by omega) (by first | (rw [Int.zero_add]; rfl) | (rw [show ybur1 fa mo k = 0 from if_neg c21] at hk; omega) | (rw [show ybur1 fa mo k = cz from by rw [hcz]; exact if_pos c21] at hk; omega)) (Nat.lt_succ_self _) _ _ _ hW (lv_sub hl [0, 1, 2, 3] rfl)

set_option maxHeartbeats 4000000 in
set_option maxRecDepth 100000 in
/-- lostOnes -/
theorem kX7_lostOnes (G : zG) (l : Launch) (z : Nat) (r0 : Nat) (r1 : Nat) (r2 : Nat) (r3 : Nat) (r4 : Nat) (km : Int) (th : Int) (r7 : Nat) (bu : Int) (pa : Int) (pb : Int) (ki : Int) (nu : Int) (wr : Int) (wa : Int) (ea : Int) (lx : Int) (ly : Int) (lh : Int) (lz : Int) (r20 : Nat) (go : Int) (iT : Int) (iM : Int) (iK : Int) (r25 : Nat) (wm : Int) (tm : Int) (te : Bool) (fa : Int → Int) (hv : yval fa) : zM G l yX7_lostOnes wsX7_lostOnes { frames := 8, cells := 0, slots := 0, locals := 187 } [.ref z] [(z, .inr (7, [.ref r0, .ref r1, .ref r2, .ref r3, .ref r4, .int (zI km), .int (zI th), .ref r7, .int (zI bu), .int (zI pa), .int (zI pb), .int (zI ki), .int (zI nu), .int (zI wr), .int (zI wa), .int (zI ea), .long (zL lx), .long (zL ly), .long (zL lh), .long (zL lz), .ref r20, .int (zI go), .int (zI iT), .int (zI iM), .int (zI iK), .ref r25, .int (zI wm), .int (zI tm), .int (zI (zb te))])), (r0, .inl (zk G 0, 179, .inl (zA fa)))] (S := Int × Int × Int × Int) (zri (fun u => ylost fa)) (fun u => True) (fun u => [(z, .inr (7, [.ref r0, .ref r1, .ref r2, .ref r3, .ref r4, .int (zI km), .int (zI th), .ref r7, .int (zI bu), .int (zI pa), .int (zI pb), .int (zI ki), .int (zI nu), .int (zI wr), .int (zI wa), .int (zI ea), .long (zL u.1), .long (zL u.2.1), .long (zL u.2.2.1), .long (zL u.2.2.2), .ref r20, .int (zI go), .int (zI iT), .int (zI iM), .int (zI iK), .ref r25, .int (zI wm), .int (zI tm), .int (zI (zb te))])), (r0, .inl (zk G 0, 179, .inl (zA fa)))]) 0 0 := by
  refine zM.of (cc := cX7_lostOnes) (maxL := 3) (ret := (some .int)) (by decide) rfl (Nat.le_of_ble_eq_true rfl) (l0 := [(0, .ref z)]) rfl ?_
  intro p e s m args below meth c ls F hr hlk hnm hW hl
  obtain ⟨hx, hb, hml, hown, hts⟩ := id F
  have hin7 : ∀ w ∈ wsX70, w ∈ wsX7_lostOnes := fun _ h => List.mem_cons_of_mem _ (List.mem_append_right _ (h))
  obtain ⟨⟨⟨vp1, vp2⟩, ⟨vd1, vd2⟩, ⟨ve1, ve2⟩, ⟨vm1, vm2⟩, ⟨vs1, vs2⟩⟩, vmo, vsi⟩ := id hv
  refine zv_iconst (pc := 0) (n := 0) hx hb dX7_lostOnes_0 ?_
  refine lv_istore_n (pc := 1) (lv' := [(1, .int (zI 0)), (0, .ref z)]) hx hb dX7_lostOnes_1 rfl hl (by decide) rfl (fun ls hl => ?_)
  refine zv_iconst (pc := 2) (n := 0) hx hb dX7_lostOnes_2 ?_
  refine lv_istore_n (pc := 3) (lv' := [(2, .int (zI 0)), (1, .int (zI 0)), (0, .ref z)]) hx hb dX7_lostOnes_3 rfl hl (by decide) rfl (fun ls hl => ?_)
  have J4 : ∀ (fuel4 : Nat) (n : Int) (k : Int) (px8 : Int) (py8 : Int) (ph8 : Int) (ps8 : Int) (n0 : 0 ≤ n) (n1 : n ≤ k) (k0 : 0 ≤ k) (k1 : k ≤ fa 4) (hk : n + zcnt (fun j => decide (yoff fa j = -1000000)) k (fa 4) = ylost fa) (hfu4 : (fa 4 - k).toNat < fuel4) (H : Heap) (locs : List Loc) (ls : Array Slot) (hW : zW G (va_A [(z, .inr (7, [.ref r0, .ref r1, .ref r2, .ref r3, .ref r4, .int (zI km), .int (zI th), .ref r7, .int (zI bu), .int (zI pa), .int (zI pb), .int (zI ki), .int (zI nu), .int (zI wr), .int (zI wa), .int (zI ea), .long (zL lx), .long (zL ly), .long (zL lh), .long (zL lz), .ref r20, .int (zI go), .int (zI iT), .int (zI iM), .int (zI iK), .ref r25, .int (zI wm), .int (zI tm), .int (zI (zb te))])), (r0, .inl (zk G 0, 179, .inl (zA fa)))] s.heap.size) s H locs [(z, .inr (7, [.ref r0, .ref r1, .ref r2, .ref r3, .ref r4, .int (zI km), .int (zI th), .ref r7, .int (zI bu), .int (zI pa), .int (zI pb), .int (zI ki), .int (zI nu), .int (zI wr), .int (zI wa), .int (zI ea), .long (zL px8), .long (zL py8), .long (zL ph8), .long (zL ps8), .ref r20, .int (zI go), .int (zI iT), .int (zI iM), .int (zI iK), .ref r25, .int (zI wm), .int (zI tm), .int (zI (zb te))])), (r0, .inl (zk G 0, 179, .inl (zA fa)))]) (hl : lv_has ls 3 [(2, .int (zI k)), (1, .int (zI n)), (0, .ref z)]), W p l e ({ frames := 8, cells := 0, slots := 0, locals := 187 } : Room) s m args below meth c H locs 0 0 (MQ below (zQ (S := Int × Int × Int × Int) (zri (fun u => ylost fa)) (fun u => True) (zPost G [(z, .inr (7, [.ref r0, .ref r1, .ref r2, .ref r3, .ref r4, .int (zI km), .int (zI th), .ref r7, .int (zI bu), .int (zI pa), .int (zI pb), .int (zI ki), .int (zI nu), .int (zI wr), .int (zI wa), .int (zI ea), .long (zL lx), .long (zL ly), .long (zL lh), .long (zL lz), .ref r20, .int (zI go), .int (zI iT), .int (zI iM), .int (zI iK), .ref r25, .int (zI wm), .int (zI tm), .int (zI (zb te))])), (r0, .inl (zk G 0, 179, .inl (zA fa)))] s.heap.size (fun u => [(z, .inr (7, [.ref r0, .ref r1, .ref r2, .ref r3, .ref r4, .int (zI km), .int (zI th), .ref r7, .int (zI bu), .int (zI pa), .int (zI pb), .int (zI ki), .int (zI nu), .int (zI wr), .int (zI wa), .int (zI ea), .long (zL u.1), .long (zL u.2.1), .long (zL u.2.2.1), .long (zL u.2.2.2), .ref r20, .int (zI go), .int (zI iT), .int (zI iM), .int (zI iK), .ref r25, .int (zI wm), .int (zI tm), .int (zI (zb te))])), (r0, .inl (zk G 0, 179, .inl (zA fa)))])) (va_A [(z, .inr (7, [.ref r0, .ref r1, .ref r2, .ref r3, .ref r4, .int (zI km), .int (zI th), .ref r7, .int (zI bu), .int (zI pa), .int (zI pb), .int (zI ki), .int (zI nu), .int (zI wr), .int (zI wa), .int (zI ea), .long (zL lx), .long (zL ly), .long (zL lh), .long (zL lz), .ref r20, .int (zI go), .int (zI iT), .int (zI iM), .int (zI iK), .ref r25, .int (zI wm), .int (zI tm), .int (zI (zb te))])), (r0, .inl (zk G 0, 179, .inl (zA fa)))] s.heap.size)) args s 0 0 (va_A [(z, .inr (7, [.ref r0, .ref r1, .ref r2, .ref r3, .ref r4, .int (zI km), .int (zI th), .ref r7, .int (zI bu), .int (zI pa), .int (zI pb), .int (zI ki), .int (zI nu), .int (zI wr), .int (zI wa), .int (zI ea), .long (zL lx), .long (zL ly), .long (zL lh), .long (zL lz), .ref r20, .int (zI go), .int (zI iT), .int (zI iM), .int (zI iK), .ref r25, .int (zI wm), .int (zI tm), .int (zI (zb te))])), (r0, .inl (zk G 0, 179, .inl (zA fa)))] s.heap.size)) (F0 m 4 ls []) := by
    intro fuel4
    induction fuel4 with
    | zero =>
      intro n k px8 py8 ph8 ps8 n0 n1 k0 k1 hk hfu4
      exact absurd hfu4 (Nat.not_lt_zero _)
    | succ fuel4 ih4 =>
      intro n k px8 py8 ph8 ps8 n0 n1 k0 k1 hk hfu4 H locs ls hW hl
      refine lv_iload_n (pc := 4) hx hb dX7_lostOnes_4 rfl (lv_at hl 0 rfl) ?_
      refine lv_aload_n (pc := 5) hx hb dX7_lostOnes_5 rfl (lv_at hl 2 rfl) ?_
      refine zw_get (pc := 6) (ref := RX7) (index := 7) hx hb hts hin7 hown hW 0 rfl rfl 0 (by decide) (List.mem_of_getElem? (i := 1) rfl) (fun _ h9 => h9) rfl dX7_lostOnes_6 ?_
      refine zv_iconst (pc := 9) (n := 4) hx hb dX7_lostOnes_9 ?_
      refine zw_iald (pc := 10) hx hb hW 1 rfl (by omega) (by omega) (by decide) dX7_lostOnes_10 ?_
      refine zv_icmp_ge (pc := 11) (tgt := 39) hx hb dX7_lostOnes_11 (by decide) ⟨by omega, by omega⟩ ⟨by omega, by omega⟩ (fun c11 => ?_) (fun c11 => ?_)
      · refine lv_iload_n (pc := 39) hx hb dX7_lostOnes_39 rfl (lv_at hl 1 rfl) ?_
        refine zv_as (pc := 40) (a := n) (b := ylost fa) (by rw [← hk, zcnt_end c11]; omega) ?_
        exact ze_i (pc := 40) hx hb hr hlk hW (px8, py8, ph8, ps8) rfl trivial rfl dX7_lostOnes_40
      · have hzb := zcnt_rng (q := fun j => decide (yoff fa j = -1000000)) (i := k + 1) (e := fa 4)
        refine lv_iload_n (pc := 14) hx hb dX7_lostOnes_14 rfl (lv_at hl 1 rfl) ?_
        refine lv_aload_n (pc := 15) hx hb dX7_lostOnes_15 rfl (lv_at hl 2 rfl) ?_
        refine lv_iload_n (pc := 16) hx hb dX7_lostOnes_16 rfl (lv_at hl 0 rfl) ?_
        refine z_V (pc := 17) (As := [.int (zI k)]) (rest := [.int (zI n)]) (wn := (fun u17 => [(z, .inr (7, [.ref r0, .ref r1, .ref r2, .ref r3, .ref r4, .int (zI km), .int (zI th), .ref r7, .int (zI bu), .int (zI pa), .int (zI pb), .int (zI ki), .int (zI nu), .int (zI wr), .int (zI wa), .int (zI ea), .long (zL u17.1), .long (zL u17.2.1), .long (zL u17.2.2.1), .long (zL u17.2.2.2), .ref r20, .int (zI go), .int (zI iT), .int (zI iM), .int (zI iK), .ref r25, .int (zI wm), .int (zI tm), .int (zI (zb te))])), (r0, .inl (zk G 0, 179, .inl (zA fa)))])) (wr := []) F (kX7_offOf G l z r0 r1 r2 r3 r4 km th r7 bu pa pb ki nu wr wa ea px8 py8 ph8 ps8 r20 go iT iM iK r25 wm tm te fa k (by first | assumption | omega) (by first | assumption | omega) (by first | assumption | omega)) (cwV 1 hts gX7_lostOnes_X7_offOf rfl rfl rfl (by decide +kernel) ⟨Nat.le_of_ble_eq_true rfl, Nat.le_of_ble_eq_true rfl⟩) hW 0 rfl rfl [0, 1] [] (by decide) rfl rfl rfl (by decide) (by decide) [0, 1] (by decide) (fun _ => rfl) (fun _ => rfl) rfl hl.1 rfl (Nat.le_of_ble_eq_true rfl) dX7_lostOnes_17 ⟨Nat.le_of_ble_eq_true rfl, Nat.le_of_ble_eq_true rfl⟩ (fun u17 H locs _ hW => ?_)
        obtain ⟨px17, py17, ph17, ps17⟩ := u17
        show W p l e _ s m args below meth c H locs _ _ _ (F0 m 20 ls [.int (zI (yoff fa k)), .int (zI n)])
        have of17 := zoff_in (zth (fa 0) (fa 1) (fa 2) (ya fa (fa (89 + 3 * k + 0))) (fa (89 + 3 * k + 1))) (fa (89 + 3 * k + 2))
        have of17 : yoff fa k = -1000000 ∨ (-401 ≤ yoff fa k ∧ yoff fa k ≤ 401) := of17
        have J30 : ∀ (b : Int) (b0 : 0 ≤ b ∧ b ≤ 1) (hk30 : n + b + zcnt (fun j => decide (yoff fa j = -1000000)) (k + 1) (fa 4) = ylost fa) (H : Heap) (locs : List Loc) (ls : Array Slot) (hW : zW G (va_A [(z, .inr (7, [.ref r0, .ref r1, .ref r2, .ref r3, .ref r4, .int (zI km), .int (zI th), .ref r7, .int (zI bu), .int (zI pa), .int (zI pb), .int (zI ki), .int (zI nu), .int (zI wr), .int (zI wa), .int (zI ea), .long (zL lx), .long (zL ly), .long (zL lh), .long (zL lz), .ref r20, .int (zI go), .int (zI iT), .int (zI iM), .int (zI iK), .ref r25, .int (zI wm), .int (zI tm), .int (zI (zb te))])), (r0, .inl (zk G 0, 179, .inl (zA fa)))] s.heap.size) s H locs [(z, .inr (7, [.ref r0, .ref r1, .ref r2, .ref r3, .ref r4, .int (zI km), .int (zI th), .ref r7, .int (zI bu), .int (zI pa), .int (zI pb), .int (zI ki), .int (zI nu), .int (zI wr), .int (zI wa), .int (zI ea), .long (zL px17), .long (zL py17), .long (zL ph17), .long (zL ps17), .ref r20, .int (zI go), .int (zI iT), .int (zI iM), .int (zI iK), .ref r25, .int (zI wm), .int (zI tm), .int (zI (zb te))])), (r0, .inl (zk G 0, 179, .inl (zA fa)))]) (hl : lv_has ls 3 [(2, .int (zI k)), (1, .int (zI n)), (0, .ref z)]), W p l e ({ frames := 8, cells := 0, slots := 0, locals := 187 } : Room) s m args below meth c H locs 0 0 (MQ below (zQ (S := Int × Int × Int × Int) (zri (fun u => ylost fa)) (fun u => True) (zPost G [(z, .inr (7, [.ref r0, .ref r1, .ref r2, .ref r3, .ref r4, .int (zI km), .int (zI th), .ref r7, .int (zI bu), .int (zI pa), .int (zI pb), .int (zI ki), .int (zI nu), .int (zI wr), .int (zI wa), .int (zI ea), .long (zL lx), .long (zL ly), .long (zL lh), .long (zL lz), .ref r20, .int (zI go), .int (zI iT), .int (zI iM), .int (zI iK), .ref r25, .int (zI wm), .int (zI tm), .int (zI (zb te))])), (r0, .inl (zk G 0, 179, .inl (zA fa)))] s.heap.size (fun u => [(z, .inr (7, [.ref r0, .ref r1, .ref r2, .ref r3, .ref r4, .int (zI km), .int (zI th), .ref r7, .int (zI bu), .int (zI pa), .int (zI pb), .int (zI ki), .int (zI nu), .int (zI wr), .int (zI wa), .int (zI ea), .long (zL u.1), .long (zL u.2.1), .long (zL u.2.2.1), .long (zL u.2.2.2), .ref r20, .int (zI go), .int (zI iT), .int (zI iM), .int (zI iK), .ref r25, .int (zI wm), .int (zI tm), .int (zI (zb te))])), (r0, .inl (zk G 0, 179, .inl (zA fa)))])) (va_A [(z, .inr (7, [.ref r0, .ref r1, .ref r2, .ref r3, .ref r4, .int (zI km), .int (zI th), .ref r7, .int (zI bu), .int (zI pa), .int (zI pb), .int (zI ki), .int (zI nu), .int (zI wr), .int (zI wa), .int (zI ea), .long (zL lx), .long (zL ly), .long (zL lh), .long (zL lz), .ref r20, .int (zI go), .int (zI iT), .int (zI iM), .int (zI iK), .ref r25, .int (zI wm), .int (zI tm), .int (zI (zb te))])), (r0, .inl (zk G 0, 179, .inl (zA fa)))] s.heap.size)) args s 0 0 (va_A [(z, .inr (7, [.ref r0, .ref r1, .ref r2, .ref r3, .ref r4, .int (zI km), .int (zI th), .ref r7, .int (zI bu), .int (zI pa), .int (zI pb), .int (zI ki), .int (zI nu), .int (zI wr), .int (zI wa), .int (zI ea), .long (zL lx), .long (zL ly), .long (zL lh), .long (zL lz), .ref r20, .int (zI go), .int (zI iT), .int (zI iM), .int (zI iK), .ref r25, .int (zI wm), .int (zI tm), .int (zI (zb te))])), (r0, .inl (zk G 0, 179, .inl (zA fa)))] s.heap.size)) (F0 m 30 ls [.int (zI b), .int (zI n)]) := by
          intro b b0 hk30 H locs ls hW hl
          refine zv_iconst (pc := 30) (n := 0) hx hb dX7_lostOnes_30 ?_
          refine zv_iadd (pc := 31) hx hb dX7_lostOnes_31 ?_
          refine zv_name (fun v32 hv32 => ?_)
          refine lv_istore_n (pc := 32) (lv' := [(1, .int (zI v32)), (2, .int (zI k)), (0, .ref z)]) hx hb dX7_lostOnes_32 rfl hl (by decide) rfl (fun ls hl => ?_)
          refine zv_iinc (pc := 33) (lv' := [(2, .int (zI (k + 1))), (1, .int (zI v32)), (0, .ref z)]) hx hb dX7_lostOnes_33 hl (k := 1) rfl (by decide) rfl (fun ls hl => ?_)
          refine lv_goto (pc := 36) (tgt := 4) hx hb dX7_lostOnes_36 (by decide) ?_
          exact ih4 v32 (k + 1) px17 py17 ph17 ps17 (by omega) (by omega) (by omega) (by omega) (by first | (rw [Int.zero_add]; rfl) | exact hk30) (by omega) _ _ _ hW (lv_sub hl [0, 1, 2] rfl)
        refine zv_ldcw (pc := 20) (v := (-1000000)) hx hb hown (hts _ (List.mem_of_getElem? (i := 2) rfl)) rfl dX7_lostOnes_20 ?_
        refine zv_icmp_ne (pc := 23) (tgt := 30) hx hb dX7_lostOnes_23 (by decide) ⟨by omega, by omega⟩ ⟨by omega, by omega⟩ (fun c23 => ?_) (fun c23 => ?_)
        · exact J30 _ (by omega) (by first | (rw [zcnt_yes c11 (decide_eq_true c23)] at hk; omega) | (rw [zcnt_no c11 (decide_eq_false c23)] at hk; omega)) _ _ _ hW (lv_sub hl [0, 1, 2] rfl)
        · refine zv_iconst (pc := 26) (n := 1) hx hb dX7_lostOnes_26 ?_
          refine lv_goto (pc := 27) (tgt := 31) hx hb dX7_lostOnes_27 (by decide) ?_
          refine zv_iadd (pc := 31) hx hb dX7_lostOnes_31 ?_
          refine zv_name (fun v32 hv32 => ?_)
          refine lv_istore_n (pc := 32) (lv' := [(1, .int (zI v32)), (2, .int (zI k)), (0, .ref z)]) hx hb dX7_lostOnes_32 rfl hl (by decide) rfl (fun ls hl => ?_)
          refine zv_iinc (pc := 33) (lv' := [(2, .int (zI (k + 1))), (1, .int (zI v32)), (0, .ref z)]) hx hb dX7_lostOnes_33 hl (k := 1) rfl (by decide) rfl (fun ls hl => ?_)
          refine lv_goto (pc := 36) (tgt := 4) hx hb dX7_lostOnes_36 (by decide) ?_
          exact ih4 v32 (k + 1) px17 py17 ph17 ps17 (by omega) (by omega) (by omega) (by omega) (by first | (rw [Int.zero_add]; rfl) | exact hk30) (by omega) _ _ _ hW (lv_sub hl [0, 1, 2] rfl)
  exact J4 (((fa 4 - 0 : Int).toNat) + 1) 0 0 lx ly lh lz (by omega) (by omega) (by omega) (by omega) (by first | (rw [Int.zero_add]; rfl) | exact hk30) (Nat.lt_succ_self _) _ _ _ hW (lv_sub hl [0, 1, 2] rfl)

set_option maxHeartbeats 4000000 in
set_option maxRecDepth 100000 in
/-- sightsOf -/
theorem kX7_sightsOf (G : zG) (l : Launch) (z : Nat) (r0 : Nat) (r1 : Nat) (r2 : Nat) (r3 : Nat) (r4 : Nat) (km : Int) (th : Int) (r7 : Nat) (bu : Int) (pa : Int) (pb : Int) (ki : Int) (nu : Int) (wr : Int) (wa : Int) (ea : Int) (lx : Int) (ly : Int) (lh : Int) (lz : Int) (r20 : Nat) (go : Int) (iT : Int) (iM : Int) (iK : Int) (r25 : Nat) (wm : Int) (tm : Int) (te : Bool) (fa : Int → Int) (mo : Int) (hv : yval fa) (mo1 : -2147483648 ≤ mo) (mo2 : mo ≤ 2147483647) : zM G l yX7_sightsOf wsX7_sightsOf { frames := 1, cells := 0, slots := 0, locals := 22 } [.ref z, .int (zI mo)] [(z, .inr (7, [.ref r0, .ref r1, .ref r2, .ref r3, .ref r4, .int (zI km), .int (zI th), .ref r7, .int (zI bu), .int (zI pa), .int (zI pb), .int (zI ki), .int (zI nu), .int (zI wr), .int (zI wa), .int (zI ea), .long (zL lx), .long (zL ly), .long (zL lh), .long (zL lz), .ref r20, .int (zI go), .int (zI iT), .int (zI iM), .int (zI iK), .ref r25, .int (zI wm), .int (zI tm), .int (zI (zb te))])), (r0, .inl (zk G 0, 179, .inl (zA fa)))] (S := Unit) (zri (fun _ => ysights fa mo)) (fun _ => True) (fun _ => [(z, .inr (7, [.ref r0, .ref r1, .ref r2, .ref r3, .ref r4, .int (zI km), .int (zI th), .ref r7, .int (zI bu), .int (zI pa), .int (zI pb), .int (zI ki), .int (zI nu), .int (zI wr), .int (zI wa), .int (zI ea), .long (zL lx), .long (zL ly), .long (zL lh), .long (zL lz), .ref r20, .int (zI go), .int (zI iT), .int (zI iM), .int (zI iK), .ref r25, .int (zI wm), .int (zI tm), .int (zI (zb te))])), (r0, .inl (zk G 0, 179, .inl (zA fa)))]) 0 0 := by
  refine zM.of (cc := cX7_sightsOf) (maxL := 4) (ret := (some .int)) (by decide) rfl (Nat.le_of_ble_eq_true rfl) (l0 := [(0, .ref z), (1, .int (zI mo))]) rfl ?_
  intro p e s m args below meth c ls F hr hlk hnm hW hl
  obtain ⟨hx, hb, hml, hown, hts⟩ := id F
  have hin7 : ∀ w ∈ wsX70, w ∈ wsX7_sightsOf := fun _ h => List.mem_cons_of_mem _ (List.mem_append_right _ (h))
  obtain ⟨⟨⟨vp1, vp2⟩, ⟨vd1, vd2⟩, ⟨ve1, ve2⟩, ⟨vm1, vm2⟩, ⟨vs1, vs2⟩⟩, vmo, vsi⟩ := id hv
  refine zv_iconst (pc := 0) (n := 0) hx hb dX7_sightsOf_0 ?_
  refine lv_istore_n (pc := 1) (lv' := [(2, .int (zI 0)), (0, .ref z), (1, .int (zI mo))]) hx hb dX7_sightsOf_1 rfl hl (by decide) rfl (fun ls hl => ?_)
  refine zv_iconst (pc := 2) (n := 0) hx hb dX7_sightsOf_2 ?_
  refine lv_istore_n (pc := 3) (lv' := [(3, .int (zI 0)), (2, .int (zI 0)), (0, .ref z), (1, .int (zI mo))]) hx hb dX7_sightsOf_3 rfl hl (by decide) rfl (fun ls hl => ?_)
  have J4 : ∀ (fuel4 : Nat) (n : Int) (k : Int) (n0 : 0 ≤ n) (n1 : n ≤ k) (k0 : 0 ≤ k) (k1 : k ≤ fa 4) (hk : n + zcnt (fun j => decide (fa (89 + 3 * j + 0) = mo)) k (fa 4) = ysights fa mo) (hfu4 : (fa 4 - k).toNat < fuel4) (H : Heap) (locs : List Loc) (ls : Array Slot) (hW : zW G (va_A [(z, .inr (7, [.ref r0, .ref r1, .ref r2, .ref r3, .ref r4, .int (zI km), .int (zI th), .ref r7, .int (zI bu), .int (zI pa), .int (zI pb), .int (zI ki), .int (zI nu), .int (zI wr), .int (zI wa), .int (zI ea), .long (zL lx), .long (zL ly), .long (zL lh), .long (zL lz), .ref r20, .int (zI go), .int (zI iT), .int (zI iM), .int (zI iK), .ref r25, .int (zI wm), .int (zI tm), .int (zI (zb te))])), (r0, .inl (zk G 0, 179, .inl (zA fa)))] s.heap.size) s H locs [(z, .inr (7, [.ref r0, .ref r1, .ref r2, .ref r3, .ref r4, .int (zI km), .int (zI th), .ref r7, .int (zI bu), .int (zI pa), .int (zI pb), .int (zI ki), .int (zI nu), .int (zI wr), .int (zI wa), .int (zI ea), .long (zL lx), .long (zL ly), .long (zL lh), .long (zL lz), .ref r20, .int (zI go), .int (zI iT), .int (zI iM), .int (zI iK), .ref r25, .int (zI wm), .int (zI tm), .int (zI (zb te))])), (r0, .inl (zk G 0, 179, .inl (zA fa)))]) (hl : lv_has ls 4 [(3, .int (zI k)), (2, .int (zI n)), (0, .ref z), (1, .int (zI mo))]), W p l e ({ frames := 1, cells := 0, slots := 0, locals := 22 } : Room) s m args below meth c H locs 0 0 (MQ below (zQ (S := Unit) (zri (fun _ => ysights fa mo)) (fun _ => True) (zPost G [(z, .inr (7, [.ref r0, .ref r1, .ref r2, .ref r3, .ref r4, .int (zI km), .int (zI th), .ref r7, .int (zI bu), .int (zI pa), .int (zI pb), .int (zI ki), .int (zI nu), .int (zI wr), .int (zI wa), .int (zI ea), .long (zL lx), .long (zL ly), .long (zL lh), .long (zL lz), .ref r20, .int (zI go), .int (zI iT), .int (zI iM), .int (zI iK), .ref r25, .int (zI wm), .int (zI tm), .int (zI (zb te))])), (r0, .inl (zk G 0, 179, .inl (zA fa)))] s.heap.size (fun _ => [(z, .inr (7, [.ref r0, .ref r1, .ref r2, .ref r3, .ref r4, .int (zI km), .int (zI th), .ref r7, .int (zI bu), .int (zI pa), .int (zI pb), .int (zI ki), .int (zI nu), .int (zI wr), .int (zI wa), .int (zI ea), .long (zL lx), .long (zL ly), .long (zL lh), .long (zL lz), .ref r20, .int (zI go), .int (zI iT), .int (zI iM), .int (zI iK), .ref r25, .int (zI wm), .int (zI tm), .int (zI (zb te))])), (r0, .inl (zk G 0, 179, .inl (zA fa)))])) (va_A [(z, .inr (7, [.ref r0, .ref r1, .ref r2, .ref r3, .ref r4, .int (zI km), .int (zI th), .ref r7, .int (zI bu), .int (zI pa), .int (zI pb), .int (zI ki), .int (zI nu), .int (zI wr), .int (zI wa), .int (zI ea), .long (zL lx), .long (zL ly), .long (zL lh), .long (zL lz), .ref r20, .int (zI go), .int (zI iT), .int (zI iM), .int (zI iK), .ref r25, .int (zI wm), .int (zI tm), .int (zI (zb te))])), (r0, .inl (zk G 0, 179, .inl (zA fa)))] s.heap.size)) args s 0 0 (va_A [(z, .inr (7, [.ref r0, .ref r1, .ref r2, .ref r3, .ref r4, .int (zI km), .int (zI th), .ref r7, .int (zI bu), .int (zI pa), .int (zI pb), .int (zI ki), .int (zI nu), .int (zI wr), .int (zI wa), .int (zI ea), .long (zL lx), .long (zL ly), .long (zL lh), .long (zL lz), .ref r20, .int (zI go), .int (zI iT), .int (zI iM), .int (zI iK), .ref r25, .int (zI wm), .int (zI tm), .int (zI (zb te))])), (r0, .inl (zk G 0, 179, .inl (zA fa)))] s.heap.size)) (F0 m 4 ls []) := by
    intro fuel4
    induction fuel4 with
    | zero =>
      intro n k n0 n1 k0 k1 hk hfu4
      exact absurd hfu4 (Nat.not_lt_zero _)
    | succ fuel4 ih4 =>
      intro n k n0 n1 k0 k1 hk hfu4 H locs ls hW hl
      refine lv_iload_n (pc := 4) hx hb dX7_sightsOf_4 rfl (lv_at hl 0 rfl) ?_
      refine lv_aload_n (pc := 5) hx hb dX7_sightsOf_5 rfl (lv_at hl 2 rfl) ?_
      refine zw_get (pc := 6) (ref := RX7) (index := 7) hx hb hts hin7 hown hW 0 rfl rfl 0 (by decide) (List.mem_of_getElem? (i := 1) rfl) (fun _ h9 => h9) rfl dX7_sightsOf_6 ?_
      refine zv_iconst (pc := 9) (n := 4) hx hb dX7_sightsOf_9 ?_
      refine zw_iald (pc := 10) hx hb hW 1 rfl (by omega) (by omega) (by decide) dX7_sightsOf_10 ?_
      refine zv_icmp_ge (pc := 11) (tgt := 38) hx hb dX7_sightsOf_11 (by decide) ⟨by omega, by omega⟩ ⟨by omega, by omega⟩ (fun c11 => ?_) (fun c11 => ?_)
      · refine lv_iload_n (pc := 38) hx hb dX7_sightsOf_38 rfl (lv_at hl 1 rfl) ?_
        refine zv_as (pc := 39) (a := n) (b := ysights fa mo) (by rw [← hk, zcnt_end c11]; omega) ?_
        exact ze_i (pc := 39) hx hb hr hlk hW () rfl trivial rfl dX7_sightsOf_39
      · obtain ⟨⟨s1, s2⟩, ⟨s3, s4⟩, ⟨s5, s6⟩⟩ := vsi k k0 c11
        refine lv_iload_n (pc := 14) hx hb dX7_sightsOf_14 rfl (lv_at hl 1 rfl) ?_
        refine lv_aload_n (pc := 15) hx hb dX7_sightsOf_15 rfl (lv_at hl 2 rfl) ?_
        refine lv_iload_n (pc := 16) hx hb dX7_sightsOf_16 rfl (lv_at hl 0 rfl) ?_
        refine zv_iconst (pc := 17) (n := 0) hx hb dX7_sightsOf_17 ?_
        refine z_V (pc := 18) (As := [.int (zI k), .int (zI 0)]) (rest := [.int (zI n)]) (wn := (fun _ => [(z, .inr (7, [.ref r0, .ref r1, .ref r2, .ref r3, .ref r4, .int (zI km), .int (zI th), .ref r7, .int (zI bu), .int (zI pa), .int (zI pb), .int (zI ki), .int (zI nu), .int (zI wr), .int (zI wa), .int (zI ea), .long (zL lx), .long (zL ly), .long (zL lh), .long (zL lz), .ref r20, .int (zI go), .int (zI iT), .int (zI iM), .int (zI iK), .ref r25, .int (zI wm), .int (zI tm), .int (zI (zb te))])), (r0, .inl (zk G 0, 179, .inl (zA fa)))])) (wr := []) F (kX7_inSight G l z r0 r1 r2 r3 r4 km th r7 bu pa pb ki nu wr wa ea lx ly lh lz r20 go iT iM iK r25 wm tm te fa k 0 (by first | assumption | omega) (by first | assumption | omega) (by first | assumption | omega) (by first | assumption | omega)) (cwV 2 hts gX7_sightsOf_X7_inSight rfl rfl rfl (by decide +kernel) ⟨Nat.le_of_ble_eq_true rfl, Nat.le_of_ble_eq_true rfl⟩) hW 0 rfl rfl [0, 1] [] (by decide) rfl rfl rfl (by decide) (by decide) [0, 1] (by decide) (fun _ => rfl) (fun _ => rfl) rfl hl.1 rfl (Nat.le_of_ble_eq_true rfl) dX7_sightsOf_18 ⟨Nat.le_of_ble_eq_true rfl, Nat.le_of_ble_eq_true rfl⟩ (fun _ H locs _ hW => ?_)
        show W p l e _ s m args below meth c H locs _ _ _ (F0 m 21 ls [.int (zI (fa (89 + 3 * k + 0))), .int (zI n)])
        have J30 : ∀ (b : Int) (b0 : 0 ≤ b ∧ b ≤ 1) (hk30 : n + b + zcnt (fun j => decide (fa (89 + 3 * j + 0) = mo)) (k + 1) (fa 4) = ysights fa mo) (H : Heap) (locs : List Loc) (ls : Array Slot) (hW : zW G (va_A [(z, .inr (7, [.ref r0, .ref r1, .ref r2, .ref r3, .ref r4, .int (zI km), .int (zI th), .ref r7, .int (zI bu), .int (zI pa), .int (zI pb), .int (zI ki), .int (zI nu), .int (zI wr), .int (zI wa), .int (zI ea), .long (zL lx), .long (zL ly), .long (zL lh), .long (zL lz), .ref r20, .int (zI go), .int (zI iT), .int (zI iM), .int (zI iK), .ref r25, .int (zI wm), .int (zI tm), .int (zI (zb te))])), (r0, .inl (zk G 0, 179, .inl (zA fa)))] s.heap.size) s H locs [(z, .inr (7, [.ref r0, .ref r1, .ref r2, .ref r3, .ref r4, .int (zI km), .int (zI th), .ref r7, .int (zI bu), .int (zI pa), .int (zI pb), .int (zI ki), .int (zI nu), .int (zI wr), .int (zI wa), .int (zI ea), .long (zL lx), .long (zL ly), .long (zL lh), .long (zL lz), .ref r20, .int (zI go), .int (zI iT), .int (zI iM), .int (zI iK), .ref r25, .int (zI wm), .int (zI tm), .int (zI (zb te))])), (r0, .inl (zk G 0, 179, .inl (zA fa)))]) (hl : lv_has ls 4 [(3, .int (zI k)), (2, .int (zI n)), (0, .ref z), (1, .int (zI mo))]), W p l e ({ frames := 1, cells := 0, slots := 0, locals := 22 } : Room) s m args below meth c H locs 0 0 (MQ below (zQ (S := Unit) (zri (fun _ => ysights fa mo)) (fun _ => True) (zPost G [(z, .inr (7, [.ref r0, .ref r1, .ref r2, .ref r3, .ref r4, .int (zI km), .int (zI th), .ref r7, .int (zI bu), .int (zI pa), .int (zI pb), .int (zI ki), .int (zI nu), .int (zI wr), .int (zI wa), .int (zI ea), .long (zL lx), .long (zL ly), .long (zL lh), .long (zL lz), .ref r20, .int (zI go), .int (zI iT), .int (zI iM), .int (zI iK), .ref r25, .int (zI wm), .int (zI tm), .int (zI (zb te))])), (r0, .inl (zk G 0, 179, .inl (zA fa)))] s.heap.size (fun _ => [(z, .inr (7, [.ref r0, .ref r1, .ref r2, .ref r3, .ref r4, .int (zI km), .int (zI th), .ref r7, .int (zI bu), .int (zI pa), .int (zI pb), .int (zI ki), .int (zI nu), .int (zI wr), .int (zI wa), .int (zI ea), .long (zL lx), .long (zL ly), .long (zL lh), .long (zL lz), .ref r20, .int (zI go), .int (zI iT), .int (zI iM), .int (zI iK), .ref r25, .int (zI wm), .int (zI tm), .int (zI (zb te))])), (r0, .inl (zk G 0, 179, .inl (zA fa)))])) (va_A [(z, .inr (7, [.ref r0, .ref r1, .ref r2, .ref r3, .ref r4, .int (zI km), .int (zI th), .ref r7, .int (zI bu), .int (zI pa), .int (zI pb), .int (zI ki), .int (zI nu), .int (zI wr), .int (zI wa), .int (zI ea), .long (zL lx), .long (zL ly), .long (zL lh), .long (zL lz), .ref r20, .int (zI go), .int (zI iT), .int (zI iM), .int (zI iK), .ref r25, .int (zI wm), .int (zI tm), .int (zI (zb te))])), (r0, .inl (zk G 0, 179, .inl (zA fa)))] s.heap.size)) args s 0 0 (va_A [(z, .inr (7, [.ref r0, .ref r1, .ref r2, .ref r3, .ref r4, .int (zI km), .int (zI th), .ref r7, .int (zI bu), .int (zI pa), .int (zI pb), .int (zI ki), .int (zI nu), .int (zI wr), .int (zI wa), .int (zI ea), .long (zL lx), .long (zL ly), .long (zL lh), .long (zL lz), .ref r20, .int (zI go), .int (zI iT), .int (zI iM), .int (zI iK), .ref r25, .int (zI wm), .int (zI tm), .int (zI (zb te))])), (r0, .inl (zk G 0, 179, .inl (zA fa)))] s.heap.size)) (F0 m 30 ls [.int (zI b), .int (zI n)]) := by
          intro b b0 hk30 H locs ls hW hl
          refine zv_iadd (pc := 30) hx hb dX7_sightsOf_30 ?_
          refine zv_name (fun v31 hv31 => ?_)
          refine lv_istore_n (pc := 31) (lv' := [(2, .int (zI v31)), (3, .int (zI k)), (0, .ref z), (1, .int (zI mo))]) hx hb dX7_sightsOf_31 rfl hl (by decide) rfl (fun ls hl => ?_)
          refine zv_iinc (pc := 32) (lv' := [(3, .int (zI (k + 1))), (2, .int (zI v31)), (0, .ref z), (1, .int (zI mo))]) hx hb dX7_sightsOf_32 hl (k := 1) rfl (by decide) rfl (fun ls hl => ?_)
          refine lv_goto (pc := 35) (tgt := 4) hx hb dX7_sightsOf_35 (by decide) ?_
          exact ih4 v31 (k + 1) (by omega) (by omega) (by omega) (by omega) (by first | (rw [Int.zero_add]; rfl) | exact hk30) (by omega) _ _ _ hW (lv_sub hl [0, 1, 2, 3] rfl)
        refine lv_iload_n (pc := 21) hx hb dX7_sightsOf_21 rfl (lv_at hl 3 rfl) ?_
        refine zv_icmp_ne (pc := 22) (tgt := 29) hx hb dX7_sightsOf_22 (by decide) ⟨by omega, by omega⟩ ⟨by omega, by omega⟩ (fun c22 => ?_) (fun c22 => ?_)
        · refine zv_iconst (pc := 29) (n := 0) hx hb dX7_sightsOf_29 ?_
          exact J30 0 (by omega) (by first | (rw [zcnt_yes c11 (decide_eq_true c22)] at hk; omega) | (rw [zcnt_no c11 (decide_eq_false c22)] at hk; omega)) _ _ _ hW (lv_sub hl [0, 1, 2, 3] rfl)
        · refine zv_iconst (pc := 25) (n := 1) hx hb dX7_sightsOf_25 ?_
          refine lv_goto (pc := 26) (tgt := 30) hx hb dX7_sightsOf_26 (by decide) ?_
          exact J30 1 (by omega) (by first | (rw [zcnt_yes c11 (decide_eq_true c22)] at hk; omega) | (rw [zcnt_no c11 (decide_eq_false c22)] at hk; omega)) _ _ _ hW (lv_sub hl [0, 1, 2, 3] rfl)
  exact J4 (((fa 4 - 0 : Int).toNat) + 1) 0 0 (by omega) (by omega) (by omega) (by omega) (by first | (rw [Int.zero_add]; rfl) | exact hk30) (Nat.lt_succ_self _) _ _ _ hW (lv_sub hl [0, 1, 2, 3] rfl)

set_option maxHeartbeats 4000000 in
set_option maxRecDepth 100000 in
/-- sightOf -/
theorem kX7_sightOf (G : zG) (l : Launch) (z : Nat) (r0 : Nat) (r1 : Nat) (r2 : Nat) (r3 : Nat) (r4 : Nat) (km : Int) (th : Int) (r7 : Nat) (bu : Int) (pa : Int) (pb : Int) (ki : Int) (nu : Int) (wr : Int) (wa : Int) (ea : Int) (lx : Int) (ly : Int) (lh : Int) (lz : Int) (r20 : Nat) (go : Int) (iT : Int) (iM : Int) (iK : Int) (r25 : Nat) (wm : Int) (tm : Int) (te : Bool) (fa : Int → Int) (mo : Int) (kd : Int) (t : Int) (vs1 : 0 ≤ fa 4) (vs2 : fa 4 ≤ 30) (hsn : ∀ j : Int, 0 ≤ j → j < fa 4 → zin (fa (89 + 3 * j + 0)) ∧ zin (fa (89 + 3 * j + 1)) ∧ zin (fa (89 + 3 * j + 2))) (mo1 : -2147483648 ≤ mo) (mo2 : mo ≤ 2147483647) (kd1 : -2147483648 ≤ kd) (kd2 : kd ≤ 2147483647) (t1 : -2147483648 ≤ t) (t2 : t ≤ 2147483647) : zM G l yX7_sightOf wsX7_sightOf { frames := 1, cells := 0, slots := 0, locals := 22 } [.ref z, .int (zI mo), .int (zI kd), .int (zI t)] [(z, .inr (7, [.ref r0, .ref r1, .ref r2, .ref r3, .ref r4, .int (zI km), .int (zI th), .ref r7, .int (zI bu), .int (zI pa), .int (zI pb), .int (zI ki), .int (zI nu), .int (zI wr), .int (zI wa), .int (zI ea), .long (zL lx), .long (zL ly), .long (zL lh), .long (zL lz), .ref r20, .int (zI go), .int (zI iT), .int (zI iM), .int (zI iK), .ref r25, .int (zI wm), .int (zI tm), .int (zI (zb te))])), (r0, .inl (zk G 0, 179, .inl (zA fa)))] (S := Unit) (zri (fun _ => ysightOf fa mo kd t)) (fun _ => True) (fun _ => [(z, .inr (7, [.ref r0, .ref r1, .ref r2, .ref r3, .ref r4, .int (zI km), .int (zI th), .ref r7, .int (zI bu), .int (zI pa), .int (zI pb), .int (zI ki), .int (zI nu), .int (zI wr), .int (zI wa), .int (zI ea), .long (zL lx), .long (zL ly), .long (zL lh), .long (zL lz), .ref r20, .int (zI go), .int (zI iT), .int (zI iM), .int (zI iK), .ref r25, .int (zI wm), .int (zI tm), .int (zI (zb te))])), (r0, .inl (zk G 0, 179, .inl (zA fa)))]) 0 0 := by
  refine zM.of (cc := cX7_sightOf) (maxL := 5) (ret := (some .int)) (by decide) rfl (Nat.le_of_ble_eq_true rfl) (l0 := [(0, .ref z), (1, .int (zI mo)), (2, .int (zI kd)), (3, .int (zI t))]) rfl ?_
  intro p e s m args below meth c ls F hr hlk hnm hW hl
  obtain ⟨hx, hb, hml, hown, hts⟩ := id F
  have hin7 : ∀ w ∈ wsX70, w ∈ wsX7_sightOf := fun _ h => List.mem_cons_of_mem _ (List.mem_append_right _ (h))
  refine zv_iconst (pc := 0) (n := 0) hx hb dX7_sightOf_0 ?_
  refine lv_istore (pc := 1) (lv' := [(4, .int (zI 0)), (0, .ref z), (1, .int (zI mo)), (2, .int (zI kd)), (3, .int (zI t))]) hx hb dX7_sightOf_1 hl (by decide) rfl (fun ls hl => ?_)
  have J3 : ∀ (fuel3 : Nat) (k : Int) (k0 : 0 ≤ k) (k1 : k ≤ fa 4) (hk : zfind (fun j => decide (fa (89 + 3 * j + 0) = mo) && (decide (fa (89 + 3 * j + 1) = kd) && decide (fa (89 + 3 * j + 2) = t))) k (fa 4) = ysightOf fa mo kd t) (hfu3 : (fa 4 - k).toNat < fuel3) (H : Heap) (locs : List Loc) (ls : Array Slot) (hW : zW G (va_A [(z, .inr (7, [.ref r0, .ref r1, .ref r2, .ref r3, .ref r4, .int (zI km), .int (zI th), .ref r7, .int (zI bu), .int (zI pa), .int (zI pb), .int (zI ki), .int (zI nu), .int (zI wr), .int (zI wa), .int (zI ea), .long (zL lx), .long (zL ly), .long (zL lh), .long (zL lz), .ref r20, .int (zI go), .int (zI iT), .int (zI iM), .int (zI iK), .ref r25, .int (zI wm), .int (zI tm), .int (zI (zb te))])), (r0, .inl (zk G 0, 179, .inl (zA fa)))] s.heap.size) s H locs [(z, .inr (7, [.ref r0, .ref r1, .ref r2, .ref r3, .ref r4, .int (zI km), .int (zI th), .ref r7, .int (zI bu), .int (zI pa), .int (zI pb), .int (zI ki), .int (zI nu), .int (zI wr), .int (zI wa), .int (zI ea), .long (zL lx), .long (zL ly), .long (zL lh), .long (zL lz), .ref r20, .int (zI go), .int (zI iT), .int (zI iM), .int (zI iK), .ref r25, .int (zI wm), .int (zI tm), .int (zI (zb te))])), (r0, .inl (zk G 0, 179, .inl (zA fa)))]) (hl : lv_has ls 5 [(4, .int (zI k)), (0, .ref z), (1, .int (zI mo)), (2, .int (zI kd)), (3, .int (zI t))]), W p l e ({ frames := 1, cells := 0, slots := 0, locals := 22 } : Room) s m args below meth c H locs 0 0 (MQ below (zQ (S := Unit) (zri (fun _ => ysightOf fa mo kd t)) (fun _ => True) (zPost G [(z, .inr (7, [.ref r0, .ref r1, .ref r2, .ref r3, .ref r4, .int (zI km), .int (zI th), .ref r7, .int (zI bu), .int (zI pa), .int (zI pb), .int (zI ki), .int (zI nu), .int (zI wr), .int (zI wa), .int (zI ea), .long (zL lx), .long (zL ly), .long (zL lh), .long (zL lz), .ref r20, .int (zI go), .int (zI iT), .int (zI iM), .int (zI iK), .ref r25, .int (zI wm), .int (zI tm), .int (zI (zb te))])), (r0, .inl (zk G 0, 179, .inl (zA fa)))] s.heap.size (fun _ => [(z, .inr (7, [.ref r0, .ref r1, .ref r2, .ref r3, .ref r4, .int (zI km), .int (zI th), .ref r7, .int (zI bu), .int (zI pa), .int (zI pb), .int (zI ki), .int (zI nu), .int (zI wr), .int (zI wa), .int (zI ea), .long (zL lx), .long (zL ly), .long (zL lh), .long (zL lz), .ref r20, .int (zI go), .int (zI iT), .int (zI iM), .int (zI iK), .ref r25, .int (zI wm), .int (zI tm), .int (zI (zb te))])), (r0, .inl (zk G 0, 179, .inl (zA fa)))])) (va_A [(z, .inr (7, [.ref r0, .ref r1, .ref r2, .ref r3, .ref r4, .int (zI km), .int (zI th), .ref r7, .int (zI bu), .int (zI pa), .int (zI pb), .int (zI ki), .int (zI nu), .int (zI wr), .int (zI wa), .int (zI ea), .long (zL lx), .long (zL ly), .long (zL lh), .long (zL lz), .ref r20, .int (zI go), .int (zI iT), .int (zI iM), .int (zI iK), .ref r25, .int (zI wm), .int (zI tm), .int (zI (zb te))])), (r0, .inl (zk G 0, 179, .inl (zA fa)))] s.heap.size)) args s 0 0 (va_A [(z, .inr (7, [.ref r0, .ref r1, .ref r2, .ref r3, .ref r4, .int (zI km), .int (zI th), .ref r7, .int (zI bu), .int (zI pa), .int (zI pb), .int (zI ki), .int (zI nu), .int (zI wr), .int (zI wa), .int (zI ea), .long (zL lx), .long (zL ly), .long (zL lh), .long (zL lz), .ref r20, .int (zI go), .int (zI iT), .int (zI iM), .int (zI iK), .ref r25, .int (zI wm), .int (zI tm), .int (zI (zb te))])), (r0, .inl (zk G 0, 179, .inl (zA fa)))] s.heap.size)) (F0 m 3 ls []) := by
    intro fuel3
    induction fuel3 with
    | zero =>
      intro k k0 k1 hk hfu3
      exact absurd hfu3 (Nat.not_lt_zero _)
    | succ fuel3 ih3 =>
      intro k k0 k1 hk hfu3 H locs ls hW hl
      refine lv_iload (pc := 3) hx hb dX7_sightOf_3 (lv_at hl 0 rfl) ?_
      refine lv_aload_n (pc := 5) hx hb dX7_sightOf_5 rfl (lv_at hl 1 rfl) ?_
      refine zw_get (pc := 6) (ref := RX7) (index := 7) hx hb hts hin7 hown hW 0 rfl rfl 0 (by decide) (List.mem_of_getElem? (i := 1) rfl) (fun _ h9 => h9) rfl dX7_sightOf_6 ?_
      refine zv_iconst (pc := 9) (n := 4) hx hb dX7_sightOf_9 ?_
      refine zw_iald (pc := 10) hx hb hW 1 rfl (by omega) (by omega) (by decide) dX7_sightOf_10 ?_
      refine zv_icmp_ge (pc := 11) (tgt := 56) hx hb dX7_sightOf_11 (by decide) ⟨by omega, by omega⟩ ⟨by omega, by omega⟩ (fun c11 => ?_) (fun c11 => ?_)
      · refine zv_iconst (pc := 56) (n := -1) hx hb dX7_sightOf_56 ?_
        refine zv_as (pc := 57) (a := (-1)) (b := ysightOf fa mo kd t) (by first | (rw [← hk, zfind_hit c11 (by simp [*])]) | (rw [← hk, zfind_end c11])) ?_
        exact ze_i (pc := 57) hx hb hr hlk hW () rfl trivial rfl dX7_sightOf_57
      · refine lv_aload_n (pc := 14) hx hb dX7_sightOf_14 rfl (lv_at hl 1 rfl) ?_
        refine lv_iload (pc := 15) hx hb dX7_sightOf_15 (lv_at hl 0 rfl) ?_
        refine zv_iconst (pc := 17) (n := 0) hx hb dX7_sightOf_17 ?_
        refine z_V (pc := 18) (As := [.int (zI k), .int (zI 0)]) (rest := []) (wn := (fun _ => [(z, .inr (7, [.ref r0, .ref r1, .ref r2, .ref r3, .ref r4, .int (zI km), .int (zI th), .ref r7, .int (zI bu), .int (zI pa), .int (zI pb), .int (zI ki), .int (zI nu), .int (zI wr), .int (zI wa), .int (zI ea), .long (zL lx), .long (zL ly), .long (zL lh), .long (zL lz), .ref r20, .int (zI go), .int (zI iT), .int (zI iM), .int (zI iK), .ref r25, .int (zI wm), .int (zI tm), .int (zI (zb te))])), (r0, .inl (zk G 0, 179, .inl (zA fa)))])) (wr := []) F (kX7_inSight G l z r0 r1 r2 r3 r4 km th r7 bu pa pb ki nu wr wa ea lx ly lh lz r20 go iT iM iK r25 wm tm te fa k 0 (by first | assumption | omega) (by first | assumption | omega) (by first | assumption | omega) (by first | assumption | omega)) (cwV 2 hts gX7_sightOf_X7_inSight rfl rfl rfl (by decide +kernel) ⟨Nat.le_of_ble_eq_true rfl, Nat.le_of_ble_eq_true rfl⟩) hW 0 rfl rfl [0, 1] [] (by decide) rfl rfl rfl (by decide) (by decide) [0, 1] (by decide) (fun _ => rfl) (fun _ => rfl) rfl hl.1 rfl (Nat.le_of_ble_eq_true rfl) dX7_sightOf_18 ⟨Nat.le_of_ble_eq_true rfl, Nat.le_of_ble_eq_true rfl⟩ (fun _ H locs _ hW => ?_)
        show W p l e _ s m args below meth c H locs _ _ _ (F0 m 21 ls [.int (zI (fa (89 + 3 * k + 0)))])
        refine lv_iload_n (pc := 21) hx hb dX7_sightOf_21 rfl (lv_at hl 2 rfl) ?_
        have J50 : ∀  (hk2 : zfind (fun j => decide (fa (89 + 3 * j + 0) = mo) && (decide (fa (89 + 3 * j + 1) = kd) && decide (fa (89 + 3 * j + 2) = t))) (k + 1) (fa 4) = ysightOf fa mo kd t) (H : Heap) (locs : List Loc) (ls : Array Slot) (hW : zW G (va_A [(z, .inr (7, [.ref r0, .ref r1, .ref r2, .ref r3, .ref r4, .int (zI km), .int (zI th), .ref r7, .int (zI bu), .int (zI pa), .int (zI pb), .int (zI ki), .int (zI nu), .int (zI wr), .int (zI wa), .int (zI ea), .long (zL lx), .long (zL ly), .long (zL lh), .long (zL lz), .ref r20, .int (zI go), .int (zI iT), .int (zI iM), .int (zI iK), .ref r25, .int (zI wm), .int (zI tm), .int (zI (zb te))])), (r0, .inl (zk G 0, 179, .inl (zA fa)))] s.heap.size) s H locs [(z, .inr (7, [.ref r0, .ref r1, .ref r2, .ref r3, .ref r4, .int (zI km), .int (zI th), .ref r7, .int (zI bu), .int (zI pa), .int (zI pb), .int (zI ki), .int (zI nu), .int (zI wr), .int (zI wa), .int (zI ea), .long (zL lx), .long (zL ly), .long (zL lh), .long (zL lz), .ref r20, .int (zI go), .int (zI iT), .int (zI iM), .int (zI iK), .ref r25, .int (zI wm), .int (zI tm), .int (zI (zb te))])), (r0, .inl (zk G 0, 179, .inl (zA fa)))]) (hl : lv_has ls 5 [(4, .int (zI k)), (0, .ref z), (1, .int (zI mo)), (2, .int (zI kd)), (3, .int (zI t))]), W p l e ({ frames := 1, cells := 0, slots := 0, locals := 22 } : Room) s m args below meth c H locs 0 0 (MQ below (zQ (S := Unit) (zri (fun _ => ysightOf fa mo kd t)) (fun _ => True) (zPost G [(z, .inr (7, [.ref r0, .ref r1, .ref r2, .ref r3, .ref r4, .int (zI km), .int (zI th), .ref r7, .int (zI bu), .int (zI pa), .int (zI pb), .int (zI ki), .int (zI nu), .int (zI wr), .int (zI wa), .int (zI ea), .long (zL lx), .long (zL ly), .long (zL lh), .long (zL lz), .ref r20, .int (zI go), .int (zI iT), .int (zI iM), .int (zI iK), .ref r25, .int (zI wm), .int (zI tm), .int (zI (zb te))])), (r0, .inl (zk G 0, 179, .inl (zA fa)))] s.heap.size (fun _ => [(z, .inr (7, [.ref r0, .ref r1, .ref r2, .ref r3, .ref r4, .int (zI km), .int (zI th), .ref r7, .int (zI bu), .int (zI pa), .int (zI pb), .int (zI ki), .int (zI nu), .int (zI wr), .int (zI wa), .int (zI ea), .long (zL lx), .long (zL ly), .long (zL lh), .long (zL lz), .ref r20, .int (zI go), .int (zI iT), .int (zI iM), .int (zI iK), .ref r25, .int (zI wm), .int (zI tm), .int (zI (zb te))])), (r0, .inl (zk G 0, 179, .inl (zA fa)))])) (va_A [(z, .inr (7, [.ref r0, .ref r1, .ref r2, .ref r3, .ref r4, .int (zI km), .int (zI th), .ref r7, .int (zI bu), .int (zI pa), .int (zI pb), .int (zI ki), .int (zI nu), .int (zI wr), .int (zI wa), .int (zI ea), .long (zL lx), .long (zL ly), .long (zL lh), .long (zL lz), .ref r20, .int (zI go), .int (zI iT), .int (zI iM), .int (zI iK), .ref r25, .int (zI wm), .int (zI tm), .int (zI (zb te))])), (r0, .inl (zk G 0, 179, .inl (zA fa)))] s.heap.size)) args s 0 0 (va_A [(z, .inr (7, [.ref r0, .ref r1, .ref r2, .ref r3, .ref r4, .int (zI km), .int (zI th), .ref r7, .int (zI bu), .int (zI pa), .int (zI pb), .int (zI ki), .int (zI nu), .int (zI wr), .int (zI wa), .int (zI ea), .long (zL lx), .long (zL ly), .long (zL lh), .long (zL lz), .ref r20, .int (zI go), .int (zI iT), .int (zI iM), .int (zI iK), .ref r25, .int (zI wm), .int (zI tm), .int (zI (zb te))])), (r0, .inl (zk G 0, 179, .inl (zA fa)))] s.heap.size)) (F0 m 50 ls []) := by
          intro hk2 H locs ls hW hl
          refine zv_iinc (pc := 50) (lv' := [(4, .int (zI (k + 1))), (0, .ref z), (1, .int (zI mo)), (2, .int (zI kd)), (3, .int (zI t))]) hx hb dX7_sightOf_50 hl (k := 0) rfl (by decide) rfl (fun ls hl => ?_)
          refine lv_goto (pc := 53) (tgt := 3) hx hb dX7_sightOf_53 (by decide) ?_
          exact ih3 (k + 1) (by omega) (by omega) (by first | rfl | exact hk2) (by omega) _ _ _ hW (lv_sub hl [0, 1, 2, 3, 4] rfl)
        refine zv_icmp_ne (pc := 22) (tgt := 50) hx hb dX7_sightOf_22 (by decide) (hsn k k0 c11).1 ⟨by omega, by omega⟩ (fun c22 => ?_) (fun c22 => ?_)
        · exact J50 (by rw [← hk, zfind_next c11 (by simp [*])]) _ _ _ hW (lv_sub hl [0, 1, 2, 3, 4] rfl)
        · refine lv_aload_n (pc := 25) hx hb dX7_sightOf_25 rfl (lv_at hl 1 rfl) ?_
          refine lv_iload (pc := 26) hx hb dX7_sightOf_26 (lv_at hl 0 rfl) ?_
          refine zv_iconst (pc := 28) (n := 1) hx hb dX7_sightOf_28 ?_
          refine z_V (pc := 29) (As := [.int (zI k), .int (zI 1)]) (rest := []) (wn := (fun _ => [(z, .inr (7, [.ref r0, .ref r1, .ref r2, .ref r3, .ref r4, .int (zI km), .int (zI th), .ref r7, .int (zI bu), .int (zI pa), .int (zI pb), .int (zI ki), .int (zI nu), .int (zI wr), .int (zI wa), .int (zI ea), .long (zL lx), .long (zL ly), .long (zL lh), .long (zL lz), .ref r20, .int (zI go), .int (zI iT), .int (zI iM), .int (zI iK), .ref r25, .int (zI wm), .int (zI tm), .int (zI (zb te))])), (r0, .inl (zk G 0, 179, .inl (zA fa)))])) (wr := []) F (kX7_inSight G l z r0 r1 r2 r3 r4 km th r7 bu pa pb ki nu wr wa ea lx ly lh lz r20 go iT iM iK r25 wm tm te fa k 1 (by first | assumption | omega) (by first | assumption | omega) (by first | assumption | omega) (by first | assumption | omega)) (cwV 2 hts gX7_sightOf_X7_inSight rfl rfl rfl (by decide +kernel) ⟨Nat.le_of_ble_eq_true rfl, Nat.le_of_ble_eq_true rfl⟩) hW 0 rfl rfl [0, 1] [] (by decide) rfl rfl rfl (by decide) (by decide) [0, 1] (by decide) (fun _ => rfl) (fun _ => rfl) rfl hl.1 rfl (Nat.le_of_ble_eq_true rfl) dX7_sightOf_29 ⟨Nat.le_of_ble_eq_true rfl, Nat.le_of_ble_eq_true rfl⟩ (fun _ H locs _ hW => ?_)
          show W p l e _ s m args below meth c H locs _ _ _ (F0 m 32 ls [.int (zI (fa (89 + 3 * k + 1)))])
          refine lv_iload_n (pc := 32) hx hb dX7_sightOf_32 rfl (lv_at hl 3 rfl) ?_
          refine zv_icmp_ne (pc := 33) (tgt := 50) hx hb dX7_sightOf_33 (by decide) (hsn k k0 c11).2.1 ⟨by omega, by omega⟩ (fun c33 => ?_) (fun c33 => ?_)
          · exact J50 (by rw [← hk, zfind_next c11 (by simp [*])]) _ _ _ hW (lv_sub hl [0, 1, 2, 3, 4] rfl)
          · refine lv_aload_n (pc := 36) hx hb dX7_sightOf_36 rfl (lv_at hl 1 rfl) ?_
            refine lv_iload (pc := 37) hx hb dX7_sightOf_37 (lv_at hl 0 rfl) ?_
            refine zv_iconst (pc := 39) (n := 2) hx hb dX7_sightOf_39 ?_
            refine z_V (pc := 40) (As := [.int (zI k), .int (zI 2)]) (rest := []) (wn := (fun _ => [(z, .inr (7, [.ref r0, .ref r1, .ref r2, .ref r3, .ref r4, .int (zI km), .int (zI th), .ref r7, .int (zI bu), .int (zI pa), .int (zI pb), .int (zI ki), .int (zI nu), .int (zI wr), .int (zI wa), .int (zI ea), .long (zL lx), .long (zL ly), .long (zL lh), .long (zL lz), .ref r20, .int (zI go), .int (zI iT), .int (zI iM), .int (zI iK), .ref r25, .int (zI wm), .int (zI tm), .int (zI (zb te))])), (r0, .inl (zk G 0, 179, .inl (zA fa)))])) (wr := []) F (kX7_inSight G l z r0 r1 r2 r3 r4 km th r7 bu pa pb ki nu wr wa ea lx ly lh lz r20 go iT iM iK r25 wm tm te fa k 2 (by first | assumption | omega) (by first | assumption | omega) (by first | assumption | omega) (by first | assumption | omega)) (cwV 2 hts gX7_sightOf_X7_inSight rfl rfl rfl (by decide +kernel) ⟨Nat.le_of_ble_eq_true rfl, Nat.le_of_ble_eq_true rfl⟩) hW 0 rfl rfl [0, 1] [] (by decide) rfl rfl rfl (by decide) (by decide) [0, 1] (by decide) (fun _ => rfl) (fun _ => rfl) rfl hl.1 rfl (Nat.le_of_ble_eq_true rfl) dX7_sightOf_40 ⟨Nat.le_of_ble_eq_true rfl, Nat.le_of_ble_eq_true rfl⟩ (fun _ H locs _ hW => ?_)
            show W p l e _ s m args below meth c H locs _ _ _ (F0 m 43 ls [.int (zI (fa (89 + 3 * k + 2)))])
            refine lv_iload_n (pc := 43) hx hb dX7_sightOf_43 rfl (lv_at hl 4 rfl) ?_
            refine zv_icmp_ne (pc := 44) (tgt := 50) hx hb dX7_sightOf_44 (by decide) (hsn k k0 c11).2.2 ⟨by omega, by omega⟩ (fun c44 => ?_) (fun c44 => ?_)
            · exact J50 (by rw [← hk, zfind_next c11 (by simp [*])]) _ _ _ hW (lv_sub hl [0, 1, 2, 3, 4] rfl)
            · refine lv_iload (pc := 47) hx hb dX7_sightOf_47 (lv_at hl 0 rfl) ?_
              refine zv_as (pc := 49) (a := k) (b := ysightOf fa mo kd t) (by first | (rw [← hk, zfind_hit c11 (by simp [*])]) | (rw [← hk, zfind_end c11])) ?_
              exact ze_i (pc := 49) hx hb hr hlk hW () rfl trivial rfl dX7_sightOf_49
  exact J3 (((fa 4 - 0 : Int).toNat) + 1) 0 (by omega) (by omega) (by first | rfl | exact hk2) (Nat.lt_succ_self _) _ _ _ hW (lv_sub hl [0, 1, 2, 3, 4] rfl)
