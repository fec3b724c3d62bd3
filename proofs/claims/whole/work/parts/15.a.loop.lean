theorem zand_63 (x : Int) : 0 ≤ zand x 63 ∧ zand x 63 ≤ 63 := by
  have h2 : zI 63 = Int32.ofNat 63 := rfl
  have h3 : (zI x).toBitVec.toNat &&& 63 ≤ 63 := Nat.and_le_right
  unfold zand
  rw [h2, ← zI_ofN (zI x), zi_and, zi_to (by omega)]
  omega
section LAWLOOP
variable {p : Program} {l : Launch} {e : Env} {s : State} {m : MethodId} {args : Array Value} {below : List Frame} {meth : Method} {c : Code} {Q : State → Prop} {G : zG} {A : Nat → Prop}
set_option maxHeartbeats 4000000 in
set_option maxRecDepth 100000 in
/-- one command, and the loop behind it -/
theorem law_step (hst : l.stackTraces = false) (F : CallFix p m c cL_law 9 s args wsL_law RL) {b L : Nat} {xs : Nat → Int32} (hC : zscr b L xs A s) {wo z dd de q dq pp sv rd txt tb sp op qn qm qs dqn dqm dqs kr rb xb ts r0 r1 r2 r3 r4 r7 r20 r25 : Nat} {ix : Int} {K N : Nat} (hJ : zJ p l e s m args below meth c Q G A b wo z dd de q dq pp sv rd txt tb sp op qn qm qs dqn dqm dqs kr rb xb ts r0 r1 r2 r3 r4 r7 r20 r25 ix K N) (hK : K ≤ 601024) (hN : N ≤ 7293034) (i0 : 0 ≤ ix) (i1 : ix + 6 ≤ (L : Int))
    {fd : Int → Int} {fe : Int → UInt64} {pr di dr mc sc dpr ddi ddr dmc dsc : Int} {nm mn sn dnm dmn dsn : Int → Int} {cn en : Int} {P U : Nat → Option zK} {rn rea rP rta rer rnu rna xl : Int} {fb fxb : Int → Int} {t0 t1 t2 t3 t4 t5 t6 t7 t8 a0 a1 a2 a3 a4 a5 a6 a7 a8 a9 a10 a11 a12 a13 a14 s0 s1 s2 s3 s4 s5 s6 s7 s8 s9 s10 s11 s12 s13 s14 o0 o1 o2 o3 o4 o5 o6 o7 o8 o9 o10 o11 o12 o13 o14 km th bu pa pb ki nu wr wa ea lx ly lh lz go iT iM iK wm tm : Int} {fa fas fkp fsv fsi fbf flk fwt : Int → Int} {H : Heap} {locs : List Loc} {ls : Array Slot} {kc ns : Nat} (hW : zW G A s H locs ([(dd, .inl (zk G 1, 1, .inr (.inl (zB fd)))), (de, .inl (zk G 5, 1, .inr (.inr (.inr (.inl (zD fe)))))), (wo, .inr (6, [.ref q, .ref dq, .ref pp, .ref sv, .ref rd, .ref txt, .ref tb, .ref sp, .ref op])), (q, .inr (1, [.int (zI pr), .int (zI di), .int (zI dr), .int (zI mc), .int (zI sc), .ref qn, .ref qm, .ref qs])), (qn, .inl (zk G 1, 6, .inr (.inl (zB nm)))), (qm, .inl (zk G 0, 36, .inl (zA mn))), (qs, .inl (zk G 0, 90, .inl (zA sn))), (dq, .inr (1, [.int (zI dpr), .int (zI ddi), .int (zI ddr), .int (zI dmc), .int (zI dsc), .ref dqn, .ref dqm, .ref dqs])), (dqn, .inl (zk G 1, 6, .inr (.inl (zB dnm)))), (dqm, .inl (zk G 0, 36, .inl (zA dmn))), (dqs, .inl (zk G 0, 90, .inl (zA dsn))), (pp, .inr (0, [.int (zI cn), .int (zI en), .ref kr])), (kr, .inl (zk G 4, 8, .inr (.inr (.inr (.inr (zRow P)))))), (sv, .inl (zk G 4, 2, .inr (.inr (.inr (.inr (zRow U)))))), (rd, .inr (2, [.int (zI rn), .int (zI rea), .ref rb, .int (zI rP), .int (zI rta), .int (zI rer), .int (zI rnu), .long (zL rna)])), (rb, .inl (zk G 2, 600, .inl (zA fb))), (txt, .inr (5, [.int (zI xl), .ref xb])), (xb, .inl (zk G 2, 440, .inl (zA fxb))), (tb, .inr (4, [.int (zI t0), .int (zI t1), .int (zI t2), .ref ts, .int (zI t3), .int (zI t4), .int (zI t5), .int (zI t6), .int (zI t7), .int (zI t8)])), (ts, .inr (3, [.int (zI a0), .int (zI a1), .int (zI a2), .int (zI a3), .int (zI a4), .int (zI a5), .int (zI a6), .int (zI a7), .long (zL a8), .int (zI a9), .int (zI a10), .long (zL a11), .long (zL a12), .int (zI a13), .int (zI a14)])), (sp, .inr (3, [.int (zI s0), .int (zI s1), .int (zI s2), .int (zI s3), .int (zI s4), .int (zI s5), .int (zI s6), .int (zI s7), .long (zL s8), .int (zI s9), .int (zI s10), .long (zL s11), .long (zL s12), .int (zI s13), .int (zI s14)])), (op, .inr (3, [.int (zI o0), .int (zI o1), .int (zI o2), .int (zI o3), .int (zI o4), .int (zI o5), .int (zI o6), .int (zI o7), .long (zL o8), .int (zI o9), .int (zI o10), .long (zL o11), .long (zL o12), .int (zI o13), .int (zI o14)])), (z, .inr (7, [.ref r0, .ref r1, .ref r2, .ref r3, .ref r4, .int (zI km), .int (zI th), .ref r7, .int (zI bu), .int (zI pa), .int (zI pb), .int (zI ki), .int (zI nu), .int (zI wr), .int (zI wa), .int (zI ea), .long (zL lx), .long (zL ly), .long (zL lh), .long (zL lz), .ref r20, .int (zI go), .int (zI iT), .int (zI iM), .int (zI iK), .ref r25, .int (zI wm), .int (zI tm), .int (zI (zb false))])), (r0, .inl (zk G 0, 179, .inl (zA fa))), (r1, .inl (zk G 0, 179, .inl (zA fas))), (r2, .inl (zk G 0, 1432, .inl (zA fkp))), (r3, .inl (zk G 0, 358, .inl (zA fsv))), (r4, .inl (zk G 3, 2, .inl (zA fsi))), (r7, .inl (zk G 0, 600, .inl (zA fbf))), (r20, .inl (zk G 0, 6, .inl (zA flk))), (r25, .inl (zk G 0, 500, .inl (zA fwt)))] ++ zPl G 8 P (zPl G 2 U []))) (hl : lv_has ls 9 [(0, .ref b), (1, .ref wo), (2, .ref z), (3, .ref dd), (4, .ref de), (5, .int (zI ix))]) (hk : kc + 8 ≤ K) (hn : ns + 200 ≤ N) (I : zINV ((pr, di, dr, mc, sc), nm, mn, sn) fa P cn en fkp km U fsv fsi rn fb bu fbf xl fxb wm fwt rea ea) : W p l e room_1 s m args below meth c H locs kc ns Q (F0 m 38 ls []) := by
  obtain ⟨hx, hb, hml, hown, hts⟩ := id F
  have hL9 := hC.2.2.2
  refine lv_aload_n (pc := 38) hx hb dL_law_38 rfl (lv_at hl 0 rfl) ?_
  refine lv_iload (pc := 39) hx hb dL_law_39 (lv_at hl 5 rfl) ?_
  refine zq_sld (pc := 41) hx hb hC hW (i := ix) (by omega) (by omega) dL_law_41 ?_
  refine zv_bipush (pc := 42) (n := 63) hx hb dL_law_42 (by decide) ?_
  refine zv_iand (pc := 44) hx hb dL_law_44 ?_
  have h63 := zand_63 (zsx xs ix)
  generalize zand (zsx xs ix) 63 = v9 at h63 ⊢
  rcases (show (v9 < 0 ∨ 34 < v9) ∨ v9 = 0 ∨ v9 = 1 ∨ v9 = 2 ∨ v9 = 3 ∨ v9 = 4 ∨ v9 = 5 ∨ v9 = 6 ∨ v9 = 7 ∨ v9 = 8 ∨ v9 = 9 ∨ v9 = 10 ∨ v9 = 11 ∨ v9 = 12 ∨ v9 = 13 ∨ v9 = 14 ∨ v9 = 15 ∨ v9 = 16 ∨ v9 = 17 ∨ v9 = 18 ∨ v9 = 19 ∨ v9 = 20 ∨ v9 = 21 ∨ v9 = 22 ∨ v9 = 23 ∨ v9 = 24 ∨ v9 = 25 ∨ v9 = 26 ∨ v9 = 27 ∨ v9 = 28 ∨ v9 = 29 ∨ v9 = 30 ∨ v9 = 31 ∨ v9 = 32 ∨ v9 = 33 ∨ v9 = 34 by omega) with c45 | c45 | c45 | c45 | c45 | c45 | c45 | c45 | c45 | c45 | c45 | c45 | c45 | c45 | c45 | c45 | c45 | c45 | c45 | c45 | c45 | c45 | c45 | c45 | c45 | c45 | c45 | c45 | c45 | c45 | c45 | c45 | c45 | c45 | c45 | c45
  · refine zv_tabOut (pc := 45) (tgt := 2360) hx hb dL_law_45 ⟨by omega, by omega⟩ c45 (by decide) ?_
    exact hJ hW hl (by omega) (by omega) I
  · refine zv_tabIn (pc := 45) (tgt := 200) hx hb dL_law_45 0 ⟨by omega, by omega⟩ (by omega) (by omega) rfl (by decide) ?_
    exact cs_append hst F hC hJ hK hN i0 i1 hW hl hk hn I
  · refine zv_tabIn (pc := 45) (tgt := 304) hx hb dL_law_45 1 ⟨by omega, by omega⟩ (by omega) (by omega) rfl (by decide) ?_
    exact cs_load hst F hC hJ hK hN i0 i1 hW hl hk hn I
  · refine zv_tabIn (pc := 45) (tgt := 317) hx hb dL_law_45 2 ⟨by omega, by omega⟩ (by omega) (by omega) rfl (by decide) ?_
    exact cs_read hst F hC hJ hK hN i0 i1 hW hl hk hn I
  · refine zv_tabIn (pc := 45) (tgt := 330) hx hb dL_law_45 3 ⟨by omega, by omega⟩ (by omega) (by omega) rfl (by decide) ?_
    exact cs_errorPosition hst F hC hJ hK hN i0 i1 hW hl hk hn I
  · refine zv_tabIn (pc := 45) (tgt := 343) hx hb dL_law_45 4 ⟨by omega, by omega⟩ (by omega) (by omega) rfl (by decide) ?_
    exact cs_count hst F hC hJ hK hN i0 i1 hW hl hk hn I
  · refine zv_tabIn (pc := 45) (tgt := 399) hx hb dL_law_45 5 ⟨by omega, by omega⟩ (by omega) (by omega) rfl (by decide) ?_
    exact cs_moon hst F hC hJ hK hN i0 i1 hW hl hk hn I
  · refine zv_tabIn (pc := 45) (tgt := 467) hx hb dL_law_45 6 ⟨by omega, by omega⟩ (by omega) (by omega) rfl (by decide) ?_
    exact cs_sight hst F hC hJ hK hN i0 i1 hW hl hk hn I
  · refine zv_tabIn (pc := 45) (tgt := 535) hx hb dL_law_45 7 ⟨by omega, by omega⟩ (by omega) (by omega) rfl (by decide) ?_
    exact cs_sine hst F hC hJ hK hN i0 i1 hW hl hk hn I
  · refine zv_tabIn (pc := 45) (tgt := 560) hx hb dL_law_45 8 ⟨by omega, by omega⟩ (by omega) (by omega) rfl (by decide) ?_
    exact cs_light hst F hC hJ hK hN i0 i1 hW hl hk hn I
  · refine zv_tabIn (pc := 45) (tgt := 616) hx hb dL_law_45 9 ⟨by omega, by omega⟩ (by omega) (by omega) rfl (by decide) ?_
    exact cs_place hst F hC hJ hK hN i0 i1 hW hl hk hn I
  · refine zv_tabIn (pc := 45) (tgt := 696) hx hb dL_law_45 10 ⟨by omega, by omega⟩ (by omega) (by omega) rfl (by decide) ?_
    exact cs_far hst F hC hJ hK hN i0 i1 hW hl hk hn I
  · refine zv_tabIn (pc := 45) (tgt := 763) hx hb dL_law_45 11 ⟨by omega, by omega⟩ (by omega) (by omega) rfl (by decide) ?_
    exact cs_state hst F hC hJ hK hN i0 i1 hW hl hk hn I
  · refine zv_tabIn (pc := 45) (tgt := 831) hx hb dL_law_45 12 ⟨by omega, by omega⟩ (by omega) (by omega) rfl (by decide) ?_
    exact cs_casts hst F hC hJ hK hN i0 i1 hW hl hk hn I
  · refine zv_tabIn (pc := 45) (tgt := 906) hx hb dL_law_45 13 ⟨by omega, by omega⟩ (by omega) (by omega) rfl (by decide) ?_
    exact cs_shadedBy hst F hC hJ hK hN i0 i1 hW hl hk hn I
  · refine zv_tabIn (pc := 45) (tgt := 974) hx hb dL_law_45 14 ⟨by omega, by omega⟩ (by omega) (by omega) rfl (by decide) ?_
    exact cs_whyLit hst F hC hJ hK hN i0 i1 hW hl hk hn I
  · refine zv_tabIn (pc := 45) (tgt := 1042) hx hb dL_law_45 15 ⟨by omega, by omega⟩ (by omega) (by omega) rfl (by decide) ?_
    exact cs_meeting hst F hC hJ hK hN i0 i1 hW hl hk hn I
  · refine zv_tabIn (pc := 45) (tgt := 1122) hx hb dL_law_45 16 ⟨by omega, by omega⟩ (by omega) (by omega) rfl (by decide) ?_
    exact cs_ticks hst F hC hJ hK hN i0 i1 hW hl hk hn I
  · refine zv_tabIn (pc := 45) (tgt := 1214) hx hb dL_law_45 17 ⟨by omega, by omega⟩ (by omega) (by omega) rfl (by decide) ?_
    exact cs_darkest hst F hC hJ hK hN i0 i1 hW hl hk hn I
  · refine zv_tabIn (pc := 45) (tgt := 1282) hx hb dL_law_45 18 ⟨by omega, by omega⟩ (by omega) (by omega) rfl (by decide) ?_
    exact cs_next hst F hC hJ hK hN i0 i1 hW hl hk hn I
  · refine zv_tabIn (pc := 45) (tgt := 1362) hx hb dL_law_45 19 ⟨by omega, by omega⟩ (by omega) (by omega) rfl (by decide) ?_
    exact cs_events hst F hC hJ hK hN i0 i1 hW hl hk hn I
  · refine zv_tabIn (pc := 45) (tgt := 1430) hx hb dL_law_45 20 ⟨by omega, by omega⟩ (by omega) (by omega) rfl (by decide) ?_
    exact cs_event hst F hC hJ hK hN i0 i1 hW hl hk hn I
  · refine zv_tabIn (pc := 45) (tgt := 1522) hx hb dL_law_45 21 ⟨by omega, by omega⟩ (by omega) (by omega) rfl (by decide) ?_
    exact cs_meanDark hst F hC hJ hK hN i0 i1 hW hl hk hn I
  · refine zv_tabIn (pc := 45) (tgt := 1623) hx hb dL_law_45 22 ⟨by omega, by omega⟩ (by omega) (by omega) rfl (by decide) ?_
    exact cs_worst hst F hC hJ hK hN i0 i1 hW hl hk hn I
  · refine zv_tabIn (pc := 45) (tgt := 1636) hx hb dL_law_45 23 ⟨by omega, by omega⟩ (by omega) (by omega) rfl (by decide) ?_
    exact cs_burden hst F hC hJ hK hN i0 i1 hW hl hk hn I
  · refine zv_tabIn (pc := 45) (tgt := 1704) hx hb dL_law_45 24 ⟨by omega, by omega⟩ (by omega) (by omega) rfl (by decide) ?_
    exact cs_bestShift hst F hC hJ hK hN i0 i1 hW hl hk hn I
  · refine zv_tabIn (pc := 45) (tgt := 1760) hx hb dL_law_45 25 ⟨by omega, by omega⟩ (by omega) (by omega) rfl (by decide) ?_
    exact cs_see hst F hC hJ hK hN i0 i1 hW hl hk hn I
  · refine zv_tabIn (pc := 45) (tgt := 1840) hx hb dL_law_45 26 ⟨by omega, by omega⟩ (by omega) (by omega) rfl (by decide) ?_
    exact cs_forget hst F hC hJ hK hN i0 i1 hW hl hk hn I
  · refine zv_tabIn (pc := 45) (tgt := 1896) hx hb dL_law_45 27 ⟨by omega, by omega⟩ (by omega) (by omega) rfl (by decide) ?_
    exact cs_setMoon hst F hC hJ hK hN i0 i1 hW hl hk hn I
  · refine zv_tabIn (pc := 45) (tgt := 1976) hx hb dL_law_45 28 ⟨by omega, by omega⟩ (by omega) (by omega) rfl (by decide) ?_
    exact cs_setLight hst F hC hJ hK hN i0 i1 hW hl hk hn I
  · refine zv_tabIn (pc := 45) (tgt := 2044) hx hb dL_law_45 29 ⟨by omega, by omega⟩ (by omega) (by omega) rfl (by decide) ?_
    exact cs_shift hst F hC hJ hK hN i0 i1 hW hl hk hn I
  · refine zv_tabIn (pc := 45) (tgt := 2100) hx hb dL_law_45 30 ⟨by omega, by omega⟩ (by omega) (by omega) rfl (by decide) ?_
    exact cs_undo hst F hC hJ hK hN i0 i1 hW hl hk hn I
  · refine zv_tabIn (pc := 45) (tgt := 2144) hx hb dL_law_45 31 ⟨by omega, by omega⟩ (by omega) (by omega) rfl (by decide) ?_
    exact cs_save hst F hC hJ hK hN i0 i1 hW hl hk hn I
  · refine zv_tabIn (pc := 45) (tgt := 2180) hx hb dL_law_45 32 ⟨by omega, by omega⟩ (by omega) (by omega) rfl (by decide) ?_
    exact cs_restore hst F hC hJ hK hN i0 i1 hW hl hk hn I
  · refine zv_tabIn (pc := 45) (tgt := 2236) hx hb dL_law_45 33 ⟨by omega, by omega⟩ (by omega) (by omega) rfl (by decide) ?_
    exact cs_writeTable hst F hC hJ hK hN i0 i1 hW hl hk hn I
  · refine zv_tabIn (pc := 45) (tgt := 2304) hx hb dL_law_45 34 ⟨by omega, by omega⟩ (by omega) (by omega) rfl (by decide) ?_
    exact cs_writtenByte hst F hC hJ hK hN i0 i1 hW hl hk hn I
set_option maxHeartbeats 4000000 in
set_option maxRecDepth 100000 in
/-- the loop -/
theorem law_loop (hst : l.stackTraces = false) (F : CallFix p m c cL_law 9 s args wsL_law RL) {b L : Nat} {xs : Nat → Int32} (hC : zscr b L xs A s) {wo z dd de q dq pp sv rd txt tb sp op qn qm qs dqn dqm dqs kr rb xb ts r0 r1 r2 r3 r4 r7 r20 r25 : Nat} (hE : ∀ {H : Heap} {locs : List Loc} {ls : Array Slot} {kc ns : Nat} {ws : va_W}, zW G A s H locs ws → kc ≤ 601024 → ns ≤ 7293034 → W p l e room_1 s m args below meth c H locs kc ns Q (F0 m 2366 ls [])) :
    ∀ (n : Nat) {ix : Int} {fd : Int → Int} {fe : Int → UInt64} {pr di dr mc sc dpr ddi ddr dmc dsc : Int} {nm mn sn dnm dmn dsn : Int → Int} {cn en : Int} {P U : Nat → Option zK} {rn rea rP rta rer rnu rna xl : Int} {fb fxb : Int → Int} {t0 t1 t2 t3 t4 t5 t6 t7 t8 a0 a1 a2 a3 a4 a5 a6 a7 a8 a9 a10 a11 a12 a13 a14 s0 s1 s2 s3 s4 s5 s6 s7 s8 s9 s10 s11 s12 s13 s14 o0 o1 o2 o3 o4 o5 o6 o7 o8 o9 o10 o11 o12 o13 o14 km th bu pa pb ki nu wr wa ea lx ly lh lz go iT iM iK wm tm : Int} {fa fas fkp fsv fsi fbf flk fwt : Int → Int} {H : Heap} {locs : List Loc} {ls : Array Slot} {kc ns : Nat} (hW : zW G A s H locs ([(dd, .inl (zk G 1, 1, .inr (.inl (zB fd)))), (de, .inl (zk G 5, 1, .inr (.inr (.inr (.inl (zD fe)))))), (wo, .inr (6, [.ref q, .ref dq, .ref pp, .ref sv, .ref rd, .ref txt, .ref tb, .ref sp, .ref op])), (q, .inr (1, [.int (zI pr), .int (zI di), .int (zI dr), .int (zI mc), .int (zI sc), .ref qn, .ref qm, .ref qs])), (qn, .inl (zk G 1, 6, .inr (.inl (zB nm)))), (qm, .inl (zk G 0, 36, .inl (zA mn))), (qs, .inl (zk G 0, 90, .inl (zA sn))), (dq, .inr (1, [.int (zI dpr), .int (zI ddi), .int (zI ddr), .int (zI dmc), .int (zI dsc), .ref dqn, .ref dqm, .ref dqs])), (dqn, .inl (zk G 1, 6, .inr (.inl (zB dnm)))), (dqm, .inl (zk G 0, 36, .inl (zA dmn))), (dqs, .inl (zk G 0, 90, .inl (zA dsn))), (pp, .inr (0, [.int (zI cn), .int (zI en), .ref kr])), (kr, .inl (zk G 4, 8, .inr (.inr (.inr (.inr (zRow P)))))), (sv, .inl (zk G 4, 2, .inr (.inr (.inr (.inr (zRow U)))))), (rd, .inr (2, [.int (zI rn), .int (zI rea), .ref rb, .int (zI rP), .int (zI rta), .int (zI rer), .int (zI rnu), .long (zL rna)])), (rb, .inl (zk G 2, 600, .inl (zA fb))), (txt, .inr (5, [.int (zI xl), .ref xb])), (xb, .inl (zk G 2, 440, .inl (zA fxb))), (tb, .inr (4, [.int (zI t0), .int (zI t1), .int (zI t2), .ref ts, .int (zI t3), .int (zI t4), .int (zI t5), .int (zI t6), .int (zI t7), .int (zI t8)])), (ts, .inr (3, [.int (zI a0), .int (zI a1), .int (zI a2), .int (zI a3), .int (zI a4), .int (zI a5), .int (zI a6), .int (zI a7), .long (zL a8), .int (zI a9), .int (zI a10), .long (zL a11), .long (zL a12), .int (zI a13), .int (zI a14)])), (sp, .inr (3, [.int (zI s0), .int (zI s1), .int (zI s2), .int (zI s3), .int (zI s4), .int (zI s5), .int (zI s6), .int (zI s7), .long (zL s8), .int (zI s9), .int (zI s10), .long (zL s11), .long (zL s12), .int (zI s13), .int (zI s14)])), (op, .inr (3, [.int (zI o0), .int (zI o1), .int (zI o2), .int (zI o3), .int (zI o4), .int (zI o5), .int (zI o6), .int (zI o7), .long (zL o8), .int (zI o9), .int (zI o10), .long (zL o11), .long (zL o12), .int (zI o13), .int (zI o14)])), (z, .inr (7, [.ref r0, .ref r1, .ref r2, .ref r3, .ref r4, .int (zI km), .int (zI th), .ref r7, .int (zI bu), .int (zI pa), .int (zI pb), .int (zI ki), .int (zI nu), .int (zI wr), .int (zI wa), .int (zI ea), .long (zL lx), .long (zL ly), .long (zL lh), .long (zL lz), .ref r20, .int (zI go), .int (zI iT), .int (zI iM), .int (zI iK), .ref r25, .int (zI wm), .int (zI tm), .int (zI (zb false))])), (r0, .inl (zk G 0, 179, .inl (zA fa))), (r1, .inl (zk G 0, 179, .inl (zA fas))), (r2, .inl (zk G 0, 1432, .inl (zA fkp))), (r3, .inl (zk G 0, 358, .inl (zA fsv))), (r4, .inl (zk G 3, 2, .inl (zA fsi))), (r7, .inl (zk G 0, 600, .inl (zA fbf))), (r20, .inl (zk G 0, 6, .inl (zA flk))), (r25, .inl (zk G 0, 500, .inl (zA fwt)))] ++ zPl G 8 P (zPl G 2 U []))) (hl : lv_has ls 9 [(0, .ref b), (1, .ref wo), (2, .ref z), (3, .ref dd), (4, .ref de), (5, .int (zI ix))]) (i0 : 0 ≤ ix) (i2 : ix ≤ (L : Int)) (i1 : (L : Int) - ix ≤ 6 * (n : Int)) (hk : kc + 8 * n ≤ 601024) (hn : ns + 200 * n ≤ 7293034) (I : zINV ((pr, di, dr, mc, sc), nm, mn, sn) fa P cn en fkp km U fsv fsi rn fb bu fbf xl fxb wm fwt rea ea), W p l e room_1 s m args below meth c H locs kc ns Q (F0 m 28 ls []) := by
  obtain ⟨hx, hb, hml, hown, hts⟩ := id F
  have hL9 := hC.2.2.2
  intro n
  induction n with
  | zero =>
    intro ix fd fe pr di dr mc sc dpr ddi ddr dmc dsc nm mn sn dnm dmn dsn cn en P U rn rea rP rta rer rnu rna xl fb fxb t0 t1 t2 t3 t4 t5 t6 t7 t8 a0 a1 a2 a3 a4 a5 a6 a7 a8 a9 a10 a11 a12 a13 a14 s0 s1 s2 s3 s4 s5 s6 s7 s8 s9 s10 s11 s12 s13 s14 o0 o1 o2 o3 o4 o5 o6 o7 o8 o9 o10 o11 o12 o13 o14 km th bu pa pb ki nu wr wa ea lx ly lh lz go iT iM iK wm tm fa fas fkp fsv fsi fbf flk fwt H locs ls kc ns hW hl i0 i2 i1 hk hn I
    refine lv_iload (pc := 28) hx hb dL_law_28 (lv_at hl 5 rfl) ?_
    refine lv_aload_n (pc := 30) hx hb dL_law_30 rfl (lv_at hl 0 rfl) ?_
    refine zq_slen (pc := 31) hx hb hC hW dL_law_31 ?_
    refine zv_bipush (pc := 32) (n := 6) hx hb dL_law_32 (by decide) ?_
    refine zv_isub (pc := 34) hx hb dL_law_34 ?_
    refine zv_icmp_gt (pc := 35) (tgt := 2366) hx hb dL_law_35 (by decide) ⟨by omega, by omega⟩ ⟨by omega, by omega⟩ (fun _ => hE hW (by omega) (by omega)) (fun c35 => ?_)
    exact absurd c35 (by omega)
  | succ n ih =>
    intro ix fd fe pr di dr mc sc dpr ddi ddr dmc dsc nm mn sn dnm dmn dsn cn en P U rn rea rP rta rer rnu rna xl fb fxb t0 t1 t2 t3 t4 t5 t6 t7 t8 a0 a1 a2 a3 a4 a5 a6 a7 a8 a9 a10 a11 a12 a13 a14 s0 s1 s2 s3 s4 s5 s6 s7 s8 s9 s10 s11 s12 s13 s14 o0 o1 o2 o3 o4 o5 o6 o7 o8 o9 o10 o11 o12 o13 o14 km th bu pa pb ki nu wr wa ea lx ly lh lz go iT iM iK wm tm fa fas fkp fsv fsi fbf flk fwt H locs ls kc ns hW hl i0 i2 i1 hk hn I
    refine lv_iload (pc := 28) hx hb dL_law_28 (lv_at hl 5 rfl) ?_
    refine lv_aload_n (pc := 30) hx hb dL_law_30 rfl (lv_at hl 0 rfl) ?_
    refine zq_slen (pc := 31) hx hb hC hW dL_law_31 ?_
    refine zv_bipush (pc := 32) (n := 6) hx hb dL_law_32 (by decide) ?_
    refine zv_isub (pc := 34) hx hb dL_law_34 ?_
    refine zv_icmp_gt (pc := 35) (tgt := 2366) hx hb dL_law_35 (by decide) ⟨by omega, by omega⟩ ⟨by omega, by omega⟩ (fun _ => hE hW (by omega) (by omega)) (fun c35 => ?_)
    refine law_step hst F hC (K := kc + 8) (N := ns + 200) ?_ (by omega) (by omega) i0 (by omega) hW hl (Nat.le_refl _) (Nat.le_refl _) I
    clear hW hl I
    intro fd fe pr di dr mc sc dpr ddi ddr dmc dsc nm mn sn dnm dmn dsn cn en P U rn rea rP rta rer rnu rna xl fb fxb t0 t1 t2 t3 t4 t5 t6 t7 t8 a0 a1 a2 a3 a4 a5 a6 a7 a8 a9 a10 a11 a12 a13 a14 s0 s1 s2 s3 s4 s5 s6 s7 s8 s9 s10 s11 s12 s13 s14 o0 o1 o2 o3 o4 o5 o6 o7 o8 o9 o10 o11 o12 o13 o14 km th bu pa pb ki nu wr wa ea lx ly lh lz go iT iM iK wm tm fa fas fkp fsv fsi fbf flk fwt H locs ls kc ns hW hl h1 h2 I
    refine zv_iinc (pc := 2360) (lv' := [(5, .int (zI (ix + 6))), (0, .ref b), (1, .ref wo), (2, .ref z), (3, .ref dd), (4, .ref de)]) hx hb dL_law_2360 hl (k := 5) rfl (by decide) rfl (fun ls hl => ?_)
    refine lv_goto (pc := 2363) (tgt := 28) hx hb dL_law_2363 (by decide) ?_
    exact ih hW (lv_sub hl [1, 2, 3, 4, 5, 0] rfl) (by omega) (by omega) (by omega) (by omega) (by omega) I
end LAWLOOP
