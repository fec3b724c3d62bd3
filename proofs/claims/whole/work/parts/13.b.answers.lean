/-! both sides answer alike, command by command -/
section AN
variable {pr di dr mc sc : Int} {nm mn sn fa : Int → Int}
theorem an_count {wh : Int} (h : zRN ((pr, di, dr, mc, sc), nm, mn, sn) fa) (hw : 0 ≤ wh ∧ wh ≤ 5) : (if wh = 0 then pr else if wh = 1 then di else if wh = 2 then dr else if wh = 3 then mc else if wh = 4 then sc else zLo pr di dr sc mn sn) = (if wh < 5 then fa wh else ylost fa) := by
  have hl := zLo_rel (rn_rel h) (rn_val h)
  obtain ⟨e0, e1, e2, e3, e4⟩ := (rn_rel h).1
  rcases (show wh = 0 ∨ wh = 1 ∨ wh = 2 ∨ wh = 3 ∨ wh = 4 ∨ wh = 5 by omega) with rfl | rfl | rfl | rfl | rfl | rfl
  · exact e0
  · exact e1
  · exact e2
  · exact e3
  · exact e4
  · exact hl
theorem an_moon {mo wh : Int} (h : zRN ((pr, di, dr, mc, sc), nm, mn, sn) fa) (h1 : 0 ≤ mo ∧ mo < mc) (hw : 0 ≤ wh ∧ wh ≤ 7) : (if wh = 6 then zsights sn sc mo else if wh < 6 then mn (mo * 6 + wh) else zBu pr di dr sc mn sn mo) = (if wh = 6 then ysights fa mo else if wh < 6 then ya fa mo wh else ybur fa mo) := by
  rw [rn_sights h, rn_burden h]
  by_cases q : wh < 6
  · have e := rn_moon h h1 wh hw.1 q
    rw [if_pos q, if_pos q, ← e]
    rfl
  · rw [if_neg q, if_neg q]
theorem an_sight {si wh : Int} (h : zRN ((pr, di, dr, mc, sc), nm, mn, sn) fa) (h1 : 0 ≤ si ∧ si < sc) (hw : 0 ≤ wh ∧ wh ≤ 3) : (if wh < 3 then sn (si * 3 + wh) else zO pr di dr mn sn si) = (if wh < 3 then fa (89 + 3 * si + wh) else yoff fa si) := by
  have e4 := (rn_rel h).1.2.2.2.2
  rw [zO_rel (rn_rel h) (rn_val h) h1.1 (by rw [← e4]; exact h1.2)]
  by_cases q : wh < 3
  · rw [if_pos q, if_pos q]
    exact (rn_rel h).2.2 si h1.1 (by rw [← e4]; exact h1.2) wh hw.1 q
  · rw [if_neg q, if_neg q]
theorem an_light {t : Int} (h : zRN ((pr, di, dr, mc, sc), nm, mn, sn) fa) : zli di dr t % 36000 = zli (fa 1) (fa 2) t % 36000 := by
  rw [(rn_rel h).1.2.1, (rn_rel h).1.2.2.1]
theorem an_place {mo t wh : Int} (h : zRN ((pr, di, dr, mc, sc), nm, mn, sn) fa) (h1 : 0 ≤ mo ∧ mo < mc) : zpl wh (zlx (zg mn mo) t) (zly (zg mn mo) t) (zlh di dr (zg mn mo) t) (zls di dr (zg mn mo) t) = zpl wh (zlx (ya fa mo) t) (zly (ya fa mo) t) (zlh (fa 1) (fa 2) (ya fa mo) t) (zls (fa 1) (fa 2) (ya fa mo) t) := by
  have hm := rn_moon h h1
  rw [zlx_c hm, zly_c hm, zlh_c hm, zls_c hm, ← (rn_rel h).1.2.1, ← (rn_rel h).1.2.2.1]
theorem an_far {mo t : Int} (h : zRN ((pr, di, dr, mc, sc), nm, mn, sn) fa) (h1 : 0 ≤ mo ∧ mo < mc) : zlx (zg mn mo) t * zlx (zg mn mo) t + zly (zg mn mo) t * zly (zg mn mo) t = zlx (ya fa mo) t * zlx (ya fa mo) t + zly (ya fa mo) t * zly (ya fa mo) t := by
  have hm := rn_moon h h1
  rw [zlx_c hm, zly_c hm]
theorem an_state {mo t : Int} (h : zRN ((pr, di, dr, mc, sc), nm, mn, sn) fa) (h1 : 0 ≤ mo ∧ mo < mc) : zS pr di dr (zg mn mo) t = zS (fa 0) (fa 1) (fa 2) (ya fa mo) t := by
  rw [zS_c (rn_moon h h1), ← (rn_rel h).1.1, ← (rn_rel h).1.2.1, ← (rn_rel h).1.2.2.1]
theorem an_casts {mo t : Int} (h : zRN ((pr, di, dr, mc, sc), nm, mn, sn) fa) (h1 : 0 ≤ mo ∧ mo < mc) : zC pr di dr (zg mn mo) t = zC (fa 0) (fa 1) (fa 2) (ya fa mo) t := by
  rw [zC_c (rn_moon h h1), ← (rn_rel h).1.1, ← (rn_rel h).1.2.1, ← (rn_rel h).1.2.2.1]
theorem an_shadedBy {mo t : Int} (h : zRN ((pr, di, dr, mc, sc), nm, mn, sn) fa) (h1 : 0 ≤ mo ∧ mo < mc) : zmask (fun k => zsb (zlh di dr (zg mn mo) t) (zls di dr (zg mn mo) t) (zg mn mo 5) (zlh di dr (zg mn k) t) (zls di dr (zg mn k) t) (zg mn k 5)) 0 mc 0 = zmask (fun k => zsb (zlh (fa 1) (fa 2) (ya fa mo) t) (zls (fa 1) (fa 2) (ya fa mo) t) (ya fa mo 5) (zlh (fa 1) (fa 2) (ya fa k) t) (zls (fa 1) (fa 2) (ya fa k) t) (ya fa k 5)) 0 (fa 3) 0 := by
  have hm := rn_moon h h1
  rw [← (rn_rel h).1.2.1, ← (rn_rel h).1.2.2.1, ← (rn_rel h).1.2.2.2.1]
  refine zmask_congr _ 0 0 rfl (fun k k0 k1 => ?_)
  have hk := rn_moon h ⟨k0, k1⟩
  rw [zlh_c hm, zls_c hm, zlh_c hk, zls_c hk, hm 5 (by decide) (by decide), hk 5 (by decide) (by decide)]
theorem an_whyLit {mo t : Int} (h : zRN ((pr, di, dr, mc, sc), nm, mn, sn) fa) (h1 : 0 ≤ mo ∧ mo < mc) : zwhy (zS pr di dr (zg mn mo) t) (zlh di dr (zg mn mo) t) = zwhy (zS (fa 0) (fa 1) (fa 2) (ya fa mo) t) (zlh (fa 1) (fa 2) (ya fa mo) t) := by
  rw [an_state h h1, zlh_c (rn_moon h h1), ← (rn_rel h).1.2.1, ← (rn_rel h).1.2.2.1]
theorem an_meeting {mo m2 t : Int} (h : zRN ((pr, di, dr, mc, sc), nm, mn, sn) fa) (h1 : 0 ≤ mo ∧ mo < mc) (h2 : 0 ≤ m2 ∧ m2 < mc) : (if mo = m2 then (-1 : Int) else zMT (zg mn mo) (zg mn m2) t) = (if mo = m2 then -1 else zMT (ya fa mo) (ya fa m2) t) := by
  rw [zMT_c (rn_moon h h1) (rn_moon h h2)]
theorem an_ticks {mo t to st : Int} (h : zRN ((pr, di, dr, mc, sc), nm, mn, sn) fa) (h1 : 0 ≤ mo ∧ mo < mc) : zTK pr di dr (zg mn mo) t to st = zTK (fa 0) (fa 1) (fa 2) (ya fa mo) t to st := by
  rw [zTK_c (rn_moon h h1), ← (rn_rel h).1.1, ← (rn_rel h).1.2.1, ← (rn_rel h).1.2.2.1]
theorem an_next {mo kd t : Int} (h : zRN ((pr, di, dr, mc, sc), nm, mn, sn) fa) (h1 : 0 ≤ mo ∧ mo < mc) : zNX pr di dr (zg mn mo) kd t = zNX (fa 0) (fa 1) (fa 2) (ya fa mo) kd t := by
  rw [zNX_c (rn_moon h h1), ← (rn_rel h).1.1, ← (rn_rel h).1.2.1, ← (rn_rel h).1.2.2.1]
theorem an_events {a b : Int} (h : zRN ((pr, di, dr, mc, sc), nm, mn, sn) fa) : ((zlT (zEV pr di dr mn) mc a b).length : Int) = ((zlT (zyEV fa) (fa 3) a b).length : Int) := by
  rw [rn_events h a b]
theorem an_event {a b n wh t1 m1 k1 t2 m2 k2 : Int} (h : zRN ((pr, di, dr, mc, sc), nm, mn, sn) fa) (h1 : (zlT (zEV pr di dr mn) mc a b)[n.toNat]? = some (t1, m1, k1)) (h2 : (zlT (zyEV fa) (fa 3) a b)[n.toNat]? = some (t2, m2, k2)) : (if wh = 0 then t1 else if wh = 1 then m1 else k1) = (if wh = 0 then t2 else if wh = 1 then m2 else k2) := by
  rw [rn_events h a b, h2] at h1
  cases h1
  rfl
theorem an_see {mo kd t : Int} (h : zRN ((pr, di, dr, mc, sc), nm, mn, sn) fa) : (if 30 ≤ sc then (-11 : Int) else if zhasS sn sc mo kd t = true then -12 else sc) = (if fa 4 = 30 then -11 else if ysightOf fa mo kd t ≠ -1 then -12 else fa 4) := by
  have e4 := (rn_rel h).1.2.2.2.2
  have hv := (rn_zval h).2.2.2.2.1.2
  have hh : zhasS sn sc mo kd t = decide (ysightOf fa mo kd t ≠ -1) := qrel_hasS (S := (pr, di, dr, mc, sc, nm, mn, sn)) h.1 mo kd t
  rw [hh, e4]
  by_cases q : fa 4 = 30
  · rw [if_pos (show 30 ≤ fa 4 by omega), if_pos q]
  · rw [if_neg (show ¬ 30 ≤ fa 4 by omega), if_neg q]
    by_cases q2 : ysightOf fa mo kd t ≠ -1
    · rw [if_pos (decide_eq_true q2), if_pos q2]
    · rw [if_neg (fun z => q2 (of_decide_eq_true z)), if_neg q2]
theorem see_iff {mo kd t : Int} (h : zRN ((pr, di, dr, mc, sc), nm, mn, sn) fa) : (sc < 30 ∧ zhasS sn sc mo kd t = false) ↔ (fa 4 ≠ 30 ∧ ysightOf fa mo kd t = -1) := by
  have e4 := (rn_rel h).1.2.2.2.2
  have hv := (rn_zval h).2.2.2.2.1.2
  have hh : zhasS sn sc mo kd t = decide (ysightOf fa mo kd t ≠ -1) := qrel_hasS (S := (pr, di, dr, mc, sc, nm, mn, sn)) h.1 mo kd t
  rw [hh]
  constructor
  · rintro ⟨a, b⟩
    exact ⟨by omega, Classical.byContradiction (of_decide_eq_false b)⟩
  · rintro ⟨a, b⟩
    exact ⟨by omega, decide_eq_false (fun z => z b)⟩
theorem set_fit {mo wh v : Int} (h : zRN ((pr, di, dr, mc, sc), nm, mn, sn) fa) (h1 : 0 ≤ mo ∧ mo < mc) (h2 : 0 ≤ wh ∧ wh ≤ 5) (h3 : zLow wh ≤ v ∧ v ≤ zHigh wh) : zfit pr (zg (zU mn (mo * 6 + wh) v) mo) = zfit (fa 0) (ya (zU fa (5 + 14 * mo + wh) v) mo) := by
  rw [← (rn_rel h).1.1]
  exact zfit_c (rn_moon (zRN_set h h1 h2 h3) h1)
theorem an_setMoon {mo wh v : Int} (h : zRN ((pr, di, dr, mc, sc), nm, mn, sn) fa) (h1 : 0 ≤ mo ∧ mo < mc) (h2 : 0 ≤ wh ∧ wh ≤ 5) (h3 : zLow wh ≤ v ∧ v ≤ zHigh wh) : (if zfit pr (zg (zU mn (mo * 6 + wh) v) mo) = true then mn (mo * 6 + wh) else -13) = (if zfit (fa 0) (ya (zU fa (5 + 14 * mo + wh) v) mo) = true then ya fa mo wh else -13) := by
  rw [set_fit h h1 h2 h3, ← rn_moon h h1 wh h2.1 (by omega)]
  rfl
theorem an_shift {mo : Int} (h : zRN ((pr, di, dr, mc, sc), nm, mn, sn) fa) (h1 : 0 ≤ mo ∧ mo < mc) : zBu pr di dr sc (ztn mn mo (zls7 (fun k => zBu pr di dr sc (ztn mn mo (zShf k)) sn mo) 0 0 1000000)) sn mo = ybur (ytn fa mo (zls7 (fun k => ybur (ytn fa mo (zShf k)) mo) 0 0 1000000)) mo := by
  rw [rn_best h h1]
  exact rn_turned h h1 _
end AN
/-- the same double against itself -/
def zdd (x : UInt64) : Int := (Op.cmpValue (FP.dcmp x x) .l).toInt
section DCMP
variable {p : Program} {l : Launch} {e : Env} {R : Room} {s : State} {m : MethodId} {args : Array Value} {below : List Frame} {meth : Method} {c : Code} {H : Heap} {locs : List Loc} {cells slots : Nat} {Q : State → Prop} {cc : ByteArray} {pc : Nat} {ls : Array Slot} {rest : List Value}
theorem zq_dcmp (hx : p.tables.exec = Jvm.exec) (hb : c.code = cc) {x : UInt64} (hdg : decode cc pc = .ok (.dcmp .l, 1))
    (k : W p l e R s m args below meth c H locs cells slots Q (F0 m (pc + 1) ls (.int (zI (zdd x)) :: rest))) : W p l e R s m args below meth c H locs cells slots Q (F0 m pc ls (.double x :: .double x :: rest)) := by
  refine lv_dcmp hx hb hdg ?_
  have e9 : zI (zdd x) = Op.cmpValue (FP.dcmp x x) .l := zI_of _
  rw [e9] at k
  exact k
theorem zdd_in (x : UInt64) : zin (zdd x) := zI_rng _
end DCMP
