/-! what a walk carries: the classes' ids, the array classes' ids, the constants' addresses -/
abbrev zG : Type := va_G × (Nat → ClassId) × (Nat → Nat) × (Nat → Nat) × (Nat → Nat)
abbrev zk (G : zG) : Nat → ClassId := G.2.1
abbrev zcn (G : zG) : Nat → Nat := G.2.2.1
abbrev zsk (G : zG) : Nat → Nat := G.2.2.2.1
abbrev zsv (G : zG) : Nat → Nat := G.2.2.2.2
abbrev zT (G : zG) : List (ClassId × FieldType) := [(zk G 0, .int), (zk G 1, .long), (zk G 2, .char), (zk G 3, .boolean), (zk G 4, .object "WanderingMoons$Sky"), (zk G 5, .double)]
def zLow : Int → Int := fun i => if i = 0 then 2 else if i = 3 then 8 else 0
def zHigh : Int → Int := fun i => if i = 0 then 9999 else if i = 1 then 60 else if i = 2 then 359 else if i = 3 then 99999 else if i = 4 then 359 else 99
def zShf : Int → Int := fun i => if i = 0 then 0 else if i = 1 then -1 else if i = 2 then 1 else if i = 3 then -2 else if i = 4 then 2 else if i = 5 then -3 else 3
/-- the texts, by their places: dark lit cast off planet light moon wide seen, and four with spaces -/
def zTx : List (List Int32) := [[100, 97, 114, 107], [108, 105, 116], [99, 97, 115, 116], [111, 102, 102], [112, 108, 97, 110, 101, 116], [108, 105, 103, 104, 116], [109, 111, 111, 110], [119, 105, 100, 101], [115, 101, 101, 110], [32, 100, 97, 114, 107, 32], [32, 108, 105, 116, 32], [32, 99, 97, 115, 116, 32], [32, 111, 102, 102, 32]]
def zLn : List Nat := [4, 3, 4, 3, 6, 5, 4, 4, 4, 6, 5, 6, 5]
/-- the constants' entries: class, place, text, which text it is -/
def zStr : List (String × Nat × String × Nat) := [(RX6, 331, "dark", 0), (RX6, 333, "lit", 1), (RX6, 335, "cast", 2), (RX6, 337, "off", 3), (RX2, 53, "planet", 4), (RX2, 73, "light", 5), (RX2, 87, "moon", 6), (RX2, 135, "wide", 7), (RX2, 143, "seen", 8), (RX7, 163, "dark", 0), (RX7, 165, "lit", 1), (RX7, 167, "cast", 2), (RX7, 169, "off", 3), (RX7, 182, "planet", 4), (RX7, 184, "light", 5), (RX7, 186, "moon", 6), (RX7, 150, "wide", 7), (RX7, 191, "seen", 8), (RX7, 343, " dark ", 9), (RX7, 345, " lit ", 10), (RX7, 347, " cast ", 11), (RX7, 349, " off ", 12)]
/-- the links of nest mates' private members: class, place, method -/
def zNest : List (String × Nat × MethodName) := [(RX6, 9, yX1_init), (RX6, 21, yX0_init), (RX6, 32, yX2_init), (RX6, 39, yX5_init), (RX6, 46, yX4_init), (RX4, 11, yX3_init), (RX6, 53, yX3_init), (RX2, 124, yX6_lowestOf), (RX2, 128, yX6_highestOf), (RX2, 159, yX6_kindWord), (RX0, 21, yX6_keepIn), (RX3, 49, yX6_sineOf), (RX3, 77, yX6_lightAngle), (RX4, 67, yX6_hasKind), (RX0, 34, yX6_skyIn)]
def zDecl : List String := ["java/lang/RuntimeException", "java/lang/Exception", "java/lang/Throwable"]
def zCast : List String := ["java/lang/IllegalStateException", "java/lang/IllegalArgumentException", "java/lang/IndexOutOfBoundsException"]
def zNot : List (String × String) := [("java/lang/IllegalArgumentException", "java/lang/IllegalStateException"), ("java/lang/IndexOutOfBoundsException", "java/lang/IllegalStateException"), ("java/lang/IllegalStateException", "java/lang/IllegalArgumentException"), ("java/lang/IndexOutOfBoundsException", "java/lang/IllegalArgumentException"), ("java/lang/IllegalStateException", "java/lang/IndexOutOfBoundsException"), ("java/lang/IllegalArgumentException", "java/lang/IndexOutOfBoundsException")]
theorem va_Nw.decl {x : MethodName} {u U : State} (hvm : u.vm.Alike U.vm) (h : va_Nw (.declares x) u) : va_Nw (.declares x) U :=
  va_tabs rfl (rfl : (u.setVm U.vm).vm = U.vm) (by rw [Cond.declares_setVm hvm]; exact h)
theorem va_Nw.cast {x y : String} {u U : State} (hvm : u.vm.Alike U.vm) (h : va_Nw (.castable x y) u) : va_Nw (.castable x y) U :=
  va_tabs rfl (rfl : (u.setVm U.vm).vm = U.vm) (by rw [Cond.castable_setVm hvm]; exact h)
/-- what never changes: the static rows and texts, and what a throw needs -/
def zX (G : zG) (A : Nat → Prop) (U : State) (H : Heap) : Prop :=
  (va_Z "WanderingMoons" "LOWEST" "[I" (.ref (zcn G 0)) A U H ∧ va_Z "WanderingMoons" "HIGHEST" "[I" (.ref (zcn G 1)) A U H ∧ va_Z "WanderingMoons" "SHIFTS" "[I" (.ref (zcn G 2)) A U H) ∧
  (va_T .int (zcn G 0) 6 (fun j => .int (zA zLow j)) A U H ∧ va_T .int (zcn G 1) 6 (fun j => .int (zA zHigh j)) A U H ∧ va_T .int (zcn G 2) 7 (fun j => .int (zA zShf j)) A U H) ∧
  va_Z "java/lang/String" "COMPACT_STRINGS" "Z" (.int 1) A U H ∧ va_Zq "jdk/internal/util/Preconditions" "SIOOBE_FORMATTER" "Ljava/util/function/BiFunction;" A U H ∧
  vk_S 13 zLn zTx (zsk G) (zsv G) A U H ∧ (∀ q ∈ zStr, vk_R q.1 q.2.1 q.2.2.1 (zsk G q.2.2.2) U) ∧
  vx_Zq Bundle.tN "UNASSIGNED_STACK" Bundle.steD A U H ∧ vx_Zq Bundle.tN "SUPPRESSED_SENTINEL" Bundle.listD A U H ∧
  (∀ q ∈ zNest, va_Nw (.methodLinkNest q.1 q.2.1 q.2.2 RX6) U) ∧ va_AO RX1 U ∧
  (∀ x ∈ zDecl, va_Nw (.declares ⟨x, "<init>", "()V"⟩) U) ∧ (∀ x ∈ zCast, va_Nw (.castable x x) U) ∧ (∀ q ∈ zNot, va_Nc q.1 q.2 U)
theorem zX.calling {G : zG} {A : Nat → Prop} {U : State} {H : Heap} (h : zX G A U H) (g : JFrame) (mk : MethodId) (a : Array Value) : zX G A (U.calling g mk a) H := by
  obtain ⟨⟨z0, z1, z2⟩, ⟨t0, t1, t2⟩, c0, p0, k0, r0, u0, n0, w0, o0, d0, g0, f0⟩ := h
  have hv := Vm.Alike.refl U.vm
  exact ⟨⟨va_Z.moved (U := U.calling g mk a) hv z0, va_Z.moved (U := U.calling g mk a) hv z1, va_Z.moved (U := U.calling g mk a) hv z2⟩, ⟨va_T.moved (U := U.calling g mk a) hv t0, va_T.moved (U := U.calling g mk a) hv t1, va_T.moved (U := U.calling g mk a) hv t2⟩, va_Z.moved (U := U.calling g mk a) hv c0, va_Zq.moved (U := U.calling g mk a) hv p0, vk_S.moved (U := U.calling g mk a) hv k0, fun q hq => vk_R.same (U := U.calling g mk a) rfl (r0 q hq), vx_Zq.moved (U := U.calling g mk a) hv u0, vx_Zq.moved (U := U.calling g mk a) hv n0, fun q hq => va_Nw.same (U := U.calling g mk a) rfl rfl (w0 q hq), va_AO.moved (U := U.calling g mk a) hv o0, fun q hq => va_Nw.decl (U := U.calling g mk a) hv (d0 q hq), fun q hq => va_Nw.cast (U := U.calling g mk a) hv (g0 q hq), fun q hq => va_Nc.moved (U := U.calling g mk a) hv (f0 q hq)⟩
theorem zX.next {G : zG} {A B : Nat → Prop} {s U : State} {H : Heap} {locs : List Loc} (h : zX G A s s.heap) (hS : va_S A s.heap H locs) (hW : s.WarmedH U.vm) (hU : U.heap = H) (hB : ∀ q, B q → A q) : zX G B U U.heap := by
  obtain ⟨⟨z0, z1, z2⟩, ⟨t0, t1, t2⟩, c0, p0, k0, r0, u0, n0, w0, o0, d0, g0, f0⟩ := h
  have hv : s.vm.Alike U.vm := hW.alike
  subst hU
  exact ⟨⟨(va_Z.moved hv (z0.kept hS.2.1)).narrow hB, (va_Z.moved hv (z1.kept hS.2.1)).narrow hB, (va_Z.moved hv (z2.kept hS.2.1)).narrow hB⟩, ⟨(va_T.moved hv (t0.kept hS.2.1)).narrow hB, (va_T.moved hv (t1.kept hS.2.1)).narrow hB, (va_T.moved hv (t2.kept hS.2.1)).narrow hB⟩, (va_Z.moved hv (c0.kept hS.2.1)).narrow hB, (va_Zq.moved hv (p0.kept hS.2.1)).narrow hB, (vk_S.moved hv (k0.kept hS.2.1)).narrow hB, fun q hq => vk_R.warm hW (r0 q hq), (vx_Zq.moved hv (u0.kept hS.2.1)).narrow hB, (vx_Zq.moved hv (n0.kept hS.2.1)).narrow hB, fun q hq => va_Nw.warmM hW (w0 q hq), va_AO.moved hv o0, fun q hq => va_Nw.decl hv (d0 q hq), fun q hq => va_Nw.cast hv (g0 q hq), fun q hq => va_Nc.moved hv (f0 q hq)⟩
/-- the world at a point of a walk: its cells, what the walk may write, what never changes -/
def zW (G : zG) (A : Nat → Prop) (s : State) (H : Heap) (locs : List Loc) (ws : va_W) : Prop :=
  va_P G.1 vwCl ws H ∧ va_D A ws ∧ va_K G.1 vwCl (zT G) s ∧ va_S A s.heap H locs ∧ (∀ q, s.heap.size ≤ q → A q) ∧ zX G A s s.heap
theorem zW.re {G : zG} {A : Nat → Prop} {s : State} {H : Heap} {locs : List Loc} {ws ws' : va_W} (h : zW G A s H locs ws) (is : List Nat) (hn : va_nd is = true) (hs : is.map (fun i => ws[i]?) = ws'.map some) (hs2 : is.filterMap (fun i => ws[i]?) = ws') : zW G A s H locs ws' :=
  ⟨h.1.sub is hs2, h.2.1.sub is hn hs, h.2.2⟩
/-- a method's start and end -/
def zPre (G : zG) (ws : va_W) (sz : Nat) (U : State) : Prop := U.heap.size = sz ∧ va_P G.1 vwCl ws U.heap ∧ va_K G.1 vwCl (zT G) U ∧ va_D (fun _ => True) ws ∧ zX G (va_A ws sz) U U.heap
def zPost (G : zG) (ws : va_W) (sz : Nat) {S : Type} (wf : S → va_W) (u : S) (t : State) : Prop := va_P G.1 vwCl (wf u) t.heap ∧ va_K G.1 vwCl (zT G) t ∧ va_D (va_A ws sz) (wf u)
def zQ {S : Type} (rv : S → Option Value) (pr : S → Prop) (B : S → State → Prop) (A : Nat → Prop) : Array Value → State → Outcome → State → Prop := fun _ st oc t => (∃ u : S, oc = .returned (rv u) ∧ pr u ∧ B u t) ∧ va_F A st t
def zM (G : zG) (l : Launch) (y : MethodName) (wds : List Cond) (rm : Room) (av : List Value) (ws : va_W) {S : Type} (rv : S → Option Value) (pr : S → Prop) (wf : S → va_W) (mc ms : Nat) : Prop :=
  ∀ sz : Nat, Met l y wds rm (va_Pc av (zPre G ws sz)) (zQ rv pr (zPost G ws sz wf) (va_A ws sz)) mc ms (va_A ws sz)
def zQx {SX : Type} (px : String → SX → Prop) (B : SX → State → Prop) (A : Nat → Prop) : String → State → State → Prop := fun E st t => ∃ u : SX, px E u ∧ B u t ∧ va_F A st t
/-- the same of a method that may throw -/
def zMx (G : zG) (l : Launch) (y : MethodName) (wds : List Cond) (rm : Room) (av : List Value) (ws : va_W) {S SX : Type} (rv : S → Option Value) (pr : S → Prop) (wf : S → va_W) (px : String → SX → Prop) (wx : SX → va_W) (mc ms : Nat) : Prop :=
  ∀ sz : Nat, vx_Met l y wds rm (va_Pc av (zPre G ws sz)) (zQ rv pr (zPost G ws sz wf) (va_A ws sz)) (zQx px (zPost G ws sz wx) (va_A ws sz)) mc ms (va_A ws sz)
/-- the answers by their kinds -/
abbrev zri {S : Type} (f : S → Int) : S → Option Value := fun u => some (.int (zI (f u)))
abbrev zrl {S : Type} (f : S → Int) : S → Option Value := fun u => some (.long (zL (f u)))
abbrev zrd {S : Type} (f : S → UInt64) : S → Option Value := fun u => some (.double (f u))
abbrev zrr {S : Type} (f : S → Nat) : S → Option Value := fun u => some (.ref (f u))
abbrev zrq {S : Type} (f : S → Option Nat) : S → Option Value := fun u => some (va_rf (f u))
abbrev zrv {S : Type} : S → Option Value := fun _ => none
theorem zPre_blind {G : zG} {ws : va_W} {sz : Nat} {av : List Value} : FrameBlind (va_Pc av (zPre G ws sz)) := by
  intro a U g mk h
  obtain ⟨h1, h2, h3, h4, h5, h6⟩ := h
  exact ⟨h1, h2, h3, va_K.moved (u := U) (U := U.calling g mk a) (Vm.Alike.refl U.vm) h4, h5, h6.calling g mk a⟩
theorem zPre_of {G : zG} {A : Nat → Prop} {s U : State} {H : Heap} {locs : List Loc} {ws wc : va_W} (hW : zW G A s H locs ws) (isC : List Nat) (hnC : va_nd isC = true) (hC : isC.map (fun i => ws[i]?) = wc.map some) (hC2 : isC.filterMap (fun i => ws[i]?) = wc) (hU : U.heap = H) (hw : s.WarmedH U.vm) : zPre G wc H.size U := by
  obtain ⟨hP, hD, hK, hS, hA, hX⟩ := hW
  have hF := va_free (wc := wc) hD hS hA isC hC
  refine ⟨by rw [hU], by rw [hU]; exact hP.sub isC hC2, va_K.moved hw.alike hK, (hD.sub isC hnC hC).weaken (fun _ _ _ _ => trivial), hX.next hS hw hU hF⟩
section ZCALL
variable {p : Program} {l : Launch} {e : Env} {R : Room} {s : State} {m : MethodId} {args : Array Value} {below : List Frame} {meth : Method} {c : Code} {H : Heap} {locs : List Loc} {cells slots : Nat} {Q : State → Prop}
variable {cc : ByteArray} {pc nL mc ms n index maxL : Nat} {ls : Array Slot} {rest st0 : List Value} {Ts wds : List Cond} {own C : String} {y : MethodName} {bytes : ByteArray} {ret : Option FieldType} {rm : Room} {As av : List Value} {G : zG} {A : Nat → Prop} {ws wc wr : va_W} {S : Type} {rv : S → Option Value} {pr : S → Prop} {wf wn : S → va_W}
theorem z_call (hr : va_Run p l e R s m args below meth c H locs cells slots mc ms (F0 m pc ls st0) rest (zQ rv pr (zPost G wc H.size wf) (va_A wc H.size) av.toArray) (va_A wc H.size)) (hW : zW G A s H locs ws) (isC isR : List Nat)
    (hC : isC.map (fun i => ws[i]?) = wc.map some) (hR : isR.map (fun i => ws[i]?) = wr.map some) (hn : va_nd isR = true) (hdis : ∀ i ∈ isR, i ∉ isC) (perm : List Nat) (hpn : va_nd perm = true) (hp1 : ∀ u, perm.map (fun i => (wr ++ wf u)[i]?) = (wn u).map some) (hp2 : ∀ u, perm.filterMap (fun i => (wr ++ wf u)[i]?) = wn u)
    (kk : ∀ (u : S) (H1 : Heap) (locs1 : List Loc), pr u → zW G A s H1 locs1 (wn u) → W p l e R s m args below meth c H1 locs1 (cells + mc) (slots + ms) Q (F0 m (pc + 3) ls ((rv u).toList ++ rest))) : W p l e R s m args below meth c H locs cells slots Q (F0 m pc ls st0) := by
  intro T hT X
  obtain ⟨v, st₀, t, T', L, h0, X', hL, e1, e2, ⟨⟨u, hv, hp, hb⟩, hz, hk⟩, st⟩ := hr T hT X
  obtain ⟨hP, hD, hK, hS, hA, hX⟩ := hW
  have hF := va_free (wc := wc) hD hS hA isC hC
  cases hv
  rw [h0] at hz hk
  obtain ⟨hP1, hK1, hD1⟩ := hb
  have hk1 : ∀ q : Nat, q < H.size → ¬ va_A wc H.size q → T'.heap[q]? = H[q]? := fun q h1 h2 => by rw [e1]; exact hk q h1 h2
  rw [← e1] at hP1 hz
  obtain ⟨hP2, hD2⟩ := va_join hP hD isC isR hC hR hn hdis hk1 hF hP1 hD1
  have hS1 : va_S A s.heap T'.heap (locs ++ L) := ⟨Nat.le_trans hS.1 hz, fun q h1 h2 => by rw [hk1 q (Nat.lt_of_lt_of_le h1 hS.1) (fun z => h2 (hF q z))]; exact hS.2.1 q h1 h2, fun q hq => by
      rcases List.mem_append.mp hq with h | h
      · exact hS.2.2 q h
      · exact hF _ (hL q h)⟩
  obtain ⟨t2, a1, b1⟩ := kk u T'.heap (locs ++ L) hp ⟨hP2.sub perm (hp2 u), hD2.sub perm hpn (hp1 u), hK, hS1, hA, hX⟩ T' rfl X'
  exact ⟨t2, st t2 a1, b1⟩
theorem z_V (F : CallFix p m c cc nL s args Ts own) {b : Nat} (hM : zM G l y wds rm (.ref b :: As) wc rv pr wf mc ms) (cw : CallW R s args own C index y bytes maxL ret wds rm mc ms n) (hW : zW G A s H locs ws)
    (q0 : Nat) {ci : Nat} {fs : List Value} {TT : u_T} {NN : Nat} (hb0 : ws[q0]? = some (b, .inr (ci, fs))) (hc0 : vwCl[ci]? = some (C, TT, NN)) (isC isR : List Nat) (hnC : va_nd isC = true)
    (hC : isC.map (fun i => ws[i]?) = wc.map some) (hC2 : isC.filterMap (fun i => ws[i]?) = wc) (hR : isR.map (fun i => ws[i]?) = wr.map some) (hn : va_nd isR = true) (hdis : ∀ i ∈ isR, i ∉ isC) (perm : List Nat) (hpn : va_nd perm = true) (hp1 : ∀ u, perm.map (fun i => (wr ++ wf u)[i]?) = (wn u).map some) (hp2 : ∀ u, perm.filterMap (fun i => (wr ++ wf u)[i]?) = wn u)
    (hAs : As.length = n) (hls : ls.size = nL) (hst : st0 = As.reverse ++ .ref b :: rest) (hrm : (rest.map fun v => v.category).sum ≤ 8) (hdg : decode cc pc = .ok (.invokevirtual index, 3)) (hf : cells + mc ≤ R.cells ∧ slots + ms ≤ R.slots)
    (kk : ∀ (u : S) (H1 : Heap) (locs1 : List Loc), pr u → zW G A s H1 locs1 (wn u) → W p l e R s m args below meth c H1 locs1 (cells + mc) (slots + ms) Q (F0 m (pc + 3) ls ((rv u).toList ++ rest))) : W p l e R s m args below meth c H locs cells slots Q (F0 m pc ls st0) :=
  z_call (va_runV (As := As) (rest := rest) F (hM H.size) cw ⟨zPre_blind, va_recv hW.2.2.1 hW.1 (ci := ci) (q0 := q0) hc0 hb0, fun U hU hw => ⟨rfl, zPre_of hW isC hnC hC hC2 hU hw⟩⟩ rfl hAs hls hst (lv_room hrm) hdg hf) hW isC isR hC hR hn hdis perm hpn hp1 hp2 kk
theorem z_VN (F : CallFix p m c cc nL s args Ts own) {host : String} {b : Nat} (hM : zM G l y wds rm (.ref b :: As) wc rv pr wf mc ms) (cw : va_CN R s args own index y host bytes maxL ret wds rm mc ms n ∧ (Cond.instanceMethod y).before args s = true ∧ (Cond.selects C y y).before args s = true) (hW : zW G A s H locs ws)
    (q0 : Nat) {ci : Nat} {fs : List Value} {TT : u_T} {NN : Nat} (hb0 : ws[q0]? = some (b, .inr (ci, fs))) (hc0 : vwCl[ci]? = some (C, TT, NN)) (isC isR : List Nat) (hnC : va_nd isC = true)
    (hC : isC.map (fun i => ws[i]?) = wc.map some) (hC2 : isC.filterMap (fun i => ws[i]?) = wc) (hR : isR.map (fun i => ws[i]?) = wr.map some) (hn : va_nd isR = true) (hdis : ∀ i ∈ isR, i ∉ isC) (perm : List Nat) (hpn : va_nd perm = true) (hp1 : ∀ u, perm.map (fun i => (wr ++ wf u)[i]?) = (wn u).map some) (hp2 : ∀ u, perm.filterMap (fun i => (wr ++ wf u)[i]?) = wn u)
    (hAs : As.length = n) (hls : ls.size = nL) (hst : st0 = As.reverse ++ .ref b :: rest) (hrm : (rest.map fun v => v.category).sum ≤ 8) (hdg : decode cc pc = .ok (.invokevirtual index, 3)) (hf : cells + mc ≤ R.cells ∧ slots + ms ≤ R.slots)
    (kk : ∀ (u : S) (H1 : Heap) (locs1 : List Loc), pr u → zW G A s H1 locs1 (wn u) → W p l e R s m args below meth c H1 locs1 (cells + mc) (slots + ms) Q (F0 m (pc + 3) ls ((rv u).toList ++ rest))) : W p l e R s m args below meth c H locs cells slots Q (F0 m pc ls st0) :=
  z_call (va_runVN (As := As) (rest := rest) F (hM H.size) cw ⟨zPre_blind, va_recv hW.2.2.1 hW.1 (ci := ci) (q0 := q0) hc0 hb0, fun U hU hw => ⟨rfl, zPre_of hW isC hnC hC hC2 hU hw⟩⟩ rfl hAs hls hst (lv_room hrm) hdg hf) hW isC isR hC hR hn hdis perm hpn hp1 hp2 kk
theorem z_S (F : CallFix p m c cc nL s args Ts own) (hM : zM G l y wds rm As wc rv pr wf mc ms) (cw : CallB R s args own index y bytes maxL ret wds rm mc ms n ∧ (Cond.static y).before args s = true) (hW : zW G A s H locs ws) (isC isR : List Nat) (hnC : va_nd isC = true)
    (hC : isC.map (fun i => ws[i]?) = wc.map some) (hC2 : isC.filterMap (fun i => ws[i]?) = wc) (hR : isR.map (fun i => ws[i]?) = wr.map some) (hn : va_nd isR = true) (hdis : ∀ i ∈ isR, i ∉ isC) (perm : List Nat) (hpn : va_nd perm = true) (hp1 : ∀ u, perm.map (fun i => (wr ++ wf u)[i]?) = (wn u).map some) (hp2 : ∀ u, perm.filterMap (fun i => (wr ++ wf u)[i]?) = wn u)
    (hAs : As.length = n) (hls : ls.size = nL) (hst : st0 = As.reverse ++ rest) (hrm : (rest.map fun v => v.category).sum ≤ 8) (hdg : decode cc pc = .ok (.invokestatic index, 3)) (hf : cells + mc ≤ R.cells ∧ slots + ms ≤ R.slots)
    (kk : ∀ (u : S) (H1 : Heap) (locs1 : List Loc), pr u → zW G A s H1 locs1 (wn u) → W p l e R s m args below meth c H1 locs1 (cells + mc) (slots + ms) Q (F0 m (pc + 3) ls ((rv u).toList ++ rest))) : W p l e R s m args below meth c H locs cells slots Q (F0 m pc ls st0) :=
  z_call (va_runS (As := As) (rest := rest) F (hM H.size) cw ⟨zPre_blind, fun U hU hw => ⟨rfl, zPre_of hW isC hnC hC hC2 hU hw⟩⟩ rfl hAs hls hst (lv_room hrm) hdg hf) hW isC isR hC hR hn hdis perm hpn hp1 hp2 kk
theorem z_SN (F : CallFix p m c cc nL s args Ts own) {host : String} (hM : zM G l y wds rm As wc rv pr wf mc ms) (cw : va_CN R s args own index y host bytes maxL ret wds rm mc ms n ∧ (Cond.static y).before args s = true ∧ True) (hW : zW G A s H locs ws) (isC isR : List Nat) (hnC : va_nd isC = true)
    (hC : isC.map (fun i => ws[i]?) = wc.map some) (hC2 : isC.filterMap (fun i => ws[i]?) = wc) (hR : isR.map (fun i => ws[i]?) = wr.map some) (hn : va_nd isR = true) (hdis : ∀ i ∈ isR, i ∉ isC) (perm : List Nat) (hpn : va_nd perm = true) (hp1 : ∀ u, perm.map (fun i => (wr ++ wf u)[i]?) = (wn u).map some) (hp2 : ∀ u, perm.filterMap (fun i => (wr ++ wf u)[i]?) = wn u)
    (hAs : As.length = n) (hls : ls.size = nL) (hst : st0 = As.reverse ++ rest) (hrm : (rest.map fun v => v.category).sum ≤ 8) (hdg : decode cc pc = .ok (.invokestatic index, 3)) (hf : cells + mc ≤ R.cells ∧ slots + ms ≤ R.slots)
    (kk : ∀ (u : S) (H1 : Heap) (locs1 : List Loc), pr u → zW G A s H1 locs1 (wn u) → W p l e R s m args below meth c H1 locs1 (cells + mc) (slots + ms) Q (F0 m (pc + 3) ls ((rv u).toList ++ rest))) : W p l e R s m args below meth c H locs cells slots Q (F0 m pc ls st0) :=
  z_call (va_runSN (As := As) (rest := rest) F (hM H.size) cw ⟨zPre_blind, fun U hU hw => ⟨rfl, zPre_of hW isC hnC hC hC2 hU hw⟩⟩ rfl hAs hls hst (lv_room hrm) hdg hf) hW isC isR hC hR hn hdis perm hpn hp1 hp2 kk
end ZCALL
/-- a contract out of a walk -/
theorem zM.of {G : zG} {l : Launch} {y : MethodName} {wds wds' : List Cond} {rm : Room} {av : List Value} {ws : va_W} {S : Type} {rv : S → Option Value} {pr : S → Prop} {wf : S → va_W} {mc ms : Nat} {cc : ByteArray} {maxL : Nat} {ret : Option FieldType} {l0 : List (Nat × Value)}
    (hy : plainName y.cls = true) (hw : wds = Cond.code y cc maxL ret :: wds') (hlen : (lg_sl av).length ≤ maxL) (hl0 : lv_args 0 av = l0)
    (body : ∀ (p : Program) (e : Env) (s : State) (m : MethodId) (args : Array Value) (below : List Frame) (meth : Method) (c : Code) (ls : Array Slot), CallFix p m c cc maxL s args wds y.cls → meth.sig.returnType = ret → meth.locks = false → meth.name = y.name → zW G (va_A ws s.heap.size) s s.heap [] ws → lv_has ls maxL l0 →
      W p l e rm s m args below meth c s.heap [] 0 0 (MQ below (zQ rv pr (zPost G ws s.heap.size wf) (va_A ws s.heap.size)) args s mc ms (va_A ws s.heap.size)) (F0 m 0 ls [])) : zM G l y wds rm av ws rv pr wf mc ms := by
  intro sz
  refine Met.ofW (cc := cc) (maxL := maxL) (ret := ret) hy hw ?_
  intro p e s m args below meth c s₁ B hml hv
  obtain ⟨rfl, hsz, hP, hK, hD0, hX⟩ := hv
  subst hsz
  have hl := lv_entry av (n := maxL) hlen
  rw [lg_entry_eq]
  rw [hl0] at hl
  exact body p e s m _ below meth c _ ⟨B.exec, B.bytes, hml, findClass_of_methodNamed B.named, atoms_spec (ws := wds) B.pre⟩ B.returns B.notSynchronized (name_of_methodNamed B.named B.method).1 ⟨hP, hD0.self, hK, va_S.rf, fun q h => Or.inr h, hX⟩ hl
