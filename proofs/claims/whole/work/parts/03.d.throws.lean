/-! methods that throw: the same layer -/
theorem zX.mono {G : zG} {A B : Nat → Prop} {U : State} {H : Heap} (h : zX G A U H) (hB : ∀ q, B q → A q) : zX G B U H := by
  obtain ⟨⟨z0, z1, z2⟩, ⟨t0, t1, t2⟩, c0, p0, k0, r0, u0, n0, w0, o0, d0, g0, f0⟩ := h
  exact ⟨⟨z0.narrow hB, z1.narrow hB, z2.narrow hB⟩, ⟨t0.narrow hB, t1.narrow hB, t2.narrow hB⟩, c0.narrow hB, p0.narrow hB, k0.narrow hB, r0, u0.narrow hB, n0.narrow hB, w0, o0, d0, g0, f0⟩
section ZXCALL
variable {p : Program} {l : Launch} {e : Env} {R : Room} {s : State} {m : MethodId} {args : Array Value} {below : List Frame} {meth : Method} {c : Code} {H : Heap} {locs : List Loc} {cells slots : Nat} {Q : State → Prop}
variable {cc : ByteArray} {pc nL mc ms n index maxL : Nat} {ls : Array Slot} {rest st0 : List Value} {Ts wds : List Cond} {own C : String} {y : MethodName} {bytes : ByteArray} {ret : Option FieldType} {rm : Room} {As av : List Value} {G : zG} {A : Nat → Prop} {ws wc wr : va_W} {S SX : Type} {rv : S → Option Value} {pr : S → Prop} {wf wn : S → va_W} {px : String → SX → Prop} {wx wnx : SX → va_W}
/-- what a walk owes where a callee has thrown -/
def zKx (p : Program) (l : Launch) (e : Env) (R : Room) (s : State) (m : MethodId) (args : Array Value) (below : List Frame) (meth : Method) (c : Code) (k n : Nat) (Q : State → Prop) (pc : Nat) (ls : Array Slot) (rest : List Value) (G : zG) (A : Nat → Prop) {SX : Type} (px : String → SX → Prop) (wnx : SX → va_W) : Prop :=
  ∀ (E : String) (u : SX) (H1 : Heap) (locs1 : List Loc) (ce : Cell) (q9 : Addr), px E u → zW G A s H1 locs1 (wnx u) → H1[q9]? = some ce → ce.vm = .none → s.vm.findClass E = some ce.cls → vx_W p l e R s m args below meth c H1 locs1 k n Q (F0 m pc ls rest) q9
theorem zx_call (hr : vx_Run p l e R s m args below meth c H locs cells slots mc ms (F0 m pc ls st0) rest (zQ rv pr (zPost G wc H.size wf) (va_A wc H.size) av.toArray) (zQx px (zPost G wc H.size wx) (va_A wc H.size)) (va_A wc H.size)) (hW : zW G A s H locs ws) (isC isR : List Nat)
    (hC : isC.map (fun i => ws[i]?) = wc.map some) (hR : isR.map (fun i => ws[i]?) = wr.map some) (hn : va_nd isR = true) (hdis : ∀ i ∈ isR, i ∉ isC) (perm : List Nat) (hpn : va_nd perm = true) (hp1 : ∀ u, perm.map (fun i => (wr ++ wf u)[i]?) = (wn u).map some) (hp2 : ∀ u, perm.filterMap (fun i => (wr ++ wf u)[i]?) = wn u)
    (permx : List Nat) (hpnx : va_nd permx = true) (hx1 : ∀ u, permx.map (fun i => (wr ++ wx u)[i]?) = (wnx u).map some) (hx2 : ∀ u, permx.filterMap (fun i => (wr ++ wx u)[i]?) = wnx u)
    (kx : zKx p l e R s m args below meth c (cells + mc) (slots + ms) Q pc ls rest G A px wnx)
    (kk : ∀ (u : S) (H1 : Heap) (locs1 : List Loc), pr u → zW G A s H1 locs1 (wn u) → W p l e R s m args below meth c H1 locs1 (cells + mc) (slots + ms) Q (F0 m (pc + 3) ls ((rv u).toList ++ rest))) : W p l e R s m args below meth c H locs cells slots Q (F0 m pc ls st0) := by
  intro T hT X
  obtain ⟨hP, hD, hK, hS, hA, hX⟩ := hW
  have hF := va_free (wc := wc) hD hS hA isC hC
  rcases hr T hT X with ⟨v, st₀, t, T', L, h0, X', hL, e1, e2, ⟨⟨u, hv, hp, hb⟩, hz, hk⟩, st⟩ | ⟨q, st₀, t, T', L, E, ce, h0, X', hL, e1, e2, ⟨u, hp, hb, hz, hk⟩, hce, hcv, hcl, st⟩
  · cases hv
    rw [h0] at hz hk
    obtain ⟨hP1, hK1, hD1⟩ := hb
    have hk1 : ∀ q : Nat, q < H.size → ¬ va_A wc H.size q → T'.heap[q]? = H[q]? := fun q h1 h2 => by rw [e1]; exact hk q h1 h2
    rw [← e1] at hP1 hz
    obtain ⟨hP2, hD2⟩ := va_join hP hD isC isR hC hR hn hdis hk1 hF hP1 hD1
    have hS1 : va_S A s.heap T'.heap (locs ++ L) := ⟨Nat.le_trans hS.1 hz, fun q h1 h2 => by rw [hk1 q (Nat.lt_of_lt_of_le h1 hS.1) (fun z => h2 (hF q z))]; exact hS.2.1 q h1 h2, fun q hq => by
        rcases List.mem_append.mp hq with h | h
        · exact hS.2.2 q h
        · exact hF _ (hL q h)⟩
    obtain ⟨t2, a1, b1⟩ := kk u T'.heap (locs ++ L) hp ⟨hP2.sub perm (hp2 u), hD2.sub perm hpn (hp1 u), hK, hS1, hA, hX⟩ T' rfl X'
    exact ⟨t2, st t2 a1, b1⟩
  · rw [h0] at hz hk
    obtain ⟨hP1, hK1, hD1⟩ := hb
    have hk1 : ∀ q : Nat, q < H.size → ¬ va_A wc H.size q → T'.heap[q]? = H[q]? := fun q h1 h2 => by rw [e1]; exact hk q h1 h2
    rw [← e1] at hP1 hz
    obtain ⟨hP2, hD2⟩ := va_join hP hD isC isR hC hR hn hdis hk1 hF hP1 hD1
    have hS1 : va_S A s.heap T'.heap (locs ++ L) := ⟨Nat.le_trans hS.1 hz, fun q h1 h2 => by rw [hk1 q (Nat.lt_of_lt_of_le h1 hS.1) (fun z => h2 (hF q z))]; exact hS.2.1 q h1 h2, fun q hq => by
        rcases List.mem_append.mp hq with h | h
        · exact hS.2.2 q h
        · exact hF _ (hL q h)⟩
    obtain ⟨t2, a1, b1⟩ := kx E u T'.heap (locs ++ L) ce q hp ⟨hP2.sub permx (hx2 u), hD2.sub permx hpnx (hx1 u), hK, hS1, hA, hX⟩ (by rw [e1]; exact hce) hcv hcl T' rfl X'
    exact ⟨t2, st.trans a1, b1⟩
theorem zx_V (F : CallFix p m c cc nL s args Ts own) {b : Nat} (hM : zMx G l y wds rm (.ref b :: As) wc rv pr wf px wx mc ms) (cw : CallW R s args own C index y bytes maxL ret wds rm mc ms n) (hW : zW G A s H locs ws)
    (q0 : Nat) {ci : Nat} {fs : List Value} {TT : u_T} {NN : Nat} (hb0 : ws[q0]? = some (b, .inr (ci, fs))) (hc0 : vwCl[ci]? = some (C, TT, NN)) (isC isR : List Nat) (hnC : va_nd isC = true)
    (hC : isC.map (fun i => ws[i]?) = wc.map some) (hC2 : isC.filterMap (fun i => ws[i]?) = wc) (hR : isR.map (fun i => ws[i]?) = wr.map some) (hn : va_nd isR = true) (hdis : ∀ i ∈ isR, i ∉ isC) (perm : List Nat) (hpn : va_nd perm = true) (hp1 : ∀ u, perm.map (fun i => (wr ++ wf u)[i]?) = (wn u).map some) (hp2 : ∀ u, perm.filterMap (fun i => (wr ++ wf u)[i]?) = wn u)
    (permx : List Nat) (hpnx : va_nd permx = true) (hx1 : ∀ u, permx.map (fun i => (wr ++ wx u)[i]?) = (wnx u).map some) (hx2 : ∀ u, permx.filterMap (fun i => (wr ++ wx u)[i]?) = wnx u)
    (hAs : As.length = n) (hls : ls.size = nL) (hst : st0 = As.reverse ++ .ref b :: rest) (hrm : (rest.map fun v => v.category).sum ≤ 8) (hdg : decode cc pc = .ok (.invokevirtual index, 3)) (hf : cells + mc ≤ R.cells ∧ slots + ms ≤ R.slots)
    (kx : zKx p l e R s m args below meth c (cells + mc) (slots + ms) Q pc ls rest G A px wnx)
    (kk : ∀ (u : S) (H1 : Heap) (locs1 : List Loc), pr u → zW G A s H1 locs1 (wn u) → W p l e R s m args below meth c H1 locs1 (cells + mc) (slots + ms) Q (F0 m (pc + 3) ls ((rv u).toList ++ rest))) : W p l e R s m args below meth c H locs cells slots Q (F0 m pc ls st0) :=
  zx_call (vx_runV (As := As) (rest := rest) F (hM H.size) cw ⟨zPre_blind, va_recv hW.2.2.1 hW.1 (ci := ci) (q0 := q0) hc0 hb0, fun U hU hw => ⟨rfl, zPre_of hW isC hnC hC hC2 hU hw⟩⟩ rfl hAs hls hst (lv_room hrm) hdg hf) hW isC isR hC hR hn hdis perm hpn hp1 hp2 permx hpnx hx1 hx2 kx kk
theorem zx_S (F : CallFix p m c cc nL s args Ts own) (hM : zMx G l y wds rm As wc rv pr wf px wx mc ms) (cw : CallB R s args own index y bytes maxL ret wds rm mc ms n ∧ (Cond.static y).before args s = true) (hW : zW G A s H locs ws) (isC isR : List Nat) (hnC : va_nd isC = true)
    (hC : isC.map (fun i => ws[i]?) = wc.map some) (hC2 : isC.filterMap (fun i => ws[i]?) = wc) (hR : isR.map (fun i => ws[i]?) = wr.map some) (hn : va_nd isR = true) (hdis : ∀ i ∈ isR, i ∉ isC) (perm : List Nat) (hpn : va_nd perm = true) (hp1 : ∀ u, perm.map (fun i => (wr ++ wf u)[i]?) = (wn u).map some) (hp2 : ∀ u, perm.filterMap (fun i => (wr ++ wf u)[i]?) = wn u)
    (permx : List Nat) (hpnx : va_nd permx = true) (hx1 : ∀ u, permx.map (fun i => (wr ++ wx u)[i]?) = (wnx u).map some) (hx2 : ∀ u, permx.filterMap (fun i => (wr ++ wx u)[i]?) = wnx u)
    (hAs : As.length = n) (hls : ls.size = nL) (hst : st0 = As.reverse ++ rest) (hrm : (rest.map fun v => v.category).sum ≤ 8) (hdg : decode cc pc = .ok (.invokestatic index, 3)) (hf : cells + mc ≤ R.cells ∧ slots + ms ≤ R.slots)
    (kx : zKx p l e R s m args below meth c (cells + mc) (slots + ms) Q pc ls rest G A px wnx)
    (kk : ∀ (u : S) (H1 : Heap) (locs1 : List Loc), pr u → zW G A s H1 locs1 (wn u) → W p l e R s m args below meth c H1 locs1 (cells + mc) (slots + ms) Q (F0 m (pc + 3) ls ((rv u).toList ++ rest))) : W p l e R s m args below meth c H locs cells slots Q (F0 m pc ls st0) :=
  zx_call (vx_runS (As := As) (rest := rest) F (hM H.size) cw ⟨zPre_blind, fun U hU hw => ⟨rfl, zPre_of hW isC hnC hC hC2 hU hw⟩⟩ rfl hAs hls hst (lv_room hrm) hdg hf) hW isC isR hC hR hn hdis perm hpn hp1 hp2 permx hpnx hx1 hx2 kx kk
end ZXCALL
/-- the same for a method of the JDK -/
theorem zM.ofF {G : zG} {l : Launch} {y : MethodName} {wds wds' : List Cond} {rm : Room} {av : List Value} {ws : va_W} {S : Type} {rv : S → Option Value} {pr : S → Prop} {wf : S → va_W} {mc ms : Nat} {cc : ByteArray} {maxL : Nat} {ret : Option FieldType} {l0 : List (Nat × Value)}
    (hy : plainFor y = true) (hw : wds = Cond.code y cc maxL ret :: wds') (hlen : (lg_sl av).length ≤ maxL) (hl0 : lv_args 0 av = l0)
    (body : ∀ (p : Program) (e : Env) (s : State) (m : MethodId) (args : Array Value) (below : List Frame) (meth : Method) (c : Code) (ls : Array Slot), CallFix p m c cc maxL s args wds y.cls → meth.sig.returnType = ret → meth.locks = false → meth.name = y.name → zW G (va_A ws s.heap.size) s s.heap [] ws → lv_has ls maxL l0 →
      W p l e rm s m args below meth c s.heap [] 0 0 (MQ below (zQ rv pr (zPost G ws s.heap.size wf) (va_A ws s.heap.size)) args s mc ms (va_A ws s.heap.size)) (F0 m 0 ls [])) : zM G l y wds rm av ws rv pr wf mc ms := by
  intro sz
  refine va_MetF (cc := cc) (maxL := maxL) (ret := ret) hy hw ?_
  intro p e s m args below meth c s₁ B hml hv
  obtain ⟨rfl, hsz, hP, hK, hD0, hX⟩ := hv
  subst hsz
  have hl := lv_entry av (n := maxL) hlen
  rw [lg_entry_eq]
  rw [hl0] at hl
  exact body p e s m _ below meth c _ ⟨B.exec, B.bytes, hml, findClass_of_methodNamed B.named, atoms_spec (ws := wds) B.pre⟩ B.returns B.notSynchronized (name_of_methodNamed B.named B.method).1 ⟨hP, hD0.self, hK, va_S.rf, fun q h => Or.inr h, hX⟩ hl
theorem zMx.of {G : zG} {l : Launch} {y : MethodName} {wds wds' : List Cond} {rm : Room} {av : List Value} {ws : va_W} {S SX : Type} {rv : S → Option Value} {pr : S → Prop} {wf : S → va_W} {px : String → SX → Prop} {wx : SX → va_W} {mc ms : Nat} {cc : ByteArray} {maxL : Nat} {ret : Option FieldType} {l0 : List (Nat × Value)}
    (hy : plainName y.cls = true) (hw : wds = Cond.code y cc maxL ret :: wds') (hlen : (lg_sl av).length ≤ maxL) (hl0 : lv_args 0 av = l0)
    (body : ∀ (p : Program) (e : Env) (s : State) (m : MethodId) (args : Array Value) (below : List Frame) (meth : Method) (c : Code) (ls : Array Slot), CallFix p m c cc maxL s args wds y.cls → meth.sig.returnType = ret → meth.locks = false → meth.name = y.name → (∀ x ∈ c.exceptionTable.toList, False) → zW G (va_A ws s.heap.size) s s.heap [] ws → lv_has ls maxL l0 →
      W p l e rm s m args below meth c s.heap [] 0 0 (vx_MQ below (zQ rv pr (zPost G ws s.heap.size wf) (va_A ws s.heap.size)) (zQx px (zPost G ws s.heap.size wx) (va_A ws s.heap.size)) args s mc ms (va_A ws s.heap.size)) (F0 m 0 ls [])) : zMx G l y wds rm av ws rv pr wf px wx mc ms := by
  intro sz
  refine vx_ofW (cc := cc) (maxL := maxL) (ret := ret) hy hw ?_
  intro p e s m args below meth c s₁ B hml hex hv
  obtain ⟨rfl, hsz, hP, hK, hD0, hX⟩ := hv
  subst hsz
  have hl := lv_entry av (n := maxL) hlen
  rw [lg_entry_eq]
  rw [hl0] at hl
  exact body p e s m _ below meth c _ ⟨B.exec, B.bytes, hml, findClass_of_methodNamed B.named, atoms_spec (ws := wds) B.pre⟩ B.returns B.notSynchronized (name_of_methodNamed B.named B.method).1 hex ⟨hP, hD0.self, hK, va_S.rf, fun q h => Or.inr h, hX⟩ hl
section ZXEND
variable {p : Program} {l : Launch} {e : Env} {R : Room} {s : State} {m : MethodId} {args : Array Value} {below : List Frame} {meth : Method} {c : Code} {H : Heap} {locs : List Loc} {cells slots mc ms : Nat}
variable {cc : ByteArray} {pc : Nat} {ls : Array Slot} {rest : List Value} {G : zG} {w0 ws' : va_W} {S SX : Type} {rv : S → Option Value} {pr : S → Prop} {wf : S → va_W} {px : String → SX → Prop} {wx : SX → va_W}
/-- what a throw leaves -/
theorem zx_after (hW : zW G (va_A w0 s.heap.size) s H locs ws') (u : SX) (E : String) (hp : px E u) (hw : wx u = ws') (t : State) (ht : s.vm.Alike t.vm) (hz : H.size ≤ t.heap.size) (hk : ∀ q : Nat, q < H.size → t.heap[q]? = H[q]?) : zQx px (zPost G w0 s.heap.size wx) (va_A w0 s.heap.size) E s t := by
  obtain ⟨hP, hD, hK, hS, hA, hX⟩ := hW
  refine ⟨u, hp, ⟨?_, va_K.moved ht hK, by rw [hw]; exact hD⟩, Nat.le_trans hS.1 hz, fun q h1 h2 => by rw [hk q (Nat.lt_of_lt_of_le h1 hS.1)]; exact hS.2.1 q h1 h2⟩
  rw [hw]
  exact fun k q hq => (hP k q hq).kept (hk q.1 (hP k q hq).lt)
/-- a callee's throw goes on to the caller -/
theorem zx_on (hex : ∀ x ∈ c.exceptionTable.toList, False) (hlocks : meth.locks = false) {SY : Type} {py : String → SY → Prop} {wy : SY → va_W} (f : SY → SX) (hp : ∀ E u, py E u → px E (f u)) (hw : ∀ u, wx (f u) = wy u) {k n : Nat} (hc : k ≤ mc) (hs : n ≤ ms) :
    zKx p l e R s m args below meth c k n (vx_MQ below (zQ rv pr (zPost G w0 s.heap.size wf) (va_A w0 s.heap.size)) (zQx px (zPost G w0 s.heap.size wx) (va_A w0 s.heap.size)) args s mc ms (va_A w0 s.heap.size)) pc ls rest G (va_A w0 s.heap.size) py wy := by
  intro E u H1 locs1 ce q9 hpy hW1 hcell hv hcl
  exact vx_out (fun x hx => (hex x hx).elim) hlocks hcell hv hcl (fun t ht hal => zx_after hW1 (f u) E (hp E u hpy) (hw u) t hal (by rw [ht]; exact Nat.le_refl _) (fun q _ => by rw [ht])) hW1.2.2.2.1.2.2 hc hs
/-- a method's own throw -/
theorem zx_throw (hx : p.tables.exec = Jvm.exec) (hb : c.code = cc) (hl : l.stackTraces = false) {own cls : String} {names : List String} {ik ic : Nat} (hown : s.vm.findClass own = some m.cls) (hcls : Bundle.fit cls = true) (hnames : ∀ n ∈ names, Bundle.fit n = true)
    (hk : (Cond.classLink own ik cls).before args s = true) (hini : (Cond.initialized cls).before args s = true) (hat : ∀ w ∈ vx_at0 own ic cls names, w.before args s = true)
    (hgood : ∀ w ∈ Cond.classLink own ik cls :: Cond.initialized cls :: vx_at0 own ic cls names, vx_ot w = true)
    (hex : ∀ x ∈ c.exceptionTable.toList, False) (hlocks : meth.locks = false) (hsize : ls.size = c.maxLocals)
    (d0 : decode cc pc = .ok (.new ik, 3)) (d3 : decode cc (pc + 3) = .ok (.dup, 1)) (d4 : decode cc (pc + 4) = .ok (.invokespecial ic, 3)) (d7 : decode cc (pc + 7) = .ok (.athrow, 1))
    (hRframes : names.length + 3 < R.frames) (hRlocals : (rest.map fun v => v.category).sum + (13 * (names.length + 1) + 42) ≤ R.locals) (hRcells : cells + 1 ≤ R.cells) (hRslots : slots + 6 ≤ R.slots)
    (hW : zW G (va_A w0 s.heap.size) s H locs ws') (u : SX) (hp : px cls u) (hw : wx u = ws') (hc : cells + 1 ≤ mc) (hs : slots + 6 ≤ ms) :
    W p l e R s m args below meth c H locs cells slots (vx_MQ below (zQ rv pr (zPost G w0 s.heap.size wf) (va_A w0 s.heap.size)) (zQx px (zPost G w0 s.heap.size wx) (va_A w0 s.heap.size)) args s mc ms (va_A w0 s.heap.size)) (F0 m pc ls rest) :=
  vx_throw0 hx hb hl hown hcls hnames hk hini hat hgood hW.2.2.2.2.2.2.2.2.2.2.2.1 hW.2.2.2.2.2.2.2.2.2.2.2.2.1 hW.2.2.2.1 hsize d0 d3 d4 d7 (fun x hx => (hex x hx).elim) hRframes hRlocals hRcells hRslots hlocks (fun t ht hz hk2 => zx_after hW u cls hp hw t ht hz hk2) hW.2.2.2.1.2.2 hc hs
end ZXEND
theorem zat {G : zG} {A : Nat → Prop} {s : State} {H : Heap} {locs : List Loc} {ws : va_W} {args : Array Value} {Ts : List Cond} (hW : zW G A s H locs ws) (hts : ∀ w ∈ Ts, w.before args s = true) {own cls : String} {ic : Nat} (i : Nat) (hi : zCast[i]? = some cls)
    (hin : ∀ w ∈ (vx_at0 own ic cls ["java/lang/RuntimeException", "java/lang/Exception"]).filter goodWord, w ∈ Ts)
    (hB : ∀ w ∈ (vx_at0 own ic cls ["java/lang/RuntimeException", "java/lang/Exception"]).filter (fun w => !goodWord w), w ∈ [Cond.declares ⟨"java/lang/RuntimeException", "<init>", "()V"⟩, Cond.declares ⟨"java/lang/Exception", "<init>", "()V"⟩, Cond.declares ⟨"java/lang/Throwable", "<init>", "()V"⟩, Cond.castable cls cls]) :
    ∀ w ∈ vx_at0 own ic cls ["java/lang/RuntimeException", "java/lang/Exception"], w.before args s = true := by
  obtain ⟨hP, hD, hK, hS, hA, -, -, -, -, -, -, -, -, -, -, d0, g0, -⟩ := hW
  refine vx_hat (fun w h => hts w (hin w h)) hB ?_
  intro w hw
  simp only [List.mem_cons, List.not_mem_nil, or_false] at hw
  rcases hw with rfl | rfl | rfl | rfl
  · exact va_Nw.use rfl (d0 _ (List.mem_of_getElem? (i := 0) rfl))
  · exact va_Nw.use rfl (d0 _ (List.mem_of_getElem? (i := 1) rfl))
  · exact va_Nw.use rfl (d0 _ (List.mem_of_getElem? (i := 2) rfl))
  · exact va_Nw.use rfl (g0 _ (List.mem_of_getElem? hi))
