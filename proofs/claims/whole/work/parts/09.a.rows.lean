/-! rows for making objects and rows, for references, for texts and doubles, and for calls beside a tail of cells -/
/-- rows of doubles -/
def zD (f : Int → UInt64) : Nat → UInt64 := fun j => f (j : Int)
def zUd (f : Int → UInt64) (i : Int) (x : UInt64) : Int → UInt64 := fun j => if j = i then x else f j
section ZNEW
variable {p : Program} {l : Launch} {e : Env} {R : Room} {s : State} {m : MethodId} {args : Array Value} {below : List Frame} {meth : Method} {c : Code} {H : Heap} {locs : List Loc} {cells slots : Nat} {Q : State → Prop}
variable {cc : ByteArray} {pc : Nat} {ls : Array Slot} {rest : List Value} {G : zG} {A : Nat → Prop} {ws ws' : va_W}
theorem zw_new (hx : p.tables.exec = Jvm.exec) (hb : c.code = cc) {own C : String} {T : u_T} {N ci index : Nat} {Ts : List Cond} (hts : ∀ w ∈ Ts, w.before args s = true) (hin : ∀ w ∈ u_ws C T N, w ∈ Ts) (ty : Nat → FieldType) (hty : ∀ k, k < N → parseFieldDescriptor (T k).2.2.1 = some (ty k)) (hown : s.vm.findClass own = some m.cls) (hcl : Cond.classLink own index C ∈ Ts) (hinst : Cond.instantiable C N ∈ Ts) (hini : Cond.initialized C ∈ Ts)
    (hW : zW G A s H locs ws) (hc : vwCl[ci]? = some (C, T, N)) {fs : List Value} (hfs : ∀ j, j < N → defaultValue (ty j) = vp_V fs j) (hcells : cells + 1 ≤ R.cells) (hslots : slots + N ≤ R.slots) (hdg : decode cc pc = .ok (.new index, 3))
    (kk : ∀ (q : Nat) (H1 : Heap), zW G A s H1 locs (ws ++ [(q, .inr (ci, fs))]) → W p l e R s m args below meth c H1 locs (cells + 1) (slots + N) Q (F0 m (pc + 3) ls (.ref q :: rest))) : W p l e R s m args below meth c H locs cells slots Q (F0 m pc ls rest) :=
  va_new hx hb hts hin ty hty hown (hts _ hcl) (hts _ hinst) (hts _ hini) hW.2.2.1 hW.1 hW.2.1 hW.2.2.2.1 hW.2.2.2.2.1 hc hfs hcells hslots hdg (fun q H1 hP hD hS => kk q H1 ⟨hP, hD, hW.2.2.1, hS, hW.2.2.2.2⟩)
theorem zw_newa (hx : p.tables.exec = Jvm.exec) (hb : c.code = cc) {Ts : List Cond} (hts : ∀ w ∈ Ts, w.before args s = true) {atype : ArrayType} (harr : Cond.arrayClass (newarray.typeOf atype) ∈ Ts) {ty : FieldType} (hty : newarray.typeOf atype = ty) (hW : zW G A s H locs ws) (t0 : Nat) {cT : ClassId} (ht : (zT G)[t0]? = some (cT, ty)) (hpr : ∀ cA, va_RA s cA ty → s.vm.findClass ("[" ++ ty.toString) = some cA)
    {n : Int} {N : Nat} {a0 : vp_A} (ha : ∀ cA : ClassId, vp_cell cA a0 = arrV cA N (fun _ => defaultValue ty)) (hn : n = (N : Int)) (hN : N < 2147483648) (hbytes : N * componentBytes ty ≤ 536870912) (hcells : cells + 1 ≤ R.cells) (hslots : slots + N ≤ R.slots) (hdg : decode cc pc = .ok (.newarray atype, 2))
    (kk : ∀ (q : Nat) (H1 : Heap), zW G A s H1 locs (ws ++ [(q, .inl (cT, a0))]) → W p l e R s m args below meth c H1 locs (cells + 1) (slots + N) Q (F0 m (pc + 2) ls (.ref q :: rest))) : W p l e R s m args below meth c H locs cells slots Q (F0 m pc ls (.int (zI n) :: rest)) := by
  have hz : zin n := ⟨by omega, by omega⟩
  refine va_newa hx hb (hts _ harr) hty hW.2.2.1 hW.1 hW.2.1 hW.2.2.2.1 hW.2.2.2.2.1 (a0 := a0) ha (fun h => ?_) (by rw [zI_cl hz]; omega) hbytes hcells hslots hdg (fun q cA H1 hK hP hD hS => ?_)
  · have h2 := (zI_lt hz (b := 0) (by omega)).mp h
    omega
  · have e1 := hpr _ (hW.2.2.1.2 t0 _ ht).2
    have e2 := hpr _ (hK.2 (zT G).length (cA, ty) rfl).2
    obtain rfl : cT = cA := Option.some.inj (e1.symm.trans e2)
    exact kk q H1 ⟨hP, hD, hW.2.2.1, hS, hW.2.2.2.2⟩
theorem zw_newi (hx : p.tables.exec = Jvm.exec) (hb : c.code = cc) {Ts : List Cond} (hts : ∀ w ∈ Ts, w.before args s = true) (harr : Cond.arrayClass .int ∈ Ts) (hW : zW G A s H locs ws) {n : Int} {N : Nat} (hn : n = (N : Int)) (hN : N < 2147483648) (hbytes : N * componentBytes .int ≤ 536870912) (hcells : cells + 1 ≤ R.cells) (hslots : slots + N ≤ R.slots) (hdg : decode cc pc = .ok (.newarray .int, 2))
    (kk : ∀ (q : Nat) (H1 : Heap), zW G A s H1 locs (ws ++ [(q, .inl (zk G 0, N, .inl (zA (fun _ => 0))))]) → W p l e R s m args below meth c H1 locs (cells + 1) (slots + N) Q (F0 m (pc + 2) ls (.ref q :: rest))) : W p l e R s m args below meth c H locs cells slots Q (F0 m pc ls (.int (zI n) :: rest)) :=
  zw_newa (atype := .int) hx hb hts harr rfl hW 0 rfl (fun _ h => h) (a0 := (N, .inl (zA (fun _ => 0)))) (fun cA => vp_cell_i cA N (zA (fun _ => 0))) hn hN hbytes hcells hslots hdg kk
theorem zw_newl (hx : p.tables.exec = Jvm.exec) (hb : c.code = cc) {Ts : List Cond} (hts : ∀ w ∈ Ts, w.before args s = true) (harr : Cond.arrayClass .long ∈ Ts) (hW : zW G A s H locs ws) {n : Int} {N : Nat} (hn : n = (N : Int)) (hN : N < 2147483648) (hbytes : N * componentBytes .long ≤ 536870912) (hcells : cells + 1 ≤ R.cells) (hslots : slots + N ≤ R.slots) (hdg : decode cc pc = .ok (.newarray .long, 2))
    (kk : ∀ (q : Nat) (H1 : Heap), zW G A s H1 locs (ws ++ [(q, .inl (zk G 1, N, .inr (.inl (zB (fun _ => 0)))))]) → W p l e R s m args below meth c H1 locs (cells + 1) (slots + N) Q (F0 m (pc + 2) ls (.ref q :: rest))) : W p l e R s m args below meth c H locs cells slots Q (F0 m pc ls (.int (zI n) :: rest)) :=
  zw_newa (atype := .long) hx hb hts harr rfl hW 1 rfl (fun _ h => h) (a0 := (N, .inr (.inl (zB (fun _ => 0))))) (fun cA => vp_cell_l cA N (zB (fun _ => 0))) hn hN hbytes hcells hslots hdg kk
theorem zw_newc (hx : p.tables.exec = Jvm.exec) (hb : c.code = cc) {Ts : List Cond} (hts : ∀ w ∈ Ts, w.before args s = true) (harr : Cond.arrayClass .char ∈ Ts) (hW : zW G A s H locs ws) {n : Int} {N : Nat} (hn : n = (N : Int)) (hN : N < 2147483648) (hbytes : N * componentBytes .char ≤ 536870912) (hcells : cells + 1 ≤ R.cells) (hslots : slots + N ≤ R.slots) (hdg : decode cc pc = .ok (.newarray .char, 2))
    (kk : ∀ (q : Nat) (H1 : Heap), zW G A s H1 locs (ws ++ [(q, .inl (zk G 2, N, .inl (zA (fun _ => 0))))]) → W p l e R s m args below meth c H1 locs (cells + 1) (slots + N) Q (F0 m (pc + 2) ls (.ref q :: rest))) : W p l e R s m args below meth c H locs cells slots Q (F0 m pc ls (.int (zI n) :: rest)) :=
  zw_newa (atype := .char) hx hb hts harr rfl hW 2 rfl (fun _ h => h) (a0 := (N, .inl (zA (fun _ => 0)))) (fun cA => vp_cell_i cA N (zA (fun _ => 0))) hn hN hbytes hcells hslots hdg kk
theorem zw_newz (hx : p.tables.exec = Jvm.exec) (hb : c.code = cc) {Ts : List Cond} (hts : ∀ w ∈ Ts, w.before args s = true) (harr : Cond.arrayClass .boolean ∈ Ts) (hW : zW G A s H locs ws) {n : Int} {N : Nat} (hn : n = (N : Int)) (hN : N < 2147483648) (hbytes : N * componentBytes .boolean ≤ 536870912) (hcells : cells + 1 ≤ R.cells) (hslots : slots + N ≤ R.slots) (hdg : decode cc pc = .ok (.newarray .boolean, 2))
    (kk : ∀ (q : Nat) (H1 : Heap), zW G A s H1 locs (ws ++ [(q, .inl (zk G 3, N, .inl (zA (fun _ => 0))))]) → W p l e R s m args below meth c H1 locs (cells + 1) (slots + N) Q (F0 m (pc + 2) ls (.ref q :: rest))) : W p l e R s m args below meth c H locs cells slots Q (F0 m pc ls (.int (zI n) :: rest)) :=
  zw_newa (atype := .boolean) hx hb hts harr rfl hW 3 rfl (fun _ h => h) (a0 := (N, .inl (zA (fun _ => 0)))) (fun cA => vp_cell_i cA N (zA (fun _ => 0))) hn hN hbytes hcells hslots hdg kk
theorem zw_newd (hx : p.tables.exec = Jvm.exec) (hb : c.code = cc) {Ts : List Cond} (hts : ∀ w ∈ Ts, w.before args s = true) (harr : Cond.arrayClass .double ∈ Ts) (hW : zW G A s H locs ws) {n : Int} {N : Nat} (hn : n = (N : Int)) (hN : N < 2147483648) (hbytes : N * componentBytes .double ≤ 536870912) (hcells : cells + 1 ≤ R.cells) (hslots : slots + N ≤ R.slots) (hdg : decode cc pc = .ok (.newarray .double, 2))
    (kk : ∀ (q : Nat) (H1 : Heap), zW G A s H1 locs (ws ++ [(q, .inl (zk G 5, N, .inr (.inr (.inr (.inl (zD (fun _ => 0)))))))]) → W p l e R s m args below meth c H1 locs (cells + 1) (slots + N) Q (F0 m (pc + 2) ls (.ref q :: rest))) : W p l e R s m args below meth c H locs cells slots Q (F0 m pc ls (.int (zI n) :: rest)) :=
  zw_newa (atype := .double) hx hb hts harr rfl hW 5 rfl (fun _ h => h) (a0 := (N, .inr (.inr (.inr (.inl (zD (fun _ => 0))))))) (fun cA => vp_cell_d cA N (zD (fun _ => 0))) hn hN hbytes hcells hslots hdg kk
theorem zw_newq (hx : p.tables.exec = Jvm.exec) (hb : c.code = cc) {own : String} {index : Nat} {Ts : List Cond} (hts : ∀ w ∈ Ts, w.before args s = true) (hown : s.vm.findClass own = some m.cls) (hclink : Cond.classLink own index RX1 ∈ Ts) (hW : zW G A s H locs ws) {n : Int} {N : Nat} (hn : n = (N : Int)) (hN : N < 2147483648) (hbytes : N * 4 ≤ 536870912) (hcells : cells + 1 ≤ R.cells) (hslots : slots + N ≤ R.slots) (hdg : decode cc pc = .ok (.anewarray index, 3))
    (kk : ∀ (q : Nat) (H1 : Heap), zW G A s H1 locs (ws ++ [(q, .inl (zk G 4, N, .inr (.inr (.inr (.inr (fun _ => none))))))]) → W p l e R s m args below meth c H1 locs (cells + 1) (slots + N) Q (F0 m (pc + 3) ls (.ref q :: rest))) : W p l e R s m args below meth c H locs cells slots Q (F0 m pc ls (.int (zI n) :: rest)) := by
  have hz : zin n := ⟨by omega, by omega⟩
  refine va_newq hx hb hown (hts _ hclink) hW.2.2.2.2.2.2.2.2.2.2.2.2.2.2.1 hW.2.2.1 hW.1 hW.2.1 hW.2.2.2.1 hW.2.2.2.2.1 (fun h => ?_) (by rw [zI_cl hz]; omega) hbytes hcells hslots hdg (fun q cA H1 hK hP hD hS => ?_)
  · have h2 := (zI_lt hz (b := 0) (by omega)).mp h
    omega
  · obtain ⟨-, -, -, -, -, e1⟩ := (hW.2.2.1.2 4 _ rfl).2
    obtain ⟨-, -, -, -, -, e2⟩ := (hK.2 (zT G).length (cA, .object RX1) rfl).2
    obtain rfl : zk G 4 = cA := Option.some.inj (e1.symm.trans e2)
    exact kk q H1 ⟨hP, hD, hW.2.2.1, hS, hW.2.2.2.2⟩
theorem zw_qast (hx : p.tables.exec = Jvm.exec) (hb : c.code = cc) (hW : zW G A s H locs ws) (q0 qk : Nat) {a v n : Nat} {vs : List Value} {f : Nat → Option Nat} (he : ws[q0]? = some (a, .inl (zk G 4, n, .inr (.inr (.inr (.inr f)))))) (hv : ws[qk]? = some (v, .inr (1, vs))) {i : Int} (h0 : 0 ≤ i) (h1 : i < (n : Int)) (hn : n < 2147483648) (hset : ws.set q0 (a, .inl (zk G 4, n, .inr (.inr (.inr (.inr (va_up f i.toNat (some v))))))) = ws') (hdg : decode cc pc = .ok (.aastore, 1))
    (kk : ∀ (H1 : Heap) (locs1 : List Loc), zW G A s H1 locs1 ws' → W p l e R s m args below meth c H1 locs1 cells slots Q (F0 m (pc + 1) ls rest)) : W p l e R s m args below meth c H locs cells slots Q (F0 m pc ls (.ref v :: .int (zI i) :: .ref a :: rest)) :=
  va_astq (r := (RX1, TX1, 8)) hx hb hW.2.2.1 hW.1 hW.2.1 hW.2.2.2.1 q0 4 qk 1 he rfl hv rfl (zI_vin h0 h1 hn) hdg (fun H1 locs1 hP hD hS => by
    rw [zI_cl ⟨by omega, by omega⟩] at hP hD
    exact kk H1 locs1 (hset ▸ ⟨hP, hD, hW.2.2.1, hS, hW.2.2.2.2⟩))
theorem zv_null_q (hx : p.tables.exec = Jvm.exec) (hb : c.code = cc) {o : Option Nat} {off : Int} {tgt : Nat} (hdg : decode cc pc = .ok (.ifnull off, 3)) (ht : (pc : Int) + off = (tgt : Int)) (kt : o = none → W p l e R s m args below meth c H locs cells slots Q (F0 m tgt ls rest)) (kf : ∀ a : Nat, o = some a → W p l e R s m args below meth c H locs cells slots Q (F0 m (pc + 3) ls rest)) : W p l e R s m args below meth c H locs cells slots Q (F0 m pc ls (va_rf o :: rest)) := by
  cases o with
  | none => exact lv_ifnullN hx hb hdg ht (kt rfl)
  | some a => exact lv_ifnull hx hb hdg (kf a rfl)
theorem zv_nonnull_q (hx : p.tables.exec = Jvm.exec) (hb : c.code = cc) {o : Option Nat} {off : Int} {tgt : Nat} (hdg : decode cc pc = .ok (.ifnonnull off, 3)) (ht : (pc : Int) + off = (tgt : Int)) (kf : o = none → W p l e R s m args below meth c H locs cells slots Q (F0 m (pc + 3) ls rest)) (kt : ∀ a : Nat, o = some a → W p l e R s m args below meth c H locs cells slots Q (F0 m tgt ls rest)) : W p l e R s m args below meth c H locs cells slots Q (F0 m pc ls (va_rf o :: rest)) := by
  cases o with
  | none => exact lv_ifnonnullN hx hb hdg (kf rfl)
  | some a => exact lv_ifnonnull hx hb hdg ht (kt a rfl)
theorem ze_q {w0 : va_W} {S : Type} {rv : S → Option Value} {pr : S → Prop} {wf : S → va_W} (hx : p.tables.exec = Jvm.exec) (hb : c.code = cc) {C : String} (hr : meth.sig.returnType = some (.object C)) (hlocks : meth.locks = false) (hW : zW G (va_A w0 s.heap.size) s H locs ws') (u : S) {o : Option Nat} (hu : rv u = some (va_rf o)) (hp : pr u) (hw : wf u = ws') (hdg : decode cc pc = .ok (.areturn, 1)) : W p l e R s m args below meth c H locs cells slots (MQ below (zQ rv pr (zPost G w0 s.heap.size wf) (va_A w0 s.heap.size)) args s cells slots (va_A w0 s.heap.size)) (F0 m pc ls [va_rf o]) :=
  W.aret hx hb hr (.inl ⟨C, rfl⟩) (by cases o with | none => exact .inl rfl | some a => exact .inr ⟨a, rfl⟩) (fun t ht hw9 => ⟨⟨u, by rw [hu], hp, by rw [ht, hw]; exact hW.1, va_K.moved hw9.alike hW.2.2.1, by rw [hw]; exact hW.2.1⟩, hW.2.2.2.1.F ht⟩) hW.2.2.2.1.2.2 hdg hlocks
/-! the constants' texts: fields, bytes -/
theorem zs_val (hx : p.tables.exec = Jvm.exec) (hb : c.code = cc) {k : Nat} (hk : k < 13) (hW : zW G A s H locs ws) {own : String} {index : Nat} (hown : s.vm.findClass own = some m.cls) (hlink : (Cond.fieldLink own index "java/lang/String" "value" "[B").before args s = true) (hdg : decode cc pc = .ok (.getfield index, 3))
    (kk : W p l e R s m args below meth c H locs cells slots Q (F0 m (pc + 3) ls (.ref (zsv G k) :: rest))) : W p l e R s m args below meth c H locs cells slots Q (F0 m pc ls (.ref (zsk G k) :: rest)) :=
  vk_getf hx hb ((zXs hW).1 k hk).2.2.1 hW.2.2.2.1 hown hlink (fun _ h => h) hdg kk
theorem zs_cod (hx : p.tables.exec = Jvm.exec) (hb : c.code = cc) {k : Nat} (hk : k < 13) (hW : zW G A s H locs ws) {own : String} {index : Nat} (hown : s.vm.findClass own = some m.cls) (hlink : (Cond.fieldLink own index "java/lang/String" "coder" "B").before args s = true) (hdg : decode cc pc = .ok (.getfield index, 3))
    (kk : W p l e R s m args below meth c H locs cells slots Q (F0 m (pc + 3) ls (.int (zI 0) :: rest))) : W p l e R s m args below meth c H locs cells slots Q (F0 m pc ls (.ref (zsk G k) :: rest)) :=
  vk_getf hx hb ((zXs hW).1 k hk).2.1 hW.2.2.2.1 hown hlink (fun _ h => h) hdg kk
theorem zs_cmp (hx : p.tables.exec = Jvm.exec) (hb : c.code = cc) (hW : zW G A s H locs ws) {own : String} {index : Nat} (hown : s.vm.findClass own = some m.cls) (hlink : (Cond.fieldLink own index "java/lang/String" "COMPACT_STRINGS" "Z").before args s = true) (hdg : decode cc pc = .ok (.getstatic index, 3))
    (kk : W p l e R s m args below meth c H locs cells slots Q (F0 m (pc + 3) ls (.int (zI 1) :: rest))) : W p l e R s m args below meth c H locs cells slots Q (F0 m pc ls rest) :=
  va_gets hx hb hW.2.2.2.2.2.2.2.1 hW.2.2.2.1 hown hlink (fun _ h => h) hdg kk
theorem zs_for (hx : p.tables.exec = Jvm.exec) (hb : c.code = cc) (hW : zW G A s H locs ws) {own : String} {index : Nat} (hown : s.vm.findClass own = some m.cls) (hlink : (Cond.fieldLink own index "jdk/internal/util/Preconditions" "SIOOBE_FORMATTER" "Ljava/util/function/BiFunction;").before args s = true) (hdg : decode cc pc = .ok (.getstatic index, 3))
    (kn : W p l e R s m args below meth c H locs cells slots Q (F0 m (pc + 3) ls (.null :: rest))) (kr : ∀ t : Nat, W p l e R s m args below meth c H locs cells slots Q (F0 m (pc + 3) ls (.ref t :: rest))) : W p l e R s m args below meth c H locs cells slots Q (F0 m pc ls rest) := by
  rcases hW.2.2.2.2.2.2.2.2.1 with h | ⟨t, h⟩
  · exact va_gets hx hb h hW.2.2.2.1 hown hlink (fun _ h => h) hdg kn
  · exact va_gets hx hb h hW.2.2.2.1 hown hlink (fun _ h => h) hdg (kr t)
theorem zv_ldcwS (hx : p.tables.exec = Jvm.exec) (hb : c.code = cc) {own tx : String} {index q : Nat} (hown : s.vm.findClass own = some m.cls) (hZ : vk_R own index tx q s) (hdg : decode cc pc = .ok (.ldc_w index, 3))
    (k : W p l e R s m args below meth c H locs cells slots Q (F0 m (pc + 3) ls (.ref q :: rest))) : W p l e R s m args below meth c H locs cells slots Q (F0 m pc ls rest) := by
  subst hb
  intro T hT X
  obtain ⟨t, a1, b1⟩ := k T hT X
  obtain ⟨k0, cf, i, a2, hk, hcf, hcp, -, hr, hev⟩ := Cond.stringRef_spec hown hZ.1
  cases hZ.2.symm.trans hev
  obtain ⟨k9, hk9, he⟩ := X.warmed.alike.2.2 _ _ hk
  have hr9 : k9.resolved[index]? = some (some (.string q)) := by
    rcases X.warmed.entry hk hk9 index with h | ⟨h, -⟩
    · rw [h]; exact hr
    · rw [hr] at h; cases h
  refine ⟨t, ?_, b1⟩
  jvm_step X.here [hx, hdg, ldc_w.wp_string (e := e) (s := T) (f := F0 m pc ls rest) X.here.top hk9 (by rw [he]; exact hcf) hcp hr9]
  exact a1
theorem zw_obj (hx : p.tables.exec = Jvm.exec) (hb : c.code = cc) {own : String} (hown : s.vm.findClass own = some m.cls) {Ts : List Cond} (hts : ∀ w ∈ Ts, w.before args s = true) {idx : Nat} (hlink : Cond.methodLink own idx Lib.objectInit ∈ Ts) (hinst : Cond.instanceMethod Lib.objectInit ∈ Ts) (hcode : Cond.code Lib.objectInit ⟨#[0xb1]⟩ 1 none ∈ Ts) (hsize : ls.size = c.maxLocals) {a : Nat} (hdg : decode cc pc = .ok (.invokespecial idx, 3)) (hframes : 1 ≤ R.frames) (hlocals : (rest.map fun v => v.category).sum + 12 ≤ R.locals)
    (kk : W p l e R s m args below meth c H locs cells slots Q (F0 m (pc + 3) ls rest)) : W p l e R s m args below meth c H locs cells slots Q (F0 m pc ls (.ref a :: rest)) :=
  W.objInit hx hb hown (hts _ hlink) (hts _ hinst) (hts _ hcode) rfl hsize rfl hdg hframes (by
    have h0 : (F0 m pc ls (Value.ref a :: rest)).monitorRoom = 0 := rfl
    rw [h0]; omega) kk
theorem ze_b0 {w0 : va_W} {S : Type} {rv : S → Option Value} {pr : S → Prop} {wf : S → va_W} (hx : p.tables.exec = Jvm.exec) (hb : c.code = cc) (hr : meth.sig.returnType = some .byte) (hlocks : meth.locks = false) (hW : zW G (va_A w0 s.heap.size) s H locs ws') (u : S) (hu : rv u = some (.int (zI 0))) (hp : pr u) (hw : wf u = ws') (hdg : decode cc pc = .ok (.ireturn, 1)) : W p l e R s m args below meth c H locs cells slots (MQ below (zQ rv pr (zPost G w0 s.heap.size wf) (va_A w0 s.heap.size)) args s cells slots (va_A w0 s.heap.size)) (F0 m pc ls [.int (zI 0)]) :=
  W.zret hx hb hr (by decide) (fun t ht hw9 => ⟨⟨u, by rw [hu], hp, by rw [ht, hw]; exact hW.1, va_K.moved hw9.alike hW.2.2.1, by rw [hw]; exact hW.2.1⟩, hW.2.2.2.1.F ht⟩) hW.2.2.2.1.2.2 hdg hlocks
theorem zq_split {o : Option Nat} (kn : o = none → W p l e R s m args below meth c H locs cells slots Q (F0 m pc ls (.null :: rest))) (kr : ∀ a : Nat, o = some a → W p l e R s m args below meth c H locs cells slots Q (F0 m pc ls (.ref a :: rest))) : W p l e R s m args below meth c H locs cells slots Q (F0 m pc ls (va_rf o :: rest)) := by
  cases o with
  | none => exact kn rfl
  | some a => exact kr a rfl
theorem zD_up {f : Int → UInt64} {i : Int} {x : UInt64} (h0 : 0 ≤ i) (h1 : i ≤ 2147483647) : vf_upd (zD f) (zI i).toNatClampNeg x = zD (zUd f i x) := by
  funext j
  rw [zI_cl ⟨by omega, h1⟩]
  unfold vf_upd zD zUd
  by_cases q : j = i.toNat
  · rw [if_pos q, if_pos (by omega)]
  · rw [if_neg q, if_neg (by omega)]
theorem zw_dast (hx : p.tables.exec = Jvm.exec) (hb : c.code = cc) (hW : zW G A s H locs ws) (q0 : Nat) {a n : Nat} {f : Int → UInt64} (he : ws[q0]? = some (a, .inl (zk G 5, n, .inr (.inr (.inr (.inl (zD f))))))) {i : Int} {x : UInt64} (h0 : 0 ≤ i) (h1 : i < (n : Int)) (hn : n < 2147483648) (hset : ws.set q0 (a, .inl (zk G 5, n, .inr (.inr (.inr (.inl (zD (zUd f i x))))))) = ws') (hdg : decode cc pc = .ok (.dastore, 1)) (kk : ∀ (H1 : Heap) (locs1 : List Loc), zW G A s H1 locs1 ws' → W p l e R s m args below meth c H1 locs1 cells slots Q (F0 m (pc + 1) ls rest)) : W p l e R s m args below meth c H locs cells slots Q (F0 m pc ls (.double x :: .int (zI i) :: .ref a :: rest)) := va_dast hx hb hW.2.2.1 hW.1 hW.2.1 hW.2.2.2.1 q0 5 he rfl (zI_vin h0 h1 hn) hdg (fun H1 locs1 hP hD hS => by
  rw [zD_up h0 (by omega)] at hP hD
  exact kk H1 locs1 (hset ▸ ⟨hP, hD, hW.2.2.1, hS, hW.2.2.2.2⟩))
def wln (k : Nat) : Int := ((zLn.getD k 0 : Nat) : Int)
def wch (k : Nat) (j : Int) : Int := ((zTx.getD k []).getD j.toNat 0).toInt
theorem wln_in : ∀ k, k < 13 → 3 ≤ wln k ∧ wln k ≤ 6 := by decide +kernel
theorem wch_all : ∀ k, k < 13 → ∀ j : Nat, j < zLn.getD k 0 → 32 ≤ wch k j ∧ wch k j ≤ 122 := by decide +kernel
theorem wch_in {k : Nat} (hk : k < 13) {j : Int} (h0 : 0 ≤ j) (h1 : j < wln k) : 32 ≤ wch k j ∧ wch k j ≤ 122 := by
  have h := wch_all k hk j.toNat (by unfold wln at h1; omega)
  rwa [Int.toNat_of_nonneg h0] at h
theorem wch_let0 : ∀ k, k < 9 → ∀ j : Nat, j < zLn.getD k 0 → 97 ≤ wch k j := by decide +kernel
theorem wch_let {k : Nat} (hk : k < 9) {j : Int} (h0 : 0 ≤ j) (h1 : j < wln k) : 97 ≤ wch k j := by
  have h := wch_let0 k hk j.toNat (by unfold wln at h1; omega)
  rwa [Int.toNat_of_nonneg h0] at h
theorem zs_len (hx : p.tables.exec = Jvm.exec) (hb : c.code = cc) {k : Nat} (hk : k < 13) (hW : zW G A s H locs ws) (hdg : decode cc pc = .ok (.arraylength, 1))
    (kk : W p l e R s m args below meth c H locs cells slots Q (F0 m (pc + 1) ls (.int (zI (wln k)) :: rest))) : W p l e R s m args below meth c H locs cells slots Q (F0 m pc ls (.ref (zsv G k) :: rest)) :=
  va_tlen hx hb ((zXs hW).1 k hk).2.2.2 hW.2.2.2.1 (zI_nat _).symm hdg kk
theorem zs_byte (hx : p.tables.exec = Jvm.exec) (hb : c.code = cc) {k : Nat} (hk : k < 13) (hW : zW G A s H locs ws) {i : Int} (h0 : 0 ≤ i) (h1 : i < wln k) (hdg : decode cc pc = .ok (.baload, 1))
    (kk : W p l e R s m args below meth c H locs cells slots Q (F0 m (pc + 1) ls (.int (zI (wch k i)) :: rest))) : W p l e R s m args below meth c H locs cells slots Q (F0 m pc ls (.int (zI i) :: .ref (zsv G k) :: rest)) := by
  have hl := wln_in k hk
  refine va_tb hx hb ((zXs hW).1 k hk).2.2.2 hW.2.2.2.1 (zI_vin h0 h1 (by unfold wln at hl; omega)) ?_ hdg kk
  show Value.int _ = _
  rw [zI_cl ⟨by omega, by omega⟩]
  unfold wch
  rw [zI_of]
/-! doubles -/
theorem zv_asD {a b : UInt64} (h : a = b) (k : W p l e R s m args below meth c H locs cells slots Q (F0 m pc ls (.double b :: rest))) : W p l e R s m args below meth c H locs cells slots Q (F0 m pc ls (.double a :: rest)) := by rw [h]; exact k
theorem zv_i2d (hx : p.tables.exec = Jvm.exec) (hb : c.code = cc) {a : Int} (hdg : decode cc pc = .ok (.i2d, 1)) (k : W p l e R s m args below meth c H locs cells slots Q (F0 m (pc + 1) ls (.double (FP.i2d (zI a)) :: rest))) : W p l e R s m args below meth c H locs cells slots Q (F0 m pc ls (.int (zI a) :: rest)) := lv_i2d hx hb hdg k
end ZNEW
/-! a call of a text's own method -/
section ZSTR
variable {p : Program} {l : Launch} {e : Env} {R : Room} {s : State} {m : MethodId} {args : Array Value} {below : List Frame} {meth : Method} {c : Code} {H : Heap} {locs : List Loc} {cells slots : Nat} {Q : State → Prop}
variable {cc : ByteArray} {pc nL mc ms n index maxL : Nat} {ls : Array Slot} {rest st0 : List Value} {Ts wds : List Cond} {own : String} {y : MethodName} {bytes : ByteArray} {ret : Option FieldType} {rm : Room} {As : List Value} {G : zG} {A : Nat → Prop} {ws : va_W} {S : Type} {rv : S → Option Value} {pr : S → Prop}
theorem z_VS (F : CallFix p m c cc nL s args Ts own) {k : Nat} (hk : k < 13) (hM : zM G l y wds rm (.ref (zsk G k) :: As) [] rv pr (fun _ => []) mc ms) (cw : CallW R s args own "java/lang/String" index y bytes maxL ret wds rm mc ms n) (hW : zW G A s H locs ws)
    (hAs : As.length = n) (hls : ls.size = nL) (hst : st0 = As.reverse ++ .ref (zsk G k) :: rest) (hrm : (rest.map fun v => v.category).sum ≤ 8) (hdg : decode cc pc = .ok (.invokevirtual index, 3)) (hf : cells + mc ≤ R.cells ∧ slots + ms ≤ R.slots)
    (kk : ∀ (u : S) (H1 : Heap) (locs1 : List Loc), pr u → zW G A s H1 locs1 ws → W p l e R s m args below meth c H1 locs1 (cells + mc) (slots + ms) Q (F0 m (pc + 3) ls ((rv u).toList ++ rest))) : W p l e R s m args below meth c H locs cells slots Q (F0 m pc ls st0) :=
  z_callP (wr := ws) (wn := fun _ => ws) (va_runV (As := As) (rest := rest) F (hM H.size) cw ⟨zPre_blind, vk_recv (zXs hW) hk hW.2.2.2.1, fun U hU hw => ⟨rfl, zPre_of hW [] rfl rfl rfl hU hw⟩⟩ rfl hAs hls hst (lv_room hrm) hdg hf) hW (List.Perm.refl _) (fun _ => by rw [List.append_nil]) kk
theorem z_IN (F : CallFix p m c cc nL s args Ts own) {host : String} {b : Nat} {wc wr : va_W} {wf wn : S → va_W} (hM : zM G l y wds rm (.ref b :: As) wc rv pr wf mc ms) (cw : va_CN R s args own index y host bytes maxL none wds rm mc ms n ∧ y.name = "<init>" ∧ (Cond.instanceMethod y).before args s = true) (hW : zW G A s H locs ws) (isC isR : List Nat) (hnC : va_nd isC = true)
    (hC : isC.map (fun i => ws[i]?) = wc.map some) (hC2 : isC.filterMap (fun i => ws[i]?) = wc) (hR : isR.map (fun i => ws[i]?) = wr.map some) (hn : va_nd isR = true) (hdis : ∀ i ∈ isR, i ∉ isC) (perm : List Nat) (hpn : va_nd perm = true) (hp1 : ∀ u, perm.map (fun i => (wr ++ wf u)[i]?) = (wn u).map some) (hp2 : ∀ u, perm.filterMap (fun i => (wr ++ wf u)[i]?) = wn u)
    (hAs : As.length = n) (hls : ls.size = nL) (hst : st0 = As.reverse ++ .ref b :: rest) (hrm : (rest.map fun v => v.category).sum ≤ 8) (hdg : decode cc pc = .ok (.invokespecial index, 3)) (hf : cells + mc ≤ R.cells ∧ slots + ms ≤ R.slots)
    (kk : ∀ (u : S) (H1 : Heap) (locs1 : List Loc), pr u → zW G A s H1 locs1 (wn u) → W p l e R s m args below meth c H1 locs1 (cells + mc) (slots + ms) Q (F0 m (pc + 3) ls ((rv u).toList ++ rest))) : W p l e R s m args below meth c H locs cells slots Q (F0 m pc ls st0) :=
  z_call (va_runIN (As := As) (rest := rest) F (hM H.size) cw ⟨zPre_blind, fun U hU hw => ⟨rfl, zPre_of hW isC hnC hC hC2 hU hw⟩⟩ rfl hAs hls hst (lv_room hrm) hdg hf) hW isC isR hC hR hn hdis perm hpn hp1 hp2 kk
theorem z_I (F : CallFix p m c cc nL s args Ts own) {b : Nat} {wc wr : va_W} {wf wn : S → va_W} (hM : zM G l y wds rm (.ref b :: As) wc rv pr wf mc ms) (cw : CallB R s args own index y bytes maxL none wds rm mc ms n ∧ y.name = "<init>" ∧ (Cond.instanceMethod y).before args s = true) (hW : zW G A s H locs ws) (isC isR : List Nat) (hnC : va_nd isC = true)
    (hC : isC.map (fun i => ws[i]?) = wc.map some) (hC2 : isC.filterMap (fun i => ws[i]?) = wc) (hR : isR.map (fun i => ws[i]?) = wr.map some) (hn : va_nd isR = true) (hdis : ∀ i ∈ isR, i ∉ isC) (perm : List Nat) (hpn : va_nd perm = true) (hp1 : ∀ u, perm.map (fun i => (wr ++ wf u)[i]?) = (wn u).map some) (hp2 : ∀ u, perm.filterMap (fun i => (wr ++ wf u)[i]?) = wn u)
    (hAs : As.length = n) (hls : ls.size = nL) (hst : st0 = As.reverse ++ .ref b :: rest) (hrm : (rest.map fun v => v.category).sum ≤ 8) (hdg : decode cc pc = .ok (.invokespecial index, 3)) (hf : cells + mc ≤ R.cells ∧ slots + ms ≤ R.slots)
    (kk : ∀ (u : S) (H1 : Heap) (locs1 : List Loc), pr u → zW G A s H1 locs1 (wn u) → W p l e R s m args below meth c H1 locs1 (cells + mc) (slots + ms) Q (F0 m (pc + 3) ls ((rv u).toList ++ rest))) : W p l e R s m args below meth c H locs cells slots Q (F0 m pc ls st0) :=
  z_call (va_runI (As := As) (rest := rest) F (hM H.size) cw ⟨zPre_blind, fun U hU hw => ⟨rfl, zPre_of hW isC hnC hC hC2 hU hw⟩⟩ rfl hAs hls hst (lv_room hrm) hdg hf) hW isC isR hC hR hn hdis perm hpn hp1 hp2 kk
end ZSTR
theorem zshr_0 {a : Int} (h : zin a) : zshr a 0 = a := by
  unfold zshr
  rw [show zI 0 = 0 from rfl, sb_shr0, zI_to h]
theorem zand_255 {a : Int} (h0 : 0 ≤ a) (h1 : a < 256) : zand a 255 = a := by
  obtain ⟨k, rfl⟩ := Int.eq_ofNat_of_zero_le h0
  have hk : k < 256 := by omega
  unfold zand
  rw [zI_nat, pk_andN (m := zI 255) (by omega) 8 (by decide), Nat.mod_eq_of_lt (by omega)]
  exact nI_toInt (by omega)
/-! orders of cells, told by places -/
theorem zpm (is : List Nat) {ws ws' : va_W} (hp : is.Perm (List.range ws.length)) (hs : is.map (fun i => ws[i]?) = ws'.map some) : ws.Perm ws' := by
  have h1 : (List.range ws.length).filterMap (fun i => ws[i]?) = ws := zfm_some (by
    have h := zix_C (wc := ws) (wr := [])
    rwa [List.append_nil] at h)
  have h2 := (hp.symm.filterMap (fun i => ws[i]?))
  rw [h1, zfm_some hs] at h2
  exact h2
/-- into a callee that leaves the tail alone -/
theorem zpA (is : List Nat) {ws wc wr tl : va_W} (hp : is.Perm (List.range ws.length)) (hs : is.map (fun i => ws[i]?) = (wc ++ wr).map some) : (ws ++ tl).Perm (wc ++ (wr ++ tl)) := by
  rw [← List.append_assoc]
  exact (zpm is hp hs).append_right tl
theorem zpB (is : List Nat) {wr wf wn tl : va_W} (hp : is.Perm (List.range (wr ++ wf).length)) (hs : is.map (fun i => (wr ++ wf)[i]?) = wn.map some) : ((wr ++ tl) ++ wf).Perm (wn ++ tl) := by
  refine List.Perm.trans ?_ ((zpm is hp hs).append_right tl)
  rw [List.append_assoc, List.append_assoc]
  exact List.perm_append_comm.append_left wr
/-- into a callee that has the tail too -/
theorem zpC (is : List Nat) {ws wc wr tl : va_W} (hp : is.Perm (List.range ws.length)) (hs : is.map (fun i => ws[i]?) = (wc ++ wr).map some) : (ws ++ tl).Perm ((wc ++ tl) ++ wr) := by
  refine ((zpm is hp hs).append_right tl).trans ?_
  rw [List.append_assoc, List.append_assoc]
  exact List.perm_append_comm.append_left wc
theorem zpD (is : List Nat) {wr wf wn tl : va_W} (hp : is.Perm (List.range (wr ++ wf).length)) (hs : is.map (fun i => (wr ++ wf)[i]?) = wn.map some) : (wr ++ (wf ++ tl)).Perm (wn ++ tl) := by
  rw [← List.append_assoc]
  exact (zpm is hp hs).append_right tl
section ZTAIL3
variable {p : Program} {l : Launch} {e : Env} {R : Room} {s : State} {m : MethodId} {args : Array Value} {below : List Frame} {meth : Method} {c : Code} {H : Heap} {locs : List Loc} {cells slots : Nat} {Q : State → Prop}
variable {cc : ByteArray} {pc nL mc ms n index maxL : Nat} {ls : Array Slot} {rest st0 : List Value} {Ts wds : List Cond} {own C : String} {y : MethodName} {bytes : ByteArray} {ret : Option FieldType} {rm : Room} {As av : List Value} {G : zG} {A : Nat → Prop} {ws wc wr : va_W} {S SX : Type} {rv : S → Option Value} {pr : S → Prop} {wf wn : S → va_W} {px : String → SX → Prop} {wx wnx : SX → va_W}
theorem z_SNP (F : CallFix p m c cc nL s args Ts own) {host : String} (hM : zM G l y wds rm As wc rv pr wf mc ms) (cw : va_CN R s args own index y host bytes maxL ret wds rm mc ms n ∧ (Cond.static y).before args s = true ∧ True) (hW : zW G A s H locs ws) (hp0 : ws.Perm (wc ++ wr)) (hn : ∀ u, (wr ++ wf u).Perm (wn u))
    (hAs : As.length = n) (hls : ls.size = nL) (hst : st0 = As.reverse ++ rest) (hrm : (rest.map fun v => v.category).sum ≤ 8) (hdg : decode cc pc = .ok (.invokestatic index, 3)) (hf : cells + mc ≤ R.cells ∧ slots + ms ≤ R.slots)
    (kk : ∀ (u : S) (H1 : Heap) (locs1 : List Loc), pr u → zW G A s H1 locs1 (wn u) → W p l e R s m args below meth c H1 locs1 (cells + mc) (slots + ms) Q (F0 m (pc + 3) ls ((rv u).toList ++ rest))) : W p l e R s m args below meth c H locs cells slots Q (F0 m pc ls st0) :=
  z_callP (va_runSN (As := As) (rest := rest) F (hM H.size) cw ⟨zPre_blind, fun U hU hw => ⟨rfl, zPre_of (hW.perm hp0) (List.range wc.length) (znd_of List.nodup_range) zix_C (zfm_some zix_C) hU hw⟩⟩ rfl hAs hls hst (lv_room hrm) hdg hf) hW hp0 hn kk
theorem z_INP (F : CallFix p m c cc nL s args Ts own) {host : String} {b : Nat} (hM : zM G l y wds rm (.ref b :: As) wc rv pr wf mc ms) (cw : va_CN R s args own index y host bytes maxL none wds rm mc ms n ∧ y.name = "<init>" ∧ (Cond.instanceMethod y).before args s = true) (hW : zW G A s H locs ws) (hp0 : ws.Perm (wc ++ wr)) (hn : ∀ u, (wr ++ wf u).Perm (wn u))
    (hAs : As.length = n) (hls : ls.size = nL) (hst : st0 = As.reverse ++ .ref b :: rest) (hrm : (rest.map fun v => v.category).sum ≤ 8) (hdg : decode cc pc = .ok (.invokespecial index, 3)) (hf : cells + mc ≤ R.cells ∧ slots + ms ≤ R.slots)
    (kk : ∀ (u : S) (H1 : Heap) (locs1 : List Loc), pr u → zW G A s H1 locs1 (wn u) → W p l e R s m args below meth c H1 locs1 (cells + mc) (slots + ms) Q (F0 m (pc + 3) ls ((rv u).toList ++ rest))) : W p l e R s m args below meth c H locs cells slots Q (F0 m pc ls st0) :=
  z_callP (va_runIN (As := As) (rest := rest) F (hM H.size) cw ⟨zPre_blind, fun U hU hw => ⟨rfl, zPre_of (hW.perm hp0) (List.range wc.length) (znd_of List.nodup_range) zix_C (zfm_some zix_C) hU hw⟩⟩ rfl hAs hls hst (lv_room hrm) hdg hf) hW hp0 hn kk
theorem zx_SP (F : CallFix p m c cc nL s args Ts own) (hM : zMx G l y wds rm As wc rv pr wf px wx mc ms) (cw : CallB R s args own index y bytes maxL ret wds rm mc ms n ∧ (Cond.static y).before args s = true) (hW : zW G A s H locs ws) (hp0 : ws.Perm (wc ++ wr)) (hn : ∀ u, (wr ++ wf u).Perm (wn u)) (hnx : ∀ u, (wr ++ wx u).Perm (wnx u))
    (hAs : As.length = n) (hls : ls.size = nL) (hst : st0 = As.reverse ++ rest) (hrm : (rest.map fun v => v.category).sum ≤ 8) (hdg : decode cc pc = .ok (.invokestatic index, 3)) (hf : cells + mc ≤ R.cells ∧ slots + ms ≤ R.slots)
    (kx : zKx p l e R s m args below meth c (cells + mc) (slots + ms) Q pc ls rest G A px wnx)
    (kk : ∀ (u : S) (H1 : Heap) (locs1 : List Loc), pr u → zW G A s H1 locs1 (wn u) → W p l e R s m args below meth c H1 locs1 (cells + mc) (slots + ms) Q (F0 m (pc + 3) ls ((rv u).toList ++ rest))) : W p l e R s m args below meth c H locs cells slots Q (F0 m pc ls st0) :=
  zx_callP (vx_runS (As := As) (rest := rest) F (hM H.size) cw ⟨zPre_blind, fun U hU hw => ⟨rfl, zPre_of (hW.perm hp0) (List.range wc.length) (znd_of List.nodup_range) zix_C (zfm_some zix_C) hU hw⟩⟩ rfl hAs hls hst (lv_room hrm) hdg hf) hW hp0 hn hnx kx kk
end ZTAIL3
