/-! handlers: an exception's class is castable to itself, not to the others' -/
section CATCH
variable {G : zG} {A : Nat → Prop} {s : State} {H : Heap} {locs : List Loc} {ws : va_W} {args : Array Value}
theorem zc_at (hW : zW G A s H locs ws) (i : Nat) {cls : String} (hi : zCast[i]? = some cls) : (Cond.castable cls cls).before args s = true := by
  obtain ⟨hP, hD, hK, hS, hA, -, -, -, -, -, -, -, -, -, -, d0, g0, -⟩ := hW
  exact va_Nw.use rfl (g0 _ (List.mem_of_getElem? hi))
theorem zc_no (hW : zW G A s H locs ws) (i : Nat) {q : String × String} (hi : zNot[i]? = some q) : va_Nc q.1 q.2 s := by
  obtain ⟨hP, hD, hK, hS, hA, -, -, -, -, -, -, -, -, -, -, d0, g0, f0⟩ := hW
  exact f0 _ (List.mem_of_getElem? hi)
end CATCH
/-- a contract of a method that has handlers -/
theorem zMx.ofH {G : zG} {l : Launch} {y : MethodName} {wds wds' : List Cond} {rm : Room} {av : List Value} {ws : va_W} {S SX : Type} {rv : S → Option Value} {pr : S → Prop} {wf : S → va_W} {px : String → SX → Prop} {wx : SX → va_W} {mc ms : Nat} {cc : ByteArray} {maxL : Nat} {ret : Option FieldType} {l0 : List (Nat × Value)} {hh : List (Nat × Nat × Nat × Nat)}
    (hy : plainName y.cls = true) (hw : wds = Cond.codeWith y cc maxL ret hh :: wds') (hlen : (lg_sl av).length ≤ maxL) (hl0 : lv_args 0 av = l0)
    (body : ∀ (p : Program) (e : Env) (s : State) (m : MethodId) (args : Array Value) (below : List Frame) (meth : Method) (c : Code) (ls : Array Slot), CallFix p m c cc maxL s args wds y.cls → meth.sig.returnType = ret → meth.locks = false → meth.name = y.name → c.exceptionTable.toList = tableOf hh → zW G (va_A ws s.heap.size) s s.heap [] ws → lv_has ls maxL l0 →
      W p l e rm s m args below meth c s.heap [] 0 0 (vx_MQ below (zQ rv pr (zPost G ws s.heap.size wf) (va_A ws s.heap.size)) (zQx px (zPost G ws s.heap.size wx) (va_A ws s.heap.size)) args s mc ms (va_A ws s.heap.size)) (F0 m 0 ls [])) : zMx G l y wds rm av ws rv pr wf px wx mc ms := by
  intro sz
  refine vx_ofWH (cc := cc) (maxL := maxL) (ret := ret) (hh := hh) hy hw ?_
  intro p e s m args below meth c s₁ B hml hv
  obtain ⟨rfl, hsz, hP, hK, hD0, hX⟩ := hv
  subst hsz
  have hl := lv_entry av (n := maxL) hlen
  rw [lg_entry_eq]
  rw [hl0] at hl
  have hts := atoms_spec (ws := wds) B.pre
  have hcw := hts _ (by rw [hw]; exact List.mem_cons_self)
  exact body p e s m _ below meth c _ ⟨B.exec, B.bytes, hml, findClass_of_methodNamed B.named, hts⟩ B.returns B.notSynchronized (name_of_methodNamed B.named B.method).1 (vx_table (x := y) B hcw) ⟨hP, hD0.self, hK, va_S.rf, fun q h => Or.inr h, hX⟩ hl
/-! an answer as the law compares it -/
def zw (a : Int) : Int := (zI a).toInt
theorem zw_in (a : Int) : zin (zw a) := zI_rng _
theorem zw_I (a : Int) : zI (zw a) = zI a := zI_of _
theorem zw_L (a : Int) : zinL (zw a) := ⟨by have := (zw_in a).1; omega, by have := (zw_in a).2; omega⟩
def zw8 (a : Int) : Int := (zL a).toInt
theorem zw8_in (a : Int) : zinL (zw8 a) := zL_rng _
theorem zw8_L (a : Int) : zL (zw8 a) = zL a := zL_of _
theorem zUd_s (f : Int → UInt64) (i : Int) (x : UInt64) : zUd f i x i = x := if_pos rfl
section WRAP
variable {p : Program} {l : Launch} {e : Env} {R : Room} {s : State} {m : MethodId} {args : Array Value} {below : List Frame} {meth : Method} {c : Code} {H : Heap} {locs : List Loc} {cells slots : Nat} {Q : State → Prop} {pc : Nat} {ls : Array Slot} {rest : List Value}
theorem zv_wr {a : Int} (k : W p l e R s m args below meth c H locs cells slots Q (F0 m pc ls (.int (zI (zw a)) :: rest))) : W p l e R s m args below meth c H locs cells slots Q (F0 m pc ls (.int (zI a) :: rest)) := by rw [← zw_I a]; exact k
theorem zv_wrL {a : Int} (k : W p l e R s m args below meth c H locs cells slots Q (F0 m pc ls (.long (zL (zw8 a)) :: rest))) : W p l e R s m args below meth c H locs cells slots Q (F0 m pc ls (.long (zL a) :: rest)) := by rw [← zw8_L a]; exact k
end WRAP
