/-! more rows -/
section ZWIDE
variable {p : Program} {l : Launch} {e : Env} {R : Room} {s : State} {m : MethodId} {args : Array Value} {below : List Frame} {meth : Method} {c : Code} {H : Heap} {locs : List Loc} {cells slots : Nat} {Q : State → Prop}
/-- less was made than is counted -/
theorem zwide {g : JFrame} {k n : Nat} (h1 : cells ≤ k) (h2 : slots ≤ n) (kk : W p l e R s m args below meth c H locs k n Q g) : W p l e R s m args below meth c H locs cells slots Q g := fun T hT X => kk T hT (stand_widen X h1 h2)
end ZWIDE
section ZLABS
variable {p : Program} {l : Launch} {e : Env} {R : Room} {s : State} {m : MethodId} {args : Array Value} {below : List Frame} {meth : Method} {c : Code} {H : Heap} {locs : List Loc} {cells slots : Nat} {Q : State → Prop}
variable {cc : ByteArray} {pc : Nat} {ls : Array Slot} {rest : List Value}
theorem zL_labs {a : Int} (ha : zinL a) : (if 0 < zL a then zL a else -zL a) = zL (zabs a) := by
  have h0 : (0 : Int64) = zL 0 := rfl
  rw [h0, zL_neg]
  unfold zabs
  by_cases q : 0 < a
  · rw [if_pos ((zL_lt ⟨by omega, by omega⟩ ha).mpr q), if_pos (by omega)]
  · rw [if_neg (fun z => q ((zL_lt ⟨by omega, by omega⟩ ha).mp z))]
    by_cases q0 : a = 0
    · subst q0
      rw [if_pos (by omega)]
      rfl
    · rw [if_neg (by omega)]
theorem zv_labs (hx : p.tables.exec = Jvm.exec) (hb : c.code = cc) (hml : c.maxLocals = ls.size) {own : String} {index : Nat} (hown : s.vm.findClass own = some m.cls) (hlink : (Cond.methodLink own index Lib.MathLoose.abs_long.x).before args s = true) (hstat : (Cond.static Lib.MathLoose.abs_long.x).before args s = true) (hini : (Cond.initialized "java/lang/Math").before args s = true) (hcode : (Cond.code Lib.MathLoose.abs_long.x Lib.MathLoose.abs_long.code 2 (some .long)).before args s = true)
    (hframes : 1 ≤ R.frames) (hlocals : (rest.map fun v => v.category).sum + 13 ≤ R.locals) (hc : cells ≤ R.cells) (hs : slots ≤ R.slots) {a : Int} (hdg : decode cc pc = .ok (.invokestatic index, 3)) (ha : zinL a)
    (k : W p l e R s m args below meth c H locs cells slots Q (F0 m (pc + 3) ls (.long (zL (zabs a)) :: rest))) : W p l e R s m args below meth c H locs cells slots Q (F0 m pc ls (.long (zL a) :: rest)) := va_mabs_long hx hb hml hown hlink hstat hini hcode hframes hlocals hc hs hdg (by rw [zL_labs ha]; exact k)
end ZLABS
