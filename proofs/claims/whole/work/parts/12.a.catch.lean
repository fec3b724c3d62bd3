/-! handlers: an exception's class is castable to itself, not to the others' -/
section CATCH
variable {G : zG} {A : Nat → Prop} {s : State} {H : Heap} {locs : List Loc} {ws : va_W} {args : Array Value}
theorem zc_at (hW : zW G A s H locs ws) (i : Nat) {cls : String} (hi : zCast[i]? = some cls) : (Cond.castable cls cls).before args s = true := by
  obtain ⟨hP, hD, hK, hS, hA, -, -, -, -, -, -, -, -, -, -, d0, g0, -⟩ := hW
  exact va_Nw.use rfl (g0 _ (List.mem_of_getElem? hi))
theorem zc_no (hW : zW G A s H locs ws) (i : Nat) {q : String × String} (hi : zNot[i]? = some q) : va_Nc q.1 q.2 s := by
  obtain ⟨hP, hD, hK, hS, hA, -, -, -, -, -, -, -, -, -, -, d0, g0, f0⟩ := hW
  exact f0 _ (List.mem_of_getElem? hi)
end CATCH
