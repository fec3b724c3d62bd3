/-- whether the eight bits from s on hold a byte: 1, or 0 -/
def zbc (v s : Int) : Int := if zand (zshr v s) 255 ≠ 0 then 1 else 0
theorem zbc_in (v s : Int) : 0 ≤ zbc v s ∧ zbc v s ≤ 1 := by unfold zbc; split <;> omega
theorem zbc_yes {v s : Int} (h : zand (zshr v s) 255 ≠ 0) : zbc v s = 1 := if_pos h
theorem zbc_no {v s : Int} (h : zand (zshr v s) 255 = 0) : zbc v s = 0 := if_neg (fun z => z h)
