/-! the class's own words -/
/-- a sight that may stand -/
def zsok (mc : Int) (sn : Int → Int) (j : Int) : Prop := (0 ≤ sn (j * 3) ∧ sn (j * 3) < mc) ∧ (0 ≤ sn (j * 3 + 1) ∧ sn (j * 3 + 1) ≤ 3) ∧ (1 ≤ sn (j * 3 + 2) ∧ sn (j * 3 + 2) ≤ 1000000)
/-- a sky that may stand -/
def zval (pr di dr mc sc : Int) (mn sn : Int → Int) : Prop := (1 ≤ pr ∧ pr ≤ 999) ∧ (0 ≤ di ∧ di ≤ 359) ∧ (-999 ≤ dr ∧ dr ≤ 999) ∧ (0 ≤ mc ∧ mc ≤ 6) ∧ (0 ≤ sc ∧ sc ≤ 30) ∧ (∀ m, 0 ≤ m → m < mc → zgok (zg mn m)) ∧ (∀ j, 0 ≤ j → j < sc → zsok mc sn j)
