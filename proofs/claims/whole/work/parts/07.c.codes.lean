/-! which exception a call asks for: 0 none -/
def znp (mc mo t : Int) : Int := if 0 ≤ mo ∧ mo < mc then (if 0 ≤ t ∧ t ≤ 1000000 then 0 else 2) else 1
theorem znp_sp (mc mo t : Int) : (znp mc mo t = 0 ∧ (0 ≤ mo ∧ mo < mc) ∧ (0 ≤ t ∧ t ≤ 1000000)) ∨ (znp mc mo t = 2 ∧ (0 ≤ mo ∧ mo < mc) ∧ ¬ (0 ≤ t ∧ t ≤ 1000000)) ∨ (znp mc mo t = 1 ∧ ¬ (0 ≤ mo ∧ mo < mc)) := by
  unfold znp
  by_cases h : 0 ≤ mo ∧ mo < mc
  · rw [if_pos h]
    by_cases h2 : 0 ≤ t ∧ t ≤ 1000000
    · rw [if_pos h2]; exact .inl ⟨rfl, h, h2⟩
    · rw [if_neg h2]; exact .inr (.inl ⟨rfl, h, h2⟩)
  · rw [if_neg h]; exact .inr (.inr ⟨rfl, h⟩)
/-- one thing wrong: 1 -/
def zc1 (p : Prop) [Decidable p] : Int := if p then 0 else 1
/-- the first thing wrong: 1, the second: 2 -/
def zc2 (p q : Prop) [Decidable p] [Decidable q] : Int := if p then (if q then 0 else 2) else 1
theorem zc1_sp (p : Prop) [Decidable p] : (zc1 p = 0 ∧ p) ∨ (zc1 p = 1 ∧ ¬ p) := by
  unfold zc1
  by_cases h : p
  · rw [if_pos h]; exact .inl ⟨rfl, h⟩
  · rw [if_neg h]; exact .inr ⟨rfl, h⟩
theorem zc2_sp (p q : Prop) [Decidable p] [Decidable q] : (zc2 p q = 0 ∧ p ∧ q) ∨ (zc2 p q = 2 ∧ p ∧ ¬ q) ∨ (zc2 p q = 1 ∧ ¬ p) := by
  unfold zc2
  by_cases h : p
  · rw [if_pos h]
    by_cases h2 : q
    · rw [if_pos h2]; exact .inl ⟨rfl, h, h2⟩
    · rw [if_neg h2]; exact .inr (.inl ⟨rfl, h, h2⟩)
  · rw [if_neg h]; exact .inr (.inr ⟨rfl, h⟩)
theorem zabs_comm (a b : Int) : zabs (a - b) = zabs (b - a) := by
  have h1 := zabs_sp (a - b)
  have h2 := zabs_sp (b - a)
  omega
theorem zor_zero {a : Int} (h : zin a) : zor a 0 = a := by
  unfold zor
  have : zI a ||| zI 0 = zI a := by
    apply Int32.toBitVec_inj.mp
    show (zI a).toBitVec ||| (0#32) = _
    simp
  rw [this]
  exact zI_to h
