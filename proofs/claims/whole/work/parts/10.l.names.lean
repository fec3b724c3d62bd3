/-! a name in one number: its letters again -/
set_option maxRecDepth 100000 in
theorem zname1 {w : Int} {g : Int → Int} (e : w = 0 * 256 + g 0) (b0 : 97 ≤ g 0 ∧ g 0 ≤ 122) (hz : g 1 ≤ 0) : znbN (fun j => zand (zlshr w (56 - 8 * j)) 255) 8 0 = znlN g 8 0 := by
  have h0 : 0 ≤ w ∧ w < 9223372036854775808 := by omega
  have c0 : zand (zlshr w (56 - 8 * 0)) 255 = 0 := by
    rw [show (56 : Int) - 8 * 0 = ((56 : Nat) : Int) by omega, zbyte h0.1 h0.2 (by omega)]
    omega
  have c1 : zand (zlshr w (56 - 8 * 1)) 255 = 0 := by
    rw [show (56 : Int) - 8 * 1 = ((48 : Nat) : Int) by omega, zbyte h0.1 h0.2 (by omega)]
    omega
  have c2 : zand (zlshr w (56 - 8 * 2)) 255 = 0 := by
    rw [show (56 : Int) - 8 * 2 = ((40 : Nat) : Int) by omega, zbyte h0.1 h0.2 (by omega)]
    omega
  have c3 : zand (zlshr w (56 - 8 * 3)) 255 = 0 := by
    rw [show (56 : Int) - 8 * 3 = ((32 : Nat) : Int) by omega, zbyte h0.1 h0.2 (by omega)]
    omega
  have c4 : zand (zlshr w (56 - 8 * 4)) 255 = 0 := by
    rw [show (56 : Int) - 8 * 4 = ((24 : Nat) : Int) by omega, zbyte h0.1 h0.2 (by omega)]
    omega
  have c5 : zand (zlshr w (56 - 8 * 5)) 255 = 0 := by
    rw [show (56 : Int) - 8 * 5 = ((16 : Nat) : Int) by omega, zbyte h0.1 h0.2 (by omega)]
    omega
  have c6 : zand (zlshr w (56 - 8 * 6)) 255 = 0 := by
    rw [show (56 : Int) - 8 * 6 = ((8 : Nat) : Int) by omega, zbyte h0.1 h0.2 (by omega)]
    omega
  have c7 : zand (zlshr w (56 - 8 * 7)) 255 = g 0 := by
    rw [show (56 : Int) - 8 * 7 = ((0 : Nat) : Int) by omega, zbyte h0.1 h0.2 (by omega)]
    omega
  have hz9 : znbN (fun j => zand (zlshr w (56 - 8 * j)) 255) (7 + 1) 0 = znbN (fun j => zand (zlshr w (56 - 8 * j)) 255) 1 (0 + ((7 : Nat) : Int)) := znb_0 7 1 0 (fun k k0 k1 => by
    rcases (show k = 0 ∨ k = 1 ∨ k = 2 ∨ k = 3 ∨ k = 4 ∨ k = 5 ∨ k = 6 by omega) with rfl | rfl | rfl | rfl | rfl | rfl | rfl
    · exact c0
    · exact c1
    · exact c2
    · exact c3
    · exact c4
    · exact c5
    · exact c6)
  refine hz9.trans ?_
  exact znb_l (w := fun j => zand (zlshr w (56 - 8 * j)) 255) (g := g) 1 7 (0 + ((7 : Nat) : Int)) 0 (fun k k0 k1 => by
    rcases (show k = 0 by omega) with rfl
    exact ⟨c7, (by show 0 < g 0; omega)⟩) (.inr hz)
set_option maxRecDepth 100000 in
theorem zname2 {w : Int} {g : Int → Int} (e : w = (0 * 256 + g 0) * 256 + g 1) (b0 : 97 ≤ g 0 ∧ g 0 ≤ 122) (b1 : 97 ≤ g 1 ∧ g 1 ≤ 122) (hz : g 2 ≤ 0) : znbN (fun j => zand (zlshr w (56 - 8 * j)) 255) 8 0 = znlN g 8 0 := by
  have h0 : 0 ≤ w ∧ w < 9223372036854775808 := by omega
  have c0 : zand (zlshr w (56 - 8 * 0)) 255 = 0 := by
    rw [show (56 : Int) - 8 * 0 = ((56 : Nat) : Int) by omega, zbyte h0.1 h0.2 (by omega)]
    omega
  have c1 : zand (zlshr w (56 - 8 * 1)) 255 = 0 := by
    rw [show (56 : Int) - 8 * 1 = ((48 : Nat) : Int) by omega, zbyte h0.1 h0.2 (by omega)]
    omega
  have c2 : zand (zlshr w (56 - 8 * 2)) 255 = 0 := by
    rw [show (56 : Int) - 8 * 2 = ((40 : Nat) : Int) by omega, zbyte h0.1 h0.2 (by omega)]
    omega
  have c3 : zand (zlshr w (56 - 8 * 3)) 255 = 0 := by
    rw [show (56 : Int) - 8 * 3 = ((32 : Nat) : Int) by omega, zbyte h0.1 h0.2 (by omega)]
    omega
  have c4 : zand (zlshr w (56 - 8 * 4)) 255 = 0 := by
    rw [show (56 : Int) - 8 * 4 = ((24 : Nat) : Int) by omega, zbyte h0.1 h0.2 (by omega)]
    omega
  have c5 : zand (zlshr w (56 - 8 * 5)) 255 = 0 := by
    rw [show (56 : Int) - 8 * 5 = ((16 : Nat) : Int) by omega, zbyte h0.1 h0.2 (by omega)]
    omega
  have c6 : zand (zlshr w (56 - 8 * 6)) 255 = g 0 := by
    rw [show (56 : Int) - 8 * 6 = ((8 : Nat) : Int) by omega, zbyte h0.1 h0.2 (by omega)]
    omega
  have c7 : zand (zlshr w (56 - 8 * 7)) 255 = g 1 := by
    rw [show (56 : Int) - 8 * 7 = ((0 : Nat) : Int) by omega, zbyte h0.1 h0.2 (by omega)]
    omega
  have hz9 : znbN (fun j => zand (zlshr w (56 - 8 * j)) 255) (6 + 2) 0 = znbN (fun j => zand (zlshr w (56 - 8 * j)) 255) 2 (0 + ((6 : Nat) : Int)) := znb_0 6 2 0 (fun k k0 k1 => by
    rcases (show k = 0 ∨ k = 1 ∨ k = 2 ∨ k = 3 ∨ k = 4 ∨ k = 5 by omega) with rfl | rfl | rfl | rfl | rfl | rfl
    · exact c0
    · exact c1
    · exact c2
    · exact c3
    · exact c4
    · exact c5)
  refine hz9.trans ?_
  exact znb_l (w := fun j => zand (zlshr w (56 - 8 * j)) 255) (g := g) 2 6 (0 + ((6 : Nat) : Int)) 0 (fun k k0 k1 => by
    rcases (show k = 0 ∨ k = 1 by omega) with rfl | rfl
    · exact ⟨c6, (by show 0 < g 0; omega)⟩
    · exact ⟨c7, (by show 0 < g 1; omega)⟩) (.inr hz)
set_option maxRecDepth 100000 in
theorem zname3 {w : Int} {g : Int → Int} (e : w = ((0 * 256 + g 0) * 256 + g 1) * 256 + g 2) (b0 : 97 ≤ g 0 ∧ g 0 ≤ 122) (b1 : 97 ≤ g 1 ∧ g 1 ≤ 122) (b2 : 97 ≤ g 2 ∧ g 2 ≤ 122) (hz : g 3 ≤ 0) : znbN (fun j => zand (zlshr w (56 - 8 * j)) 255) 8 0 = znlN g 8 0 := by
  have h0 : 0 ≤ w ∧ w < 9223372036854775808 := by omega
  have c0 : zand (zlshr w (56 - 8 * 0)) 255 = 0 := by
    rw [show (56 : Int) - 8 * 0 = ((56 : Nat) : Int) by omega, zbyte h0.1 h0.2 (by omega)]
    omega
  have c1 : zand (zlshr w (56 - 8 * 1)) 255 = 0 := by
    rw [show (56 : Int) - 8 * 1 = ((48 : Nat) : Int) by omega, zbyte h0.1 h0.2 (by omega)]
    omega
  have c2 : zand (zlshr w (56 - 8 * 2)) 255 = 0 := by
    rw [show (56 : Int) - 8 * 2 = ((40 : Nat) : Int) by omega, zbyte h0.1 h0.2 (by omega)]
    omega
  have c3 : zand (zlshr w (56 - 8 * 3)) 255 = 0 := by
    rw [show (56 : Int) - 8 * 3 = ((32 : Nat) : Int) by omega, zbyte h0.1 h0.2 (by omega)]
    omega
  have c4 : zand (zlshr w (56 - 8 * 4)) 255 = 0 := by
    rw [show (56 : Int) - 8 * 4 = ((24 : Nat) : Int) by omega, zbyte h0.1 h0.2 (by omega)]
    omega
  have c5 : zand (zlshr w (56 - 8 * 5)) 255 = g 0 := by
    rw [show (56 : Int) - 8 * 5 = ((16 : Nat) : Int) by omega, zbyte h0.1 h0.2 (by omega)]
    omega
  have c6 : zand (zlshr w (56 - 8 * 6)) 255 = g 1 := by
    rw [show (56 : Int) - 8 * 6 = ((8 : Nat) : Int) by omega, zbyte h0.1 h0.2 (by omega)]
    omega
  have c7 : zand (zlshr w (56 - 8 * 7)) 255 = g 2 := by
    rw [show (56 : Int) - 8 * 7 = ((0 : Nat) : Int) by omega, zbyte h0.1 h0.2 (by omega)]
    omega
  have hz9 : znbN (fun j => zand (zlshr w (56 - 8 * j)) 255) (5 + 3) 0 = znbN (fun j => zand (zlshr w (56 - 8 * j)) 255) 3 (0 + ((5 : Nat) : Int)) := znb_0 5 3 0 (fun k k0 k1 => by
    rcases (show k = 0 ∨ k = 1 ∨ k = 2 ∨ k = 3 ∨ k = 4 by omega) with rfl | rfl | rfl | rfl | rfl
    · exact c0
    · exact c1
    · exact c2
    · exact c3
    · exact c4)
  refine hz9.trans ?_
  exact znb_l (w := fun j => zand (zlshr w (56 - 8 * j)) 255) (g := g) 3 5 (0 + ((5 : Nat) : Int)) 0 (fun k k0 k1 => by
    rcases (show k = 0 ∨ k = 1 ∨ k = 2 by omega) with rfl | rfl | rfl
    · exact ⟨c5, (by show 0 < g 0; omega)⟩
    · exact ⟨c6, (by show 0 < g 1; omega)⟩
    · exact ⟨c7, (by show 0 < g 2; omega)⟩) (.inr hz)
set_option maxRecDepth 100000 in
theorem zname4 {w : Int} {g : Int → Int} (e : w = (((0 * 256 + g 0) * 256 + g 1) * 256 + g 2) * 256 + g 3) (b0 : 97 ≤ g 0 ∧ g 0 ≤ 122) (b1 : 97 ≤ g 1 ∧ g 1 ≤ 122) (b2 : 97 ≤ g 2 ∧ g 2 ≤ 122) (b3 : 97 ≤ g 3 ∧ g 3 ≤ 122) (hz : g 4 ≤ 0) : znbN (fun j => zand (zlshr w (56 - 8 * j)) 255) 8 0 = znlN g 8 0 := by
  have h0 : 0 ≤ w ∧ w < 9223372036854775808 := by omega
  have c0 : zand (zlshr w (56 - 8 * 0)) 255 = 0 := by
    rw [show (56 : Int) - 8 * 0 = ((56 : Nat) : Int) by omega, zbyte h0.1 h0.2 (by omega)]
    omega
  have c1 : zand (zlshr w (56 - 8 * 1)) 255 = 0 := by
    rw [show (56 : Int) - 8 * 1 = ((48 : Nat) : Int) by omega, zbyte h0.1 h0.2 (by omega)]
    omega
  have c2 : zand (zlshr w (56 - 8 * 2)) 255 = 0 := by
    rw [show (56 : Int) - 8 * 2 = ((40 : Nat) : Int) by omega, zbyte h0.1 h0.2 (by omega)]
    omega
  have c3 : zand (zlshr w (56 - 8 * 3)) 255 = 0 := by
    rw [show (56 : Int) - 8 * 3 = ((32 : Nat) : Int) by omega, zbyte h0.1 h0.2 (by omega)]
    omega
  have c4 : zand (zlshr w (56 - 8 * 4)) 255 = g 0 := by
    rw [show (56 : Int) - 8 * 4 = ((24 : Nat) : Int) by omega, zbyte h0.1 h0.2 (by omega)]
    omega
  have c5 : zand (zlshr w (56 - 8 * 5)) 255 = g 1 := by
    rw [show (56 : Int) - 8 * 5 = ((16 : Nat) : Int) by omega, zbyte h0.1 h0.2 (by omega)]
    omega
  have c6 : zand (zlshr w (56 - 8 * 6)) 255 = g 2 := by
    rw [show (56 : Int) - 8 * 6 = ((8 : Nat) : Int) by omega, zbyte h0.1 h0.2 (by omega)]
    omega
  have c7 : zand (zlshr w (56 - 8 * 7)) 255 = g 3 := by
    rw [show (56 : Int) - 8 * 7 = ((0 : Nat) : Int) by omega, zbyte h0.1 h0.2 (by omega)]
    omega
  have hz9 : znbN (fun j => zand (zlshr w (56 - 8 * j)) 255) (4 + 4) 0 = znbN (fun j => zand (zlshr w (56 - 8 * j)) 255) 4 (0 + ((4 : Nat) : Int)) := znb_0 4 4 0 (fun k k0 k1 => by
    rcases (show k = 0 ∨ k = 1 ∨ k = 2 ∨ k = 3 by omega) with rfl | rfl | rfl | rfl
    · exact c0
    · exact c1
    · exact c2
    · exact c3)
  refine hz9.trans ?_
  exact znb_l (w := fun j => zand (zlshr w (56 - 8 * j)) 255) (g := g) 4 4 (0 + ((4 : Nat) : Int)) 0 (fun k k0 k1 => by
    rcases (show k = 0 ∨ k = 1 ∨ k = 2 ∨ k = 3 by omega) with rfl | rfl | rfl | rfl
    · exact ⟨c4, (by show 0 < g 0; omega)⟩
    · exact ⟨c5, (by show 0 < g 1; omega)⟩
    · exact ⟨c6, (by show 0 < g 2; omega)⟩
    · exact ⟨c7, (by show 0 < g 3; omega)⟩) (.inr hz)
set_option maxRecDepth 100000 in
theorem zname5 {w : Int} {g : Int → Int} (e : w = ((((0 * 256 + g 0) * 256 + g 1) * 256 + g 2) * 256 + g 3) * 256 + g 4) (b0 : 97 ≤ g 0 ∧ g 0 ≤ 122) (b1 : 97 ≤ g 1 ∧ g 1 ≤ 122) (b2 : 97 ≤ g 2 ∧ g 2 ≤ 122) (b3 : 97 ≤ g 3 ∧ g 3 ≤ 122) (b4 : 97 ≤ g 4 ∧ g 4 ≤ 122) (hz : g 5 ≤ 0) : znbN (fun j => zand (zlshr w (56 - 8 * j)) 255) 8 0 = znlN g 8 0 := by
  have h0 : 0 ≤ w ∧ w < 9223372036854775808 := by omega
  have c0 : zand (zlshr w (56 - 8 * 0)) 255 = 0 := by
    rw [show (56 : Int) - 8 * 0 = ((56 : Nat) : Int) by omega, zbyte h0.1 h0.2 (by omega)]
    omega
  have c1 : zand (zlshr w (56 - 8 * 1)) 255 = 0 := by
    rw [show (56 : Int) - 8 * 1 = ((48 : Nat) : Int) by omega, zbyte h0.1 h0.2 (by omega)]
    omega
  have c2 : zand (zlshr w (56 - 8 * 2)) 255 = 0 := by
    rw [show (56 : Int) - 8 * 2 = ((40 : Nat) : Int) by omega, zbyte h0.1 h0.2 (by omega)]
    omega
  have c3 : zand (zlshr w (56 - 8 * 3)) 255 = g 0 := by
    rw [show (56 : Int) - 8 * 3 = ((32 : Nat) : Int) by omega, zbyte h0.1 h0.2 (by omega)]
    omega
  have c4 : zand (zlshr w (56 - 8 * 4)) 255 = g 1 := by
    rw [show (56 : Int) - 8 * 4 = ((24 : Nat) : Int) by omega, zbyte h0.1 h0.2 (by omega)]
    omega
  have c5 : zand (zlshr w (56 - 8 * 5)) 255 = g 2 := by
    rw [show (56 : Int) - 8 * 5 = ((16 : Nat) : Int) by omega, zbyte h0.1 h0.2 (by omega)]
    omega
  have c6 : zand (zlshr w (56 - 8 * 6)) 255 = g 3 := by
    rw [show (56 : Int) - 8 * 6 = ((8 : Nat) : Int) by omega, zbyte h0.1 h0.2 (by omega)]
    omega
  have c7 : zand (zlshr w (56 - 8 * 7)) 255 = g 4 := by
    rw [show (56 : Int) - 8 * 7 = ((0 : Nat) : Int) by omega, zbyte h0.1 h0.2 (by omega)]
    omega
  have hz9 : znbN (fun j => zand (zlshr w (56 - 8 * j)) 255) (3 + 5) 0 = znbN (fun j => zand (zlshr w (56 - 8 * j)) 255) 5 (0 + ((3 : Nat) : Int)) := znb_0 3 5 0 (fun k k0 k1 => by
    rcases (show k = 0 ∨ k = 1 ∨ k = 2 by omega) with rfl | rfl | rfl
    · exact c0
    · exact c1
    · exact c2)
  refine hz9.trans ?_
  exact znb_l (w := fun j => zand (zlshr w (56 - 8 * j)) 255) (g := g) 5 3 (0 + ((3 : Nat) : Int)) 0 (fun k k0 k1 => by
    rcases (show k = 0 ∨ k = 1 ∨ k = 2 ∨ k = 3 ∨ k = 4 by omega) with rfl | rfl | rfl | rfl | rfl
    · exact ⟨c3, (by show 0 < g 0; omega)⟩
    · exact ⟨c4, (by show 0 < g 1; omega)⟩
    · exact ⟨c5, (by show 0 < g 2; omega)⟩
    · exact ⟨c6, (by show 0 < g 3; omega)⟩
    · exact ⟨c7, (by show 0 < g 4; omega)⟩) (.inr hz)
set_option maxRecDepth 100000 in
theorem zname6 {w : Int} {g : Int → Int} (e : w = (((((0 * 256 + g 0) * 256 + g 1) * 256 + g 2) * 256 + g 3) * 256 + g 4) * 256 + g 5) (b0 : 97 ≤ g 0 ∧ g 0 ≤ 122) (b1 : 97 ≤ g 1 ∧ g 1 ≤ 122) (b2 : 97 ≤ g 2 ∧ g 2 ≤ 122) (b3 : 97 ≤ g 3 ∧ g 3 ≤ 122) (b4 : 97 ≤ g 4 ∧ g 4 ≤ 122) (b5 : 97 ≤ g 5 ∧ g 5 ≤ 122) (hz : g 6 ≤ 0) : znbN (fun j => zand (zlshr w (56 - 8 * j)) 255) 8 0 = znlN g 8 0 := by
  have h0 : 0 ≤ w ∧ w < 9223372036854775808 := by omega
  have c0 : zand (zlshr w (56 - 8 * 0)) 255 = 0 := by
    rw [show (56 : Int) - 8 * 0 = ((56 : Nat) : Int) by omega, zbyte h0.1 h0.2 (by omega)]
    omega
  have c1 : zand (zlshr w (56 - 8 * 1)) 255 = 0 := by
    rw [show (56 : Int) - 8 * 1 = ((48 : Nat) : Int) by omega, zbyte h0.1 h0.2 (by omega)]
    omega
  have c2 : zand (zlshr w (56 - 8 * 2)) 255 = g 0 := by
    rw [show (56 : Int) - 8 * 2 = ((40 : Nat) : Int) by omega, zbyte h0.1 h0.2 (by omega)]
    omega
  have c3 : zand (zlshr w (56 - 8 * 3)) 255 = g 1 := by
    rw [show (56 : Int) - 8 * 3 = ((32 : Nat) : Int) by omega, zbyte h0.1 h0.2 (by omega)]
    omega
  have c4 : zand (zlshr w (56 - 8 * 4)) 255 = g 2 := by
    rw [show (56 : Int) - 8 * 4 = ((24 : Nat) : Int) by omega, zbyte h0.1 h0.2 (by omega)]
    omega
  have c5 : zand (zlshr w (56 - 8 * 5)) 255 = g 3 := by
    rw [show (56 : Int) - 8 * 5 = ((16 : Nat) : Int) by omega, zbyte h0.1 h0.2 (by omega)]
    omega
  have c6 : zand (zlshr w (56 - 8 * 6)) 255 = g 4 := by
    rw [show (56 : Int) - 8 * 6 = ((8 : Nat) : Int) by omega, zbyte h0.1 h0.2 (by omega)]
    omega
  have c7 : zand (zlshr w (56 - 8 * 7)) 255 = g 5 := by
    rw [show (56 : Int) - 8 * 7 = ((0 : Nat) : Int) by omega, zbyte h0.1 h0.2 (by omega)]
    omega
  have hz9 : znbN (fun j => zand (zlshr w (56 - 8 * j)) 255) (2 + 6) 0 = znbN (fun j => zand (zlshr w (56 - 8 * j)) 255) 6 (0 + ((2 : Nat) : Int)) := znb_0 2 6 0 (fun k k0 k1 => by
    rcases (show k = 0 ∨ k = 1 by omega) with rfl | rfl
    · exact c0
    · exact c1)
  refine hz9.trans ?_
  exact znb_l (w := fun j => zand (zlshr w (56 - 8 * j)) 255) (g := g) 6 2 (0 + ((2 : Nat) : Int)) 0 (fun k k0 k1 => by
    rcases (show k = 0 ∨ k = 1 ∨ k = 2 ∨ k = 3 ∨ k = 4 ∨ k = 5 by omega) with rfl | rfl | rfl | rfl | rfl | rfl
    · exact ⟨c2, (by show 0 < g 0; omega)⟩
    · exact ⟨c3, (by show 0 < g 1; omega)⟩
    · exact ⟨c4, (by show 0 < g 2; omega)⟩
    · exact ⟨c5, (by show 0 < g 3; omega)⟩
    · exact ⟨c6, (by show 0 < g 4; omega)⟩
    · exact ⟨c7, (by show 0 < g 5; omega)⟩) (.inr hz)
set_option maxRecDepth 100000 in
theorem zname7 {w : Int} {g : Int → Int} (e : w = ((((((0 * 256 + g 0) * 256 + g 1) * 256 + g 2) * 256 + g 3) * 256 + g 4) * 256 + g 5) * 256 + g 6) (b0 : 97 ≤ g 0 ∧ g 0 ≤ 122) (b1 : 97 ≤ g 1 ∧ g 1 ≤ 122) (b2 : 97 ≤ g 2 ∧ g 2 ≤ 122) (b3 : 97 ≤ g 3 ∧ g 3 ≤ 122) (b4 : 97 ≤ g 4 ∧ g 4 ≤ 122) (b5 : 97 ≤ g 5 ∧ g 5 ≤ 122) (b6 : 97 ≤ g 6 ∧ g 6 ≤ 122) (hz : g 7 ≤ 0) : znbN (fun j => zand (zlshr w (56 - 8 * j)) 255) 8 0 = znlN g 8 0 := by
  have h0 : 0 ≤ w ∧ w < 9223372036854775808 := by omega
  have c0 : zand (zlshr w (56 - 8 * 0)) 255 = 0 := by
    rw [show (56 : Int) - 8 * 0 = ((56 : Nat) : Int) by omega, zbyte h0.1 h0.2 (by omega)]
    omega
  have c1 : zand (zlshr w (56 - 8 * 1)) 255 = g 0 := by
    rw [show (56 : Int) - 8 * 1 = ((48 : Nat) : Int) by omega, zbyte h0.1 h0.2 (by omega)]
    omega
  have c2 : zand (zlshr w (56 - 8 * 2)) 255 = g 1 := by
    rw [show (56 : Int) - 8 * 2 = ((40 : Nat) : Int) by omega, zbyte h0.1 h0.2 (by omega)]
    omega
  have c3 : zand (zlshr w (56 - 8 * 3)) 255 = g 2 := by
    rw [show (56 : Int) - 8 * 3 = ((32 : Nat) : Int) by omega, zbyte h0.1 h0.2 (by omega)]
    omega
  have c4 : zand (zlshr w (56 - 8 * 4)) 255 = g 3 := by
    rw [show (56 : Int) - 8 * 4 = ((24 : Nat) : Int) by omega, zbyte h0.1 h0.2 (by omega)]
    omega
  have c5 : zand (zlshr w (56 - 8 * 5)) 255 = g 4 := by
    rw [show (56 : Int) - 8 * 5 = ((16 : Nat) : Int) by omega, zbyte h0.1 h0.2 (by omega)]
    omega
  have c6 : zand (zlshr w (56 - 8 * 6)) 255 = g 5 := by
    rw [show (56 : Int) - 8 * 6 = ((8 : Nat) : Int) by omega, zbyte h0.1 h0.2 (by omega)]
    omega
  have c7 : zand (zlshr w (56 - 8 * 7)) 255 = g 6 := by
    rw [show (56 : Int) - 8 * 7 = ((0 : Nat) : Int) by omega, zbyte h0.1 h0.2 (by omega)]
    omega
  have hz9 : znbN (fun j => zand (zlshr w (56 - 8 * j)) 255) (1 + 7) 0 = znbN (fun j => zand (zlshr w (56 - 8 * j)) 255) 7 (0 + ((1 : Nat) : Int)) := znb_0 1 7 0 (fun k k0 k1 => by
    rcases (show k = 0 by omega) with rfl
    exact c0)
  refine hz9.trans ?_
  exact znb_l (w := fun j => zand (zlshr w (56 - 8 * j)) 255) (g := g) 7 1 (0 + ((1 : Nat) : Int)) 0 (fun k k0 k1 => by
    rcases (show k = 0 ∨ k = 1 ∨ k = 2 ∨ k = 3 ∨ k = 4 ∨ k = 5 ∨ k = 6 by omega) with rfl | rfl | rfl | rfl | rfl | rfl | rfl
    · exact ⟨c1, (by show 0 < g 0; omega)⟩
    · exact ⟨c2, (by show 0 < g 1; omega)⟩
    · exact ⟨c3, (by show 0 < g 2; omega)⟩
    · exact ⟨c4, (by show 0 < g 3; omega)⟩
    · exact ⟨c5, (by show 0 < g 4; omega)⟩
    · exact ⟨c6, (by show 0 < g 5; omega)⟩
    · exact ⟨c7, (by show 0 < g 6; omega)⟩) (.inr hz)
set_option maxRecDepth 100000 in
theorem zname8 {w : Int} {g : Int → Int} (e : w = (((((((0 * 256 + g 0) * 256 + g 1) * 256 + g 2) * 256 + g 3) * 256 + g 4) * 256 + g 5) * 256 + g 6) * 256 + g 7) (b0 : 97 ≤ g 0 ∧ g 0 ≤ 122) (b1 : 97 ≤ g 1 ∧ g 1 ≤ 122) (b2 : 97 ≤ g 2 ∧ g 2 ≤ 122) (b3 : 97 ≤ g 3 ∧ g 3 ≤ 122) (b4 : 97 ≤ g 4 ∧ g 4 ≤ 122) (b5 : 97 ≤ g 5 ∧ g 5 ≤ 122) (b6 : 97 ≤ g 6 ∧ g 6 ≤ 122) (b7 : 97 ≤ g 7 ∧ g 7 ≤ 122) : znbN (fun j => zand (zlshr w (56 - 8 * j)) 255) 8 0 = znlN g 8 0 := by
  have h0 : 0 ≤ w ∧ w < 9223372036854775808 := by omega
  have c0 : zand (zlshr w (56 - 8 * 0)) 255 = g 0 := by
    rw [show (56 : Int) - 8 * 0 = ((56 : Nat) : Int) by omega, zbyte h0.1 h0.2 (by omega)]
    omega
  have c1 : zand (zlshr w (56 - 8 * 1)) 255 = g 1 := by
    rw [show (56 : Int) - 8 * 1 = ((48 : Nat) : Int) by omega, zbyte h0.1 h0.2 (by omega)]
    omega
  have c2 : zand (zlshr w (56 - 8 * 2)) 255 = g 2 := by
    rw [show (56 : Int) - 8 * 2 = ((40 : Nat) : Int) by omega, zbyte h0.1 h0.2 (by omega)]
    omega
  have c3 : zand (zlshr w (56 - 8 * 3)) 255 = g 3 := by
    rw [show (56 : Int) - 8 * 3 = ((32 : Nat) : Int) by omega, zbyte h0.1 h0.2 (by omega)]
    omega
  have c4 : zand (zlshr w (56 - 8 * 4)) 255 = g 4 := by
    rw [show (56 : Int) - 8 * 4 = ((24 : Nat) : Int) by omega, zbyte h0.1 h0.2 (by omega)]
    omega
  have c5 : zand (zlshr w (56 - 8 * 5)) 255 = g 5 := by
    rw [show (56 : Int) - 8 * 5 = ((16 : Nat) : Int) by omega, zbyte h0.1 h0.2 (by omega)]
    omega
  have c6 : zand (zlshr w (56 - 8 * 6)) 255 = g 6 := by
    rw [show (56 : Int) - 8 * 6 = ((8 : Nat) : Int) by omega, zbyte h0.1 h0.2 (by omega)]
    omega
  have c7 : zand (zlshr w (56 - 8 * 7)) 255 = g 7 := by
    rw [show (56 : Int) - 8 * 7 = ((0 : Nat) : Int) by omega, zbyte h0.1 h0.2 (by omega)]
    omega
  exact znb_l (w := fun j => zand (zlshr w (56 - 8 * j)) 255) (g := g) 8 0 0 0 (fun k k0 k1 => by
    rcases (show k = 0 ∨ k = 1 ∨ k = 2 ∨ k = 3 ∨ k = 4 ∨ k = 5 ∨ k = 6 ∨ k = 7 by omega) with rfl | rfl | rfl | rfl | rfl | rfl | rfl | rfl
    · exact ⟨c0, (by show 0 < g 0; omega)⟩
    · exact ⟨c1, (by show 0 < g 1; omega)⟩
    · exact ⟨c2, (by show 0 < g 2; omega)⟩
    · exact ⟨c3, (by show 0 < g 3; omega)⟩
    · exact ⟨c4, (by show 0 < g 4; omega)⟩
    · exact ⟨c5, (by show 0 < g 5; omega)⟩
    · exact ⟨c6, (by show 0 < g 6; omega)⟩
    · exact ⟨c7, (by show 0 < g 7; omega)⟩) (.inl rfl)
theorem zname {w : Int} {g : Int → Int} (h : ynm w g) : znbN (fun j => zand (zlshr w (56 - 8 * j)) 255) 8 0 = znlN g 8 0 := by
  obtain ⟨L, a1, a2, a3, a4, a5⟩ := h
  rcases (show L = 1 ∨ L = 2 ∨ L = 3 ∨ L = 4 ∨ L = 5 ∨ L = 6 ∨ L = 7 ∨ L = 8 by omega) with rfl | rfl | rfl | rfl | rfl | rfl | rfl | rfl
  · exact zname1 a5 (a3 0 (by omega) (by omega)) (Int.le_of_eq (a4 1 (by omega) (by omega)))
  · exact zname2 a5 (a3 0 (by omega) (by omega)) (a3 1 (by omega) (by omega)) (Int.le_of_eq (a4 2 (by omega) (by omega)))
  · exact zname3 a5 (a3 0 (by omega) (by omega)) (a3 1 (by omega) (by omega)) (a3 2 (by omega) (by omega)) (Int.le_of_eq (a4 3 (by omega) (by omega)))
  · exact zname4 a5 (a3 0 (by omega) (by omega)) (a3 1 (by omega) (by omega)) (a3 2 (by omega) (by omega)) (a3 3 (by omega) (by omega)) (Int.le_of_eq (a4 4 (by omega) (by omega)))
  · exact zname5 a5 (a3 0 (by omega) (by omega)) (a3 1 (by omega) (by omega)) (a3 2 (by omega) (by omega)) (a3 3 (by omega) (by omega)) (a3 4 (by omega) (by omega)) (Int.le_of_eq (a4 5 (by omega) (by omega)))
  · exact zname6 a5 (a3 0 (by omega) (by omega)) (a3 1 (by omega) (by omega)) (a3 2 (by omega) (by omega)) (a3 3 (by omega) (by omega)) (a3 4 (by omega) (by omega)) (a3 5 (by omega) (by omega)) (Int.le_of_eq (a4 6 (by omega) (by omega)))
  · exact zname7 a5 (a3 0 (by omega) (by omega)) (a3 1 (by omega) (by omega)) (a3 2 (by omega) (by omega)) (a3 3 (by omega) (by omega)) (a3 4 (by omega) (by omega)) (a3 5 (by omega) (by omega)) (a3 6 (by omega) (by omega)) (Int.le_of_eq (a4 7 (by omega) (by omega)))
  · exact zname8 a5 (a3 0 (by omega) (by omega)) (a3 1 (by omega) (by omega)) (a3 2 (by omega) (by omega)) (a3 3 (by omega) (by omega)) (a3 4 (by omega) (by omega)) (a3 5 (by omega) (by omega)) (a3 6 (by omega) (by omega)) (a3 7 (by omega) (by omega))
