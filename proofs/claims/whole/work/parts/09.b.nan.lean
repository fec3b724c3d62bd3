/-! a quotient of two whole numbers, the second not 0, is no NaN -/
theorem zn_enc {s : Bool} {c : Nat} {q : Int} (h0 : c < 9007199254740992) (h1 : q ≤ 971) : (FP.Core.encode FP.Core.b64 (.fin s c q)) % 9223372036854775808 ≤ 9218868437227405312 := by
  have e1 : FP.Core.b64.tails = 4503599627370496 := rfl
  have e2 : FP.Core.b64.exps = 2048 := rfl
  have e3 : FP.Core.b64.qmin = -1074 := rfl
  unfold FP.Core.encode
  simp only [e1, e2, e3, FP.Core.assemble]
  cases s <;> split <;> simp only [Bool.toNat] <;> omega
theorem zn_inf {s : Bool} : (FP.Core.encode FP.Core.b64 (.inf s)) % 9223372036854775808 ≤ 9218868437227405312 := by cases s <;> decide
theorem zn_bound {s : Bool} {c : Nat} {q : Int} (h0 : c < 9007199254740992) : (FP.Core.encode FP.Core.b64 (FP.Core.bound FP.Core.b64 s c q)) % 9223372036854775808 ≤ 9218868437227405312 := by
  have e1 : FP.Core.b64.qmax = 971 := rfl
  unfold FP.Core.bound
  rw [e1]
  split
  · exact zn_enc h0 (by assumption)
  · exact zn_inf
theorem zn_rr {s : Bool} {n d : Nat} {e : Int} : (FP.Core.encode FP.Core.b64 (FP.Core.roundRatio FP.Core.b64 s n d e)) % 9223372036854775808 ≤ 9218868437227405312 := by
  have e1 : (2 : Nat) ^ FP.Core.b64.p = 9007199254740992 := rfl
  have e2 : FP.Core.b64.tails = 4503599627370496 := rfl
  have e3 : FP.Core.b64.qmin = -1074 := rfl
  unfold FP.Core.roundRatio
  split
  · exact zn_enc (by omega) (by rw [e3]; omega)
  · unfold FP.Core.roundAt FP.Core.settle
    rw [e1, e2]
    split
    · exact zn_bound (by assumption)
    · exact zn_bound (by omega)
theorem zn_lead {n : Nat} (h0 : n ≠ 0) (h1 : n < 4294967296) : FP.Core.leading n 1 ≤ 31 := by
  have h2 : n.log2 < 32 := (Nat.log2_lt (k := 32) h0).mpr (by omega)
  have h3 : (1 : Nat).log2 = 0 := by decide
  unfold FP.Core.leading
  simp only [h3]
  split <;> omega
theorem zn_int {n : Nat} (h1 : n < 4294967296) : ∃ (c : Nat) (q : Int), FP.Core.roundRatio FP.Core.b64 false n 1 0 = .fin false c q ∧ c < 9007199254740992 ∧ -1074 ≤ q ∧ q ≤ 0 ∧ (n ≠ 0 → c ≠ 0) := by
  have e1 : (2 : Nat) ^ FP.Core.b64.p = 9007199254740992 := rfl
  have e2 : FP.Core.b64.tails = 4503599627370496 := rfl
  have e3 : FP.Core.b64.qmin = -1074 := rfl
  have e4 : FP.Core.b64.qmax = 971 := rfl
  have e5 : (FP.Core.b64.p : Int) = 53 := rfl
  unfold FP.Core.roundRatio
  by_cases h0 : n = 0
  · rw [if_pos h0]
    exact ⟨0, -1074, by rw [e3], by omega, by omega, by omega, fun h => absurd h0 h⟩
  · rw [if_neg h0]
    have hl := zn_lead h0 h1
    have hq : FP.Core.quantum FP.Core.b64 n 1 0 ≤ -21 ∧ -1074 ≤ FP.Core.quantum FP.Core.b64 n 1 0 := by
      unfold FP.Core.quantum
      rw [e3, e5]
      omega
    generalize FP.Core.quantum FP.Core.b64 n 1 0 = q at hq
    have hc : FP.Core.nearest (FP.Core.unitsNum n 0 q) (FP.Core.unitsDen 1 0 q) ≠ 0 := by
      have d1 : FP.Core.unitsDen 1 0 q = 1 := by
        unfold FP.Core.unitsDen
        rw [show (q - 0).toNat = 0 by omega]
      have d2 : FP.Core.unitsNum n 0 q ≠ 0 := by
        unfold FP.Core.unitsNum
        exact Nat.mul_ne_zero h0 (Nat.ne_of_gt (Nat.two_pow_pos _))
      rw [d1]
      generalize FP.Core.unitsNum n 0 q = u at d2
      unfold FP.Core.nearest
      rw [Nat.mod_one, Nat.div_one]
      split <;> omega
    unfold FP.Core.roundAt FP.Core.settle
    rw [e1, e2]
    generalize FP.Core.nearest (FP.Core.unitsNum n 0 q) (FP.Core.unitsDen 1 0 q) = c at hc
    unfold FP.Core.bound
    rw [e4]
    split
    · rw [if_pos (by omega)]
      exact ⟨c, q, rfl, by assumption, by omega, by omega, fun _ => hc⟩
    · rw [if_pos (by omega)]
      exact ⟨4503599627370496, q + 1, rfl, by omega, by omega, by omega, fun _ => by omega⟩
theorem zn_dec {c : Nat} {q : Int} (h0 : c < 9007199254740992) (h1 : -1074 ≤ q) (h2 : q ≤ 0) : FP.Core.encode FP.Core.b64 (.fin false c q) < 18446744073709551616 ∧ ∃ (s2 : Bool) (c2 : Nat) (q2 : Int), FP.Core.decode FP.Core.b64 (FP.Core.encode FP.Core.b64 (.fin false c q)) = .fin s2 c2 q2 ∧ (c ≠ 0 → c2 ≠ 0) := by
  have e1 : FP.Core.b64.tails = 4503599627370496 := rfl
  have e2 : FP.Core.b64.exps = 2048 := rfl
  have e3 : FP.Core.b64.qmin = -1074 := rfl
  have hE : ∃ E T : Nat, FP.Core.encode FP.Core.b64 (.fin false c q) = E * 4503599627370496 + T ∧ E ≤ 1100 ∧ T < 4503599627370496 ∧ (E = 0 → T = c) := by
    unfold FP.Core.encode
    simp only [e1, e2, e3, FP.Core.assemble, Bool.toNat]
    split
    · exact ⟨0, c, by simp, by omega, by assumption, fun _ => rfl⟩
    · exact ⟨(q + 1074).toNat + 1, c - 4503599627370496, by rw [show q - -1074 = q + 1074 by omega]; simp, by omega, by omega, fun h => by omega⟩
  obtain ⟨E, T, h3, h4, h5, h6⟩ := hE
  rw [h3]
  have f1 : (E * 4503599627370496 + T) / 4503599627370496 = E := by omega
  have f2 : (E * 4503599627370496 + T) % 4503599627370496 = T := by omega
  have f3 : FP.Core.fieldE FP.Core.b64 (E * 4503599627370496 + T) = E := by
    unfold FP.Core.fieldE
    rw [e1, e2, f1]
    omega
  have f4 : FP.Core.fieldT FP.Core.b64 (E * 4503599627370496 + T) = T := by
    unfold FP.Core.fieldT
    rw [e1, f2]
  refine ⟨by omega, ?_⟩
  unfold FP.Core.decode
  rw [f3, f4, e1, e2, e3, if_neg (by omega)]
  by_cases hE : E = 0
  · rw [if_pos hE]
    exact ⟨_, _, _, rfl, fun h => by rw [h6 hE]; exact h⟩
  · rw [if_neg hE]
    exact ⟨_, _, _, rfl, fun _ => by omega⟩
theorem zn_i2d {a : Int} (h0 : 0 ≤ a) (h1 : a ≤ 2147483647) : ∃ (s2 : Bool) (c2 : Nat) (q2 : Int), FP.Core.decode FP.Core.b64 (FP.i2d (zI a)).toNat = .fin s2 c2 q2 ∧ (a ≠ 0 → c2 ≠ 0) := by
  have g1 : (zI a).toInt = a := zI_to ⟨by omega, h1⟩
  obtain ⟨c, q, k1, k2, k3, k4, k5⟩ := zn_int (n := a.natAbs) (by omega)
  obtain ⟨d1, s2, c2, q2, d2, d3⟩ := zn_dec k2 k3 k4
  have g2 : (FP.i2d (zI a)).toNat = FP.Core.encode FP.Core.b64 (.fin false c q) := by
    have g3 : (FP.i2d (zI a)).toNat = FP.Core.fromInt FP.Core.b64 (zI a).toInt % 18446744073709551616 := rfl
    rw [g3, g1]
    unfold FP.Core.fromInt FP.Core.ofInt FP.Core.round
    simp only [decide_eq_false (show ¬ a < 0 by omega)]
    rw [k1]
    exact Nat.mod_eq_of_lt d1
  refine ⟨s2, c2, q2, by rw [g2]; exact d2, fun h => d3 (k5 (by omega))⟩
theorem zn_div {a b : Int} (h0 : 0 ≤ a) (h1 : a ≤ 2147483647) (h2 : 0 < b) (h3 : b ≤ 2147483647) : vf_n64 (FP.ddiv (FP.i2d (zI a)) (FP.i2d (zI b))) := by
  obtain ⟨s1, c1, q1, a1, -⟩ := zn_i2d h0 h1
  obtain ⟨s2, c2, q2, b1, b2⟩ := zn_i2d (a := b) (by omega) h3
  have hc := b2 (by omega)
  generalize FP.i2d (zI a) = x at a1
  generalize FP.i2d (zI b) = y at b1
  have h4 : FP.Core.div FP.Core.b64 x.toNat y.toNat % 9223372036854775808 ≤ 9218868437227405312 := by
    unfold FP.Core.div
    rw [a1, b1]
    unfold FP.Core.quotient
    simp only [if_neg hc]
    exact zn_rr
  have h5 : (FP.ddiv x y).toNat = FP.Core.div FP.Core.b64 x.toNat y.toNat % 18446744073709551616 := rfl
  unfold vf_n64
  rw [UInt64.le_iff_toNat_le, UInt64.toNat_and]
  have h6 : (0x7fffffffffffffff : UInt64).toNat = 2 ^ 63 - 1 := rfl
  have h7 : (0x7ff0000000000000 : UInt64).toNat = 9218868437227405312 := rfl
  rw [h6, h7, Nat.and_two_pow_sub_one_eq_mod, h5]
  omega
