/-! what holds at the entry -/
def zTl : List (String × Nat) := [(RX6, 331), (RX6, 333), (RX6, 335), (RX6, 337), (RX2, 53), (RX2, 73), (RX2, 87), (RX2, 135), (RX2, 143), (RX7, 343), (RX7, 345), (RX7, 347), (RX7, 349)]
def zTm (i : Nat) : Term := .string (zTl.getD i ("", 0)).1 (zTl.getD i ("", 0)).2
def zFl : List Cond := flatC (Jvm.Cond.and given_1 narrow_1)
theorem zf_lowest : ∀ j, j < 6 → Cond.eq (.elem (.static "WanderingMoons" "LOWEST" "[I") (.int (Int32.ofNat j))) (.int (zA zLow j)) ∈ zFl := by decide +kernel
theorem zf_highest : ∀ j, j < 6 → Cond.eq (.elem (.static "WanderingMoons" "HIGHEST" "[I") (.int (Int32.ofNat j))) (.int (zA zHigh j)) ∈ zFl := by decide +kernel
theorem zf_shifts : ∀ j, j < 7 → Cond.eq (.elem (.static "WanderingMoons" "SHIFTS" "[I") (.int (Int32.ofNat j))) (.int (zA zShf j)) ∈ zFl := by decide +kernel
theorem zf_ex : ∀ i, i < 13 → Cond.exactly (zTm i) "java/lang/String" ∈ zFl := by decide +kernel
theorem zf_co : ∀ i, i < 13 → Cond.eq (.field (zTm i) "java/lang/String" "coder" "B") (.int 0) ∈ zFl := by decide +kernel
theorem zf_ar : ∀ i, i < 13 → Cond.arrayOf (.field (zTm i) "java/lang/String" "value" "[B") .byte ∈ zFl := by decide +kernel
theorem zf_le : ∀ i, i < 13 → Cond.eq (.length (.field (zTm i) "java/lang/String" "value" "[B")) (.int (Int32.ofNat (zLn.getD i 0))) ∈ zFl := by decide +kernel
theorem zf_el : ∀ i, i < 13 → ∀ j, j < zLn.getD i 0 → Cond.eq (.elem (.field (zTm i) "java/lang/String" "value" "[B") (.int (Int32.ofNat j))) (.int ((zTx.getD i []).getD j 0)) ∈ zFl := by decide +kernel
theorem zf_ne0 : ∀ j, 0 < j → j < 13 → Cond.not (Cond.eq (zTm 0) (zTm j)) ∈ zFl ∨ Cond.not (Cond.eq (zTm j) (zTm 0)) ∈ zFl := fun j h0 h1 => by
  rcases (show j = 1 ∨ j = 2 ∨ j = 3 ∨ j = 4 ∨ j = 5 ∨ j = 6 ∨ j = 7 ∨ j = 8 ∨ j = 9 ∨ j = 10 ∨ j = 11 ∨ j = 12 by omega) with rfl | rfl | rfl | rfl | rfl | rfl | rfl | rfl | rfl | rfl | rfl | rfl
  · exact .inl (List.mem_of_getElem? (i := 147) (by decide +kernel))
  · exact .inl (List.mem_of_getElem? (i := 161) (by decide +kernel))
  · exact .inl (List.mem_of_getElem? (i := 175) (by decide +kernel))
  · exact .inr (List.mem_of_getElem? (i := 130) (by decide +kernel))
  · exact .inr (List.mem_of_getElem? (i := 131) (by decide +kernel))
  · exact .inr (List.mem_of_getElem? (i := 132) (by decide +kernel))
  · exact .inr (List.mem_of_getElem? (i := 133) (by decide +kernel))
  · exact .inr (List.mem_of_getElem? (i := 134) (by decide +kernel))
  · exact .inl (List.mem_of_getElem? (i := 383) (by decide +kernel))
  · exact .inl (List.mem_of_getElem? (i := 410) (by decide +kernel))
  · exact .inl (List.mem_of_getElem? (i := 439) (by decide +kernel))
  · exact .inl (List.mem_of_getElem? (i := 468) (by decide +kernel))
theorem zf_ne1 : ∀ j, 1 < j → j < 13 → Cond.not (Cond.eq (zTm 1) (zTm j)) ∈ zFl ∨ Cond.not (Cond.eq (zTm j) (zTm 1)) ∈ zFl := fun j h0 h1 => by
  rcases (show j = 2 ∨ j = 3 ∨ j = 4 ∨ j = 5 ∨ j = 6 ∨ j = 7 ∨ j = 8 ∨ j = 9 ∨ j = 10 ∨ j = 11 ∨ j = 12 by omega) with rfl | rfl | rfl | rfl | rfl | rfl | rfl | rfl | rfl | rfl | rfl
  · exact .inl (List.mem_of_getElem? (i := 162) (by decide +kernel))
  · exact .inl (List.mem_of_getElem? (i := 176) (by decide +kernel))
  · exact .inr (List.mem_of_getElem? (i := 142) (by decide +kernel))
  · exact .inr (List.mem_of_getElem? (i := 143) (by decide +kernel))
  · exact .inr (List.mem_of_getElem? (i := 144) (by decide +kernel))
  · exact .inr (List.mem_of_getElem? (i := 145) (by decide +kernel))
  · exact .inr (List.mem_of_getElem? (i := 146) (by decide +kernel))
  · exact .inl (List.mem_of_getElem? (i := 384) (by decide +kernel))
  · exact .inl (List.mem_of_getElem? (i := 411) (by decide +kernel))
  · exact .inl (List.mem_of_getElem? (i := 440) (by decide +kernel))
  · exact .inl (List.mem_of_getElem? (i := 469) (by decide +kernel))
theorem zf_ne2 : ∀ j, 2 < j → j < 13 → Cond.not (Cond.eq (zTm 2) (zTm j)) ∈ zFl ∨ Cond.not (Cond.eq (zTm j) (zTm 2)) ∈ zFl := fun j h0 h1 => by
  rcases (show j = 3 ∨ j = 4 ∨ j = 5 ∨ j = 6 ∨ j = 7 ∨ j = 8 ∨ j = 9 ∨ j = 10 ∨ j = 11 ∨ j = 12 by omega) with rfl | rfl | rfl | rfl | rfl | rfl | rfl | rfl | rfl | rfl
  · exact .inl (List.mem_of_getElem? (i := 177) (by decide +kernel))
  · exact .inr (List.mem_of_getElem? (i := 156) (by decide +kernel))
  · exact .inr (List.mem_of_getElem? (i := 157) (by decide +kernel))
  · exact .inr (List.mem_of_getElem? (i := 158) (by decide +kernel))
  · exact .inr (List.mem_of_getElem? (i := 159) (by decide +kernel))
  · exact .inr (List.mem_of_getElem? (i := 160) (by decide +kernel))
  · exact .inl (List.mem_of_getElem? (i := 385) (by decide +kernel))
  · exact .inl (List.mem_of_getElem? (i := 412) (by decide +kernel))
  · exact .inl (List.mem_of_getElem? (i := 441) (by decide +kernel))
  · exact .inl (List.mem_of_getElem? (i := 470) (by decide +kernel))
theorem zf_ne3 : ∀ j, 3 < j → j < 13 → Cond.not (Cond.eq (zTm 3) (zTm j)) ∈ zFl ∨ Cond.not (Cond.eq (zTm j) (zTm 3)) ∈ zFl := fun j h0 h1 => by
  rcases (show j = 4 ∨ j = 5 ∨ j = 6 ∨ j = 7 ∨ j = 8 ∨ j = 9 ∨ j = 10 ∨ j = 11 ∨ j = 12 by omega) with rfl | rfl | rfl | rfl | rfl | rfl | rfl | rfl | rfl
  · exact .inr (List.mem_of_getElem? (i := 170) (by decide +kernel))
  · exact .inr (List.mem_of_getElem? (i := 171) (by decide +kernel))
  · exact .inr (List.mem_of_getElem? (i := 172) (by decide +kernel))
  · exact .inr (List.mem_of_getElem? (i := 173) (by decide +kernel))
  · exact .inr (List.mem_of_getElem? (i := 174) (by decide +kernel))
  · exact .inl (List.mem_of_getElem? (i := 386) (by decide +kernel))
  · exact .inl (List.mem_of_getElem? (i := 413) (by decide +kernel))
  · exact .inl (List.mem_of_getElem? (i := 442) (by decide +kernel))
  · exact .inl (List.mem_of_getElem? (i := 471) (by decide +kernel))
theorem zf_ne4 : ∀ j, 4 < j → j < 13 → Cond.not (Cond.eq (zTm 4) (zTm j)) ∈ zFl ∨ Cond.not (Cond.eq (zTm j) (zTm 4)) ∈ zFl := fun j h0 h1 => by
  rcases (show j = 5 ∨ j = 6 ∨ j = 7 ∨ j = 8 ∨ j = 9 ∨ j = 10 ∨ j = 11 ∨ j = 12 by omega) with rfl | rfl | rfl | rfl | rfl | rfl | rfl | rfl
  · exact .inl (List.mem_of_getElem? (i := 88) (by decide +kernel))
  · exact .inl (List.mem_of_getElem? (i := 97) (by decide +kernel))
  · exact .inl (List.mem_of_getElem? (i := 107) (by decide +kernel))
  · exact .inl (List.mem_of_getElem? (i := 118) (by decide +kernel))
  · exact .inl (List.mem_of_getElem? (i := 378) (by decide +kernel))
  · exact .inl (List.mem_of_getElem? (i := 405) (by decide +kernel))
  · exact .inl (List.mem_of_getElem? (i := 434) (by decide +kernel))
  · exact .inl (List.mem_of_getElem? (i := 463) (by decide +kernel))
theorem zf_ne5 : ∀ j, 5 < j → j < 13 → Cond.not (Cond.eq (zTm 5) (zTm j)) ∈ zFl ∨ Cond.not (Cond.eq (zTm j) (zTm 5)) ∈ zFl := fun j h0 h1 => by
  rcases (show j = 6 ∨ j = 7 ∨ j = 8 ∨ j = 9 ∨ j = 10 ∨ j = 11 ∨ j = 12 by omega) with rfl | rfl | rfl | rfl | rfl | rfl | rfl
  · exact .inl (List.mem_of_getElem? (i := 98) (by decide +kernel))
  · exact .inl (List.mem_of_getElem? (i := 108) (by decide +kernel))
  · exact .inl (List.mem_of_getElem? (i := 119) (by decide +kernel))
  · exact .inl (List.mem_of_getElem? (i := 379) (by decide +kernel))
  · exact .inl (List.mem_of_getElem? (i := 406) (by decide +kernel))
  · exact .inl (List.mem_of_getElem? (i := 435) (by decide +kernel))
  · exact .inl (List.mem_of_getElem? (i := 464) (by decide +kernel))
theorem zf_ne6 : ∀ j, 6 < j → j < 13 → Cond.not (Cond.eq (zTm 6) (zTm j)) ∈ zFl ∨ Cond.not (Cond.eq (zTm j) (zTm 6)) ∈ zFl := fun j h0 h1 => by
  rcases (show j = 7 ∨ j = 8 ∨ j = 9 ∨ j = 10 ∨ j = 11 ∨ j = 12 by omega) with rfl | rfl | rfl | rfl | rfl | rfl
  · exact .inl (List.mem_of_getElem? (i := 109) (by decide +kernel))
  · exact .inl (List.mem_of_getElem? (i := 120) (by decide +kernel))
  · exact .inl (List.mem_of_getElem? (i := 380) (by decide +kernel))
  · exact .inl (List.mem_of_getElem? (i := 407) (by decide +kernel))
  · exact .inl (List.mem_of_getElem? (i := 436) (by decide +kernel))
  · exact .inl (List.mem_of_getElem? (i := 465) (by decide +kernel))
theorem zf_ne7 : ∀ j, 7 < j → j < 13 → Cond.not (Cond.eq (zTm 7) (zTm j)) ∈ zFl ∨ Cond.not (Cond.eq (zTm j) (zTm 7)) ∈ zFl := fun j h0 h1 => by
  rcases (show j = 8 ∨ j = 9 ∨ j = 10 ∨ j = 11 ∨ j = 12 by omega) with rfl | rfl | rfl | rfl | rfl
  · exact .inl (List.mem_of_getElem? (i := 121) (by decide +kernel))
  · exact .inl (List.mem_of_getElem? (i := 381) (by decide +kernel))
  · exact .inl (List.mem_of_getElem? (i := 408) (by decide +kernel))
  · exact .inl (List.mem_of_getElem? (i := 437) (by decide +kernel))
  · exact .inl (List.mem_of_getElem? (i := 466) (by decide +kernel))
theorem zf_ne8 : ∀ j, 8 < j → j < 13 → Cond.not (Cond.eq (zTm 8) (zTm j)) ∈ zFl ∨ Cond.not (Cond.eq (zTm j) (zTm 8)) ∈ zFl := fun j h0 h1 => by
  rcases (show j = 9 ∨ j = 10 ∨ j = 11 ∨ j = 12 by omega) with rfl | rfl | rfl | rfl
  · exact .inl (List.mem_of_getElem? (i := 382) (by decide +kernel))
  · exact .inl (List.mem_of_getElem? (i := 409) (by decide +kernel))
  · exact .inl (List.mem_of_getElem? (i := 438) (by decide +kernel))
  · exact .inl (List.mem_of_getElem? (i := 467) (by decide +kernel))
theorem zf_ne9 : ∀ j, 9 < j → j < 13 → Cond.not (Cond.eq (zTm 9) (zTm j)) ∈ zFl ∨ Cond.not (Cond.eq (zTm j) (zTm 9)) ∈ zFl := fun j h0 h1 => by
  rcases (show j = 10 ∨ j = 11 ∨ j = 12 by omega) with rfl | rfl | rfl
  · exact .inl (List.mem_of_getElem? (i := 423) (by decide +kernel))
  · exact .inl (List.mem_of_getElem? (i := 452) (by decide +kernel))
  · exact .inl (List.mem_of_getElem? (i := 481) (by decide +kernel))
theorem zf_ne10 : ∀ j, 10 < j → j < 13 → Cond.not (Cond.eq (zTm 10) (zTm j)) ∈ zFl ∨ Cond.not (Cond.eq (zTm j) (zTm 10)) ∈ zFl := fun j h0 h1 => by
  rcases (show j = 11 ∨ j = 12 by omega) with rfl | rfl
  · exact .inl (List.mem_of_getElem? (i := 453) (by decide +kernel))
  · exact .inl (List.mem_of_getElem? (i := 482) (by decide +kernel))
theorem zf_ne11 : ∀ j, 11 < j → j < 13 → Cond.not (Cond.eq (zTm 11) (zTm j)) ∈ zFl ∨ Cond.not (Cond.eq (zTm j) (zTm 11)) ∈ zFl := fun j h0 h1 => by
  obtain rfl : j = 12 := by omega
  exact .inl (List.mem_of_getElem? (i := 483) (by decide +kernel))
theorem zf_nel : ∀ i j, i < j → j < 13 → Cond.not (Cond.eq (zTm i) (zTm j)) ∈ zFl ∨ Cond.not (Cond.eq (zTm j) (zTm i)) ∈ zFl := fun i j h0 h1 => by
  rcases (show i = 0 ∨ i = 1 ∨ i = 2 ∨ i = 3 ∨ i = 4 ∨ i = 5 ∨ i = 6 ∨ i = 7 ∨ i = 8 ∨ i = 9 ∨ i = 10 ∨ i = 11 by omega) with rfl | rfl | rfl | rfl | rfl | rfl | rfl | rfl | rfl | rfl | rfl | rfl
  · exact zf_ne0 j h0 h1
  · exact zf_ne1 j h0 h1
  · exact zf_ne2 j h0 h1
  · exact zf_ne3 j h0 h1
  · exact zf_ne4 j h0 h1
  · exact zf_ne5 j h0 h1
  · exact zf_ne6 j h0 h1
  · exact zf_ne7 j h0 h1
  · exact zf_ne8 j h0 h1
  · exact zf_ne9 j h0 h1
  · exact zf_ne10 j h0 h1
  · exact zf_ne11 j h0 h1
theorem zf_ne : ∀ i, i < 13 → ∀ j, j < 13 → i ≠ j → Cond.not (Cond.eq (zTm i) (zTm j)) ∈ zFl ∨ Cond.not (Cond.eq (zTm j) (zTm i)) ∈ zFl := fun i hi j hj hij => by
  rcases Nat.lt_or_gt_of_ne hij with h | h
  · exact zf_nel i j h hj
  · exact (zf_nel j i h hi).symm
theorem zf_ln : ∀ i, i < 13 → zLn.getD i 0 < 2 ^ 31 := by decide +kernel
section ENTRY
variable {b : Nat} {s : State} {A : Nat → Prop}
theorem zs_lowest (hts : ∀ w ∈ lw_tbl, w.before #[Value.ref b] s = true) (hs : ∀ w ∈ zFl, w.before #[Value.ref b] s = true) (hA : ∀ a : Nat, a < s.heap.size → ¬ A a) : ∃ t : Nat, va_Z "WanderingMoons" "LOWEST" "[I" (.ref t) A s s.heap ∧ va_T .int t 6 (fun j => .int (zA zLow j)) A s s.heap := by
  obtain ⟨t, e, T⟩ := va_Tof (tm := .static "WanderingMoons" "LOWEST" "[I") (ty := .int) (N := 6) (f := fun j => .int (zA zLow j)) (A := A) (by decide) (hs _ (by decide +kernel)) (va_eqt (hs _ (by decide +kernel))) (fun j hj => va_eqt (hs _ (zf_lowest j hj))) hA
  exact ⟨t, va_Zof (hts _ (List.mem_of_getElem? (i := 505) (by decide +kernel))) (hts _ (List.mem_of_getElem? (i := 84) (by decide +kernel))) e hA, T⟩
theorem zs_highest (hts : ∀ w ∈ lw_tbl, w.before #[Value.ref b] s = true) (hs : ∀ w ∈ zFl, w.before #[Value.ref b] s = true) (hA : ∀ a : Nat, a < s.heap.size → ¬ A a) : ∃ t : Nat, va_Z "WanderingMoons" "HIGHEST" "[I" (.ref t) A s s.heap ∧ va_T .int t 6 (fun j => .int (zA zHigh j)) A s s.heap := by
  obtain ⟨t, e, T⟩ := va_Tof (tm := .static "WanderingMoons" "HIGHEST" "[I") (ty := .int) (N := 6) (f := fun j => .int (zA zHigh j)) (A := A) (by decide) (hs _ (by decide +kernel)) (va_eqt (hs _ (by decide +kernel))) (fun j hj => va_eqt (hs _ (zf_highest j hj))) hA
  exact ⟨t, va_Zof (hts _ (List.mem_of_getElem? (i := 510) (by decide +kernel))) (hts _ (List.mem_of_getElem? (i := 84) (by decide +kernel))) e hA, T⟩
theorem zs_shifts (hts : ∀ w ∈ lw_tbl, w.before #[Value.ref b] s = true) (hs : ∀ w ∈ zFl, w.before #[Value.ref b] s = true) (hA : ∀ a : Nat, a < s.heap.size → ¬ A a) : ∃ t : Nat, va_Z "WanderingMoons" "SHIFTS" "[I" (.ref t) A s s.heap ∧ va_T .int t 7 (fun j => .int (zA zShf j)) A s s.heap := by
  obtain ⟨t, e, T⟩ := va_Tof (tm := .static "WanderingMoons" "SHIFTS" "[I") (ty := .int) (N := 7) (f := fun j => .int (zA zShf j)) (A := A) (by decide) (hs _ (by decide +kernel)) (va_eqt (hs _ (by decide +kernel))) (fun j hj => va_eqt (hs _ (zf_shifts j hj))) hA
  exact ⟨t, va_Zof (hts _ (List.mem_of_getElem? (i := 1004) (by decide +kernel))) (hts _ (List.mem_of_getElem? (i := 84) (by decide +kernel))) e hA, T⟩
theorem zs_text (hts : ∀ w ∈ lw_tbl, w.before #[Value.ref b] s = true) (hs : ∀ w ∈ zFl, w.before #[Value.ref b] s = true) (hA : ∀ a : Nat, a < s.heap.size → ¬ A a) : ∃ sk sv : Nat → Nat, vk_S 13 zLn zTx sk sv A s s.heap ∧ ∀ i : Nat, i < 13 → (zTm i).eval #[Value.ref b] s none [] s = some (.ref (sk i)) :=
  vk_Sof (tm := zTm) (len := zLn) (byt := zTx) zf_ln (fun i h => hs _ (zf_ex i h)) (fun i h => hs _ (zf_co i h)) (fun i h => hs _ (zf_ar i h)) (fun i h => hs _ (zf_le i h)) (fun i h j hj => hs _ (zf_el i h j hj)) (fun i j hi hj hij => (zf_ne i hi j hj hij).imp (fun h => hs _ h) (fun h => hs _ h)) hA
theorem zs_refs (hts : ∀ w ∈ lw_tbl, w.before #[Value.ref b] s = true) (hs : ∀ w ∈ zFl, w.before #[Value.ref b] s = true) {sk : Nat → Nat} (ev : ∀ i : Nat, i < 13 → (zTm i).eval #[Value.ref b] s none [] s = some (.ref (sk i))) : ∀ q ∈ zStr, vk_R q.1 q.2.1 q.2.2.1 (sk q.2.2.2) s :=
  List.forall_mem_cons.mpr ⟨(vk_R.of (A := #[Value.ref b]) (hts _ (List.mem_of_getElem? (i := 544) (by decide +kernel))) (ev 0 (by decide)) : vk_R RX6 331 "dark" (sk 0) s), List.forall_mem_cons.mpr ⟨(vk_R.of (A := #[Value.ref b]) (hts _ (List.mem_of_getElem? (i := 545) (by decide +kernel))) (ev 1 (by decide)) : vk_R RX6 333 "lit" (sk 1) s), List.forall_mem_cons.mpr ⟨(vk_R.of (A := #[Value.ref b]) (hts _ (List.mem_of_getElem? (i := 546) (by decide +kernel))) (ev 2 (by decide)) : vk_R RX6 335 "cast" (sk 2) s), List.forall_mem_cons.mpr ⟨(vk_R.of (A := #[Value.ref b]) (hts _ (List.mem_of_getElem? (i := 547) (by decide +kernel))) (ev 3 (by decide)) : vk_R RX6 337 "off" (sk 3) s), List.forall_mem_cons.mpr ⟨(vk_R.of (A := #[Value.ref b]) (hts _ (List.mem_of_getElem? (i := 371) (by decide +kernel))) (ev 4 (by decide)) : vk_R RX2 53 "planet" (sk 4) s), List.forall_mem_cons.mpr ⟨(vk_R.of (A := #[Value.ref b]) (hts _ (List.mem_of_getElem? (i := 471) (by decide +kernel))) (ev 5 (by decide)) : vk_R RX2 73 "light" (sk 5) s), List.forall_mem_cons.mpr ⟨(vk_R.of (A := #[Value.ref b]) (hts _ (List.mem_of_getElem? (i := 476) (by decide +kernel))) (ev 6 (by decide)) : vk_R RX2 87 "moon" (sk 6) s), List.forall_mem_cons.mpr ⟨(vk_R.of (A := #[Value.ref b]) (hts _ (List.mem_of_getElem? (i := 515) (by decide +kernel))) (ev 7 (by decide)) : vk_R RX2 135 "wide" (sk 7) s), List.forall_mem_cons.mpr ⟨(vk_R.of (A := #[Value.ref b]) (hts _ (List.mem_of_getElem? (i := 536) (by decide +kernel))) (ev 8 (by decide)) : vk_R RX2 143 "seen" (sk 8) s), List.forall_mem_cons.mpr ⟨(vk_R.of (A := #[Value.ref b]) (hts _ (List.mem_of_getElem? (i := 1352) (by decide +kernel))) (va_eqR (t := .string RX6 331) (hs (Cond.eq (.string RX6 331) (.string RX7 163)) (by decide +kernel)) (ev 0 (by decide))) : vk_R RX7 163 "dark" (sk 0) s), List.forall_mem_cons.mpr ⟨(vk_R.of (A := #[Value.ref b]) (hts _ (List.mem_of_getElem? (i := 1353) (by decide +kernel))) (va_eqR (t := .string RX6 333) (hs (Cond.eq (.string RX6 333) (.string RX7 165)) (by decide +kernel)) (ev 1 (by decide))) : vk_R RX7 165 "lit" (sk 1) s), List.forall_mem_cons.mpr ⟨(vk_R.of (A := #[Value.ref b]) (hts _ (List.mem_of_getElem? (i := 1354) (by decide +kernel))) (va_eqR (t := .string RX6 335) (hs (Cond.eq (.string RX6 335) (.string RX7 167)) (by decide +kernel)) (ev 2 (by decide))) : vk_R RX7 167 "cast" (sk 2) s), List.forall_mem_cons.mpr ⟨(vk_R.of (A := #[Value.ref b]) (hts _ (List.mem_of_getElem? (i := 1355) (by decide +kernel))) (va_eqR (t := .string RX6 337) (hs (Cond.eq (.string RX6 337) (.string RX7 169)) (by decide +kernel)) (ev 3 (by decide))) : vk_R RX7 169 "off" (sk 3) s), List.forall_mem_cons.mpr ⟨(vk_R.of (A := #[Value.ref b]) (hts _ (List.mem_of_getElem? (i := 1282) (by decide +kernel))) (va_eqR (t := .string RX2 53) (hs (Cond.eq (.string RX2 53) (.string RX7 182)) (by decide +kernel)) (ev 4 (by decide))) : vk_R RX7 182 "planet" (sk 4) s), List.forall_mem_cons.mpr ⟨(vk_R.of (A := #[Value.ref b]) (hts _ (List.mem_of_getElem? (i := 1309) (by decide +kernel))) (va_eqR (t := .string RX2 73) (hs (Cond.eq (.string RX2 73) (.string RX7 184)) (by decide +kernel)) (ev 5 (by decide))) : vk_R RX7 184 "light" (sk 5) s), List.forall_mem_cons.mpr ⟨(vk_R.of (A := #[Value.ref b]) (hts _ (List.mem_of_getElem? (i := 1310) (by decide +kernel))) (va_eqR (t := .string RX2 87) (hs (Cond.eq (.string RX2 87) (.string RX7 186)) (by decide +kernel)) (ev 6 (by decide))) : vk_R RX7 186 "moon" (sk 6) s), List.forall_mem_cons.mpr ⟨(vk_R.of (A := #[Value.ref b]) (hts _ (List.mem_of_getElem? (i := 1338) (by decide +kernel))) (va_eqR (t := .string RX2 135) (hs (Cond.eq (.string RX2 135) (.string RX7 150)) (by decide +kernel)) (ev 7 (by decide))) : vk_R RX7 150 "wide" (sk 7) s), List.forall_mem_cons.mpr ⟨(vk_R.of (A := #[Value.ref b]) (hts _ (List.mem_of_getElem? (i := 1343) (by decide +kernel))) (va_eqR (t := .string RX2 143) (hs (Cond.eq (.string RX2 143) (.string RX7 191)) (by decide +kernel)) (ev 8 (by decide))) : vk_R RX7 191 "seen" (sk 8) s), List.forall_mem_cons.mpr ⟨(vk_R.of (A := #[Value.ref b]) (hts _ (List.mem_of_getElem? (i := 1548) (by decide +kernel))) (ev 9 (by decide)) : vk_R RX7 343 " dark " (sk 9) s), List.forall_mem_cons.mpr ⟨(vk_R.of (A := #[Value.ref b]) (hts _ (List.mem_of_getElem? (i := 1549) (by decide +kernel))) (ev 10 (by decide)) : vk_R RX7 345 " lit " (sk 10) s), List.forall_mem_cons.mpr ⟨(vk_R.of (A := #[Value.ref b]) (hts _ (List.mem_of_getElem? (i := 1550) (by decide +kernel))) (ev 11 (by decide)) : vk_R RX7 347 " cast " (sk 11) s), List.forall_mem_cons.mpr ⟨(vk_R.of (A := #[Value.ref b]) (hts _ (List.mem_of_getElem? (i := 1551) (by decide +kernel))) (ev 12 (by decide)) : vk_R RX7 349 " off " (sk 12) s), fun _ h => absurd h List.not_mem_nil⟩⟩⟩⟩⟩⟩⟩⟩⟩⟩⟩⟩⟩⟩⟩⟩⟩⟩⟩⟩⟩⟩
theorem zs_nest (hts : ∀ w ∈ lw_tbl, w.before #[Value.ref b] s = true) : ∀ q ∈ zNest, va_Nw (.methodLinkNest q.1 q.2.1 q.2.2 RX6) s :=
  List.forall_mem_cons.mpr ⟨(va_Nw.of rfl (hts _ (List.mem_of_getElem? (i := 113) (by decide +kernel))) : va_Nw (.methodLinkNest RX6 9 yX1_init RX6) s), List.forall_mem_cons.mpr ⟨(va_Nw.of rfl (hts _ (List.mem_of_getElem? (i := 160) (by decide +kernel))) : va_Nw (.methodLinkNest RX6 21 yX0_init RX6) s), List.forall_mem_cons.mpr ⟨(va_Nw.of rfl (hts _ (List.mem_of_getElem? (i := 179) (by decide +kernel))) : va_Nw (.methodLinkNest RX6 32 yX2_init RX6) s), List.forall_mem_cons.mpr ⟨(va_Nw.of rfl (hts _ (List.mem_of_getElem? (i := 213) (by decide +kernel))) : va_Nw (.methodLinkNest RX6 39 yX5_init RX6) s), List.forall_mem_cons.mpr ⟨(va_Nw.of rfl (hts _ (List.mem_of_getElem? (i := 227) (by decide +kernel))) : va_Nw (.methodLinkNest RX6 46 yX4_init RX6) s), List.forall_mem_cons.mpr ⟨(va_Nw.of rfl (hts _ (List.mem_of_getElem? (i := 233) (by decide +kernel))) : va_Nw (.methodLinkNest RX4 11 yX3_init RX6) s), List.forall_mem_cons.mpr ⟨(va_Nw.of rfl (hts _ (List.mem_of_getElem? (i := 322) (by decide +kernel))) : va_Nw (.methodLinkNest RX6 53 yX3_init RX6) s), List.forall_mem_cons.mpr ⟨(va_Nw.of rfl (hts _ (List.mem_of_getElem? (i := 501) (by decide +kernel))) : va_Nw (.methodLinkNest RX2 124 yX6_lowestOf RX6) s), List.forall_mem_cons.mpr ⟨(va_Nw.of rfl (hts _ (List.mem_of_getElem? (i := 506) (by decide +kernel))) : va_Nw (.methodLinkNest RX2 128 yX6_highestOf RX6) s), List.forall_mem_cons.mpr ⟨(va_Nw.of rfl (hts _ (List.mem_of_getElem? (i := 541) (by decide +kernel))) : va_Nw (.methodLinkNest RX2 159 yX6_kindWord RX6) s), List.forall_mem_cons.mpr ⟨(va_Nw.of rfl (hts _ (List.mem_of_getElem? (i := 573) (by decide +kernel))) : va_Nw (.methodLinkNest RX0 21 yX6_keepIn RX6) s), List.forall_mem_cons.mpr ⟨(va_Nw.of rfl (hts _ (List.mem_of_getElem? (i := 625) (by decide +kernel))) : va_Nw (.methodLinkNest RX3 49 yX6_sineOf RX6) s), List.forall_mem_cons.mpr ⟨(va_Nw.of rfl (hts _ (List.mem_of_getElem? (i := 642) (by decide +kernel))) : va_Nw (.methodLinkNest RX3 77 yX6_lightAngle RX6) s), List.forall_mem_cons.mpr ⟨(va_Nw.of rfl (hts _ (List.mem_of_getElem? (i := 956) (by decide +kernel))) : va_Nw (.methodLinkNest RX4 67 yX6_hasKind RX6) s), List.forall_mem_cons.mpr ⟨(va_Nw.of rfl (hts _ (List.mem_of_getElem? (i := 1061) (by decide +kernel))) : va_Nw (.methodLinkNest RX0 34 yX6_skyIn RX6) s), fun _ h => absurd h List.not_mem_nil⟩⟩⟩⟩⟩⟩⟩⟩⟩⟩⟩⟩⟩⟩⟩
theorem zs_decl (hts : ∀ w ∈ lw_tbl, w.before #[Value.ref b] s = true) : ∀ x ∈ zDecl, va_Nw (.declares ⟨x, "<init>", "()V"⟩) s :=
  List.forall_mem_cons.mpr ⟨(va_Nw.of rfl (hts _ (List.mem_of_getElem? (i := 676) (by decide +kernel))) : va_Nw (.declares ⟨"java/lang/RuntimeException", "<init>", "()V"⟩) s), List.forall_mem_cons.mpr ⟨(va_Nw.of rfl (hts _ (List.mem_of_getElem? (i := 678) (by decide +kernel))) : va_Nw (.declares ⟨"java/lang/Exception", "<init>", "()V"⟩) s), List.forall_mem_cons.mpr ⟨(va_Nw.of rfl (hts _ (List.mem_of_getElem? (i := 680) (by decide +kernel))) : va_Nw (.declares ⟨"java/lang/Throwable", "<init>", "()V"⟩) s), fun _ h => absurd h List.not_mem_nil⟩⟩⟩
theorem zs_cast (hts : ∀ w ∈ lw_tbl, w.before #[Value.ref b] s = true) : ∀ x ∈ zCast, va_Nw (.castable x x) s :=
  List.forall_mem_cons.mpr ⟨(va_Nw.of rfl (hts _ (List.mem_of_getElem? (i := 675) (by decide +kernel))) : va_Nw (.castable "java/lang/IllegalStateException" "java/lang/IllegalStateException") s), List.forall_mem_cons.mpr ⟨(va_Nw.of rfl (hts _ (List.mem_of_getElem? (i := 754) (by decide +kernel))) : va_Nw (.castable "java/lang/IllegalArgumentException" "java/lang/IllegalArgumentException") s), List.forall_mem_cons.mpr ⟨(va_Nw.of rfl (hts _ (List.mem_of_getElem? (i := 781) (by decide +kernel))) : va_Nw (.castable "java/lang/IndexOutOfBoundsException" "java/lang/IndexOutOfBoundsException") s), fun _ h => absurd h List.not_mem_nil⟩⟩⟩
theorem zs_not (hs : ∀ w ∈ zFl, w.before #[Value.ref b] s = true) : ∀ q ∈ zNot, va_Nc q.1 q.2 s :=
  List.forall_mem_cons.mpr ⟨(va_Nc.of (hs (Cond.not (.castable "java/lang/IllegalArgumentException" "java/lang/IllegalStateException")) (by decide +kernel)) : va_Nc "java/lang/IllegalArgumentException" "java/lang/IllegalStateException" s), List.forall_mem_cons.mpr ⟨(va_Nc.of (hs (Cond.not (.castable "java/lang/IndexOutOfBoundsException" "java/lang/IllegalStateException")) (by decide +kernel)) : va_Nc "java/lang/IndexOutOfBoundsException" "java/lang/IllegalStateException" s), List.forall_mem_cons.mpr ⟨(va_Nc.of (hs (Cond.not (.castable "java/lang/IllegalStateException" "java/lang/IllegalArgumentException")) (by decide +kernel)) : va_Nc "java/lang/IllegalStateException" "java/lang/IllegalArgumentException" s), List.forall_mem_cons.mpr ⟨(va_Nc.of (hs (Cond.not (.castable "java/lang/IndexOutOfBoundsException" "java/lang/IllegalArgumentException")) (by decide +kernel)) : va_Nc "java/lang/IndexOutOfBoundsException" "java/lang/IllegalArgumentException" s), List.forall_mem_cons.mpr ⟨(va_Nc.of (hs (Cond.not (.castable "java/lang/IllegalStateException" "java/lang/IndexOutOfBoundsException")) (by decide +kernel)) : va_Nc "java/lang/IllegalStateException" "java/lang/IndexOutOfBoundsException" s), List.forall_mem_cons.mpr ⟨(va_Nc.of (hs (Cond.not (.castable "java/lang/IllegalArgumentException" "java/lang/IndexOutOfBoundsException")) (by decide +kernel)) : va_Nc "java/lang/IllegalArgumentException" "java/lang/IndexOutOfBoundsException" s), fun _ h => absurd h List.not_mem_nil⟩⟩⟩⟩⟩⟩
theorem zX_start (hts : ∀ w ∈ lw_tbl, w.before #[Value.ref b] s = true) (hs : ∀ w ∈ zFl, w.before #[Value.ref b] s = true) (hA : ∀ a : Nat, a < s.heap.size → ¬ A a) : ∃ cn sk sv : Nat → Nat, ∀ (D : va_G) (k : Nat → ClassId), zX (D, k, cn, sk, sv) A s s.heap := by
  obtain ⟨t0, z0, T0⟩ := zs_lowest hts hs hA
  obtain ⟨t1, z1, T1⟩ := zs_highest hts hs hA
  obtain ⟨t2, z2, T2⟩ := zs_shifts hts hs hA
  obtain ⟨sk, sv, K0, ev⟩ := zs_text hts hs hA
  refine ⟨fun n => if n = 0 then t0 else if n = 1 then t1 else t2, sk, sv, fun D k => ⟨⟨z0, z1, z2⟩, ⟨T0, T1, T2⟩, ?_, ?_, K0, zs_refs hts hs ev, ?_, ?_, zs_nest hts, ?_, zs_decl hts, zs_cast hts, zs_not hs⟩⟩
  · exact va_Zof (hts _ (List.mem_of_getElem? (i := 401) (by decide +kernel))) (hts _ (List.mem_of_getElem? (i := 96) (by decide +kernel))) (va_eqi (hs _ (by decide +kernel))) hA
  · exact va_Zqof (hts _ (List.mem_of_getElem? (i := 421) (by decide +kernel))) (hts _ (List.mem_of_getElem? (i := 98) (by decide +kernel))) (hs _ (by decide +kernel)) hA
  · exact vx_Zqof (C := "java/lang/Throwable") (n := "UNASSIGNED_STACK") (d := "[Ljava/lang/StackTraceElement;") (hts _ (List.mem_of_getElem? (i := 700) (by decide +kernel))) (hts _ (List.mem_of_getElem? (i := 92) (by decide +kernel))) (hs _ (by decide +kernel)) hA
  · exact vx_Zqof (C := "java/lang/Throwable") (n := "SUPPRESSED_SENTINEL") (d := "Ljava/util/List;") (hts _ (List.mem_of_getElem? (i := 702) (by decide +kernel))) (hts _ (List.mem_of_getElem? (i := 92) (by decide +kernel))) (hs _ (by decide +kernel)) hA
  · exact va_AO.of (hts _ (List.mem_of_getElem? (i := 165) (by decide +kernel)))
theorem zK_start (hts : ∀ w ∈ lw_tbl, w.before #[Value.ref b] s = true) : ∃ (D : va_G) (k : Nat → ClassId), ∀ cn sk sv : Nat → Nat, va_K D vwCl (zT (D, k, cn, sk, sv)) s := by
  obtain ⟨c0, i0, K0⟩ := u_known (C := RX0) (T := TX0) (N := 3) (n := 3) hts inX0 (hts _ (List.mem_of_getElem? (i := 159) (by decide +kernel)))
  obtain ⟨c1, i1, K1⟩ := u_known (C := RX1) (T := TX1) (N := 8) (n := 8) hts inX1 (hts _ (List.mem_of_getElem? (i := 112) (by decide +kernel)))
  obtain ⟨c2, i2, K2⟩ := u_known (C := RX2) (T := TX2) (N := 8) (n := 8) hts inX2 (hts _ (List.mem_of_getElem? (i := 178) (by decide +kernel)))
  obtain ⟨c3, i3, K3⟩ := u_known (C := RX3) (T := TX3) (N := 15) (n := 15) hts inX3 (hts _ (List.mem_of_getElem? (i := 232) (by decide +kernel)))
  obtain ⟨c4, i4, K4⟩ := u_known (C := RX4) (T := TX4) (N := 10) (n := 10) hts inX4 (hts _ (List.mem_of_getElem? (i := 226) (by decide +kernel)))
  obtain ⟨c5, i5, K5⟩ := u_known (C := RX5) (T := TX5) (N := 2) (n := 2) hts inX5 (hts _ (List.mem_of_getElem? (i := 212) (by decide +kernel)))
  obtain ⟨c6, i6, K6⟩ := u_known (C := RX6) (T := TX6) (N := 9) (n := 9) hts inX6 (hts _ (List.mem_of_getElem? (i := 104) (by decide +kernel)))
  obtain ⟨c7, i7, K7⟩ := u_known (C := RX7) (T := TX7) (N := 29) (n := 29) hts inX7 (hts _ (List.mem_of_getElem? (i := 1125) (by decide +kernel)))
  obtain ⟨a0, kA0, co0, f0, g0, h0⟩ := Cond.arrayClass_spec (hts (Cond.arrayClass .int) (List.mem_of_getElem? (i := 157) (by decide +kernel)))
  obtain ⟨a1, kA1, co1, f1, g1, h1⟩ := Cond.arrayClass_spec (hts (Cond.arrayClass .long) (List.mem_of_getElem? (i := 156) (by decide +kernel)))
  obtain ⟨a2, kA2, co2, f2, g2, h2⟩ := Cond.arrayClass_spec (hts (Cond.arrayClass .char) (List.mem_of_getElem? (i := 210) (by decide +kernel)))
  obtain ⟨a3, kA3, co3, f3, g3, h3⟩ := Cond.arrayClass_spec (hts (Cond.arrayClass .boolean) (List.mem_of_getElem? (i := 1222) (by decide +kernel)))
  obtain ⟨co4, a4, kA4, n4, -, g4, h4, f4⟩ := Cond.arrayOver_spec (hts (Cond.arrayOver (.object "WanderingMoons$Sky")) (List.mem_of_getElem? (i := 165) (by decide +kernel)))
  obtain ⟨a5, kA5, co5, f5, g5, h5⟩ := Cond.arrayClass_spec (hts (Cond.arrayClass .double) (List.mem_of_getElem? (i := 1612) (by decide +kernel)))
  refine ⟨(fun k => if k = 0 then c0 else if k = 1 then c1 else if k = 2 then c2 else if k = 3 then c3 else if k = 4 then c4 else if k = 5 then c5 else if k = 6 then c6 else c7, fun k => if k = 0 then i0 else if k = 1 then i1 else if k = 2 then i2 else if k = 3 then i3 else if k = 4 then i4 else if k = 5 then i5 else if k = 6 then i6 else i7), fun k => if k = 0 then a0 else if k = 1 then a1 else if k = 2 then a2 else if k = 3 then a3 else if k = 4 then a4 else a5, fun cn sk sv => ⟨fun k q hq => ?_, fun k q hq => ?_⟩⟩
  · match k, hq with
    | 0, hq => cases hq; exact K0
    | 1, hq => cases hq; exact K1
    | 2, hq => cases hq; exact K2
    | 3, hq => cases hq; exact K3
    | 4, hq => cases hq; exact K4
    | 5, hq => cases hq; exact K5
    | 6, hq => cases hq; exact K6
    | 7, hq => cases hq; exact K7
    | k + 8, hq => simp [vwCl] at hq
  · match k, hq with
    | 0, hq => cases hq; exact ⟨fun n z => ⟨fun k h => (by cases h), kA0, g0, co0, h0⟩, f0⟩
    | 1, hq => cases hq; exact ⟨fun n z => ⟨fun k h => (by cases h), kA1, g1, co1, h1⟩, f1⟩
    | 2, hq => cases hq; exact ⟨fun n z => ⟨fun k h => (by cases h), kA2, g2, co2, h2⟩, f2⟩
    | 3, hq => cases hq; exact ⟨fun n z => ⟨fun k h => (by cases h), kA3, g3, co3, h3⟩, f3⟩
    | 4, hq => cases hq; exact ⟨fun n z => ⟨fun k h => (by cases h), kA4, g4, co4, h4⟩, kA4, co4, g4, h4, n4, f4⟩
    | 5, hq => cases hq; exact ⟨fun n z => ⟨fun k h => (by cases h), kA5, g5, co5, h5⟩, f5⟩
    | k + 6, hq => simp [zT] at hq
end ENTRY
