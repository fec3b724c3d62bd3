/-! the law's own walk: its script, its calls, what it keeps -/
def zscr (b L : Nat) (xs : Nat → Int32) (A : Nat → Prop) (s : State) : Prop := va_X b L xs s s.heap ∧ b < s.heap.size ∧ ¬ A b ∧ L ≤ 3072
def zsx (xs : Nat → Int32) (i : Int) : Int := (xs i.toNat).toInt
theorem zsx_in (xs : Nat → Int32) (i : Int) : zin (zsx xs i) := zI_rng _
section ZLAW
variable {p : Program} {l : Launch} {e : Env} {R : Room} {s : State} {m : MethodId} {args : Array Value} {below : List Frame} {meth : Method} {c : Code} {H : Heap} {locs : List Loc} {cells slots : Nat} {Q : State → Prop}
variable {cc : ByteArray} {pc nL mc ms n index maxL : Nat} {ls : Array Slot} {rest st0 : List Value} {Ts wds : List Cond} {own C : String} {y : MethodName} {bytes : ByteArray} {ret : Option FieldType} {hh : List (Nat × Nat × Nat × Nat)} {rm : Room} {As av : List Value} {G : zG} {A : Nat → Prop} {ws wc wr : va_W} {S SX : Type} {rv : S → Option Value} {pr : S → Prop} {wf wn : S → va_W} {wx : SX → va_W}
theorem zq_sld (hx : p.tables.exec = Jvm.exec) (hb : c.code = cc) {b L : Nat} {xs : Nat → Int32} (hC : zscr b L xs A s) (hW : zW G A s H locs ws) {i : Int} (h0 : 0 ≤ i) (h1 : i < (L : Int)) (hdg : decode cc pc = .ok (.iaload, 1))
    (kk : W p l e R s m args below meth c H locs cells slots Q (F0 m (pc + 1) ls (.int (zI (zsx xs i)) :: rest))) : W p l e R s m args below meth c H locs cells slots Q (F0 m pc ls (.int (zI i) :: .ref b :: rest)) := by
  have hL := hC.2.2.2
  have hz : zin i := ⟨by omega, by omega⟩
  refine va_sld hx hb hC.1 hC.2.1 hC.2.2.1 hW.2.2.2.1 (zI_vin h0 h1 (by omega)) hdg ?_
  rw [zI_cl hz]
  have e9 : zI (zsx xs i) = xs i.toNat := zI_of _
  rw [e9] at kk
  exact kk
theorem zq_slen (hx : p.tables.exec = Jvm.exec) (hb : c.code = cc) {b L : Nat} {xs : Nat → Int32} (hC : zscr b L xs A s) (hW : zW G A s H locs ws) (hdg : decode cc pc = .ok (.arraylength, 1))
    (kk : W p l e R s m args below meth c H locs cells slots Q (F0 m (pc + 1) ls (.int (zI (L : Int)) :: rest))) : W p l e R s m args below meth c H locs cells slots Q (F0 m pc ls (.ref b :: rest)) := by
  refine va_slen hx hb hC.1 hC.2.1 hC.2.2.1 hW.2.2.2.1 hdg ?_
  have e9 : zI (L : Int) = Int32.ofNat L := Int32.ofInt_eq_ofNat
  rw [e9] at kk
  exact kk
theorem zD_at {f : Int → UInt64} {i : Int} (h0 : 0 ≤ i) (h1 : i ≤ 2147483647) : zD f (zI i).toNatClampNeg = f i := by
  rw [zI_cl ⟨by omega, h1⟩]
  unfold zD
  rw [Int.toNat_of_nonneg h0]
theorem zw_dald (hx : p.tables.exec = Jvm.exec) (hb : c.code = cc) (hW : zW G A s H locs ws) (q0 : Nat) {a n : Nat} {f : Int → UInt64} (he : ws[q0]? = some (a, .inl (zk G 5, n, .inr (.inr (.inr (.inl (zD f))))))) {i : Int} (h0 : 0 ≤ i) (h1 : i < (n : Int)) (hn : n < 2147483648) (hdg : decode cc pc = .ok (.daload, 1)) (kk : W p l e R s m args below meth c H locs cells slots Q (F0 m (pc + 1) ls (.double (f i) :: rest))) : W p l e R s m args below meth c H locs cells slots Q (F0 m pc ls (.int (zI i) :: .ref a :: rest)) := va_dald hx hb hW.2.2.1 hW.1 q0 5 he rfl (zI_vin h0 h1 hn) hdg (by rw [zD_at h0 (by omega)]; exact kk)
/-- a call of a method that catches all that it calls throws -/
theorem zx_SPW (F : CallFix p m c cc nL s args Ts own) (hM : zMx G l y wds rm As wc rv pr wf (fun (_ : String) (_ : SX) => False) wx mc ms) (cw : vx_CSW R s args own index y bytes maxL ret hh wds rm mc ms n) (hW : zW G A s H locs ws) (hp0 : ws.Perm (wc ++ wr)) (hn : ∀ u, (wr ++ wf u).Perm (wn u))
    (hAs : As.length = n) (hls : ls.size = nL) (hst : st0 = As.reverse ++ rest) (hrm : (rest.map fun v => v.category).sum ≤ 8) (hdg : decode cc pc = .ok (.invokestatic index, 3)) (hf : cells + mc ≤ R.cells ∧ slots + ms ≤ R.slots)
    (kk : ∀ (u : S) (H1 : Heap) (locs1 : List Loc), pr u → zW G A s H1 locs1 (wn u) → W p l e R s m args below meth c H1 locs1 (cells + mc) (slots + ms) Q (F0 m (pc + 3) ls ((rv u).toList ++ rest))) : W p l e R s m args below meth c H locs cells slots Q (F0 m pc ls st0) :=
  zx_callP (wnx := fun u => wr ++ wx u) (vx_runSX (As := As) (rest := rest) F (hM H.size) cw ⟨zPre_blind, fun U hU hw => ⟨rfl, zPre_of (hW.perm hp0) (List.range wc.length) (znd_of List.nodup_range) zix_C (zfm_some zix_C) hU hw⟩⟩ rfl hAs hls hst (lv_room hrm) hdg hf) hW hp0 hn (fun _ => List.Perm.refl _) (fun _ _ _ _ _ _ h => h.elim) kk
end ZLAW
/-- what the law keeps of class and reference -/
def zINV (O : zN8) (fa : Int → Int) (P : Nat → Option zK) (cn en : Int) (fkp : Int → Int) (km : Int) (U : Nat → Option zK) (fsv fsi : Int → Int) (rn : Int) (fb : Int → Int) (bu : Int) (fbf : Int → Int) (xl : Int) (fxb : Int → Int) (wm : Int) (fwt : Int → Int) (rea ea : Int) : Prop :=
  zRN O fa ∧ zPst P cn en fkp km ∧ zSvd U fsv fsi ∧ (rn = bu ∧ zalike rn fb fbf ∧ qtext fb rn) ∧ (xl = wm ∧ zalike xl fxb fwt ∧ 0 ≤ xl ∧ xl ≤ 440) ∧ rea = ea
/-! which code, on both sides -/
theorem cd_1 {cd : Int} {p q X Y : Prop} [Decidable q] (h : (cd = 0 ∧ p ∧ X) ∨ (cd = 1 ∧ ¬ p ∧ Y)) (hq : p ↔ q) : zc1 q = cd := by
  rcases h with ⟨a, b, -⟩ | ⟨a, b, -⟩
  · rw [a]; exact if_pos (hq.mp b)
  · rw [a]; exact if_neg (fun z => b (hq.mpr z))
theorem cd_2 {cd : Int} {p q p2 q2 X Y Z : Prop} [Decidable p2] [Decidable q2] (h : (cd = 0 ∧ (p ∧ q) ∧ X) ∨ (cd = 1 ∧ ¬ p ∧ Y) ∨ (cd = 2 ∧ (p ∧ ¬ q) ∧ Z)) (hp : p ↔ p2) (hq : p → (q ↔ q2)) : zc2 p2 q2 = cd := by
  rcases h with ⟨a, b, -⟩ | ⟨a, b, -⟩ | ⟨a, b, -⟩
  · rw [a]; unfold zc2; rw [if_pos (hp.mp b.1), if_pos ((hq b.1).mp b.2)]
  · rw [a]; unfold zc2; rw [if_neg (fun z => b (hp.mpr z))]
  · rw [a]; unfold zc2; rw [if_pos (hp.mp b.1), if_neg (fun z => b.2 ((hq b.1).mpr z))]
theorem cd_r1 {cd : Int} {X Y : Prop} (h : (cd = 0 ∧ X) ∨ (cd = 1 ∧ Y)) : zin cd := by
  rcases h with ⟨a, -⟩ | ⟨a, -⟩ <;> rw [a] <;> exact ⟨by decide, by decide⟩
theorem cd_r2 {cd : Int} {X Y Z : Prop} (h : (cd = 0 ∧ X) ∨ (cd = 1 ∧ Y) ∨ (cd = 2 ∧ Z)) : zin cd := by
  rcases h with ⟨a, -⟩ | ⟨a, -⟩ | ⟨a, -⟩ <;> rw [a] <;> exact ⟨by decide, by decide⟩
theorem cd_y1 {cd : Int} {X Y : Prop} (h : (cd = 0 ∧ X) ∨ (cd = 1 ∧ Y)) (c : cd = 0) : X := by
  rcases h with ⟨a, b⟩ | ⟨a, b⟩
  · exact b
  · exact absurd (a.symm.trans c) (by decide)
theorem cd_y2 {cd : Int} {X Y Z : Prop} (h : (cd = 0 ∧ X) ∨ (cd = 1 ∧ Y) ∨ (cd = 2 ∧ Z)) (c : cd = 0) : X := by
  rcases h with ⟨a, b⟩ | ⟨a, b⟩ | ⟨a, b⟩
  · exact b
  · exact absurd (a.symm.trans c) (by decide)
  · exact absurd (a.symm.trans c) (by decide)
theorem cd_n1 {cd : Int} {X p Y : Prop} (h : (cd = 0 ∧ X) ∨ (cd = 1 ∧ p ∧ Y)) (c : cd ≠ 0) : Y := by
  rcases h with ⟨a, b⟩ | ⟨a, b⟩
  · exact absurd a c
  · exact b.2
theorem cd_n2 {cd : Int} {X p q Y : Prop} (h : (cd = 0 ∧ X) ∨ (cd = 1 ∧ p ∧ Y) ∨ (cd = 2 ∧ q ∧ Y)) (c : cd ≠ 0) : Y := by
  rcases h with ⟨a, b⟩ | ⟨a, b⟩ | ⟨a, b⟩
  · exact absurd a c
  · exact b.2
  · exact b.2
theorem om_iff {x n k : Int} (h : n = k) : (0 ≤ x ∧ x < n) ↔ (0 ≤ x ∧ x < k) := by rw [h]
theorem om2_iff {x y n k : Int} (h : n = k) : ((0 ≤ x ∧ x < n) ∧ (0 ≤ y ∧ y < n)) ↔ ((0 ≤ x ∧ x < k) ∧ (0 ≤ y ∧ y < k)) := by rw [h]
theorem sp_iff {lo w a b : Int} : (lo ≤ a ∧ a ≤ 1000000 ∧ a ≤ b ∧ b ≤ a + w ∧ b ≤ 1000000) ↔ ((lo ≤ a ∧ a ≤ 1000000) ∧ (a ≤ b ∧ b ≤ 1000000) ∧ b - a ≤ w) := by
  constructor <;> intro h <;> omega
theorem tk_iff {t to st : Int} : ((0 ≤ t ∧ t ≤ 1000000) ∧ (t ≤ to ∧ to ≤ min (t + 5000) 1000000) ∧ (0 ≤ st ∧ st ≤ 2)) ↔ (((0 ≤ t ∧ t ≤ 1000000) ∧ (t ≤ to ∧ to ≤ 1000000) ∧ to - t ≤ 5000) ∧ (0 ≤ st ∧ st ≤ 2)) := by
  constructor <;> intro h <;> omega
theorem sl_iff {sl : Int} : (0 ≤ sl ∧ sl < 2) ↔ (0 ≤ sl ∧ sl ≤ 1) := by
  constructor <;> intro h <;> omega
