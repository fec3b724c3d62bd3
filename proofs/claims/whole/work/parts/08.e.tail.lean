section ZTAIL2
variable {p : Program} {l : Launch} {e : Env} {R : Room} {s : State} {m : MethodId} {args : Array Value} {below : List Frame} {meth : Method} {c : Code} {H : Heap} {locs : List Loc} {cells slots : Nat} {Q : State → Prop}
variable {cc : ByteArray} {pc nL mc ms n index maxL : Nat} {ls : Array Slot} {rest st0 : List Value} {Ts wds : List Cond} {own C : String} {y : MethodName} {bytes : ByteArray} {ret : Option FieldType} {rm : Room} {As av : List Value} {G : zG} {A : Nat → Prop} {ws wc wr : va_W} {S SX : Type} {rv : S → Option Value} {pr : S → Prop} {wf wn : S → va_W} {px : String → SX → Prop} {wx wnx : SX → va_W}
/-- a call whose callee's cells are some of the caller's, in any order -/
theorem z_VP (F : CallFix p m c cc nL s args Ts own) {b : Nat} (hM : zM G l y wds rm (.ref b :: As) wc rv pr wf mc ms) (cw : CallW R s args own C index y bytes maxL ret wds rm mc ms n) (hW : zW G A s H locs ws) (hp0 : ws.Perm (wc ++ wr))
    (q0 : Nat) {ci : Nat} {fs : List Value} {TT : u_T} {NN : Nat} (hb0 : ws[q0]? = some (b, .inr (ci, fs))) (hc0 : vwCl[ci]? = some (C, TT, NN)) (hn : ∀ u, (wr ++ wf u).Perm (wn u))
    (hAs : As.length = n) (hls : ls.size = nL) (hst : st0 = As.reverse ++ .ref b :: rest) (hrm : (rest.map fun v => v.category).sum ≤ 8) (hdg : decode cc pc = .ok (.invokevirtual index, 3)) (hf : cells + mc ≤ R.cells ∧ slots + ms ≤ R.slots)
    (kk : ∀ (u : S) (H1 : Heap) (locs1 : List Loc), pr u → zW G A s H1 locs1 (wn u) → W p l e R s m args below meth c H1 locs1 (cells + mc) (slots + ms) Q (F0 m (pc + 3) ls ((rv u).toList ++ rest))) : W p l e R s m args below meth c H locs cells slots Q (F0 m pc ls st0) :=
  z_callP (va_runV (As := As) (rest := rest) F (hM H.size) cw ⟨zPre_blind, va_recv hW.2.2.1 hW.1 (ci := ci) (q0 := q0) hc0 hb0, fun U hU hw => ⟨rfl, zPre_of (hW.perm hp0) (List.range wc.length) (znd_of List.nodup_range) zix_C (zfm_some zix_C) hU hw⟩⟩ rfl hAs hls hst (lv_room hrm) hdg hf) hW hp0 hn kk
theorem z_SP (F : CallFix p m c cc nL s args Ts own) (hM : zM G l y wds rm As wc rv pr wf mc ms) (cw : CallB R s args own index y bytes maxL ret wds rm mc ms n ∧ (Cond.static y).before args s = true) (hW : zW G A s H locs ws) (hp0 : ws.Perm (wc ++ wr)) (hn : ∀ u, (wr ++ wf u).Perm (wn u))
    (hAs : As.length = n) (hls : ls.size = nL) (hst : st0 = As.reverse ++ rest) (hrm : (rest.map fun v => v.category).sum ≤ 8) (hdg : decode cc pc = .ok (.invokestatic index, 3)) (hf : cells + mc ≤ R.cells ∧ slots + ms ≤ R.slots)
    (kk : ∀ (u : S) (H1 : Heap) (locs1 : List Loc), pr u → zW G A s H1 locs1 (wn u) → W p l e R s m args below meth c H1 locs1 (cells + mc) (slots + ms) Q (F0 m (pc + 3) ls ((rv u).toList ++ rest))) : W p l e R s m args below meth c H locs cells slots Q (F0 m pc ls st0) :=
  z_callP (va_runS (As := As) (rest := rest) F (hM H.size) cw ⟨zPre_blind, fun U hU hw => ⟨rfl, zPre_of (hW.perm hp0) (List.range wc.length) (znd_of List.nodup_range) zix_C (zfm_some zix_C) hU hw⟩⟩ rfl hAs hls hst (lv_room hrm) hdg hf) hW hp0 hn kk
theorem zx_callP (hr : vx_Run p l e R s m args below meth c H locs cells slots mc ms (F0 m pc ls st0) rest (zQ rv pr (zPost G wc H.size wf) (va_A wc H.size) av.toArray) (zQx px (zPost G wc H.size wx) (va_A wc H.size)) (va_A wc H.size)) (hW : zW G A s H locs ws) (hp0 : ws.Perm (wc ++ wr)) (hn : ∀ u, (wr ++ wf u).Perm (wn u)) (hnx : ∀ u, (wr ++ wx u).Perm (wnx u))
    (kx : zKx p l e R s m args below meth c (cells + mc) (slots + ms) Q pc ls rest G A px wnx)
    (kk : ∀ (u : S) (H1 : Heap) (locs1 : List Loc), pr u → zW G A s H1 locs1 (wn u) → W p l e R s m args below meth c H1 locs1 (cells + mc) (slots + ms) Q (F0 m (pc + 3) ls ((rv u).toList ++ rest))) : W p l e R s m args below meth c H locs cells slots Q (F0 m pc ls st0) := by
  intro T hT X
  obtain ⟨hP, hD, hK, hS, hA, hX⟩ := hW.perm hp0
  have hF := va_free (wc := wc) hD hS hA (List.range wc.length) zix_C
  have hnR : va_nd ((List.range wr.length).map (wc.length + ·)) = true := znd_of (by
    rw [List.Nodup, List.pairwise_map]
    exact List.Pairwise.imp (fun h => by omega) List.nodup_range)
  have hdis : ∀ i ∈ (List.range wr.length).map (wc.length + ·), i ∉ List.range wc.length := fun i hi h => by
    obtain ⟨j, -, e9⟩ := List.mem_map.mp hi
    have := List.mem_range.mp h
    omega
  rcases hr T hT X with ⟨v, st₀, t, T', L, h0, X', hL, e1, e2, ⟨⟨u, hv, hp, hb⟩, hz, hk⟩, st⟩ | ⟨q, st₀, t, T', L, E, ce, h0, X', hL, e1, e2, ⟨u, hp, hb, hz, hk⟩, hce, hcv, hcl, st⟩
  · cases hv
    rw [h0] at hz hk
    obtain ⟨hP1, hK1, hD1⟩ := hb
    have hk1 : ∀ q : Nat, q < H.size → ¬ va_A wc H.size q → T'.heap[q]? = H[q]? := fun q h1 h2 => by rw [e1]; exact hk q h1 h2
    rw [← e1] at hP1 hz
    obtain ⟨hP2, hD2⟩ := va_join hP hD _ _ zix_C zix_R hnR hdis hk1 hF hP1 hD1
    have hS1 : va_S A s.heap T'.heap (locs ++ L) := ⟨Nat.le_trans hS.1 hz, fun q h1 h2 => by rw [hk1 q (Nat.lt_of_lt_of_le h1 hS.1) (fun z => h2 (hF q z))]; exact hS.2.1 q h1 h2, fun q hq => by
        rcases List.mem_append.mp hq with h | h
        · exact hS.2.2 q h
        · exact hF _ (hL q h)⟩
    obtain ⟨t2, a1, b1⟩ := kk u T'.heap (locs ++ L) hp ⟨zP_perm hP2 (hn u), zD_perm hD2 (hn u), hK, hS1, hA, hX⟩ T' rfl X'
    exact ⟨t2, st t2 a1, b1⟩
  · rw [h0] at hz hk
    obtain ⟨hP1, hK1, hD1⟩ := hb
    have hk1 : ∀ q : Nat, q < H.size → ¬ va_A wc H.size q → T'.heap[q]? = H[q]? := fun q h1 h2 => by rw [e1]; exact hk q h1 h2
    rw [← e1] at hP1 hz
    obtain ⟨hP2, hD2⟩ := va_join hP hD _ _ zix_C zix_R hnR hdis hk1 hF hP1 hD1
    have hS1 : va_S A s.heap T'.heap (locs ++ L) := ⟨Nat.le_trans hS.1 hz, fun q h1 h2 => by rw [hk1 q (Nat.lt_of_lt_of_le h1 hS.1) (fun z => h2 (hF q z))]; exact hS.2.1 q h1 h2, fun q hq => by
        rcases List.mem_append.mp hq with h | h
        · exact hS.2.2 q h
        · exact hF _ (hL q h)⟩
    obtain ⟨t2, a1, b1⟩ := kx E u T'.heap (locs ++ L) ce q hp ⟨zP_perm hP2 (hnx u), zD_perm hD2 (hnx u), hK, hS1, hA, hX⟩ (by rw [e1]; exact hce) hcv hcl T' rfl X'
    exact ⟨t2, st.trans a1, b1⟩
theorem zx_VP (F : CallFix p m c cc nL s args Ts own) {b : Nat} (hM : zMx G l y wds rm (.ref b :: As) wc rv pr wf px wx mc ms) (cw : CallW R s args own C index y bytes maxL ret wds rm mc ms n) (hW : zW G A s H locs ws) (hp0 : ws.Perm (wc ++ wr))
    (q0 : Nat) {ci : Nat} {fs : List Value} {TT : u_T} {NN : Nat} (hb0 : ws[q0]? = some (b, .inr (ci, fs))) (hc0 : vwCl[ci]? = some (C, TT, NN)) (hn : ∀ u, (wr ++ wf u).Perm (wn u)) (hnx : ∀ u, (wr ++ wx u).Perm (wnx u))
    (hAs : As.length = n) (hls : ls.size = nL) (hst : st0 = As.reverse ++ .ref b :: rest) (hrm : (rest.map fun v => v.category).sum ≤ 8) (hdg : decode cc pc = .ok (.invokevirtual index, 3)) (hf : cells + mc ≤ R.cells ∧ slots + ms ≤ R.slots)
    (kx : zKx p l e R s m args below meth c (cells + mc) (slots + ms) Q pc ls rest G A px wnx)
    (kk : ∀ (u : S) (H1 : Heap) (locs1 : List Loc), pr u → zW G A s H1 locs1 (wn u) → W p l e R s m args below meth c H1 locs1 (cells + mc) (slots + ms) Q (F0 m (pc + 3) ls ((rv u).toList ++ rest))) : W p l e R s m args below meth c H locs cells slots Q (F0 m pc ls st0) :=
  zx_callP (vx_runV (As := As) (rest := rest) F (hM H.size) cw ⟨zPre_blind, va_recv hW.2.2.1 hW.1 (ci := ci) (q0 := q0) hc0 hb0, fun U hU hw => ⟨rfl, zPre_of (hW.perm hp0) (List.range wc.length) (znd_of List.nodup_range) zix_C (zfm_some zix_C) hU hw⟩⟩ rfl hAs hls hst (lv_room hrm) hdg hf) hW hp0 hn hnx kx kk
end ZTAIL2
