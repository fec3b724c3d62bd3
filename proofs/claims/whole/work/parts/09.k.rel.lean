/-! a name in one number, and letter by letter -/
def ynm (w : Int) (g : Int → Int) : Prop := ∃ L : Nat, 1 ≤ L ∧ L ≤ 8 ∧ (∀ k : Int, 0 ≤ k → k < L → 97 ≤ g k ∧ g k ≤ 122) ∧ (∀ k : Int, (L : Int) ≤ k → k < 8 → g k = 0) ∧ w = qpkN g L 0 0
theorem qpkN_snoc {g : Int → Int} : ∀ (j : Nat) (i v : Int), qpkN g (j + 1) i v = qpkN g j i v * 256 + g (i + j)
  | 0, i, v => by
    show qpkN g 0 (i + 1) (v * 256 + g i) = _
    unfold qpkN
    rw [show i + ((0 : Nat) : Int) = i by omega]
  | j + 1, i, v => by
    show qpkN g (j + 1) (i + 1) (v * 256 + g i) = qpkN g j (i + 1) (v * 256 + g i) * 256 + _
    rw [qpkN_snoc j (i + 1), show i + 1 + (j : Int) = i + ((j + 1 : Nat) : Int) by omega]
theorem qpkN_pos {g : Int → Int} : ∀ (L : Nat), (∀ k : Int, 0 ≤ k → k < L → 1 ≤ g k ∧ g k ≤ 255) → 0 ≤ qpkN g L 0 0 ∧ (0 < L → 0 < qpkN g L 0 0)
  | 0, _ => by
    unfold qpkN
    exact ⟨by omega, fun h => by omega⟩
  | L + 1, h => by
    have h1 := (qpkN_pos L (fun k a b => h k a (by omega))).1
    have h2 := h L (by omega) (by omega)
    rw [qpkN_snoc, show (0 : Int) + (L : Int) = L by omega]
    exact ⟨by omega, fun _ => by omega⟩
theorem qpkN_inj {g g2 : Int → Int} : ∀ (L M : Nat), (∀ k : Int, 0 ≤ k → k < L → 1 ≤ g k ∧ g k ≤ 255) → (∀ k : Int, 0 ≤ k → k < M → 1 ≤ g2 k ∧ g2 k ≤ 255) → qpkN g L 0 0 = qpkN g2 M 0 0 → L = M ∧ ∀ k : Int, 0 ≤ k → k < L → g k = g2 k
  | 0, M, _, h2, e => by
    cases M with
    | zero => exact ⟨rfl, fun k a b => by omega⟩
    | succ M =>
      have := (qpkN_pos (M + 1) h2).2 (by omega)
      rw [← e] at this
      unfold qpkN at this
      omega
  | L + 1, 0, h1, _, e => by
    have := (qpkN_pos (L + 1) h1).2 (by omega)
    rw [e] at this
    unfold qpkN at this
    omega
  | L + 1, M + 1, h1, h2, e => by
    rw [qpkN_snoc, qpkN_snoc, show (0 : Int) + (L : Int) = L by omega, show (0 : Int) + (M : Int) = M by omega] at e
    have a1 := h1 L (by omega) (by omega)
    have a2 := h2 M (by omega) (by omega)
    obtain ⟨rfl, ih⟩ := qpkN_inj L M (fun k a b => h1 k a (by omega)) (fun k a b => h2 k a (by omega)) (by omega)
    refine ⟨rfl, fun k a b => ?_⟩
    by_cases q : k = L
    · subst q; omega
    · exact ih k a (by omega)
theorem qpkN_congr {g g2 : Int → Int} : ∀ (L : Nat) (i j v : Int), (∀ k : Int, 0 ≤ k → k < L → g (i + k) = g2 (j + k)) → qpkN g L i v = qpkN g2 L j v
  | 0, _, _, _, _ => rfl
  | L + 1, i, j, v, h => by
    have h0 := h 0 (by omega) (by omega)
    rw [Int.add_zero, Int.add_zero] at h0
    show qpkN g L (i + 1) (v * 256 + g i) = qpkN g2 L (j + 1) (v * 256 + g2 j)
    rw [h0]
    exact qpkN_congr L (i + 1) (j + 1) _ (fun k a b => by
      have := h (k + 1) (by omega) (by omega)
      rw [show i + 1 + k = i + (k + 1) by omega, show j + 1 + k = j + (k + 1) by omega]
      exact this)
theorem ynm_eq {w w2 : Int} {g g2 : Int → Int} (h : ynm w g) (h2 : ynm w2 g2) : w = w2 ↔ ∀ k : Int, 0 ≤ k → k < 8 → g k = g2 k := by
  obtain ⟨L, a1, a2, a3, a4, a5⟩ := h
  obtain ⟨M, b1, b2, b3, b4, b5⟩ := h2
  constructor
  · intro e
    obtain ⟨rfl, hk⟩ := qpkN_inj (g := g) (g2 := g2) L M (fun k x y => by have := a3 k x y; omega) (fun k x y => by have := b3 k x y; omega) (by rw [← a5, ← b5]; exact e)
    intro k k0 k8
    rcases Int.lt_or_le k L with q | q
    · exact hk k k0 q
    · rw [a4 k q k8, b4 k q k8]
  · intro e
    have hL : L = M := by
      rcases Nat.lt_trichotomy L M with q | q | q
      · have x1 := a4 L (by omega) (by omega)
        have x2 := b3 L (by omega) (by omega)
        have x3 := e L (by omega) (by omega)
        omega
      · exact q
      · have x1 := b4 M (by omega) (by omega)
        have x2 := a3 M (by omega) (by omega)
        have x3 := e M (by omega) (by omega)
        omega
    subst hL
    rw [a5, b5]
    exact qpkN_congr L 0 0 0 (fun k x y => by rw [Int.zero_add]; exact e k x (by omega))
theorem ynm_tok {X : Int → Int} {s e : Int} (h1 : s < e) (h2 : e - s ≤ 8) (hl : ∀ j, s ≤ j → j < e → 97 ≤ X j ∧ X j ≤ 122) : ynm (qpk X s e) (ynmb X s e) := by
  refine ⟨(e - s).toNat, by omega, by omega, fun k a b => ?_, fun k a b => ?_, ?_⟩
  · unfold ynmb
    rw [if_pos (by omega)]
    exact hl _ (by omega) (by omega)
  · unfold ynmb
    rw [if_neg (by omega)]
  · unfold qpk
    exact qpkN_congr _ s 0 0 (fun k a b => by
      unfold ynmb
      rw [if_pos (by omega), Int.zero_add])
theorem zfind_none {q : Int → Bool} {e : Int} : ∀ (n : Nat) (i : Int), (e - i).toNat = n → 0 ≤ i → (zfind q i e = -1 ↔ ∀ j, i ≤ j → j < e → q j = false)
  | 0, i, hn, _ => ⟨fun _ j a b => by omega, fun _ => zfind_end (by omega)⟩
  | n + 1, i, hn, h0 => by
    cases hq : q i with
    | true =>
      refine ⟨fun h => ?_, fun h => ?_⟩
      · rw [zfind_hit (by omega) hq] at h; omega
      · have := h i (by omega) (by omega); rw [hq] at this; cases this
    | false =>
      rw [zfind_next (by omega) hq]
      refine ⟨fun h j a b => ?_, fun h => (zfind_none n (i + 1) (by omega) (by omega)).mpr (fun j a b => h j (by omega) b)⟩
      by_cases q2 : j = i
      · rw [q2]; exact hq
      · exact (zfind_none n (i + 1) (by omega) (by omega)).mp h j (by omega) b
theorem ysame_iff {fa X : Int → Int} {pa pb m : Int} : ysame fa X pa pb m = true ↔ ∀ k : Int, 0 ≤ k → k < 8 → fa (5 + 14 * m + (6 + k)) = ynmb X pa pb k := by
  unfold ysame
  rw [decide_eq_true_iff, zfind_none _ 0 rfl (Int.le_refl _)]
  refine ⟨fun h k a b => ?_, fun h k a b => decide_eq_false (fun z => z (h k a b))⟩
  have := of_decide_eq_false (h k a b)
  exact Classical.byContradiction this
/-! the sky that is being read, and the reference's row -/
def ynms (mc : Int) (nm fa : Int → Int) : Prop := ∀ m, 0 ≤ m → m < mc → ynm (nm m) (fun k => fa (5 + 14 * m + (6 + k)))
def qrel (S : qS) (fa : Int → Int) : Prop := zRel S.1 S.2.1 S.2.2.1 S.2.2.2.1 S.2.2.2.2.1 S.2.2.2.2.2.2.1 S.2.2.2.2.2.2.2 fa ∧ ynms (fa 3) S.2.2.2.2.2.1 fa
theorem qrel_named {S : qS} {fa X : Int → Int} {pa pb w : Int} (h : qrel S fa) (hw : ynm w (ynmb X pa pb)) : znamed S.2.2.2.2.2.1 S.2.2.2.1 w = ynamed fa X pa pb := by
  have e3 : S.2.2.2.1 = fa 3 := h.1.1.2.2.2.1
  unfold znamed ynamed
  rw [e3]
  refine zfind_congr _ 0 rfl (fun m m0 m1 => ?_)
  have h1 := ynm_eq (h.2 m m0 m1) hw
  cases hs : ysame fa X pa pb m with
  | true => exact decide_eq_true (h1.mpr (ysame_iff.mp hs))
  | false =>
    refine decide_eq_false (fun z => ?_)
    rw [ysame_iff.mpr (h1.mp z)] at hs
    cases hs
theorem qrel_yval {S : qS} {fa : Int → Int} (h : qrel S fa) (hS : qok S) : yval fa := by
  obtain ⟨⟨⟨e0, e1, e2, e3, e4⟩, hm, hs⟩, -⟩ := h
  obtain ⟨⟨v0, v1, v2, v3, v4, v5, v6⟩, -⟩ := hS
  rw [e0] at v0
  rw [e1] at v1
  rw [e2] at v2
  rw [e3] at v3 v5
  rw [e4] at v4 v6
  refine ⟨⟨v0, v1, v2, v3, v4⟩, fun m m0 m1 => ?_, fun j j0 j1 => ?_⟩
  · have h1 := v5 m m0 m1
    have h2 := hm m m0 m1
    unfold zgok at h1 ⊢
    rw [← h2 0 (by omega) (by omega), ← h2 1 (by omega) (by omega), ← h2 2 (by omega) (by omega), ← h2 3 (by omega) (by omega), ← h2 4 (by omega) (by omega), ← h2 5 (by omega) (by omega)]
    exact h1
  · obtain ⟨w1, w2, w3⟩ := v6 j j0 j1
    have x0 := hs j j0 j1 0 (by omega) (by omega)
    have x1 := hs j j0 j1 1 (by omega) (by omega)
    have x2 := hs j j0 j1 2 (by omega) (by omega)
    rw [Int.add_zero] at x0
    unfold yS
    rw [← x0, ← x1, ← x2, ← e3]
    exact ⟨w1, w2, w3⟩
theorem ynm_let {w : Int} {g : Int → Int} (h : ynm w g) : ∀ k : Int, 0 ≤ k → k < 8 → 0 ≤ g k ∧ g k ≤ 122 := fun k a b => by
  obtain ⟨L, -, -, h3, h4, -⟩ := h
  rcases Int.lt_or_le k L with q | q
  · have := h3 k a q; omega
  · rw [h4 k q b]; omega
theorem qrel_zin {S : qS} {fa : Int → Int} (h : qrel S fa) : ∀ m k, 0 ≤ m → m < fa 3 → 0 ≤ k → k < 8 → zin (fa (5 + 14 * m + (6 + k))) := fun m k m0 m1 k0 k1 => by
  have := ynm_let (h.2 m m0 m1) k k0 k1
  exact ⟨by omega, by omega⟩
theorem zRel_of {pr di dr mc sc : Int} {mn sn fa f : Int → Int} (h : zRel pr di dr mc sc mn sn fa) (hf : ∀ j, 0 ≤ j → j < 179 → f j = fa j) (h3 : fa 3 ≤ 6) (h4 : fa 4 ≤ 30) : zRel pr di dr mc sc mn sn f := by
  obtain ⟨⟨e0, e1, e2, e3, e4⟩, hm, hs⟩ := h
  refine ⟨⟨by rw [hf 0 (by omega) (by omega)]; exact e0, by rw [hf 1 (by omega) (by omega)]; exact e1, by rw [hf 2 (by omega) (by omega)]; exact e2, by rw [hf 3 (by omega) (by omega)]; exact e3, by rw [hf 4 (by omega) (by omega)]; exact e4⟩, fun m m0 m1 w w0 w1 => ?_, fun j j0 j1 w w0 w1 => ?_⟩
  · rw [hf 3 (by omega) (by omega)] at m1
    rw [hm m m0 m1 w w0 w1]
    exact (hf _ (by omega) (by omega)).symm
  · rw [hf 4 (by omega) (by omega)] at j1
    rw [hs j j0 j1 w w0 w1]
    exact (hf _ (by omega) (by omega)).symm
theorem qrel_of {S : qS} {fa f : Int → Int} (h : qrel S fa) (hS : qok S) (hf : ∀ j, 0 ≤ j → j < 179 → f j = fa j) : qrel S f := by
  have h3 : fa 3 ≤ 6 := by have := hS.1.2.2.2.1; have e3 := h.1.1.2.2.2.1; omega
  have h4 : fa 4 ≤ 30 := by have := hS.1.2.2.2.2.1; have e3 := h.1.1.2.2.2.2; omega
  refine ⟨zRel_of h.1 hf h3 h4, fun m m0 m1 => ?_⟩
  rw [hf 3 (by omega) (by omega)] at m1
  have h1 := h.2 m m0 m1
  have he : ∀ k : Int, 0 ≤ k → k < 8 → f (5 + 14 * m + (6 + k)) = fa (5 + 14 * m + (6 + k)) := fun k k0 k1 => hf _ (by omega) (by omega)
  obtain ⟨L, a1, a2, a3, a4, a5⟩ := h1
  refine ⟨L, a1, a2, fun k k0 k1 => ?_, fun k k0 k1 => ?_, ?_⟩
  · show 97 ≤ f _ ∧ f _ ≤ 122
    rw [he k k0 (by omega)]; exact a3 k k0 k1
  · show f _ = 0
    rw [he k (by omega) k1]; exact a4 k k0 k1
  · rw [a5]
    exact qpkN_congr L 0 0 0 (fun k k0 k1 => by
      show fa (5 + 14 * m + (6 + (0 + k))) = f (5 + 14 * m + (6 + (0 + k)))
      rw [he (0 + k) (by omega) (by omega)])
theorem ynm_of {w : Int} {g g2 : Int → Int} (h : ynm w g) (he : ∀ k : Int, 0 ≤ k → k < 8 → g2 k = g k) : ynm w g2 := by
  obtain ⟨L, a1, a2, a3, a4, a5⟩ := h
  refine ⟨L, a1, a2, fun k k0 k1 => by rw [he k k0 (by omega)]; exact a3 k k0 k1, fun k k0 k1 => by rw [he k (by omega) k1]; exact a4 k k0 k1, ?_⟩
  rw [a5]
  exact qpkN_congr L 0 0 0 (fun k k0 k1 => by rw [he (0 + k) (by omega) (by omega)])
theorem qrel_moon {pr di dr mc sc w : Int} {nm mn mn2 sn fa f g : Int → Int} (h : qrel (pr, di, dr, mc, sc, nm, mn, sn) fa) (hS : qok (pr, di, dr, mc, sc, nm, mn, sn)) (hm : mc < 6) (hw : ynm w g)
    (hf : ∀ j, 0 ≤ j → j < 179 → j ≠ 3 → ¬ (5 + 14 * mc ≤ j ∧ j < 5 + 14 * mc + 14) → f j = fa j) (hf3 : f 3 = fa 3 + 1) (hn : ∀ k, 0 ≤ k → k < 8 → f (5 + 14 * mc + (6 + k)) = g k) (hk : ∀ k, 0 ≤ k → k < 6 → f (5 + 14 * mc + k) = mn2 (mc * 6 + k)) (ho : ∀ k, ¬ (mc * 6 ≤ k ∧ k < mc * 6 + 6) → mn2 k = mn k) :
    qrel (pr, di, dr, mc + 1, sc, zU nm mc w, mn2, sn) f := by
  obtain ⟨⟨⟨e0, e1, e2, e3, e4⟩, r1, r2⟩, r3⟩ := h
  simp only at e0 e1 e2 e3 e4 r1 r2 r3
  have m0 : 0 ≤ mc := hS.1.2.2.2.1.1
  have s6 : sc ≤ 30 := hS.1.2.2.2.2.1.2
  have d : ∀ j, 0 ≤ j → j < 5 → j ≠ 3 → f j = fa j := fun j a b c => hf j a (by omega) c (by omega)
  refine ⟨⟨⟨by rw [d 0 (by omega) (by omega) (by omega)]; exact e0, by rw [d 1 (by omega) (by omega) (by omega)]; exact e1, by rw [d 2 (by omega) (by omega) (by omega)]; exact e2, by rw [hf3]; show mc + 1 = _; omega, by rw [d 4 (by omega) (by omega) (by omega)]; exact e4⟩, fun m a b k k0 k1 => ?_, fun j a b k k0 k1 => ?_⟩, fun m a b => ?_⟩
  · rw [hf3] at b
    by_cases q : m = mc
    · subst q
      exact (hk k k0 k1).symm
    · show mn2 (m * 6 + k) = f (5 + 14 * m + k)
      rw [ho _ (by omega), hf _ (by omega) (by omega) (by omega) (by omega)]
      exact r1 m a (by omega) k k0 k1
  · rw [d 4 (by omega) (by omega) (by omega)] at b
    show sn (j * 3 + k) = f (89 + 3 * j + k)
    rw [hf _ (by omega) (by omega) (by omega) (by omega)]
    exact r2 j a b k k0 k1
  · rw [hf3] at b
    by_cases q : m = mc
    · subst q
      show ynm (zU nm m w m) _
      rw [zU_s]
      exact ynm_of hw (fun k k0 k1 => hn k k0 k1)
    · show ynm (zU nm mc w m) _
      rw [zU_n q]
      exact ynm_of (r3 m a (by omega)) (fun k k0 k1 => hf _ (by omega) (by omega) (by omega) (by omega))
theorem qrel_hasS {S : qS} {fa : Int → Int} (h : qrel S fa) (mo kd t : Int) : zhasS S.2.2.2.2.2.2.2 S.2.2.2.2.1 mo kd t = decide (ysightOf fa mo kd t ≠ -1) := by
  obtain ⟨⟨⟨-, -, -, -, e4⟩, -, hs⟩, -⟩ := h
  unfold zhasS ysightOf
  rw [e4]
  have hc : zfind (fun j => decide (S.2.2.2.2.2.2.2 (j * 3) = mo) && (decide (S.2.2.2.2.2.2.2 (j * 3 + 1) = kd) && decide (S.2.2.2.2.2.2.2 (j * 3 + 2) = t))) 0 (fa 4) = zfind (fun j => decide (fa (89 + 3 * j + 0) = mo) && (decide (fa (89 + 3 * j + 1) = kd) && decide (fa (89 + 3 * j + 2) = t))) 0 (fa 4) := by
    refine zfind_congr _ 0 rfl (fun j j0 j1 => ?_)
    have x0 := hs j j0 j1 0 (by omega) (by omega)
    have x1 := hs j j0 j1 1 (by omega) (by omega)
    have x2 := hs j j0 j1 2 (by omega) (by omega)
    rw [Int.add_zero] at x0
    rw [x0, x1, x2]
  rw [hc]
theorem qrel_sight {pr di dr mc sc mo kd t : Int} {nm mn sn fa f : Int → Int} (h : qrel (pr, di, dr, mc, sc, nm, mn, sn) fa) (hS : qok (pr, di, dr, mc, sc, nm, mn, sn)) (hs : sc < 30)
    (hf : ∀ j, 0 ≤ j → j < 89 + 3 * sc → j ≠ 4 → f j = fa j) (hf4 : f 4 = fa 4 + 1) (h0 : f (89 + 3 * sc) = mo) (h1 : f (89 + 3 * sc + 1) = kd) (h2 : f (89 + 3 * sc + 2) = t) :
    qrel (pr, di, dr, mc, sc + 1, nm, mn, zput3 sn sc mo kd t) f := by
  obtain ⟨⟨⟨e0, e1, e2, e3, e4⟩, r1, r2⟩, r3⟩ := h
  simp only at e0 e1 e2 e3 e4 r1 r2 r3
  have s0 : 0 ≤ sc := hS.1.2.2.2.2.1.1
  have m6 : mc ≤ 6 := hS.1.2.2.2.1.2
  refine ⟨⟨⟨by rw [hf 0 (by omega) (by omega) (by omega)]; exact e0, by rw [hf 1 (by omega) (by omega) (by omega)]; exact e1, by rw [hf 2 (by omega) (by omega) (by omega)]; exact e2, by rw [hf 3 (by omega) (by omega) (by omega)]; exact e3, by rw [hf4]; show sc + 1 = _; omega⟩, fun m a b k k0 k1 => ?_, fun j a b k k0 k1 => ?_⟩, fun m a b => ?_⟩
  · rw [hf 3 (by omega) (by omega) (by omega)] at b
    show mn (m * 6 + k) = f (5 + 14 * m + k)
    rw [hf _ (by omega) (by omega) (by omega)]
    exact r1 m a b k k0 k1
  · rw [hf4] at b
    obtain ⟨z1, z2, z3⟩ := zput3_a (sn := sn) (s := sc) (mo := mo) (k := kd) (t := t) (j := j)
    show zput3 sn sc mo kd t (j * 3 + k) = f (89 + 3 * j + k)
    have hk : k = 0 ∨ k = 1 ∨ k = 2 := by omega
    by_cases q : j = sc
    · subst q
      rcases hk with rfl | rfl | rfl
      · rw [Int.add_zero, Int.add_zero, z1, if_pos rfl, h0]
      · rw [z2, if_pos rfl, h1]
      · rw [z3, if_pos rfl, h2]
    · rw [hf _ (by omega) (by omega) (by omega)]
      have x := r2 j a (by omega) k k0 k1
      rcases hk with rfl | rfl | rfl
      · rw [Int.add_zero] at x ⊢; rw [z1, if_neg q]; exact x
      · rw [z2, if_neg q]; exact x
      · rw [z3, if_neg q]; exact x
  · rw [hf 3 (by omega) (by omega) (by omega)] at b
    exact ynm_of (r3 m a b) (fun k k0 k1 => hf _ (by omega) (by omega) (by omega))
/-- the five numbers, read so far -/
def yinv (X : Int → Int) (n b : Int) (mn : Int → Int) (P0 w : Int) (R : qE Int) (f : Int → Int) (d : Int) : Prop := match R with
  | .ok P => ∃ h, qNumsN X n b (5 - w).toNat w P h = qNumsN X n b 5 0 P0 mn ∧ ∀ k, 0 ≤ k → k < w → f (d + k) = h (b + k)
  | .error c => qNumsN X n b 5 0 P0 mn = .error c
theorem yinv_step {X : Int → Int} {n b P0 w d : Int} {mn f : Int → Int} {R : qE Int} (w0 : 0 ≤ w) (w5 : w < 5) (h : yinv X n b mn P0 w R f d) : yinv X n b mn P0 (w + 1) (qps (qb R (qNum X n (zLow w) (zHigh w)))) (zU f (d + w) (qvl (qb R (qNum X n (zLow w) (zHigh w))))) d := by
  cases R with
  | error c => exact h
  | ok P =>
    obtain ⟨h9, e9, k9⟩ := h
    show yinv X n b mn P0 (w + 1) (qps (qNum X n (zLow w) (zHigh w) P)) (zU f (d + w) (qvl (qNum X n (zLow w) (zHigh w) P))) d
    cases e1 : qNum X n (zLow w) (zHigh w) P with
    | error c =>
      show qNumsN X n b 5 0 P0 mn = .error c
      rw [← e9, qNumsN_err w5 e1]
    | ok y =>
      refine ⟨zU h9 (b + w) y.2, ?_, fun k k0 k1 => ?_⟩
      · rw [← e9, qNumsN_next w5 e1]
      · show zU f (d + w) y.2 (d + k) = _
        by_cases q : k = w
        · rw [q, zU_s, zU_s]
        · rw [zU_n (by omega), zU_n (by omega)]
          exact k9 k k0 (by omega)
/-- all six numbers -/
def ynum6 (X : Int → Int) (n b : Int) (mn : Int → Int) (P0 : Int) (R : qE Int) (f : Int → Int) (d : Int) : Prop := match qMoonNums X n b P0 mn with
  | .ok z => R = .ok z.1 ∧ ∀ k, 0 ≤ k → k < 6 → f (d + k) = z.2 (b + k)
  | .error c => R = .error c
theorem ynum6_yes {X : Int → Int} {n b P0 d P : Int} {mn f : Int → Int} (h : yinv X n b mn P0 5 (.ok P) f d) (hw : qis X n (qsp X n P) 7 = true) : ynum6 X n b mn P0 (qps (qNum X n 0 99 (qsp X n P + wln 7))) (zU (zU f (d + 5) 1) (d + 5) (qvl (qNum X n 0 99 (qsp X n P + wln 7)))) d := by
  obtain ⟨h9, e9, k9⟩ := h
  have e8 : qNumsN X n b 5 0 P0 mn = .ok (P, h9) := e9.symm
  unfold ynum6 qMoonNums
  rw [e8, qb_ok]
  unfold qWide
  rw [if_pos hw]
  cases e1 : qNum X n 0 99 (qsp X n P + wln 7) with
  | error c => rfl
  | ok y =>
    refine ⟨rfl, fun k k0 k1 => ?_⟩
    show zU (zU f (d + 5) 1) (d + 5) y.2 (d + k) = zU (zU h9 (b + 5) 1) (b + 5) y.2 (b + k)
    by_cases q : k = 5
    · rw [q, zU_s, zU_s]
    · rw [zU_n (by omega), zU_n (by omega), zU_n (by omega), zU_n (by omega)]
      exact k9 k k0 (by omega)
/-- where the reference stands behind a moon, a sight, all of it -/
def qst2 (X : Int → Int) (n : Int) (r : qE (Int × qS)) (fa : Int → Int) (wr wa pa pb ki nu : Int) : Prop := match r with
  | .ok y => qst X n (.ok y.1) wr wa pa pb ki nu ∧ qrel y.2 fa
  | .error c => qst X n (.error c) wr wa pa pb ki nu
theorem qst_sp {X : Int → Int} {n P wr wa pa pb ki nu : Int} (h : qst X n (.ok P) wr wa pa pb ki nu) : qst X n (.ok (qsp X n P)) wr wa pa pb ki nu := by
  obtain ⟨h1, h2, h3⟩ := h
  have h4 := qsp_in (X := X) h1.2
  refine ⟨⟨by omega, h4.2⟩, h2, ?_⟩
  unfold qtok
  rw [qsp_idem h1.2]
  exact h3
def qR6 (X : Int → Int) (n : Int) (R : qE Int) : qE Int := qb R fun P => .ok (qsp X n P)
theorem qst_R6 {X : Int → Int} {n wr wa pa pb ki nu : Int} {R : qE Int} (h : qst X n R wr wa pa pb ki nu) : qst X n (qR6 X n R) wr wa pa pb ki nu := by
  cases R with
  | error c => exact h
  | ok P => exact qst_sp h
theorem ynum6_no2 {X : Int → Int} {n b P0 d : Int} {mn f : Int → Int} {R : qE Int} (h : yinv X n b mn P0 5 R f d) (hw : qwd X n R 7 = false) : ynum6 X n b mn P0 (qR6 X n R) (zU f (d + 5) 1) d := by
  cases R with
  | error c =>
    unfold ynum6 qMoonNums
    rw [show qNumsN X n b 5 0 P0 mn = .error c from h]
    rfl
  | ok P =>
    obtain ⟨h9, e9, k9⟩ := h
    have e8 : qNumsN X n b 5 0 P0 mn = .ok (P, h9) := e9.symm
    unfold ynum6 qMoonNums
    rw [e8, qb_ok]
    unfold qWide
    rw [if_neg (by rw [show qis X n (qsp X n P) 7 = false from hw]; decide)]
    refine ⟨rfl, fun k k0 k1 => ?_⟩
    by_cases q : k = 5
    · rw [q, zU_s]
      exact (zU_s _ _ _).symm
    · rw [zU_n (by omega), k9 k k0 (by omega)]
      exact (zU_n (by omega)).symm
theorem ynum6_gok {X : Int → Int} {n b P0 d P : Int} {mn f : Int → Int} (h : ynum6 X n b mn P0 (.ok P) f d) (hP : P0 ≤ n) : zgok (fun w => f (d + w)) := by
  unfold ynum6 at h
  cases e1 : qMoonNums X n b P0 mn with
  | error c => rw [e1] at h; cases h
  | ok z =>
    rw [e1] at h
    have h2 := (qMoonNums_in hP e1).2.1
    unfold zgok at h2 ⊢
    dsimp only at h2 ⊢
    rw [h.2 0 (by omega) (by omega), h.2 1 (by omega) (by omega), h.2 2 (by omega) (by omega), h.2 3 (by omega) (by omega), h.2 4 (by omega) (by omega), h.2 5 (by omega) (by omega)]
    exact h2
/-- an error stays -/
theorem qst_keep {X : Int → Int} {n wr wa pa pb ki nu wr2 wa2 pa2 pb2 ki2 nu2 : Int} {R : qE Int} {f : Int → qE Int} (h : qst X n R wr wa pa pb ki nu) (hw : wr ≠ 0) (h2 : qst X n (qb R f) wr2 wa2 pa2 pb2 ki2 nu2) : wr2 ≠ 0 := by
  cases R with
  | ok P => exact absurd h.2.1 hw
  | error c =>
    have h3 := h2.1
    have h4 := h2.2.1
    omega
