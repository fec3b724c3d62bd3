theorem zfw_is {w k : Int} (h0 : 0 ≤ k) (h1 : k < 4) (hn : ∀ j, 0 ≤ j → j < k → zhas w j = false) (hk : zhas w k = true) : zfw w = k := by
  have h4 : k = 0 ∨ k = 1 ∨ k = 2 ∨ k = 3 := by omega
  unfold zfw
  rcases h4 with rfl | rfl | rfl | rfl
  · rw [if_pos hk]
  · rw [hn 0 (by omega) (by omega), if_neg Bool.false_ne_true, if_pos hk]
  · rw [hn 0 (by omega) (by omega), if_neg Bool.false_ne_true, hn 1 (by omega) (by omega), if_neg Bool.false_ne_true, if_pos hk]
  · rw [hn 0 (by omega) (by omega), if_neg Bool.false_ne_true, hn 1 (by omega) (by omega), if_neg Bool.false_ne_true, hn 2 (by omega) (by omega), if_neg Bool.false_ne_true, if_pos hk]
theorem zfw_none {w : Int} (hn : ∀ j, 0 ≤ j → j < 4 → zhas w j = false) : zfw w = 0 := by
  unfold zfw
  rw [hn 0 (by omega) (by omega), hn 1 (by omega) (by omega), hn 2 (by omega) (by omega), hn 3 (by omega) (by omega)]
  rfl
theorem zni_zero {j : Int} (h0 : 0 ≤ j) (h1 : j < 6) : zni 0 j = 0 := by
  have h4 : j = 0 ∨ j = 1 ∨ j = 2 ∨ j = 3 ∨ j = 4 ∨ j = 5 := by omega
  rcases h4 with rfl | rfl | rfl | rfl | rfl | rfl <;> decide +kernel
theorem zlM_none {ev : Int → Int → Int → Bool} {t mc : Int} (h : mc ≤ 0) : zlM ev t 0 mc = [] := zlM_end h
theorem zlTN_none {ev : Int → Int → Int → Bool} {mc : Int} (h : mc ≤ 0) : ∀ (n : Nat) (t : Int), zlTN ev mc n t = []
  | 0, _ => rfl
  | n + 1, t => by
    show zlM ev t 0 mc ++ zlTN ev mc n (t + 1) = []
    rw [zlM_none h, zlTN_none h n]
    rfl
theorem zlT_none {ev : Int → Int → Int → Bool} {mc t b : Int} (h : mc ≤ 0) : zlT ev mc t b = [] := zlTN_none h _ _
theorem zmc_in {x mc : Int} (h1 : 0 ≤ x ∧ x ≤ 2001) (h2 : 0 ≤ mc ∧ mc ≤ 6) : 0 ≤ x * mc ∧ x * mc ≤ 12006 := by
  have h4 : mc = 0 ∨ mc = 1 ∨ mc = 2 ∨ mc = 3 ∨ mc = 4 ∨ mc = 5 ∨ mc = 6 := by omega
  rcases h4 with rfl | rfl | rfl | rfl | rfl | rfl | rfl <;> omega
theorem zTI_begin {pr di dr mc : Int} {mn : Int → Int} {a b tm tmo B : Int} (hm : 0 ≤ mc ∧ mc ≤ 6) (hab : a ≤ b ∧ b ≤ a + 2000) (hB : 0 ≤ B ∧ B < 16777216) (hn : ∀ j, 0 ≤ j → j < mc → zni B j = zbits (zL2 pr di dr (zg mn j) (a - 1))) :
    zTI pr di dr mc mn a b tm tmo 0 ((b - a + 1) * mc) 0 B (zlT (zEV pr di dr mn) mc a b) := by
  have h9 := zmc_in (x := b - a + 1) (by omega) hm
  refine ⟨hB, by omega, ⟨by omega, h9.1⟩, h9.2, a, 0, by omega, ⟨by omega, by omega⟩, by omega, by rw [Int.sub_self, Int.zero_mul]; rfl, by rw [show b - a + 1 = b + 1 - a by omega], ?_, ?_⟩
  · intro j h1 h2
    rw [if_neg (by omega)]
    exact hn j h1 h2
  · rw [zlW_zero, List.nil_append]
    by_cases q : mc = 0
    · rw [if_pos q]; exact zlT_none (by omega)
    · rw [if_neg q, zlR_all]
theorem zdm {t a mc m s : Int} (h : s = (t - a) * mc + m) (h0 : 0 ≤ m) (h1 : m < mc) (h2 : a ≤ t) : Int.tdiv s mc = t - a ∧ Int.tmod s mc = m := by
  have hp : 0 ≤ (t - a) * mc := Int.mul_nonneg (by omega) (by omega)
  have hs : 0 ≤ s := by omega
  rw [Int.tdiv_eq_ediv_of_nonneg hs, Int.tmod_eq_emod_of_nonneg hs, h, Int.add_comm]
  constructor
  · rw [Int.add_mul_ediv_right _ _ (by omega), Int.ediv_eq_zero_of_lt h0 h1]; omega
  · rw [Int.add_mul_emod_self_right, Int.emod_eq_of_lt h0 h1]
/-- a step further: a moon at a time -/
theorem zTI_step {pr di dr mc : Int} {mn : Int → Int} {a b tm tmo s ss B : Int} {L : List (Int × Int × Int)} (hmc : mc ≤ 6) (h : zTI pr di dr mc mn a b tm tmo s ss 0 B L) (hs : s < ss) (hm : 0 < mc) :
    (0 ≤ Int.tmod s mc ∧ Int.tmod s mc < mc) ∧ (a ≤ a + Int.tdiv s mc ∧ a + Int.tdiv s mc ≤ b) ∧ (0 ≤ B ∧ B < 16777216) ∧
    zni B (Int.tmod s mc) = zbits (zL2 pr di dr (zg mn (Int.tmod s mc)) (a + Int.tdiv s mc - 1)) ∧
    zTI pr di dr mc mn a b (a + Int.tdiv s mc) (Int.tmod s mc) (s + 1) ss (zand (zbits (zL2 pr di dr (zg mn (Int.tmod s mc)) (a + Int.tdiv s mc))) (zxor (zni B (Int.tmod s mc)) (-1)))
      (zxor B (zshl (zxor (zni B (Int.tmod s mc)) (zbits (zL2 pr di dr (zg mn (Int.tmod s mc)) (a + Int.tdiv s mc)))) (4 * Int.tmod s mc))) L := by
  obtain ⟨hB, hw, h1, h2, t, m, ht, hm0, hend, e1, e2, hn, hL⟩ := h
  have hm1 : m < mc := by omega
  obtain ⟨d1, d2⟩ := zdm e1 hm0.1 hm1 ht.1
  rw [d1, d2, show a + (t - a) = t by omega]
  have htb : t ≤ b := by
    apply Classical.byContradiction
    intro q
    have e3 : t = b + 1 := by omega
    have e4 := hend e3
    subst e3 e4
    omega
  have hnm : zni B m = zbits (zL2 pr di dr (zg mn m) (t - 1)) := by
    rw [hn m hm0.1 hm1, if_neg (by omega)]
  have hx := zni_xor (k := m) hB (zbits_in (zL2_in pr di dr (zg mn m) t)) ⟨hm0.1, by omega⟩
  have hk := zkb_in (zL2_in pr di dr (zg mn m) t) (zL2_in pr di dr (zg mn m) (t - 1))
  refine ⟨⟨hm0.1, hm1⟩, ⟨ht.1, htb⟩, hB, hnm, hx.1, by rw [hnm]; exact hk, ⟨by omega, by omega⟩, h2, ?_⟩
  have hL2 : L = zlW (zand (zbits (zL2 pr di dr (zg mn m) t)) (zxor (zni B m) (-1))) t m ++ (if m + 1 < mc then zlR (zEV pr di dr mn) mc t (m + 1) b else zlR (zEV pr di dr mn) mc (t + 1) 0 b) := by
    rw [hL, zlW_zero, List.nil_append, if_neg (by omega), hnm, zlW_ev]
    by_cases q : m + 1 < mc
    · rw [if_pos q, zlR_step htb q]
    · rw [if_neg q, zlR_turn htb (by omega)]
  by_cases q : m + 1 < mc
  · refine ⟨t, m + 1, by omega, ⟨by omega, .inl q⟩, by omega, by omega, e2, ?_, ?_⟩
    · intro j j0 j1
      rw [hx.2 j j0 (by omega)]
      by_cases qj : j = m
      · subst qj
        rw [if_pos rfl, if_pos (by omega)]
      · rw [if_neg qj, hn j j0 j1]
        by_cases q3 : j < m
        · rw [if_pos q3, if_pos (by omega)]
        · rw [if_neg q3, if_neg (by omega)]
    · rw [hL2, if_pos q, if_neg (by omega)]
  · refine ⟨t + 1, 0, by omega, ⟨by omega, .inl hm⟩, by omega, ?_, e2, ?_, ?_⟩
    · have e5 : m + 1 = mc := by omega
      have e6 : (t + 1 - a) * mc = (t - a) * mc + mc := by rw [show t + 1 - a = (t - a) + 1 by omega, Int.add_mul, Int.one_mul]
      omega
    · intro j j0 j1
      rw [hx.2 j j0 (by omega), if_neg (show ¬ j < 0 by omega), show t + 1 - 1 = t by omega]
      by_cases qj : j = m
      · subst qj
        rw [if_pos rfl]
      · rw [if_neg qj, hn j j0 j1, if_pos (by omega)]
    · rw [hL2, if_neg q, if_neg (by omega)]
theorem zTI_take {pr di dr mc : Int} {mn : Int → Int} {a b tm tmo s ss w B : Int} {L : List (Int × Int × Int)} (h : zTI pr di dr mc mn a b tm tmo s ss w B L) (hw : w ≠ 0) :
    ∃ L1, L = (tm, tmo, zfw w) :: L1 ∧ zTI pr di dr mc mn a b tm tmo s ss (zand w (zxor (zshl 1 (zfw w)) (-1))) B L1 := by
  obtain ⟨hB, hw0, h1, h2, t, m, ht, hm0, hend, e1, e2, hn, hL⟩ := h
  rw [zlW_first tm tmo ⟨by omega, hw0.2⟩, List.cons_append] at hL
  exact ⟨_, hL, hB, (zfw_in hw0).2, h1, h2, t, m, ht, hm0, hend, e1, e2, hn, rfl⟩
theorem zTI_none {pr di dr mc : Int} {mn : Int → Int} {a b tm tmo s ss B : Int} {L : List (Int × Int × Int)} (h : zTI pr di dr mc mn a b tm tmo s ss 0 B L) (hs : ¬ s < ss ∨ mc ≤ 0) : L = [] := by
  obtain ⟨hB, hw, h1, h2, t, m, ht, hm0, hend, e1, e2, hn, hL⟩ := h
  rw [hL, zlW_zero, List.nil_append]
  by_cases q : mc = 0
  · rw [if_pos q]
  · rw [if_neg q]
    unfold zlR
    rw [if_neg]
    intro q2
    have hmc : 0 < mc := by omega
    have h3 : (t - a + 1) * mc ≤ (b + 1 - a) * mc := Int.mul_le_mul_of_nonneg_right (by omega) (by omega)
    rw [Int.add_mul, Int.one_mul] at h3
    omega
theorem zks_len (q : Int → Bool) : ∀ (n : Nat) (k : Int), (zks q n k).length ≤ n
  | 0, _ => Nat.le_refl _
  | n + 1, k => by
    show List.length (if q k = true then k :: zks q n (k + 1) else zks q n (k + 1)) ≤ n + 1
    have := zks_len q n (k + 1)
    split
    · rw [List.length_cons]; omega
    · omega
theorem zlMN_len (ev : Int → Int → Int → Bool) (t : Int) : ∀ (n : Nat) (m : Int), (zlMN ev t n m).length ≤ 4 * n
  | 0, _ => Nat.le_refl _
  | n + 1, m => by
    show (zlK ev t m 0 ++ zlMN ev t n (m + 1)).length ≤ 4 * (n + 1)
    have h1 := zlMN_len ev t n (m + 1)
    have h2 : (zlK ev t m 0).length ≤ 4 := by
      unfold zlK
      rw [List.length_map]
      exact zks_len _ 4 0
    rw [List.length_append]
    omega
theorem zlTN_len (ev : Int → Int → Int → Bool) {mc : Int} (h : mc ≤ 6) : ∀ (n : Nat) (t : Int), (zlTN ev mc n t).length ≤ 24 * n
  | 0, _ => Nat.le_refl _
  | n + 1, t => by
    show (zlM ev t 0 mc ++ zlTN ev mc n (t + 1)).length ≤ 24 * (n + 1)
    have h1 := zlTN_len ev h n (t + 1)
    have h2 : (zlM ev t 0 mc).length ≤ 24 := by
      have := zlMN_len ev t (mc - 0).toNat 0
      unfold zlM
      omega
    rw [List.length_append]
    omega
theorem zlT_len {ev : Int → Int → Int → Bool} {mc a b : Int} (h : 0 ≤ mc ∧ mc ≤ 6) (hb : b ≤ a + 2000) : ((zlT ev mc a b).length : Int) ≤ 48024 := by
  have := zlTN_len ev h.2 (b + 1 - a).toNat a
  unfold zlT
  omega
