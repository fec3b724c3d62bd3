/-! the pool of kept skies: a sky at each of its places, or none -/
abbrev zK : Type := (Nat × Nat × Nat × Nat) × (Int × Int × Int × Int × Int) × (Int → Int) × (Int → Int) × (Int → Int)
def zKw (G : zG) (K : zK) : va_W := [(K.1.1, .inr (1, [.int (zI K.2.1.1), .int (zI K.2.1.2.1), .int (zI K.2.1.2.2.1), .int (zI K.2.1.2.2.2.1), .int (zI K.2.1.2.2.2.2), .ref K.1.2.1, .ref K.1.2.2.1, .ref K.1.2.2.2])), (K.1.2.1, .inl (zk G 1, 6, .inr (.inl (zB K.2.2.1)))), (K.1.2.2.1, .inl (zk G 0, 36, .inl (zA K.2.2.2.1))), (K.1.2.2.2, .inl (zk G 0, 90, .inl (zA K.2.2.2.2)))]
def zKo (G : zG) : Option zK → va_W
  | none => []
  | some K => zKw G K
/-- the cells of the first n places, and what stands behind them -/
def zPl (G : zG) : Nat → (Nat → Option zK) → va_W → va_W
  | 0, _, tl => tl
  | n + 1, P, tl => zKo G (P n) ++ zPl G n P tl
def zPn (P : Nat → Option zK) (i : Nat) : Nat → Option zK := fun j => if j = i then none else P j
def zPu (P : Nat → Option zK) (i : Nat) (K : zK) : Nat → Option zK := fun j => if j = i then some K else P j
/-- where they lie -/
def zRow (P : Nat → Option zK) : Nat → Option Nat := fun j => (P j).map fun K => K.1.1
section POOL
variable {G : zG} {P Q : Nat → Option zK} {tl cells : va_W} {K K2 : zK} {i : Nat}
theorem zPl_c : ∀ (n : Nat), (∀ j, j < n → P j = Q j) → zPl G n P tl = zPl G n Q tl
  | 0, _ => rfl
  | n + 1, h => by
    show zKo G (P n) ++ zPl G n P tl = zKo G (Q n) ++ zPl G n Q tl
    rw [h n (by omega), zPl_c n (fun j hj => h j (by omega))]
theorem zpsw (a b c : va_W) : (a ++ (b ++ c)).Perm (b ++ (a ++ c)) := by
  rw [← List.append_assoc, ← List.append_assoc]
  exact (List.perm_append_comm).append_right c
theorem zPu_s : zPu P i K i = some K := if_pos rfl
theorem zPu_ne {j : Nat} (h : j ≠ i) : zPu P i K j = P j := if_neg h
theorem zPn_s : zPn P i i = none := if_pos rfl
theorem zPl_in : ∀ (n : Nat), i < n → P i = none → (zKw G K ++ zPl G n P tl).Perm (zPl G n (zPu P i K) tl)
  | 0, h, _ => absurd h (Nat.not_lt_zero _)
  | n + 1, h, hn => by
    show (zKw G K ++ (zKo G (P n) ++ zPl G n P tl)).Perm (zKo G (zPu P i K n) ++ zPl G n (zPu P i K) tl)
    by_cases q : i = n
    · subst q
      rw [zPu_s, hn, zPl_c (Q := zPu P i K) i (fun j hj => (zPu_ne (by omega)).symm)]
      exact List.Perm.refl _
    · rw [zPu_ne (fun z => q z.symm)]
      exact (zpsw _ _ _).trans ((zPl_in n (by omega) hn).append_left _)
theorem zPu_n : zPu (zPn P i) i K = zPu P i K := by
  funext j
  unfold zPu zPn
  by_cases q : j = i
  · rw [if_pos q, if_pos q]
  · rw [if_neg q, if_neg q, if_neg q]
theorem zPu_id (h : P i = some K) : zPu P i K = P := by
  funext j
  by_cases q : j = i
  · rw [q, zPu_s, h]
  · exact zPu_ne q
theorem zPl_at {n : Nat} (hi : i < n) (h : P i = some K) : (zPl G n P tl).Perm (zKw G K ++ zPl G n (zPn P i) tl) := by
  have h1 := zPl_in (G := G) (P := zPn P i) (K := K) (tl := tl) n hi zPn_s
  rw [zPu_n, zPu_id h] at h1
  exact h1.symm
/-- a kept sky to the front, and back -/
theorem zPull {n : Nat} (hi : i < n) (h : P i = some K) : (cells ++ zPl G n P tl).Perm ((cells ++ zKw G K) ++ zPl G n (zPn P i) tl) := by
  rw [List.append_assoc]
  exact (zPl_at hi h).append_left cells
theorem zPush {n : Nat} (hi : i < n) (h : P i = none) : ((cells ++ zKw G K) ++ zPl G n P tl).Perm (cells ++ zPl G n (zPu P i K) tl) := by
  rw [List.append_assoc]
  exact (zPl_in n hi h).append_left cells
theorem zPushB {n : Nat} (hi : i < n) : ((cells ++ zKw G K) ++ zPl G n (zPn P i) tl).Perm (cells ++ zPl G n (zPu P i K) tl) := by
  have h1 := zPush (G := G) (K := K) (tl := tl) (cells := cells) (P := zPn P i) hi zPn_s
  rw [zPu_n] at h1
  exact h1
/-- two pools change their places -/
theorem zPl_app : ∀ (n : Nat) (P : Nat → Option zK) (tl : va_W), zPl G n P tl = zPl G n P [] ++ tl
  | 0, _, _ => rfl
  | n + 1, P, tl => by
    show zKo G (P n) ++ zPl G n P tl = (zKo G (P n) ++ zPl G n P []) ++ tl
    rw [zPl_app n P tl, List.append_assoc]
theorem zPl_sw {n m : Nat} : (cells ++ zPl G n P (zPl G m Q tl)).Perm (cells ++ zPl G m Q (zPl G n P tl)) := by
  rw [zPl_app n P (zPl G m Q tl), zPl_app m Q tl, zPl_app m Q (zPl G n P tl), zPl_app n P tl]
  exact (zpsw _ _ _).append_left cells
theorem zRow_none (h : zRow P i = none) : P i = none := by
  unfold zRow at h
  cases e : P i with
  | none => rfl
  | some K => rw [e] at h; cases h
theorem zRow_some {t : Nat} (h : zRow P i = some t) : ∃ an am ak pr di dr mc sc nm mn sn, P i = some ((t, an, am, ak), (pr, di, dr, mc, sc), nm, mn, sn) := by
  unfold zRow at h
  cases e : P i with
  | none => rw [e] at h; cases h
  | some K =>
    rw [e] at h
    obtain ⟨⟨a, an, am, ak⟩, ⟨pr, di, dr, mc, sc⟩, nm, mn, sn⟩ := K
    cases h
    exact ⟨an, am, ak, pr, di, dr, mc, sc, nm, mn, sn, rfl⟩
theorem zRow_same (h : P i = some K) (e : K2.1.1 = K.1.1) : zRow (zPu P i K2) = zRow P := by
  funext j
  unfold zRow zPu
  by_cases q : j = i
  · rw [if_pos q, q, h]
    show some K2.1.1 = some K.1.1
    rw [e]
  · rw [if_neg q]
theorem zRow_up {a : Nat} (e : K2.1.1 = a) : va_up (zRow P) i (some a) = zRow (zPu P i K2) := by
  funext j
  unfold zRow zPu va_up
  by_cases q : j = i
  · rw [if_pos q, if_pos q]
    show some a = some K2.1.1
    rw [e]
  · rw [if_neg q, if_neg q]
end POOL
theorem zW.to {G : zG} {A : Nat → Prop} {s : State} {H : Heap} {locs : List Loc} {ws ws' : va_W} (hW : zW G A s H locs ws) (h : ws = ws') : zW G A s H locs ws' := h ▸ hW
abbrev zN8 : Type := (Int × Int × Int × Int × Int) × (Int → Int) × (Int → Int) × (Int → Int)
/-- a change accepted: the old sky is kept, the new one stands; nothing changed -/
def zAcc (P P2 : Nat → Option zK) (cn en cn2 en2 : Int) (O N2 N : zN8) : Prop := N2 = N ∧ (∃ ka, P2 = zPu P en.toNat (ka, O)) ∧ cn2 = min (cn + 1) 8 ∧ en2 = (en + 1) % 8
def zSta (P P2 : Nat → Option zK) (cn en cn2 en2 : Int) (O N2 : zN8) : Prop := N2 = O ∧ P2 = P ∧ cn2 = cn ∧ en2 = en
theorem zset_gok {mn : Int → Int} {mo wh v : Int} (hg : zgok (zg mn mo)) (w0 : 0 ≤ wh) (w5 : wh ≤ 5) (hv : zLow wh ≤ v ∧ v ≤ zHigh wh) : zgok (zg (zU mn (mo * 6 + wh) v) mo) := by
  have hs : ∀ k, k = wh → zg (zU mn (mo * 6 + wh) v) mo k = v := fun k e => by subst e; exact zU_s _ _ _
  have hn : ∀ k, k ≠ wh → zg (zU mn (mo * 6 + wh) v) mo k = zg mn mo k := fun k e => zU_n (by omega)
  unfold zgok at hg ⊢
  rcases (show wh = 0 ∨ wh = 1 ∨ wh = 2 ∨ wh = 3 ∨ wh = 4 ∨ wh = 5 by omega) with e | e | e | e | e | e
  · rw [hs 0 (by omega), hn 1 (by omega), hn 2 (by omega), hn 3 (by omega), hn 4 (by omega), hn 5 (by omega)]
    subst e
    have hv9 : 2 ≤ v ∧ v ≤ 9999 := hv
    exact ⟨hv9, hg.2⟩
  · rw [hn 0 (by omega), hs 1 (by omega), hn 2 (by omega), hn 3 (by omega), hn 4 (by omega), hn 5 (by omega)]
    subst e
    have hv9 : 0 ≤ v ∧ v ≤ 60 := hv
    exact ⟨hg.1, hv9, hg.2.2⟩
  · rw [hn 0 (by omega), hn 1 (by omega), hs 2 (by omega), hn 3 (by omega), hn 4 (by omega), hn 5 (by omega)]
    subst e
    have hv9 : 0 ≤ v ∧ v ≤ 359 := hv
    exact ⟨hg.1, hg.2.1, hv9, hg.2.2.2⟩
  · rw [hn 0 (by omega), hn 1 (by omega), hn 2 (by omega), hs 3 (by omega), hn 4 (by omega), hn 5 (by omega)]
    subst e
    have hv9 : 8 ≤ v ∧ v ≤ 99999 := hv
    exact ⟨hg.1, hg.2.1, hg.2.2.1, hv9, hg.2.2.2.2⟩
  · rw [hn 0 (by omega), hn 1 (by omega), hn 2 (by omega), hn 3 (by omega), hs 4 (by omega), hn 5 (by omega)]
    subst e
    have hv9 : 0 ≤ v ∧ v ≤ 359 := hv
    exact ⟨hg.1, hg.2.1, hg.2.2.1, hg.2.2.2.1, hv9, hg.2.2.2.2.2⟩
  · rw [hn 0 (by omega), hn 1 (by omega), hn 2 (by omega), hn 3 (by omega), hn 4 (by omega), hs 5 (by omega)]
    subst e
    have hv9 : 0 ≤ v ∧ v ≤ 99 := hv
    exact ⟨hg.1, hg.2.1, hg.2.2.1, hg.2.2.2.1, hg.2.2.2.2.1, hv9⟩
def qN8 (S : qS) : zN8 := ((S.1, S.2.1, S.2.2.1, S.2.2.2.1, S.2.2.2.2.1), S.2.2.2.2.2.1, S.2.2.2.2.2.2.1, S.2.2.2.2.2.2.2)
/-- what loading does to the kept skies and to the one that stands -/
def zLd (r : qE (Int × qS)) (P P2 : Nat → Option zK) (cn en cn2 en2 : Int) (O N2 : zN8) (er2 ea2 : Int) : Prop := match r with
  | .ok y => er2 = 0 ∧ ea2 = -1 ∧ zAcc P P2 cn en cn2 en2 O N2 (qN8 y.2)
  | .error c => (er2 = c.1 ∧ c.1 < 0) ∧ ea2 = c.2 ∧ zSta P P2 cn en cn2 en2 O N2
theorem zLd_er {r : qE (Int × qS)} {b : Bool} {P : Nat → Option zK} {cn en er2 ea2 : Int} {O : zN8} {ok : Int × qS → Prop} (h : qR r b 0 (-1) er2 ea2 ok) (hn : er2 ≠ 0) : zLd r P P cn en cn en O O er2 ea2 := by
  cases r with
  | ok y => exact absurd h.2.1 hn
  | error c => exact ⟨⟨h.2.1, h.2.2.2⟩, h.2.2.1, rfl, rfl, rfl, rfl⟩
theorem zLd_ok {r : qE (Int × qS)} {b : Bool} {P P2 : Nat → Option zK} {cn en cn2 en2 er2 ea2 : Int} {O N2 : zN8} {S : qS} (h : qR r b 0 (-1) er2 ea2 (fun y => y.2 = S)) (hn : er2 = 0) (ha : zAcc P P2 cn en cn2 en2 O N2 (qN8 S)) : zLd r P P2 cn en cn2 en2 O N2 er2 ea2 := by
  cases r with
  | ok y =>
    refine ⟨hn, h.2.2.1, ?_⟩
    rw [show y.2 = S from h.2.2.2]
    exact ha
  | error c =>
    have h1 := h.2.1
    have h2 := h.2.2.2
    omega
