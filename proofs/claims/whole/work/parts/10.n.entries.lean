/-! a table's entries as text -/
theorem zks_mem (q : Int → Bool) : ∀ (n : Nat) (k j : Int), j ∈ zks q n k → k ≤ j ∧ j < k + n
  | 0, k, j, h => by cases h
  | n + 1, k, j, h => by
    have h2 : j ∈ (if q k = true then k :: zks q n (k + 1) else zks q n (k + 1)) := h
    split at h2
    · rcases List.mem_cons.mp h2 with rfl | h3
      · omega
      · have := zks_mem q n (k + 1) j h3; omega
    · have := zks_mem q n (k + 1) j h2; omega
theorem zlMN_mem (ev : Int → Int → Int → Bool) (t : Int) : ∀ (n : Nat) (m : Int) (x : Int × Int × Int), x ∈ zlMN ev t n m → x.1 = t ∧ (m ≤ x.2.1 ∧ x.2.1 < m + n) ∧ (0 ≤ x.2.2 ∧ x.2.2 < 4)
  | 0, m, x, h => by cases h
  | n + 1, m, x, h => by
    have h2 : x ∈ zlK ev t m 0 ++ zlMN ev t n (m + 1) := h
    rcases List.mem_append.mp h2 with h3 | h3
    · unfold zlK at h3
      obtain ⟨j, hj, rfl⟩ := List.mem_map.mp h3
      have h4 := zks_mem _ _ _ _ hj
      have h5 : ((4 - 0 : Int).toNat : Int) = 4 := rfl
      exact ⟨rfl, ⟨Int.le_refl m, by show m < m + ((n + 1 : Nat) : Int); omega⟩, ⟨h4.1, by show j < 4; omega⟩⟩
    · have h4 := zlMN_mem ev t n (m + 1) x h3
      exact ⟨h4.1, ⟨by omega, by omega⟩, h4.2.2⟩
theorem zlTN_mem (ev : Int → Int → Int → Bool) (mc : Int) (hm : 0 ≤ mc) : ∀ (n : Nat) (t : Int) (x : Int × Int × Int), x ∈ zlTN ev mc n t → (t ≤ x.1 ∧ x.1 < t + n) ∧ (0 ≤ x.2.1 ∧ x.2.1 < mc) ∧ (0 ≤ x.2.2 ∧ x.2.2 < 4)
  | 0, t, x, h => by cases h
  | n + 1, t, x, h => by
    have h2 : x ∈ zlM ev t 0 mc ++ zlTN ev mc n (t + 1) := h
    rcases List.mem_append.mp h2 with h3 | h3
    · unfold zlM at h3
      have h4 := zlMN_mem ev t _ _ x h3
      exact ⟨⟨by omega, by omega⟩, ⟨by omega, by omega⟩, h4.2.2⟩
    · have h4 := zlTN_mem ev mc hm n (t + 1) x h3
      exact ⟨⟨by omega, by omega⟩, h4.2⟩
/-- an event that may be told -/
def zevok (mc : Int) (x : Int × Int × Int) : Prop := (1 ≤ x.1 ∧ x.1 ≤ 1000000) ∧ (0 ≤ x.2.1 ∧ x.2.1 < mc) ∧ (0 ≤ x.2.2 ∧ x.2.2 < 4)
theorem zlT_ok {ev : Int → Int → Int → Bool} {mc a b : Int} (hm : 0 ≤ mc) (ha : 1 ≤ a) (hb : b ≤ 1000000) : ∀ x ∈ zlT ev mc a b, zevok mc x := fun x h => by
  have h4 := zlTN_mem ev mc hm _ _ x h
  exact ⟨⟨by omega, by omega⟩, h4.2⟩
theorem zwd_len {k : Nat} (hk : k < 4) : (zwd k).length = (wln k).toNat ∧ wln k ≤ 4 := by
  refine ⟨zwdN_len k _ _, ?_⟩
  have : ∀ j, j < 4 → wln j ≤ 4 := by decide +kernel
  exact this k hk
/-- an entry, behind k others; all from the k-th on -/
def zent (nl : Int → List Int) (k : Int) (x : Int × Int × Int) : List Int := (if 0 < k then [44] else []) ++ (zdgN 6 x.1 ++ ([32] ++ (zwd x.2.2.toNat ++ ([32] ++ nl x.2.1))))
def zets (nl : Int → List Int) : Int → List (Int × Int × Int) → List Int
  | _, [] => []
  | k, x :: l => zent nl k x ++ zets nl (k + 1) l
theorem zets_cons {nl : Int → List Int} {k : Int} {x : Int × Int × Int} {l : List (Int × Int × Int)} {r : Int × (Int → Int)} : zpl2 (zets nl k (x :: l)) r = zpl2 (zets nl (k + 1) l) (zpl2 (zent nl k x) r) := zpl2_app
theorem zent_0 {nl : Int → List Int} {k : Int} {x : Int × Int × Int} {r : Int × (Int → Int)} (h : ¬ 0 < k) : zpl2 (zent nl k x) r = zpl2 (nl x.2.1) (zpl2 [32] (zpl2 (zwd x.2.2.toNat) (zpl2 [32] (zpl2 (zdgN 6 x.1) r)))) := by
  unfold zent
  rw [if_neg h, List.nil_append, zpl2_app, zpl2_app, zpl2_app, zpl2_app]
theorem zent_1 {nl : Int → List Int} {k : Int} {x : Int × Int × Int} {r : Int × (Int → Int)} (h : 0 < k) : zpl2 (zent nl k x) r = zpl2 (nl x.2.1) (zpl2 [32] (zpl2 (zwd x.2.2.toNat) (zpl2 [32] (zpl2 (zdgN 6 x.1) (zpl2 [44] r))))) := by
  unfold zent
  rw [if_pos h, zpl2_app, zpl2_app, zpl2_app, zpl2_app, zpl2_app]
theorem zets_c {nl nl2 : Int → List Int} {mc : Int} (h : ∀ m, 0 ≤ m → m < mc → nl m = nl2 m) : ∀ (l : List (Int × Int × Int)) (k : Int), (∀ x ∈ l, zevok mc x) → zets nl k l = zets nl2 k l
  | [], _, _ => rfl
  | x :: l, k, hx => by
    have h1 := (hx x List.mem_cons_self).2.1
    show zent nl k x ++ zets nl (k + 1) l = zent nl2 k x ++ zets nl2 (k + 1) l
    rw [zets_c h l (k + 1) (fun y hy => hx y (List.mem_cons_of_mem x hy))]
    unfold zent
    rw [h x.2.1 h1.1 h1.2]
theorem zwd_sp : ∀ k, k < 4 → zwd (9 + k) = [32] ++ (zwd k ++ [32]) := by decide +kernel
theorem zwd_spp {k : Nat} {r : Int × (Int → Int)} (hk : k < 4) : zpl2 (zwd (9 + k)) r = zpl2 [32] (zpl2 (zwd k) (zpl2 [32] r)) := by
  rw [zwd_sp k hk, zpl2_app, zpl2_app]
theorem zwd_splen {k : Nat} (hk : k < 4) : (zwd (9 + k)).length ≤ 6 := by
  have h := zwd_len hk
  rw [zwd_sp k hk, List.length_append, List.length_append]
  show 1 + (_ + 1) ≤ 6
  omega
theorem znl_go {g : Int → Int} {m m2 : Nat} {j n : Int} {f : Int → Int} (h0 : 0 < g j) (h : m = m2 + 1) : zpl2 (znlN g m j) (n, f) = zpl2 (znlN g m2 (j + 1)) (n + 1, zU f n (g j)) := by
  subst h
  show zpl2 (if 0 < g j then g j :: znlN g m2 (j + 1) else []) (n, f) = _
  rw [if_pos h0]
  rfl
theorem znl_stop {g : Int → Int} {m : Nat} {j : Int} (h0 : m = 0 ∨ ¬ 0 < g j) {r : Int × (Int → Int)} : zpl2 (znlN g m j) r = r := by
  cases m with
  | zero => rfl
  | succ m =>
    show zpl2 (if 0 < g j then g j :: znlN g m (j + 1) else []) r = _
    rw [if_neg (h0.resolve_left (by omega))]
    rfl
theorem loud_step {nl : Int → List Int} {L rest : List (Int × Int × Int)} {x : Int × Int × Int} {g g2 : Nat} {tm9 tm2 : Int} {r r2 R : Int × (Int → Int)} (hd : L.drop g = x :: rest) (hd2 : L.drop g2 = rest) (h20 : 0 ≤ tm9 ∧ tm9 ≤ 20) (hz : zpl2 (zets nl tm9 (List.take (20 - tm9).toNat (L.drop g))) r = R) (q : (tm9 = 20 → tm2 = tm9 ∧ r2 = r) ∧ (tm9 ≠ 20 → tm2 = tm9 + 1 ∧ r2 = zpl2 (zent nl tm9 x) r)) : zpl2 (zets nl tm2 (List.take (20 - tm2).toNat (L.drop g2))) r2 = R := by
  by_cases c : tm9 = 20
  · obtain ⟨e1, e2⟩ := q.1 c
    rw [e1, e2, c]
    rw [c] at hz
    exact hz
  · obtain ⟨e1, e2⟩ := q.2 c
    rw [e1, e2, hd2]
    rw [hd, show (20 - tm9).toNat = (20 - (tm9 + 1)).toNat + 1 by omega, List.take_succ_cons, zets_cons] at hz
    exact hz
theorem loud_end {nl : Int → List Int} {L : List (Int × Int × Int)} {g : Nat} {tm9 : Int} {r R : Int × (Int → Int)} (hd : L.drop g = []) (hz : zpl2 (zets nl tm9 (List.take (20 - tm9).toNat (L.drop g))) r = R) : r = R := by
  rw [hd, List.take_nil] at hz
  exact hz
