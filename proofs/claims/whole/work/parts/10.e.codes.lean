/-! which errors reading gives -/
def qcd {α : Type} (r : qE α) : Prop := ∀ c, r = .error c → -7 ≤ c.1 ∧ c.1 < 0
section QCD
variable {α β : Type} {X : Int → Int} {n : Int}
theorem qcd_ok {x : α} : qcd (.ok x : qE α) := fun c e => by cases e
theorem qcd_er {k p : Int} (h : -7 ≤ k ∧ k < 0) : qcd (.error (k, p) : qE α) := fun c e => by cases e; exact h
theorem qcd_b {r : qE α} {f : α → qE β} (h : qcd r) (hf : ∀ x, qcd (f x)) : qcd (qb r f) := by
  cases r with
  | ok x => exact hf x
  | error c => exact fun d e => by cases e; exact h c rfl
theorem qcd_if {p : Prop} [Decidable p] {a b : qE α} (ha : qcd a) (hb : qcd b) : qcd (if p then a else b) := by
  split
  · exact ha
  · exact hb
theorem qcd_word {k : Nat} {P : Int} : qcd (qWord X n k P) := qcd_if qcd_ok (qcd_er (by omega))
theorem qcd_sign {c P : Int} : qcd (qSign X n c P) := qcd_if qcd_ok (qcd_er (by omega))
theorem qcd_num {lo hi P : Int} : qcd (qNum X n lo hi P) := qcd_if (qcd_er (by omega)) (qcd_if qcd_ok (qcd_er (by omega)))
theorem qcd_name {P : Int} : qcd (qName X n P) := qcd_if (qcd_er (by omega)) qcd_ok
theorem qcd_kindN : ∀ (j k : Nat) (P : Int), qcd (qKindN X n j k P)
  | 0, _, _ => qcd_er (by omega)
  | j + 1, k, P => qcd_if qcd_ok (qcd_kindN j (k + 1) _)
theorem qcd_planet {S : qS} {P : Int} : qcd (qPlanet X n S P) := qcd_b qcd_word (fun _ => qcd_b qcd_num (fun _ => qcd_b qcd_sign (fun _ => qcd_ok)))
theorem qcd_light {S : qS} {P : Int} : qcd (qLight X n S P) := qcd_if (qcd_b qcd_num (fun _ => qcd_b qcd_num (fun _ => qcd_b qcd_sign (fun _ => qcd_ok)))) qcd_ok
theorem qcd_numsN {b : Int} : ∀ (j : Nat) (w P : Int) (f : Int → Int), qcd (qNumsN X n b j w P f)
  | 0, _, _, _ => qcd_ok
  | j + 1, _, _, _ => qcd_b qcd_num (fun _ => qcd_numsN j _ _ _)
theorem qcd_wide {b P : Int} {f : Int → Int} : qcd (qWide X n b P f) := qcd_if (qcd_b qcd_num (fun _ => qcd_ok)) qcd_ok
theorem qcd_nums {b P : Int} {f : Int → Int} : qcd (qMoonNums X n b P f) := qcd_b (qcd_numsN _ _ _ _) (fun _ => qcd_wide)
theorem qcd_moon {S : qS} {P : Int} : qcd (qMoon X n S P) := qcd_if (qcd_er (by omega)) (qcd_b qcd_word (fun _ => qcd_b qcd_name (fun _ => qcd_if (qcd_er (by omega)) (qcd_b qcd_nums (fun _ => qcd_b qcd_sign (fun _ => qcd_if qcd_ok (qcd_er (by omega))))))))
theorem qcd_moonsN : ∀ (j : Nat) (S : qS) (P : Int), qcd (qMoonsN X n j S P)
  | 0, _, _ => qcd_ok
  | j + 1, _, _ => qcd_if (qcd_b qcd_moon (fun _ => qcd_moonsN j _ _)) qcd_ok
theorem qcd_sight {S : qS} {P : Int} : qcd (qSight X n S P) := qcd_if (qcd_er (by omega)) (qcd_b qcd_word (fun _ => qcd_b qcd_name (fun _ => qcd_if (qcd_er (by omega)) (qcd_b (qcd_kindN _ _ _) (fun _ => qcd_b qcd_num (fun _ => qcd_if (qcd_er (by omega)) (qcd_b qcd_sign (fun _ => qcd_ok))))))))
theorem qcd_sightsN : ∀ (j : Nat) (S : qS) (P : Int), qcd (qSightsN X n j S P)
  | 0, _, _ => qcd_ok
  | j + 1, _, _ => qcd_if qcd_ok (qcd_b qcd_sight (fun _ => qcd_sightsN j _ _))
theorem qcd_sky {S : qS} : qcd (qSky X n S) := qcd_b qcd_planet (fun _ => qcd_b qcd_light (fun _ => qcd_b (qcd_moonsN _ _ _) (fun _ => qcd_sightsN _ _ _)))
theorem qcd_R {r : qE α} {er2 ea2 : Int} {ok : α → Prop} (h : ∃ b, qR r b 0 (-1) er2 ea2 ok) (hc : qcd r) : -7 ≤ er2 ∧ er2 ≤ 0 := by
  obtain ⟨b, h⟩ := h
  cases r with
  | ok y => have := h.2.1; omega
  | error c => have := hc c rfl; have := h.2.1; omega
end QCD
