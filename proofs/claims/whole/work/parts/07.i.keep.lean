/-- 179 numbers of g from sp on, laid into f at dp -/
def zcy (f : Int → Int) (dp : Int) (g : Int → Int) (sp n : Int) : Int → Int := fun j => if dp ≤ j ∧ j < dp + n then g (sp + (j - dp)) else f j
theorem zcy_step {f g : Int → Int} {dp sp n : Int} (h : 0 ≤ n) : zU (zcy f dp g sp n) (dp + n) (g (sp + n)) = zcy f dp g sp (n + 1) := by
  funext j
  by_cases q : j = dp + n
  · subst q
    rw [zU_at]
    unfold zcy
    rw [if_pos (by omega)]
    congr 1
    omega
  · rw [zU_ne q]
    unfold zcy
    by_cases q2 : dp ≤ j ∧ j < dp + n
    · rw [if_pos q2, if_pos (by omega)]
    · rw [if_neg q2, if_neg (by omega)]
theorem zcy_in {f g : Int → Int} {dp sp n j : Int} (h : dp ≤ j ∧ j < dp + n) : zcy f dp g sp n j = g (sp + (j - dp)) := if_pos h
theorem zcy_out {f g : Int → Int} {dp sp n j : Int} (h : ¬ (dp ≤ j ∧ j < dp + n)) : zcy f dp g sp n j = f j := if_neg h
/-- moved down by 179 as far as e -/
def zmv (f : Int → Int) (e : Int) : Int → Int := fun j => if 0 ≤ j ∧ j < e then f (j + 179) else f j
theorem zmv_step {f : Int → Int} {e : Int} (h : 0 ≤ e) : zU (zmv f e) e (zmv f e (e + 179)) = zmv f (e + 1) := by
  funext j
  by_cases q : j = e
  · subst q
    rw [zU_at]
    unfold zmv
    rw [if_neg (by omega), if_pos (by omega)]
  · rw [zU_ne q]
    unfold zmv
    by_cases q2 : 0 ≤ j ∧ j < e
    · rw [if_pos q2, if_pos (by omega)]
    · rw [if_neg q2, if_neg (by omega)]
/-- what is kept after a row more -/
def zKp (kp : Int → Int) (km : Int) (row : Int → Int) : Int → Int := if km = 8 then zcy (zmv kp 1253) (179 * 7) row 0 179 else zcy kp (179 * km) row 0 179
def zKm (km : Int) : Int := if km = 8 then 8 else km + 1
/-- three places moved down, from lo as far as e -/
def zsh (f : Int → Int) (lo e : Int) : Int → Int := fun j => if lo ≤ j ∧ j < e then f (j + 3) else f j
theorem zsh_step {f : Int → Int} {lo e : Int} (h : lo ≤ e) : zU (zsh f lo e) e (zsh f lo e (e + 3)) = zsh f lo (e + 1) := by
  funext j
  by_cases q : j = e
  · subst q
    rw [zU_at]
    unfold zsh
    rw [if_neg (by omega), if_pos (by omega)]
  · rw [zU_ne q]
    unfold zsh
    by_cases q2 : lo ≤ j ∧ j < e
    · rw [if_pos q2, if_pos (by omega)]
    · rw [if_neg q2, if_neg (by omega)]
