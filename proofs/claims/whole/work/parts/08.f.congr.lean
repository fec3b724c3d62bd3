/-! two rows of a moon's six numbers that agree -/
def zsame (g g2 : Int → Int) : Prop := ∀ k, 0 ≤ k → k < 6 → g k = g2 k
section ZSAME
variable {g g2 : Int → Int} {t : Int}
theorem zmean_c (h : zsame g g2) : zmean g t = zmean g2 t := by
  unfold zmean; rw [h 4 (by omega) (by omega), h 3 (by omega) (by omega)]
theorem zang_c (h : zsame g g2) : zang g t = zang g2 t := by
  unfold zang; rw [zmean_c h, h 1 (by omega) (by omega)]
theorem zal_c (h : zsame g g2) : zal g t = zal g2 t := by
  unfold zal; rw [zang_c h, h 0 (by omega) (by omega), h 1 (by omega) (by omega)]
theorem zac_c (h : zsame g g2) : zac g t = zac g2 t := by
  unfold zac; rw [zang_c h, h 0 (by omega) (by omega), h 1 (by omega) (by omega)]
theorem zlx_c (h : zsame g g2) : zlx g t = zlx g2 t := by
  unfold zlx; rw [zal_c h, zac_c h, h 2 (by omega) (by omega)]
theorem zly_c (h : zsame g g2) : zly g t = zly g2 t := by
  unfold zly; rw [zal_c h, zac_c h, h 2 (by omega) (by omega)]
theorem zlh_c {di dr : Int} (h : zsame g g2) : zlh di dr g t = zlh di dr g2 t := by
  unfold zlh; rw [zlx_c h, zly_c h]
theorem zls_c {di dr : Int} (h : zsame g g2) : zls di dr g t = zls di dr g2 t := by
  unfold zls; rw [zlx_c h, zly_c h]
theorem zS_c {pr di dr : Int} (h : zsame g g2) : zS pr di dr g t = zS pr di dr g2 t := by
  unfold zS; rw [zlh_c h, zls_c h, h 5 (by omega) (by omega)]
theorem zC_c {pr di dr : Int} (h : zsame g g2) : zC pr di dr g t = zC pr di dr g2 t := by
  unfold zC; rw [zlh_c h, zls_c h, h 5 (by omega) (by omega)]
theorem zL2_c {pr di dr : Int} (h : zsame g g2) : zL2 pr di dr g t = zL2 pr di dr g2 t := by
  unfold zL2; rw [zS_c h, zC_c h]
theorem zth_c {pr di dr k : Int} (h : zsame g g2) : zth pr di dr g k t = zth pr di dr g2 k t := by
  unfold zth; rw [zL2_c h, zL2_c h]
theorem zfit_c {pr : Int} (h : zsame g g2) : zfit pr g = zfit pr g2 := by
  unfold zfit; rw [h 0 (by omega) (by omega), h 1 (by omega) (by omega), h 5 (by omega) (by omega)]
theorem zNX_c {pr di dr kd : Int} (h : zsame g g2) : zNX pr di dr g kd t = zNX pr di dr g2 kd t := by
  unfold zNX
  have : (fun u => zev kd (zL2 pr di dr g (u - 1)) (zL2 pr di dr g u)) = (fun u => zev kd (zL2 pr di dr g2 (u - 1)) (zL2 pr di dr g2 u)) := by
    funext u; rw [zL2_c h, zL2_c h]
  rw [this]
theorem zTK_c {pr di dr a b st : Int} (h : zsame g g2) : zTK pr di dr g a b st = zTK pr di dr g2 a b st := by
  unfold zTK
  have : (fun u => decide (zS pr di dr g u = st)) = (fun u => decide (zS pr di dr g2 u = st)) := by
    funext u; rw [zS_c h]
  rw [this]
theorem zMT_c {f f2 : Int → Int} (h : zsame g g2) (h2 : zsame f f2) : zMT g f t = zMT g2 f2 t := by
  unfold zMT
  have : (fun u => zme (zlx g u) (zly g u) (zlx f u) (zly f u)) = (fun u => zme (zlx g2 u) (zly g2 u) (zlx f2 u) (zly f2 u)) := by
    funext u; rw [zlx_c h, zly_c h, zlx_c h2, zly_c h2]
  rw [this]
theorem zoffN_c {p q : Int → Bool} {c : Int} (h : ∀ t, p t = q t) : ∀ (n : Nat) (d : Int), zoffN p c n d = zoffN q c n d
  | 0, _ => rfl
  | n + 1, d => by
    show (if p (c - d) = true then -d else if p (c + d) = true then d else zoffN p c n (d + 1)) = (if q (c - d) = true then -d else if q (c + d) = true then d else zoffN q c n (d + 1))
    rw [h, h, zoffN_c h n]
theorem zoff_c {p q : Int → Bool} {c : Int} (h : ∀ t, p t = q t) : zoff p c = zoff q c := zoffN_c h _ _
end ZSAME
