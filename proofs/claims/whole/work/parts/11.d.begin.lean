/-! how both sides begin; the texts of both -/
theorem zRN_0 {nm mn sn fa : Int → Int} (h0 : fa 0 = 10) (hz : ∀ j, 0 < j → j < 179 → fa j = 0) : zRN ((10, 0, 0, 0, 0), nm, mn, sn) fa := by
  have z3 := hz 3 (by omega) (by omega)
  have z4 := hz 4 (by omega) (by omega)
  refine ⟨⟨⟨⟨h0.symm, (hz 1 (by omega) (by omega)).symm, (hz 2 (by omega) (by omega)).symm, z3.symm, z4.symm⟩, fun m a b => ?_, fun j a b => ?_⟩, fun m a b => ?_⟩, qok_0 (v := 10) (show (1 : Int) ≤ 10 by omega) (show (10 : Int) ≤ 999 by omega)⟩
  · exfalso; omega
  · exfalso; omega
  · exfalso; omega
theorem zPst_0 {fkp : Int → Int} : zPst (fun _ => none) 0 0 fkp 0 := ⟨rfl, by omega, by omega, fun j a b => by exfalso; omega⟩
theorem zSvd_0 {fsv : Int → Int} : zSvd (fun _ => none) fsv (fun _ => 0) := fun _ _ _ => .inl ⟨rfl, rfl⟩
theorem zRow_0 : zRow (fun _ => none) = fun _ => none := rfl
theorem zPl_0 {G : zG} {tl : va_W} : ∀ n, zPl G n (fun _ => none) tl = tl
  | 0 => rfl
  | n + 1 => by
    show [] ++ zPl G n (fun _ => none) tl = tl
    rw [List.nil_append, zPl_0 n]
theorem qtext_0 {f : Int → Int} : qtext f 0 := ⟨by omega, fun j a b => by exfalso; omega⟩
/-- two rows alike below n -/
def zalike (n : Int) (f g : Int → Int) : Prop := ∀ j, 0 ≤ j → j < n → f j = g j
theorem append_both {a b c d e n : Int} {f g : Int → Int} (h : zalike n f g) (hf : qtext f n) (hn : n + zbn (zB20 a b c d e) 20 0 ≤ 600) : (zap (zB20 a b c d e) 20 0 n f).1 = (zap (zB20 a b c d e) 20 0 n g).1 ∧ zalike (zap (zB20 a b c d e) 20 0 n f).1 (zap (zB20 a b c d e) 20 0 n f).2 (zap (zB20 a b c d e) 20 0 n g).2 ∧ qtext (zap (zB20 a b c d e) 20 0 n f).2 (zap (zB20 a b c d e) 20 0 n f).1 := by
  refine ⟨by rw [zap_n, zap_n], ?_, zap_text hf hn⟩
  intro j j0 j1
  rw [zap_n] at j1
  exact zap_2 20 0 n f g hf.1.1 h j j0 j1
theorem text_both {l : List Int} {f g : Int → Int} : (zpl2 l (0, f)).1 = (zpl2 l (0, g)).1 ∧ zalike (zpl2 l (0, f)).1 (zpl2 l (0, f)).2 (zpl2 l (0, g)).2 := by
  refine ⟨by rw [zpl2_n, zpl2_n], fun j j0 j1 => ?_⟩
  rw [zpl2_n] at j1
  exact zpl2_2 l 0 f g (Int.le_refl 0) (fun i a b => by exfalso; omega) j j0 j1
theorem zalike_text {n : Int} {f g : Int → Int} (h : zalike n f g) (hf : qtext f n) : zTt f n = zTt g n ∧ qtext g n := ⟨zTt_eq h, qtext_eq h hf⟩
