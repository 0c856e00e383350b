/-! ===== the reference: a garment of the text ===== -/
section RGAR
variable {c : Nat → aC} {m : sM} {s : Sg} {n : Nat} {t : List Int32} {tk : Tk}
theorem s7_hangsK (X : aX) {l : Nat} {k z w : Int32} (hS : SOk s) (hM : MR n m s) (hl : l < 4) (h6 : (zL s l).length < 7) : Sp X 1 kX7_hangs [.ref 81, .int (nI l), .int k, .int z, .int w] (HR c m) (fun v h' => v = none ∧ ∃ f, h' = HR c (mSs m f) ∧ MR n (mSs m f) (zSL s (va_up (zL s) l (zL s l ++ [(k, z, w)])))) := by
  unfold Sp
  have hp := pl_lt hl h6
  have hx := ix0 (show l < 110 by omega) (by omega)
  iterate 6 (refine G.st rfl rfl ?_)
  refine G.iald rfl rfl hx ?_
  rw [hM.len hl]
  refine G.call rfl rfl (Nat.le_of_ble_eq_true rfl) (Sp.up (s7_pl X l (zL s l).length _) (Nat.le_of_ble_eq_true rfl)) ?_
  rintro _ _ ⟨rfl, rfl⟩
  iterate 5 (refine G.st rfl rfl ?_)
  refine G.sst rfl (ix_nI (show pl l (zL s l).length < 110 by omega) (by omega)) ?_
  iterate 5 (refine G.st rfl rfl ?_)
  rw [nI_1]
  iterate 1 (refine G.st rfl rfl ?_)
  refine G.sst rfl (ix_nI (show pl l (zL s l).length + 1 < 110 by omega) (by omega)) ?_
  iterate 5 (refine G.st rfl rfl ?_)
  rw [show (2 : Int32) = nI 2 from rfl, nI_add]
  iterate 1 (refine G.st rfl rfl ?_)
  refine G.sst rfl (ix_nI (show pl l (zL s l).length + 2 < 110 by omega) (by omega)) ?_
  iterate 6 (refine G.st rfl rfl ?_)
  refine G.iald rfl rfl hx ?_
  iterate 2 (refine G.st rfl rfl ?_)
  refine G.sst rfl hx ?_
  refine G.ret rfl rfl ⟨rfl, _, rfl, ?_⟩
  refine hM.line hS hl (by rw [List.length_append, List.length_singleton]; omega) (fun i hi hb => ?_) ?_ (fun p hpp => ?_)
  · show upd (upd (upd (upd (ms m) _ k) _ z) _ w) l _ i = _
    unfold pl at *
    rw [upd_n hi, upd_n (by omega), upd_n (by omega), upd_n (by omega)]
  · show upd (upd (upd (upd (ms m) _ k) _ z) _ w) l (upd (upd (upd (ms m) _ k) _ z) _ w l + 1) l = _
    unfold pl at *
    rw [upd_s, upd_n (by omega), upd_n (by omega), upd_n (by omega), hM.len hl, nI_1, List.length_append, List.length_singleton]
  · rw [List.length_append, List.length_singleton] at hpp
    rw [gD_app]
    show G3 (upd (upd (upd (upd (ms m) _ k) _ z) _ w) l _) (pl l p) = _
    unfold G3
    by_cases e : p = (zL s l).length
    · subst e
      rw [if_pos rfl]
      unfold pl at *
      rw [upd_n (by omega), upd_n (by omega), upd_n (by omega), upd_s, upd_n (by omega), upd_n (by omega), upd_s, upd_n (by omega), upd_s]
    · rw [if_neg e]
      obtain ⟨g1, g2, g3⟩ := hM.gar hl (show p < (zL s l).length by omega)
      unfold pl at *
      rw [upd_n (by omega), upd_n (by omega), upd_n (by omega), upd_n (by omega), upd_n (by omega), upd_n (by omega), upd_n (by omega), upd_n (by omega), upd_n (by omega), upd_n (by omega), upd_n (by omega), upd_n (by omega), g1, g2, g3]
end RGAR
