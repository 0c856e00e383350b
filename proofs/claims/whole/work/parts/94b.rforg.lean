/-! ===== the reference: forget, in the text ===== -/
section RFORG
variable {c : Nat → aC} {m : sM} {s : Sg} {n : Nat} {t : List Int32} {tk : Tk} {b : Nat → Int32}
theorem s7_forgetHere (X : aX) (hM : MR n m s) (hb : mbf m = b) (hT : TKR m t tk) : Sp X 5 kX7_forgetHere [.ref 81] (HR c m) (IPR c n b t s (forgT t tk (zt s))) := by
  unfold Sp forgT
  iterate 1 (refine G.st rfl rfl ?_)
  refine G.call rfl rfl (Nat.le_of_ble_eq_true rfl) (Sp.up (s7_nextR X hM hb hT) (Nat.le_of_ble_eq_true rfl)) ?_
  rintro _ _ ⟨rfl, m1, rfl, ⟨hM1, hb1, hP1⟩, hT1⟩
  generalize tok t tk.2.1 = tk1 at hT1 ⊢
  iterate 3 (refine G.st rfl rfl ?_)
  refine G.call rfl rfl (Nat.le_of_ble_eq_true rfl) (Sp.up (s7_isNumber X 0 9 hT1) (Nat.le_of_ble_eq_true rfl)) ?_
  rintro _ _ ⟨rfl, rfl⟩
  by_cases h1 : tk1.2.2 = 2 ∧ 0 ≤ numV t tk1 ∧ numV t tk1 ≤ 9
  case neg =>
    rw [takeN_n h1, if_neg h1]
    refine G.brt rfl (bI_0.mpr h1) ?_
    iterate 1 (refine G.st rfl rfl ?_)
    exact G.ret rfl rfl ⟨rfl, _, rfl, hM1.2, hb1, rfl⟩
  rw [takeN_y h1, if_pos h1]
  refine G.brf rfl (bI_n h1) ?_
  dsimp only
  obtain ⟨j, hj, ej⟩ := mok_n h1.2
  have ev : mva m1 = nI j := (hT1.2.2.2.2.2 h1.1).trans ej
  rw [ej, ln_nI (by omega)]
  iterate 5 (refine G.st rfl rfl ?_)
  show G X 5 kX7_forgetHere 26 [.ref 81] [.int (mva m1), .int 6, .ref 82] (HR c m1) _
  rw [ev]
  iterate 2 (refine G.st rfl rfl ?_)
  refine G.sst rfl (ixa (k := 6) rfl (show 6 + j < 110 by omega) (by omega)) ?_
  have hM2 : MR n (mSs m1 (upd (ms m1) (6 + j) 0)) (zTw s ((zt s).1, va_up (zt s).2.1 j none, (zt s).2.2)) := by
    refine ⟨?_, hM1.2⟩
    refine hM1.1.low (fun i hi => upd_n (by omega)) ?_ ?_ (fun i hi => ?_)
    · rw [upd_n (by omega)]; exact hM1.1.2.1
    · rw [upd_n (by omega)]; exact hM1.1.2.2.1
    · show upd (ms m1) (6 + j) 0 (6 + i) = bI ((va_up (zN s) j none i).isSome = true) ∧ ∀ y, va_up (zN s) j none i = some y → upd (ms m1) (6 + j) 0 (16 + i) = y
      by_cases e : i = j
      · subst e
        rw [va_up_s, upd_s, bI_f (by simp)]
        exact ⟨rfl, fun y hy => by cases hy⟩
      · rw [va_up_n e, upd_n (by omega), upd_n (by omega)]
        exact hM1.1.2.2.2 i hi
  have hb2 : mbf (mSs m1 (upd (ms m1) (6 + j) 0)) = b := hb1
  have hT2 : TKR (mSs m1 (upd (ms m1) (6 + j) 0)) t tk1 := hT1
  generalize mSs m1 (upd (ms m1) (6 + j) 0) = m2 at hM2 hb2 hT2 ⊢
  iterate 1 (refine G.st rfl rfl ?_)
  refine G.call rfl rfl (Nat.le_of_ble_eq_true rfl) (Sp.up (s7_nextR X hM2 hb2 hT2) (Nat.le_of_ble_eq_true rfl)) ?_
  rintro _ _ ⟨rfl, m3, rfl, ⟨hM3, hb3, hP3⟩, hT3⟩
  iterate 1 (refine G.st rfl rfl ?_)
  exact G.ret rfl rfl ⟨rfl, _, rfl, hM3, hb3, hT3⟩
end RFORG
