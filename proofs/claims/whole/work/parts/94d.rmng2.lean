/-! ===== the reference: a meaning of the text, whole ===== -/
section RMNG2
variable {c : Nat → aC} {m : sM} {s : Sg} {n : Nat} {t : List Int32} {tk : Tk} {b : Nat → Int32}
theorem tkc_5 {x : Int32} : tkc x = 5 ↔ x = 4 := by
  unfold tkc
  by_cases h : x = 4
  · rw [if_pos h, h]; decide
  · rw [if_neg h]
    by_cases h2 : x = 5
    · rw [if_pos h2, h2]; decide
    · rw [if_neg h2]; exact ⟨fun q => absurd q h2, fun q => absurd q h⟩
/-- a meaning's cells are set, and the next token read -/
theorem g7_mst (X : aX) {j : Nat} {z x : Int32} (hj : j < 10) (hM : MR n m s) (hb : mbf m = b) (hT : TKR m t tk) : G X 5 kX7_meaningHere 104 [.ref 81, .int (nI j), .int z] [.int x, .int (16 + nI j), .ref 82] (HR c (mSs m (upd (ms m) (6 + j) 1))) (IPR c n b t s (.inr (((zt s).1, va_up (zt s).2.1 j (some x), (zt s).2.2), tok t tk.2.1))) := by
  refine G.sst rfl (ixa (k := 16) rfl (show 16 + j < 110 by omega) (by omega)) ?_
  show G X 5 kX7_meaningHere 105 [.ref 81, .int (nI j), .int z] [] (HR c (mSs m (upd (upd (ms m) (6 + j) 1) (16 + j) x))) _
  have hM2 := hM.mean hj x
  have hb2 : mbf (mSs m (upd (upd (ms m) (6 + j) 1) (16 + j) x)) = b := hb
  have hT2 : TKR (mSs m (upd (upd (ms m) (6 + j) 1) (16 + j) x)) t tk := hT
  generalize mSs m (upd (upd (ms m) (6 + j) 1) (16 + j) x) = m2 at hM2 hb2 hT2 ⊢
  iterate 1 (refine G.st rfl rfl ?_)
  refine G.call rfl rfl (Nat.le_of_ble_eq_true rfl) (Sp.up (s7_nextR X hM2 hb2 hT2) (Nat.le_of_ble_eq_true rfl)) ?_
  rintro _ _ ⟨rfl, m3, rfl, ⟨hM3, hb3, hP3⟩, hT3⟩
  iterate 1 (refine G.st rfl rfl ?_)
  exact G.ret rfl rfl ⟨rfl, _, rfl, hM3, hb3, hT3⟩
theorem g7_mn1 (X : aX) {j : Nat} (hj : j < 10) (hM : MR n m s) (hb : mbf m = b) (hT : TKR m t tk) : G X 5 kX7_meaningHere 47 [.ref 81, .int (nI j), .int 1] [] (HR c m) (IPR c n b t s (meanT2 t tk (zt s) (nI j) True)) := by
  unfold meanT2
  rw [if_pos trivial]
  iterate 3 (refine G.st rfl rfl ?_)
  refine G.brf rfl (by decide) ?_
  iterate 2 (refine G.st rfl rfl ?_)
  refine G.call rfl rfl (Nat.le_of_ble_eq_true rfl) (Sp.up (s7_isNumber X 0 999 hT) (Nat.le_of_ble_eq_true rfl)) ?_
  rintro _ _ ⟨rfl, rfl⟩
  by_cases h1 : tk.2.2 = 2 ∧ 0 ≤ numV t tk ∧ numV t tk ≤ 999
  case neg =>
    rw [takeN_n h1, if_neg h1]
    refine G.brt rfl (bI_0.mpr h1) ?_
    iterate 1 (refine G.st rfl rfl ?_)
    exact G.ret rfl rfl ⟨rfl, _, rfl, hM.2, hb, rfl⟩
  rw [takeN_y h1, if_pos h1]
  refine G.brf rfl (bI_n h1) ?_
  dsimp only
  rw [if_pos trivial, ln_nI (by omega)]
  have ev : mva m = numV t tk := hT.2.2.2.2.2 h1.1
  iterate 6 (refine G.st rfl rfl ?_)
  refine G.sst rfl (ixa (k := 6) rfl (show 6 + j < 110 by omega) (by omega)) ?_
  iterate 6 (refine G.st rfl rfl ?_)
  refine G.brf rfl (by decide) ?_
  iterate 2 (refine G.st rfl rfl ?_)
  show G X 5 kX7_meaningHere 96 [.ref 81, .int (nI j), .int 1] [.int (mva m), .int (16 + nI j), .ref 82] (HR c (mSs m (upd (ms m) (6 + j) 1))) _
  rw [ev]
  iterate 2 (refine G.st rfl rfl ?_)
  exact g7_mst X hj hM hb hT
theorem g7_mn0 (X : aX) {j : Nat} (hj : j < 10) (hM : MR n m s) (hb : mbf m = b) (hT : TKR m t tk) : G X 5 kX7_meaningHere 47 [.ref 81, .int (nI j), .int 0] [] (HR c m) (IPR c n b t s (meanT2 t tk (zt s) (nI j) False)) := by
  unfold meanT2
  rw [if_neg id]
  iterate 3 (refine G.st rfl rfl ?_)
  refine G.brt rfl rfl ?_
  iterate 1 (refine G.st rfl rfl ?_)
  refine G.call rfl rfl (Nat.le_of_ble_eq_true rfl) (Sp.up (s7_isNumber X 0 9999 hT) (Nat.le_of_ble_eq_true rfl)) ?_
  rintro _ _ ⟨rfl, rfl⟩
  by_cases h1 : tk.2.2 = 2 ∧ 0 ≤ numV t tk ∧ numV t tk ≤ 9999
  case neg =>
    rw [takeN_n h1, if_neg h1]
    refine G.brt rfl (bI_0.mpr h1) ?_
    iterate 1 (refine G.st rfl rfl ?_)
    exact G.ret rfl rfl ⟨rfl, _, rfl, hM.2, hb, rfl⟩
  rw [takeN_y h1, if_pos h1]
  refine G.brf rfl (bI_n h1) ?_
  dsimp only
  rw [if_neg id, ln_nI (by omega)]
  have ev : mva m = numV t tk := hT.2.2.2.2.2 h1.1
  iterate 6 (refine G.st rfl rfl ?_)
  refine G.sst rfl (ixa (k := 6) rfl (show 6 + j < 110 by omega) (by omega)) ?_
  iterate 6 (refine G.st rfl rfl ?_)
  refine G.brt rfl rfl ?_
  iterate 2 (refine G.st rfl rfl ?_)
  show G X 5 kX7_meaningHere 104 [.ref 81, .int (nI j), .int 0] [.int (mva m), .int (16 + nI j), .ref 82] (HR c (mSs m (upd (ms m) (6 + j) 1))) _
  rw [ev]
  exact g7_mst X hj hM hb hT
theorem s7_meaningHere (X : aX) (hM : MR n m s) (hb : mbf m = b) (hT : TKR m t tk) : Sp X 5 kX7_meaningHere [.ref 81] (HR c m) (IPR c n b t s (meanT t tk (zt s))) := by
  unfold Sp meanT
  iterate 1 (refine G.st rfl rfl ?_)
  refine G.call rfl rfl (Nat.le_of_ble_eq_true rfl) (Sp.up (s7_nextR X hM hb hT) (Nat.le_of_ble_eq_true rfl)) ?_
  rintro _ _ ⟨rfl, m1, rfl, ⟨hM1, hb1, hP1⟩, hT1⟩
  generalize tok t tk.2.1 = tk1 at hT1 ⊢
  iterate 3 (refine G.st rfl rfl ?_)
  refine G.call rfl rfl (Nat.le_of_ble_eq_true rfl) (Sp.up (s7_isNumber X 0 9 hT1) (Nat.le_of_ble_eq_true rfl)) ?_
  rintro _ _ ⟨rfl, rfl⟩
  by_cases h1 : tk1.2.2 = 2 ∧ 0 ≤ numV t tk1 ∧ numV t tk1 ≤ 9
  case neg =>
    rw [takeN_n h1, if_neg h1]
    refine G.brt rfl (bI_0.mpr h1) ?_
    iterate 1 (refine G.st rfl rfl ?_)
    exact G.ret rfl rfl ⟨rfl, _, rfl, hM1.2, hb1, rfl⟩
  rw [takeN_y h1, if_pos h1]
  refine G.brf rfl (bI_n h1) ?_
  dsimp only
  obtain ⟨j, hj, ej⟩ := mok_n h1.2
  have ev : mva m1 = nI j := (hT1.2.2.2.2.2 h1.1).trans ej
  rw [ej]
  iterate 2 (refine G.st rfl rfl ?_)
  show G X 5 kX7_meaningHere 20 [.ref 81, .double 0, .double 0] [.int (mva m1)] (HR c m1) _
  rw [ev]
  iterate 2 (refine G.st rfl rfl ?_)
  refine G.call rfl rfl (Nat.le_of_ble_eq_true rfl) (Sp.up (s7_nextR X hM1 hb1 hT1) (Nat.le_of_ble_eq_true rfl)) ?_
  rintro _ _ ⟨rfl, m2, rfl, ⟨hM2, hb2, hP2⟩, hT2⟩
  generalize tok t tk1.2.1 = tk2 at hT2 ⊢
  iterate 3 (refine G.st rfl rfl ?_)
  show G X 5 kX7_meaningHere 30 [.ref 81, .int (nI j), .double 0] [.int 5, .int (mtk m2)] (HR c m2) _
  rw [hT2.2.2.2.2.1]
  by_cases h4 : tk2.2.2 = 4
  · rw [if_pos h4]
    refine G.brt rfl (tkc_5.mpr h4) ?_
    iterate 4 (refine G.st rfl rfl ?_)
    refine G.brf rfl (by decide) ?_
    iterate 1 (refine G.st rfl rfl ?_)
    refine G.call rfl rfl (Nat.le_of_ble_eq_true rfl) (Sp.up (s7_nextR X hM2 hb2 hT2) (Nat.le_of_ble_eq_true rfl)) ?_
    rintro _ _ ⟨rfl, m3, rfl, ⟨hM3, hb3, hP3⟩, hT3⟩
    exact g7_mn1 X hj hM3 hb3 hT3
  · rw [if_neg h4]
    refine G.brf rfl (fun q => h4 (tkc_5.mp q)) ?_
    iterate 3 (refine G.st rfl rfl ?_)
    refine G.brt rfl rfl ?_
    exact g7_mn0 X hj hM2 hb2 hT2
end RMNG2
