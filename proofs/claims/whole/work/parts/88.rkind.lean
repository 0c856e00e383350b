/-! ===== the reference: a kind ===== -/
section RKIND
variable {c : Nat → aC} {m : sM} {t : List Int32} {tk : Tk}
theorem cds_1 : cds 1 = [115, 104, 101, 101, 116] := by decide
theorem cds_2 : cds 2 = [115, 116, 111, 99, 107, 105, 110, 103] := by decide
theorem cds_3 : cds 3 = [114, 101, 100] := by decide
theorem cds_4 : cds 4 = [116, 111, 114, 110] := by decide
theorem cds_5 : cds 5 = [98, 108, 97, 99, 107] := by decide
theorem cds_6 : cds 6 = [108, 105, 110, 101, 110] := by decide
theorem wB_st (hT : TKR m t tk) : wB t tk 2 = true ↔ (tk.2.2 = 1 ∧ tk.2.1 - tk.1 = 8) ∧ (rbt t (tk.1 + 0) = 115 ∧ rbt t (tk.1 + 0 + 1) = 116 ∧ rbt t (tk.1 + 0 + 2) = 111) ∧ (rbt t (tk.1 + 3) = 99 ∧ rbt t (tk.1 + 3 + 1) = 107 ∧ rbt t (tk.1 + 3 + 2) = 105) ∧ (rbt t (tk.1 + 5) = 105 ∧ rbt t (tk.1 + 5 + 1) = 110 ∧ rbt t (tk.1 + 5 + 2) = 103) := by
  rw [wB_r cds_2 hT]
  refine and_congr Iff.rfl ⟨fun q => ⟨⟨q 0 (Nat.le_of_ble_eq_true rfl), q 1 (Nat.le_of_ble_eq_true rfl), q 2 (Nat.le_of_ble_eq_true rfl)⟩, ⟨q 3 (Nat.le_of_ble_eq_true rfl), q 4 (Nat.le_of_ble_eq_true rfl), q 5 (Nat.le_of_ble_eq_true rfl)⟩, ⟨q 5 (Nat.le_of_ble_eq_true rfl), q 6 (Nat.le_of_ble_eq_true rfl), q 7 (Nat.le_of_ble_eq_true rfl)⟩⟩, ?_⟩
  rintro ⟨⟨q0, q1, q2⟩, ⟨q3, q4, q5⟩, ⟨q6, q7, q8⟩⟩ j hj
  have hj' : j < 8 := hj
  rcases (show j = 0 ∨ j = 1 ∨ j = 2 ∨ j = 3 ∨ j = 4 ∨ j = 5 ∨ j = 6 ∨ j = 7 by omega) with rfl | rfl | rfl | rfl | rfl | rfl | rfl | rfl
  · exact q0
  · exact q1
  · exact q2
  · exact q3
  · exact q4
  · exact q5
  · exact q7
  · exact q8
theorem wB_re {i : Nat} {x y z : Int32} (hc : cds i = [x, y, z]) (hT : TKR m t tk) : wB t tk i = true ↔ (tk.2.2 = 1 ∧ tk.2.1 - tk.1 = 3) ∧ (rbt t (tk.1 + 0) = x ∧ rbt t (tk.1 + 0 + 1) = y ∧ rbt t (tk.1 + 0 + 2) = z) := by
  rw [wB_r hc hT]
  refine and_congr Iff.rfl ⟨fun q => ⟨q 0 (Nat.le_of_ble_eq_true rfl), q 1 (Nat.le_of_ble_eq_true rfl), q 2 (Nat.le_of_ble_eq_true rfl)⟩, ?_⟩
  rintro ⟨q0, q1, q2⟩ j hj
  have hj' : j < 3 := hj
  rcases (show j = 0 ∨ j = 1 ∨ j = 2 by omega) with rfl | rfl | rfl
  · exact q0
  · exact q1
  · exact q2
theorem s7_kindHere (X : aX) (hT : TKR m t tk) : Sp X 3 kX7_kindHere [.ref 81] (HR c m) (An (some (.int (rdI (kdT t tk)))) (HR c m)) := by
  unfold Sp kdT
  have hp : tk.1 < 2 ^ 20 := by
    have h1 := hT.1.2.1
    have h2 := hT.2.1.1
    have h3 := hT.2.1.2
    omega
  iterate 6 (refine G.st rfl rfl ?_)
  refine G.call rfl rfl (Nat.le_of_ble_eq_true rfl) (Sp.up (s7_isFive X cds_6 hT) (Nat.le_of_ble_eq_true rfl)) ?_
  rintro _ _ ⟨rfl, rfl⟩
  by_cases a0 : wB t tk 6 = true
  · rw [if_pos a0]
    refine G.brf rfl (bI_n a0) ?_
    iterate 1 (refine G.st rfl rfl ?_)
    exact G.ret rfl rfl ⟨rfl, rfl⟩
  rw [if_neg a0]
  refine G.brt rfl (bI_0.mpr a0) ?_
  iterate 6 (refine G.st rfl rfl ?_)
  refine G.call rfl rfl (Nat.le_of_ble_eq_true rfl) (Sp.up (s7_isFive X cds_1 hT) (Nat.le_of_ble_eq_true rfl)) ?_
  rintro _ _ ⟨rfl, rfl⟩
  by_cases a1 : wB t tk 1 = true
  · rw [if_pos a1]
    refine G.brf rfl (bI_n a1) ?_
    iterate 1 (refine G.st rfl rfl ?_)
    exact G.ret rfl rfl ⟨rfl, rfl⟩
  rw [if_neg a1]
  refine G.brt rfl (bI_0.mpr a1) ?_
  generalize hR : (if wB t tk 3 = true then some 3 else if wB t tk 4 = true then some 4 else if wB t tk 5 = true then some 5 else none) = R
  have n2 : ¬ wB t tk 2 = true → G X 3 kX7_kindHere 91 [.ref 81] [] (HR c m) (An (some (.int (rdI (if wB t tk 2 = true then some 2 else R)))) (HR c m)) := by
    intro a2
    rw [if_neg a2, ← hR]
    have n3 : ¬ wB t tk 3 = true → G X 3 kX7_kindHere 115 [.ref 81] [] (HR c m) (An (some (.int (rdI (if wB t tk 3 = true then some 3 else if wB t tk 4 = true then some 4 else if wB t tk 5 = true then some 5 else none)))) (HR c m)) := by
      intro a3
      rw [if_neg a3]
      iterate 5 (refine G.st rfl rfl ?_)
      refine G.call rfl rfl (Nat.le_of_ble_eq_true rfl) (Sp.up (s7_isFour X cds_4 hT) (Nat.le_of_ble_eq_true rfl)) ?_
      rintro _ _ ⟨rfl, rfl⟩
      by_cases a4 : wB t tk 4 = true
      · rw [if_pos a4]
        refine G.brf rfl (bI_n a4) ?_
        iterate 1 (refine G.st rfl rfl ?_)
        exact G.ret rfl rfl ⟨rfl, rfl⟩
      rw [if_neg a4]
      refine G.brt rfl (bI_0.mpr a4) ?_
      iterate 6 (refine G.st rfl rfl ?_)
      refine G.call rfl rfl (Nat.le_of_ble_eq_true rfl) (Sp.up (s7_isFive X cds_5 hT) (Nat.le_of_ble_eq_true rfl)) ?_
      rintro _ _ ⟨rfl, rfl⟩
      by_cases a5 : wB t tk 5 = true
      · rw [if_pos a5]
        refine G.brf rfl (bI_n a5) ?_
        iterate 2 (refine G.st rfl rfl ?_)
        exact G.ret rfl rfl ⟨rfl, rfl⟩
      rw [if_neg a5]
      refine G.brt rfl (bI_0.mpr a5) ?_
      iterate 1 (refine G.st rfl rfl ?_)
      exact G.ret rfl rfl ⟨rfl, rfl⟩
    have key := wB_re cds_3 hT
    iterate 2 (refine G.st rfl rfl ?_)
    refine G.call rfl rfl (Nat.le_of_ble_eq_true rfl) (Sp.up (s7_isWord X (k := 3) (by omega) hT) (Nat.le_of_ble_eq_true rfl)) ?_
    rintro _ _ ⟨rfl, rfl⟩
    by_cases h1 : tk.2.2 = 1 ∧ tk.2.1 - tk.1 = 3
    case neg => exact G.brt rfl (bI_0.mpr h1) (n3 (fun q => h1 (key.mp q).1))
    refine G.brf rfl (bI_n h1) ?_
    iterate 5 (refine G.st rfl rfl ?_)
    refine G.call rfl rfl (Nat.le_of_ble_eq_true rfl) (Sp.up (s7_has3 X (p := tk.1) (i := 0) hp (by omega) hT.1 hT.2.2.1) (Nat.le_of_ble_eq_true rfl)) ?_
    rintro _ _ ⟨rfl, rfl⟩
    by_cases h2 : rbt t (tk.1 + 0) = 114 ∧ rbt t (tk.1 + 0 + 1) = 101 ∧ rbt t (tk.1 + 0 + 2) = 100
    case neg => exact G.brt rfl (bI_0.mpr h2) (n3 (fun q => h2 (key.mp q).2))
    refine G.brf rfl (bI_n h2) ?_
    rw [if_pos (key.mpr ⟨h1, h2⟩)]
    iterate 1 (refine G.st rfl rfl ?_)
    exact G.ret rfl rfl ⟨rfl, rfl⟩
  have key := wB_st hT
  iterate 2 (refine G.st rfl rfl ?_)
  refine G.call rfl rfl (Nat.le_of_ble_eq_true rfl) (Sp.up (s7_isWord X (k := 8) (by omega) hT) (Nat.le_of_ble_eq_true rfl)) ?_
  rintro _ _ ⟨rfl, rfl⟩
  by_cases h1 : tk.2.2 = 1 ∧ tk.2.1 - tk.1 = 8
  case neg => exact G.brt rfl (bI_0.mpr h1) (n2 (fun q => h1 (key.mp q).1))
  refine G.brf rfl (bI_n h1) ?_
  iterate 5 (refine G.st rfl rfl ?_)
  refine G.call rfl rfl (Nat.le_of_ble_eq_true rfl) (Sp.up (s7_has3 X (p := tk.1) (i := 0) hp (by omega) hT.1 hT.2.2.1) (Nat.le_of_ble_eq_true rfl)) ?_
  rintro _ _ ⟨rfl, rfl⟩
  by_cases h2 : rbt t (tk.1 + 0) = 115 ∧ rbt t (tk.1 + 0 + 1) = 116 ∧ rbt t (tk.1 + 0 + 2) = 111
  case neg => exact G.brt rfl (bI_0.mpr h2) (n2 (fun q => h2 (key.mp q).2.1))
  refine G.brf rfl (bI_n h2) ?_
  iterate 5 (refine G.st rfl rfl ?_)
  refine G.call rfl rfl (Nat.le_of_ble_eq_true rfl) (Sp.up (s7_has3 X (p := tk.1) (i := 3) hp (by omega) hT.1 hT.2.2.1) (Nat.le_of_ble_eq_true rfl)) ?_
  rintro _ _ ⟨rfl, rfl⟩
  by_cases h3 : rbt t (tk.1 + 3) = 99 ∧ rbt t (tk.1 + 3 + 1) = 107 ∧ rbt t (tk.1 + 3 + 2) = 105
  case neg => exact G.brt rfl (bI_0.mpr h3) (n2 (fun q => h3 (key.mp q).2.2.1))
  refine G.brf rfl (bI_n h3) ?_
  iterate 5 (refine G.st rfl rfl ?_)
  refine G.call rfl rfl (Nat.le_of_ble_eq_true rfl) (Sp.up (s7_has3 X (p := tk.1) (i := 5) hp (by omega) hT.1 hT.2.2.1) (Nat.le_of_ble_eq_true rfl)) ?_
  rintro _ _ ⟨rfl, rfl⟩
  by_cases h4 : rbt t (tk.1 + 5) = 105 ∧ rbt t (tk.1 + 5 + 1) = 110 ∧ rbt t (tk.1 + 5 + 2) = 103
  case neg => exact G.brt rfl (bI_0.mpr h4) (n2 (fun q => h4 (key.mp q).2.2.2))
  refine G.brf rfl (bI_n h4) ?_
  rw [if_pos (key.mpr ⟨h1, h2, h3, h4⟩)]
  iterate 1 (refine G.st rfl rfl ?_)
  exact G.ret rfl rfl ⟨rfl, rfl⟩
end RKIND
