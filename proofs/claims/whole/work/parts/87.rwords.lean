/-! ===== the reference: words ===== -/
section RWORDS
variable {c : Nat → aC} {m : sM} {t : List Int32} {tk : Tk} {i : Nat}
theorem wB_r {cs : List Int32} (hc : cds i = cs) (hT : TKR m t tk) : wB t tk i = true ↔ (tk.2.2 = 1 ∧ tk.2.1 - tk.1 = cs.length) ∧ ∀ j, j < cs.length → rbt t (tk.1 + j) = cs.getD j 0 := by
  have ho := hT.2.1
  unfold TkOk at ho
  rw [wB_t, hc]
  unfold isW
  constructor
  · rintro ⟨a, b, d⟩
    refine ⟨⟨a, b⟩, fun j hj => ?_⟩
    rw [rbt_in (by omega)]
    exact d j hj
  · rintro ⟨⟨a, b⟩, d⟩
    refine ⟨a, b, fun j hj => ?_⟩
    have := d j hj
    rwa [rbt_in (by omega)] at this
theorem wB_4 {w x y z : Int32} (hc : cds i = [w, x, y, z]) (hT : TKR m t tk) : wB t tk i = true ↔ (tk.2.2 = 1 ∧ tk.2.1 - tk.1 = 4) ∧ rbt t (tk.1 + 0) = w ∧ rbt t (tk.1 + 1) = x ∧ rbt t (tk.1 + 2) = y ∧ rbt t (tk.1 + 3) = z := by
  rw [wB_r hc hT]
  refine and_congr Iff.rfl ⟨fun q => ⟨q 0 (Nat.le_of_ble_eq_true rfl), q 1 (Nat.le_of_ble_eq_true rfl), q 2 (Nat.le_of_ble_eq_true rfl), q 3 (Nat.le_of_ble_eq_true rfl)⟩, ?_⟩
  rintro ⟨q0, q1, q2, q3⟩ j hj
  have hj' : j < 4 := hj
  rcases (show j = 0 ∨ j = 1 ∨ j = 2 ∨ j = 3 by omega) with rfl | rfl | rfl | rfl
  · exact q0
  · exact q1
  · exact q2
  · exact q3
theorem s7_isFour (X : aX) {w x y z : Int32} (hc : cds i = [w, x, y, z]) (hT : TKR m t tk) : Sp X 2 kX7_isFour [.ref 81, .int w, .int x, .int y, .int z] (HR c m) (An (some (.int (bI (wB t tk i = true)))) (HR c m)) := by
  unfold Sp
  have hp : tk.1 < 2 ^ 20 := by
    have h1 := hT.1.2.1
    have h2 := hT.2.1.1
    have h3 := hT.2.1.2
    omega
  have key := wB_4 hc hT
  have no : ¬ wB t tk i = true → G X 2 kX7_isFour 35 [.ref 81, .int w, .int x, .int y, .int z] [] (HR c m) (An (some (.int (bI (wB t tk i = true)))) (HR c m)) := by
    intro q
    iterate 1 (refine G.st rfl rfl ?_)
    exact G.ret rfl rfl ⟨by rw [bI_f q], rfl⟩
  have yes : wB t tk i = true → G X 2 kX7_isFour 31 [.ref 81, .int w, .int x, .int y, .int z] [] (HR c m) (An (some (.int (bI (wB t tk i = true)))) (HR c m)) := by
    intro q
    iterate 2 (refine G.st rfl rfl ?_)
    exact G.ret rfl rfl ⟨by rw [bI_t q], rfl⟩
  iterate 2 (refine G.st rfl rfl ?_)
  refine G.call rfl rfl (Nat.le_of_ble_eq_true rfl) (Sp.up (s7_isWord X (k := 4) (by omega) hT) (Nat.le_of_ble_eq_true rfl)) ?_
  rintro _ _ ⟨rfl, rfl⟩
  by_cases h1 : tk.2.2 = 1 ∧ tk.2.1 - tk.1 = 4
  case neg => exact G.brt rfl (bI_0.mpr h1) (no (fun q => h1 (key.mp q).1))
  refine G.brf rfl (bI_n h1) ?_
  iterate 5 (refine G.st rfl rfl ?_)
  refine G.call rfl rfl (Nat.le_of_ble_eq_true rfl) (Sp.up (s7_has3 X (p := tk.1) (i := 0) hp (by omega) hT.1 hT.2.2.1) (Nat.le_of_ble_eq_true rfl)) ?_
  rintro _ _ ⟨rfl, rfl⟩
  by_cases h2 : rbt t (tk.1 + 0) = w ∧ rbt t (tk.1 + 0 + 1) = x ∧ rbt t (tk.1 + 0 + 2) = y
  case neg => exact G.brt rfl (bI_0.mpr h2) (no (fun q => h2 ⟨(key.mp q).2.1, (key.mp q).2.2.1, (key.mp q).2.2.2.1⟩))
  refine G.brf rfl (bI_n h2) ?_
  iterate 5 (refine G.st rfl rfl ?_)
  refine G.call rfl rfl (Nat.le_of_ble_eq_true rfl) (Sp.up (s7_has3 X (p := tk.1) (i := 1) hp (by omega) hT.1 hT.2.2.1) (Nat.le_of_ble_eq_true rfl)) ?_
  rintro _ _ ⟨rfl, rfl⟩
  by_cases h3 : rbt t (tk.1 + 1) = x ∧ rbt t (tk.1 + 1 + 1) = y ∧ rbt t (tk.1 + 1 + 2) = z
  case neg => exact G.brt rfl (bI_0.mpr h3) (no (fun q => h3 ⟨(key.mp q).2.2.1, (key.mp q).2.2.2.1, (key.mp q).2.2.2.2⟩))
  refine G.brf rfl (bI_n h3) ?_
  exact yes (key.mpr ⟨h1, h2.1, h3.1, h3.2.1, h3.2.2⟩)
theorem wB_5 {v w x y z : Int32} (hc : cds i = [v, w, x, y, z]) (hT : TKR m t tk) : wB t tk i = true ↔ (tk.2.2 = 1 ∧ tk.2.1 - tk.1 = 5) ∧ rbt t (tk.1 + 0) = v ∧ rbt t (tk.1 + 1) = w ∧ rbt t (tk.1 + 2) = x ∧ rbt t (tk.1 + 3) = y ∧ rbt t (tk.1 + 4) = z := by
  rw [wB_r hc hT]
  refine and_congr Iff.rfl ⟨fun q => ⟨q 0 (Nat.le_of_ble_eq_true rfl), q 1 (Nat.le_of_ble_eq_true rfl), q 2 (Nat.le_of_ble_eq_true rfl), q 3 (Nat.le_of_ble_eq_true rfl), q 4 (Nat.le_of_ble_eq_true rfl)⟩, ?_⟩
  rintro ⟨q0, q1, q2, q3, q4⟩ j hj
  have hj' : j < 5 := hj
  rcases (show j = 0 ∨ j = 1 ∨ j = 2 ∨ j = 3 ∨ j = 4 by omega) with rfl | rfl | rfl | rfl | rfl
  · exact q0
  · exact q1
  · exact q2
  · exact q3
  · exact q4
theorem s7_isFive (X : aX) {v w x y z : Int32} (hc : cds i = [v, w, x, y, z]) (hT : TKR m t tk) : Sp X 2 kX7_isFive [.ref 81, .int v, .int w, .int x, .int y, .int z] (HR c m) (An (some (.int (bI (wB t tk i = true)))) (HR c m)) := by
  unfold Sp
  have hp : tk.1 < 2 ^ 20 := by
    have h1 := hT.1.2.1
    have h2 := hT.2.1.1
    have h3 := hT.2.1.2
    omega
  have key := wB_5 hc hT
  have no : ¬ wB t tk i = true → G X 2 kX7_isFive 36 [.ref 81, .int v, .int w, .int x, .int y, .int z] [] (HR c m) (An (some (.int (bI (wB t tk i = true)))) (HR c m)) := by
    intro q
    iterate 1 (refine G.st rfl rfl ?_)
    exact G.ret rfl rfl ⟨by rw [bI_f q], rfl⟩
  have yes : wB t tk i = true → G X 2 kX7_isFive 32 [.ref 81, .int v, .int w, .int x, .int y, .int z] [] (HR c m) (An (some (.int (bI (wB t tk i = true)))) (HR c m)) := by
    intro q
    iterate 2 (refine G.st rfl rfl ?_)
    exact G.ret rfl rfl ⟨by rw [bI_t q], rfl⟩
  iterate 2 (refine G.st rfl rfl ?_)
  refine G.call rfl rfl (Nat.le_of_ble_eq_true rfl) (Sp.up (s7_isWord X (k := 5) (by omega) hT) (Nat.le_of_ble_eq_true rfl)) ?_
  rintro _ _ ⟨rfl, rfl⟩
  by_cases h1 : tk.2.2 = 1 ∧ tk.2.1 - tk.1 = 5
  case neg => exact G.brt rfl (bI_0.mpr h1) (no (fun q => h1 (key.mp q).1))
  refine G.brf rfl (bI_n h1) ?_
  iterate 5 (refine G.st rfl rfl ?_)
  refine G.call rfl rfl (Nat.le_of_ble_eq_true rfl) (Sp.up (s7_has3 X (p := tk.1) (i := 0) hp (by omega) hT.1 hT.2.2.1) (Nat.le_of_ble_eq_true rfl)) ?_
  rintro _ _ ⟨rfl, rfl⟩
  by_cases h2 : rbt t (tk.1 + 0) = v ∧ rbt t (tk.1 + 0 + 1) = w ∧ rbt t (tk.1 + 0 + 2) = x
  case neg => exact G.brt rfl (bI_0.mpr h2) (no (fun q => h2 ⟨(key.mp q).2.1, (key.mp q).2.2.1, (key.mp q).2.2.2.1⟩))
  refine G.brf rfl (bI_n h2) ?_
  iterate 5 (refine G.st rfl rfl ?_)
  refine G.call rfl rfl (Nat.le_of_ble_eq_true rfl) (Sp.up (s7_has3 X (p := tk.1) (i := 2) hp (by omega) hT.1 hT.2.2.1) (Nat.le_of_ble_eq_true rfl)) ?_
  rintro _ _ ⟨rfl, rfl⟩
  by_cases h3 : rbt t (tk.1 + 2) = x ∧ rbt t (tk.1 + 2 + 1) = y ∧ rbt t (tk.1 + 2 + 2) = z
  case neg => exact G.brt rfl (bI_0.mpr h3) (no (fun q => h3 ⟨(key.mp q).2.2.2.1, (key.mp q).2.2.2.2.1, (key.mp q).2.2.2.2.2⟩))
  refine G.brf rfl (bI_n h3) ?_
  exact yes (key.mpr ⟨h1, h2.1, h2.2.1, h3.1, h3.2.1, h3.2.2⟩)
theorem wB_6 {u v w x y z : Int32} (hc : cds i = [u, v, w, x, y, z]) (hT : TKR m t tk) : wB t tk i = true ↔ (tk.2.2 = 1 ∧ tk.2.1 - tk.1 = 6) ∧ rbt t (tk.1 + 0) = u ∧ rbt t (tk.1 + 1) = v ∧ rbt t (tk.1 + 2) = w ∧ rbt t (tk.1 + 3) = x ∧ rbt t (tk.1 + 4) = y ∧ rbt t (tk.1 + 5) = z := by
  rw [wB_r hc hT]
  refine and_congr Iff.rfl ⟨fun q => ⟨q 0 (Nat.le_of_ble_eq_true rfl), q 1 (Nat.le_of_ble_eq_true rfl), q 2 (Nat.le_of_ble_eq_true rfl), q 3 (Nat.le_of_ble_eq_true rfl), q 4 (Nat.le_of_ble_eq_true rfl), q 5 (Nat.le_of_ble_eq_true rfl)⟩, ?_⟩
  rintro ⟨q0, q1, q2, q3, q4, q5⟩ j hj
  have hj' : j < 6 := hj
  rcases (show j = 0 ∨ j = 1 ∨ j = 2 ∨ j = 3 ∨ j = 4 ∨ j = 5 by omega) with rfl | rfl | rfl | rfl | rfl | rfl
  · exact q0
  · exact q1
  · exact q2
  · exact q3
  · exact q4
  · exact q5
theorem s7_isSix (X : aX) {u v w x y z : Int32} (hc : cds i = [u, v, w, x, y, z]) (hT : TKR m t tk) : Sp X 2 kX7_isSix [.ref 81, .int u, .int v, .int w, .int x, .int y, .int z] (HR c m) (An (some (.int (bI (wB t tk i = true)))) (HR c m)) := by
  unfold Sp
  have hp : tk.1 < 2 ^ 20 := by
    have h1 := hT.1.2.1
    have h2 := hT.2.1.1
    have h3 := hT.2.1.2
    omega
  have key := wB_6 hc hT
  have no : ¬ wB t tk i = true → G X 2 kX7_isSix 38 [.ref 81, .int u, .int v, .int w, .int x, .int y, .int z] [] (HR c m) (An (some (.int (bI (wB t tk i = true)))) (HR c m)) := by
    intro q
    iterate 1 (refine G.st rfl rfl ?_)
    exact G.ret rfl rfl ⟨by rw [bI_f q], rfl⟩
  have yes : wB t tk i = true → G X 2 kX7_isSix 34 [.ref 81, .int u, .int v, .int w, .int x, .int y, .int z] [] (HR c m) (An (some (.int (bI (wB t tk i = true)))) (HR c m)) := by
    intro q
    iterate 2 (refine G.st rfl rfl ?_)
    exact G.ret rfl rfl ⟨by rw [bI_t q], rfl⟩
  iterate 2 (refine G.st rfl rfl ?_)
  refine G.call rfl rfl (Nat.le_of_ble_eq_true rfl) (Sp.up (s7_isWord X (k := 6) (by omega) hT) (Nat.le_of_ble_eq_true rfl)) ?_
  rintro _ _ ⟨rfl, rfl⟩
  by_cases h1 : tk.2.2 = 1 ∧ tk.2.1 - tk.1 = 6
  case neg => exact G.brt rfl (bI_0.mpr h1) (no (fun q => h1 (key.mp q).1))
  refine G.brf rfl (bI_n h1) ?_
  iterate 5 (refine G.st rfl rfl ?_)
  refine G.call rfl rfl (Nat.le_of_ble_eq_true rfl) (Sp.up (s7_has3 X (p := tk.1) (i := 0) hp (by omega) hT.1 hT.2.2.1) (Nat.le_of_ble_eq_true rfl)) ?_
  rintro _ _ ⟨rfl, rfl⟩
  by_cases h2 : rbt t (tk.1 + 0) = u ∧ rbt t (tk.1 + 0 + 1) = v ∧ rbt t (tk.1 + 0 + 2) = w
  case neg => exact G.brt rfl (bI_0.mpr h2) (no (fun q => h2 ⟨(key.mp q).2.1, (key.mp q).2.2.1, (key.mp q).2.2.2.1⟩))
  refine G.brf rfl (bI_n h2) ?_
  iterate 5 (refine G.st rfl rfl ?_)
  refine G.call rfl rfl (Nat.le_of_ble_eq_true rfl) (Sp.up (s7_has3 X (p := tk.1) (i := 3) hp (by omega) hT.1 hT.2.2.1) (Nat.le_of_ble_eq_true rfl)) ?_
  rintro _ _ ⟨rfl, rfl⟩
  by_cases h3 : rbt t (tk.1 + 3) = x ∧ rbt t (tk.1 + 3 + 1) = y ∧ rbt t (tk.1 + 3 + 2) = z
  case neg => exact G.brt rfl (bI_0.mpr h3) (no (fun q => h3 ⟨(key.mp q).2.2.2.2.1, (key.mp q).2.2.2.2.2.1, (key.mp q).2.2.2.2.2.2⟩))
  refine G.brf rfl (bI_n h3) ?_
  exact yes (key.mpr ⟨h1, h2.1, h2.2.1, h2.2.2, h3.1, h3.2.1, h3.2.2⟩)
end RWORDS
