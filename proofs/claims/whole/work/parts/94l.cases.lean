/-! ===== the law: its cases ===== -/
section LAWC
variable {X : aX} {e n : Nat} {s : Sg} {m : sM} {h : aH} {Q : Option Value → aH → Prop}
theorem w_hang (hX : X.1 ≤ 3072) (hi : 6 * e + 6 ≤ X.1) (hn : n < 2 ^ 29) (hC : CI m s h) (hM : MR n m s) (k : ∀ s' m' h', CI m' s' h' → MR (n + 1) m' s' → G X 40 kL_law 1648 [.retAddr 2, .ref 0, .ref 81, .int (nI (6 * e))] [] h' Q) : G X 40 kL_law 236 [.retAddr 2, .ref 0, .ref 81, .int (nI (6 * e))] [] h Q := by
  have hS := hC.sok
  obtain ⟨fs, ho⟩ := hC.o
  iterate 5 (refine G.st rfl rfl ?_)
  refine G.xald rfl rfl (ixL (k := 1) hX hi (by omega)) ?_
  iterate 4 (refine G.st rfl rfl ?_)
  refine G.xald rfl rfl (ixL (k := 2) hX hi (by omega)) ?_
  iterate 4 (refine G.st rfl rfl ?_)
  refine G.xald rfl rfl (ixL (k := 3) hX hi (by omega)) ?_
  refine G.callv rfl rfl rfl (ho) (Nat.le_of_ble_eq_true rfl) rfl (Nat.le_of_ble_eq_true rfl) (Sp.up (p6_hang X _ _ _ hC) (Nat.le_of_ble_eq_true rfl)) ?_
  rintro _ h1 ⟨rfl, hC1⟩
  obtain ⟨c, rfl, hc⟩ := hC1.hr
  iterate 5 (refine G.st rfl rfl ?_)
  refine G.xald rfl rfl (ixL (k := 1) hX hi (by omega)) ?_
  iterate 4 (refine G.st rfl rfl ?_)
  refine G.xald rfl rfl (ixL (k := 2) hX hi (by omega)) ?_
  iterate 4 (refine G.st rfl rfl ?_)
  refine G.xald rfl rfl (ixL (k := 3) hX hi (by omega)) ?_
  refine G.call rfl rfl (Nat.le_of_ble_eq_true rfl) (Sp.up (p7_hang X _ _ _ hS hM) (Nat.le_of_ble_eq_true rfl)) ?_
  rintro _ _ ⟨rfl, m', rfl, hM'⟩
  refine G.brt rfl rfl ?_
  exact k _ m' _ (hc m') (hM'.mono (Nat.le_succ n))
theorem w_off (hX : X.1 ≤ 3072) (hi : 6 * e + 6 ≤ X.1) (hn : n < 2 ^ 29) (hC : CI m s h) (hM : MR n m s) (k : ∀ s' m' h', CI m' s' h' → MR (n + 1) m' s' → G X 40 kL_law 1648 [.retAddr 2, .ref 0, .ref 81, .int (nI (6 * e))] [] h' Q) : G X 40 kL_law 279 [.retAddr 2, .ref 0, .ref 81, .int (nI (6 * e))] [] h Q := by
  have hS := hC.sok
  obtain ⟨fs, ho⟩ := hC.o
  iterate 5 (refine G.st rfl rfl ?_)
  refine G.xald rfl rfl (ixL (k := 1) hX hi (by omega)) ?_
  iterate 4 (refine G.st rfl rfl ?_)
  refine G.xald rfl rfl (ixL (k := 2) hX hi (by omega)) ?_
  refine G.callv rfl rfl rfl (ho) (Nat.le_of_ble_eq_true rfl) rfl (Nat.le_of_ble_eq_true rfl) (Sp.up (p6_off X _ _ hC) (Nat.le_of_ble_eq_true rfl)) ?_
  rintro _ h1 ⟨rfl, hC1⟩
  obtain ⟨c, rfl, hc⟩ := hC1.hr
  iterate 5 (refine G.st rfl rfl ?_)
  refine G.xald rfl rfl (ixL (k := 1) hX hi (by omega)) ?_
  iterate 4 (refine G.st rfl rfl ?_)
  refine G.xald rfl rfl (ixL (k := 2) hX hi (by omega)) ?_
  refine G.call rfl rfl (Nat.le_of_ble_eq_true rfl) (Sp.up (p7_off X _ _ hS hM) (Nat.le_of_ble_eq_true rfl)) ?_
  rintro _ _ ⟨rfl, m', rfl, hM'⟩
  refine G.brt rfl rfl ?_
  exact k _ m' _ (hc m') (hM'.mono (Nat.le_succ n))
theorem w_of (hX : X.1 ≤ 3072) (hi : 6 * e + 6 ≤ X.1) (hn : n < 2 ^ 29) (hC : CI m s h) (hM : MR n m s) (k : ∀ s' m' h', CI m' s' h' → MR (n + 1) m' s' → G X 40 kL_law 1648 [.retAddr 2, .ref 0, .ref 81, .int (nI (6 * e))] [] h' Q) : G X 40 kL_law 312 [.retAddr 2, .ref 0, .ref 81, .int (nI (6 * e))] [] h Q := by
  have hS := hC.sok
  obtain ⟨fs, ho⟩ := hC.o
  iterate 5 (refine G.st rfl rfl ?_)
  refine G.xald rfl rfl (ixL (k := 1) hX hi (by omega)) ?_
  iterate 4 (refine G.st rfl rfl ?_)
  refine G.xald rfl rfl (ixL (k := 2) hX hi (by omega)) ?_
  iterate 4 (refine G.st rfl rfl ?_)
  refine G.xald rfl rfl (ixL (k := 3) hX hi (by omega)) ?_
  refine G.callv rfl rfl rfl (ho) (Nat.le_of_ble_eq_true rfl) rfl (Nat.le_of_ble_eq_true rfl) (Sp.up (p6_of X _ _ _ hC) (Nat.le_of_ble_eq_true rfl)) ?_
  rintro _ h1 ⟨rfl, hC1⟩
  obtain ⟨c, rfl, hc⟩ := hC1.hr
  iterate 5 (refine G.st rfl rfl ?_)
  refine G.xald rfl rfl (ixL (k := 1) hX hi (by omega)) ?_
  iterate 4 (refine G.st rfl rfl ?_)
  refine G.xald rfl rfl (ixL (k := 2) hX hi (by omega)) ?_
  iterate 4 (refine G.st rfl rfl ?_)
  refine G.xald rfl rfl (ixL (k := 3) hX hi (by omega)) ?_
  refine G.call rfl rfl (Nat.le_of_ble_eq_true rfl) (Sp.up (p7_of X _ _ _ hS hM) (Nat.le_of_ble_eq_true rfl)) ?_
  rintro _ _ ⟨rfl, m', rfl, hM'⟩
  refine G.brt rfl rfl ?_
  exact k _ m' _ (hc m') (hM'.mono (Nat.le_succ n))
theorem w_set (hX : X.1 ≤ 3072) (hi : 6 * e + 6 ≤ X.1) (hn : n < 2 ^ 29) (hC : CI m s h) (hM : MR n m s) (k : ∀ s' m' h', CI m' s' h' → MR (n + 1) m' s' → G X 40 kL_law 1648 [.retAddr 2, .ref 0, .ref 81, .int (nI (6 * e))] [] h' Q) : G X 40 kL_law 355 [.retAddr 2, .ref 0, .ref 81, .int (nI (6 * e))] [] h Q := by
  have hS := hC.sok
  obtain ⟨fs, ho⟩ := hC.o
  iterate 5 (refine G.st rfl rfl ?_)
  refine G.xald rfl rfl (ixL (k := 1) hX hi (by omega)) ?_
  iterate 4 (refine G.st rfl rfl ?_)
  refine G.xald rfl rfl (ixL (k := 2) hX hi (by omega)) ?_
  iterate 4 (refine G.st rfl rfl ?_)
  refine G.xald rfl rfl (ixL (k := 3) hX hi (by omega)) ?_
  iterate 4 (refine G.st rfl rfl ?_)
  refine G.xald rfl rfl (ixL (k := 4) hX hi (by omega)) ?_
  refine G.callv rfl rfl rfl (ho) (Nat.le_of_ble_eq_true rfl) rfl (Nat.le_of_ble_eq_true rfl) (Sp.up (p6_set X _ _ _ _ hC) (Nat.le_of_ble_eq_true rfl)) ?_
  rintro _ h1 ⟨rfl, hC1⟩
  obtain ⟨c, rfl, hc⟩ := hC1.hr
  iterate 5 (refine G.st rfl rfl ?_)
  refine G.xald rfl rfl (ixL (k := 1) hX hi (by omega)) ?_
  iterate 4 (refine G.st rfl rfl ?_)
  refine G.xald rfl rfl (ixL (k := 2) hX hi (by omega)) ?_
  iterate 4 (refine G.st rfl rfl ?_)
  refine G.xald rfl rfl (ixL (k := 3) hX hi (by omega)) ?_
  iterate 4 (refine G.st rfl rfl ?_)
  refine G.xald rfl rfl (ixL (k := 4) hX hi (by omega)) ?_
  refine G.call rfl rfl (Nat.le_of_ble_eq_true rfl) (Sp.up (p7_set X _ _ _ _ hS hM) (Nat.le_of_ble_eq_true rfl)) ?_
  rintro _ _ ⟨rfl, m', rfl, hM'⟩
  refine G.brt rfl rfl ?_
  exact k _ m' _ (hc m') (hM'.mono (Nat.le_succ n))
theorem w_turn (hX : X.1 ≤ 3072) (hi : 6 * e + 6 ≤ X.1) (hn : n < 2 ^ 29) (hC : CI m s h) (hM : MR n m s) (k : ∀ s' m' h', CI m' s' h' → MR (n + 1) m' s' → G X 40 kL_law 1648 [.retAddr 2, .ref 0, .ref 81, .int (nI (6 * e))] [] h' Q) : G X 40 kL_law 408 [.retAddr 2, .ref 0, .ref 81, .int (nI (6 * e))] [] h Q := by
  have hS := hC.sok
  obtain ⟨fs, ho⟩ := hC.o
  iterate 5 (refine G.st rfl rfl ?_)
  refine G.xald rfl rfl (ixL (k := 1) hX hi (by omega)) ?_
  iterate 4 (refine G.st rfl rfl ?_)
  refine G.xald rfl rfl (ixL (k := 2) hX hi (by omega)) ?_
  iterate 4 (refine G.st rfl rfl ?_)
  refine G.xald rfl rfl (ixL (k := 3) hX hi (by omega)) ?_
  refine G.callv rfl rfl rfl (ho) (Nat.le_of_ble_eq_true rfl) rfl (Nat.le_of_ble_eq_true rfl) (Sp.up (p6_turn X _ _ _ hC) (Nat.le_of_ble_eq_true rfl)) ?_
  rintro _ h1 ⟨rfl, hC1⟩
  obtain ⟨c, rfl, hc⟩ := hC1.hr
  iterate 5 (refine G.st rfl rfl ?_)
  refine G.xald rfl rfl (ixL (k := 1) hX hi (by omega)) ?_
  iterate 4 (refine G.st rfl rfl ?_)
  refine G.xald rfl rfl (ixL (k := 2) hX hi (by omega)) ?_
  iterate 4 (refine G.st rfl rfl ?_)
  refine G.xald rfl rfl (ixL (k := 3) hX hi (by omega)) ?_
  refine G.call rfl rfl (Nat.le_of_ble_eq_true rfl) (Sp.up (p7_turn X _ _ _ hS hM) (Nat.le_of_ble_eq_true rfl)) ?_
  rintro _ _ ⟨rfl, m', rfl, hM'⟩
  refine G.brt rfl rfl ?_
  exact k _ m' _ (hc m') (hM'.mono (Nat.le_succ n))
theorem w_as (hX : X.1 ≤ 3072) (hi : 6 * e + 6 ≤ X.1) (hn : n < 2 ^ 29) (hC : CI m s h) (hM : MR n m s) (k : ∀ s' m' h', CI m' s' h' → MR (n + 1) m' s' → G X 40 kL_law 1648 [.retAddr 2, .ref 0, .ref 81, .int (nI (6 * e))] [] h' Q) : G X 40 kL_law 451 [.retAddr 2, .ref 0, .ref 81, .int (nI (6 * e))] [] h Q := by
  have hS := hC.sok
  obtain ⟨fs, ho⟩ := hC.o
  iterate 5 (refine G.st rfl rfl ?_)
  refine G.xald rfl rfl (ixL (k := 1) hX hi (by omega)) ?_
  iterate 4 (refine G.st rfl rfl ?_)
  refine G.xald rfl rfl (ixL (k := 2) hX hi (by omega)) ?_
  iterate 4 (refine G.st rfl rfl ?_)
  refine G.xald rfl rfl (ixL (k := 3) hX hi (by omega)) ?_
  refine G.callv rfl rfl rfl (ho) (Nat.le_of_ble_eq_true rfl) rfl (Nat.le_of_ble_eq_true rfl) (Sp.up (p6_as X _ _ _ hC) (Nat.le_of_ble_eq_true rfl)) ?_
  rintro _ h1 ⟨rfl, hC1⟩
  obtain ⟨c, rfl, hc⟩ := hC1.hr
  iterate 5 (refine G.st rfl rfl ?_)
  refine G.xald rfl rfl (ixL (k := 1) hX hi (by omega)) ?_
  iterate 4 (refine G.st rfl rfl ?_)
  refine G.xald rfl rfl (ixL (k := 2) hX hi (by omega)) ?_
  iterate 4 (refine G.st rfl rfl ?_)
  refine G.xald rfl rfl (ixL (k := 3) hX hi (by omega)) ?_
  refine G.call rfl rfl (Nat.le_of_ble_eq_true rfl) (Sp.up (p7_as X _ _ _ hS hM) (Nat.le_of_ble_eq_true rfl)) ?_
  rintro _ _ ⟨rfl, m', rfl, hM'⟩
  refine G.brt rfl rfl ?_
  exact k _ m' _ (hc m') (hM'.mono (Nat.le_succ n))
theorem w_swap (hX : X.1 ≤ 3072) (hi : 6 * e + 6 ≤ X.1) (hn : n < 2 ^ 29) (hC : CI m s h) (hM : MR n m s) (k : ∀ s' m' h', CI m' s' h' → MR (n + 1) m' s' → G X 40 kL_law 1648 [.retAddr 2, .ref 0, .ref 81, .int (nI (6 * e))] [] h' Q) : G X 40 kL_law 494 [.retAddr 2, .ref 0, .ref 81, .int (nI (6 * e))] [] h Q := by
  have hS := hC.sok
  obtain ⟨fs, ho⟩ := hC.o
  iterate 5 (refine G.st rfl rfl ?_)
  refine G.xald rfl rfl (ixL (k := 1) hX hi (by omega)) ?_
  iterate 4 (refine G.st rfl rfl ?_)
  refine G.xald rfl rfl (ixL (k := 2) hX hi (by omega)) ?_
  iterate 4 (refine G.st rfl rfl ?_)
  refine G.xald rfl rfl (ixL (k := 3) hX hi (by omega)) ?_
  refine G.callv rfl rfl rfl (ho) (Nat.le_of_ble_eq_true rfl) rfl (Nat.le_of_ble_eq_true rfl) (Sp.up (p6_swap X _ _ _ hC) (Nat.le_of_ble_eq_true rfl)) ?_
  rintro _ h1 ⟨rfl, hC1⟩
  obtain ⟨c, rfl, hc⟩ := hC1.hr
  iterate 5 (refine G.st rfl rfl ?_)
  refine G.xald rfl rfl (ixL (k := 1) hX hi (by omega)) ?_
  iterate 4 (refine G.st rfl rfl ?_)
  refine G.xald rfl rfl (ixL (k := 2) hX hi (by omega)) ?_
  iterate 4 (refine G.st rfl rfl ?_)
  refine G.xald rfl rfl (ixL (k := 3) hX hi (by omega)) ?_
  refine G.call rfl rfl (Nat.le_of_ble_eq_true rfl) (Sp.up (p7_swap X _ _ _ hS hM) (Nat.le_of_ble_eq_true rfl)) ?_
  rintro _ _ ⟨rfl, m', rfl, hM'⟩
  refine G.brt rfl rfl ?_
  exact k _ m' _ (hc m') (hM'.mono (Nat.le_succ n))
theorem w_take (hX : X.1 ≤ 3072) (hi : 6 * e + 6 ≤ X.1) (hn : n < 2 ^ 29) (hC : CI m s h) (hM : MR n m s) (k : ∀ s' m' h', CI m' s' h' → MR (n + 1) m' s' → G X 40 kL_law 1648 [.retAddr 2, .ref 0, .ref 81, .int (nI (6 * e))] [] h' Q) : G X 40 kL_law 537 [.retAddr 2, .ref 0, .ref 81, .int (nI (6 * e))] [] h Q := by
  have hS := hC.sok
  obtain ⟨fs, ho⟩ := hC.o
  iterate 5 (refine G.st rfl rfl ?_)
  refine G.xald rfl rfl (ixL (k := 1) hX hi (by omega)) ?_
  refine G.callv rfl rfl rfl (ho) (Nat.le_of_ble_eq_true rfl) rfl (Nat.le_of_ble_eq_true rfl) (Sp.up (p6_take X _ hC) (Nat.le_of_ble_eq_true rfl)) ?_
  rintro _ h1 ⟨rfl, hC1⟩
  obtain ⟨c, rfl, hc⟩ := hC1.hr
  iterate 5 (refine G.st rfl rfl ?_)
  refine G.xald rfl rfl (ixL (k := 1) hX hi (by omega)) ?_
  refine G.call rfl rfl (Nat.le_of_ble_eq_true rfl) (Sp.up (p7_take X _ hS hM) (Nat.le_of_ble_eq_true rfl)) ?_
  rintro _ _ ⟨rfl, m', rfl, hM'⟩
  refine G.brt rfl rfl ?_
  exact k _ m' _ (hc m') (hM'.mono (Nat.le_succ n))
theorem w_like (hX : X.1 ≤ 3072) (hi : 6 * e + 6 ≤ X.1) (hn : n < 2 ^ 29) (hC : CI m s h) (hM : MR n m s) (k : ∀ s' m' h', CI m' s' h' → MR (n + 1) m' s' → G X 40 kL_law 1648 [.retAddr 2, .ref 0, .ref 81, .int (nI (6 * e))] [] h' Q) : G X 40 kL_law 560 [.retAddr 2, .ref 0, .ref 81, .int (nI (6 * e))] [] h Q := by
  have hS := hC.sok
  obtain ⟨fs, ho⟩ := hC.o
  iterate 5 (refine G.st rfl rfl ?_)
  refine G.xald rfl rfl (ixL (k := 1) hX hi (by omega)) ?_
  iterate 4 (refine G.st rfl rfl ?_)
  refine G.xald rfl rfl (ixL (k := 2) hX hi (by omega)) ?_
  refine G.callv rfl rfl rfl (ho) (Nat.le_of_ble_eq_true rfl) rfl (Nat.le_of_ble_eq_true rfl) (Sp.up (p6_like X _ _ hC) (Nat.le_of_ble_eq_true rfl)) ?_
  rintro _ h1 ⟨rfl, hC1⟩
  obtain ⟨c, rfl, hc⟩ := hC1.hr
  iterate 5 (refine G.st rfl rfl ?_)
  refine G.xald rfl rfl (ixL (k := 1) hX hi (by omega)) ?_
  iterate 4 (refine G.st rfl rfl ?_)
  refine G.xald rfl rfl (ixL (k := 2) hX hi (by omega)) ?_
  refine G.call rfl rfl (Nat.le_of_ble_eq_true rfl) (Sp.up (p7_like X _ _ hS hM) (Nat.le_of_ble_eq_true rfl)) ?_
  rintro _ _ ⟨rfl, m', rfl, hM'⟩
  refine G.brt rfl rfl ?_
  exact k _ m' _ (hc m') (hM'.mono (Nat.le_succ n))
theorem w_wind (hX : X.1 ≤ 3072) (hi : 6 * e + 6 ≤ X.1) (hn : n < 2 ^ 29) (hC : CI m s h) (hM : MR n m s) (k : ∀ s' m' h', CI m' s' h' → MR (n + 1) m' s' → G X 40 kL_law 1648 [.retAddr 2, .ref 0, .ref 81, .int (nI (6 * e))] [] h' Q) : G X 40 kL_law 593 [.retAddr 2, .ref 0, .ref 81, .int (nI (6 * e))] [] h Q := by
  have hS := hC.sok
  obtain ⟨fs, ho⟩ := hC.o
  iterate 5 (refine G.st rfl rfl ?_)
  refine G.xald rfl rfl (ixL (k := 1) hX hi (by omega)) ?_
  refine G.callv rfl rfl rfl (ho) (Nat.le_of_ble_eq_true rfl) rfl (Nat.le_of_ble_eq_true rfl) (Sp.up (p6_wind X _ hC) (Nat.le_of_ble_eq_true rfl)) ?_
  rintro _ h1 ⟨rfl, hC1⟩
  obtain ⟨c, rfl, hc⟩ := hC1.hr
  iterate 5 (refine G.st rfl rfl ?_)
  refine G.xald rfl rfl (ixL (k := 1) hX hi (by omega)) ?_
  refine G.call rfl rfl (Nat.le_of_ble_eq_true rfl) (Sp.up (p7_wind X _ hS hM) (Nat.le_of_ble_eq_true rfl)) ?_
  rintro _ _ ⟨rfl, m', rfl, hM'⟩
  refine G.brt rfl rfl ?_
  exact k _ m' _ (hc m') (hM'.mono (Nat.le_succ n))
theorem w_days (hX : X.1 ≤ 3072) (hi : 6 * e + 6 ≤ X.1) (hn : n < 2 ^ 29) (hC : CI m s h) (hM : MR n m s) (k : ∀ s' m' h', CI m' s' h' → MR (n + 1) m' s' → G X 40 kL_law 1648 [.retAddr 2, .ref 0, .ref 81, .int (nI (6 * e))] [] h' Q) : G X 40 kL_law 616 [.retAddr 2, .ref 0, .ref 81, .int (nI (6 * e))] [] h Q := by
  have hS := hC.sok
  obtain ⟨fs, ho⟩ := hC.o
  iterate 5 (refine G.st rfl rfl ?_)
  refine G.xald rfl rfl (ixL (k := 1) hX hi (by omega)) ?_
  refine G.callv rfl rfl rfl (ho) (Nat.le_of_ble_eq_true rfl) rfl (Nat.le_of_ble_eq_true rfl) (Sp.up (p6_days X _ hC) (Nat.le_of_ble_eq_true rfl)) ?_
  rintro _ h1 ⟨rfl, hC1⟩
  obtain ⟨c, rfl, hc⟩ := hC1.hr
  iterate 5 (refine G.st rfl rfl ?_)
  refine G.xald rfl rfl (ixL (k := 1) hX hi (by omega)) ?_
  refine G.call rfl rfl (Nat.le_of_ble_eq_true rfl) (Sp.up (p7_days X _ hS hM) (Nat.le_of_ble_eq_true rfl)) ?_
  rintro _ _ ⟨rfl, m', rfl, hM'⟩
  refine G.brt rfl rfl ?_
  exact k _ m' _ (hc m') (hM'.mono (Nat.le_succ n))
theorem w_means (hX : X.1 ≤ 3072) (hi : 6 * e + 6 ≤ X.1) (hn : n < 2 ^ 29) (hC : CI m s h) (hM : MR n m s) (k : ∀ s' m' h', CI m' s' h' → MR (n + 1) m' s' → G X 40 kL_law 1648 [.retAddr 2, .ref 0, .ref 81, .int (nI (6 * e))] [] h' Q) : G X 40 kL_law 639 [.retAddr 2, .ref 0, .ref 81, .int (nI (6 * e))] [] h Q := by
  have hS := hC.sok
  obtain ⟨fs, ho⟩ := hC.o
  iterate 5 (refine G.st rfl rfl ?_)
  refine G.xald rfl rfl (ixL (k := 1) hX hi (by omega)) ?_
  iterate 4 (refine G.st rfl rfl ?_)
  refine G.xald rfl rfl (ixL (k := 2) hX hi (by omega)) ?_
  refine G.callv rfl rfl rfl (ho) (Nat.le_of_ble_eq_true rfl) rfl (Nat.le_of_ble_eq_true rfl) (Sp.up (p6_means X _ _ hC) (Nat.le_of_ble_eq_true rfl)) ?_
  rintro _ h1 ⟨rfl, hC1⟩
  obtain ⟨c, rfl, hc⟩ := hC1.hr
  iterate 5 (refine G.st rfl rfl ?_)
  refine G.xald rfl rfl (ixL (k := 1) hX hi (by omega)) ?_
  iterate 4 (refine G.st rfl rfl ?_)
  refine G.xald rfl rfl (ixL (k := 2) hX hi (by omega)) ?_
  refine G.call rfl rfl (Nat.le_of_ble_eq_true rfl) (Sp.up (p7_means X _ _ hS hM) (Nat.le_of_ble_eq_true rfl)) ?_
  rintro _ _ ⟨rfl, m', rfl, hM'⟩
  refine G.brt rfl rfl ?_
  exact k _ m' _ (hc m') (hM'.mono (Nat.le_succ n))
theorem w_forget (hX : X.1 ≤ 3072) (hi : 6 * e + 6 ≤ X.1) (hn : n < 2 ^ 29) (hC : CI m s h) (hM : MR n m s) (k : ∀ s' m' h', CI m' s' h' → MR (n + 1) m' s' → G X 40 kL_law 1648 [.retAddr 2, .ref 0, .ref 81, .int (nI (6 * e))] [] h' Q) : G X 40 kL_law 672 [.retAddr 2, .ref 0, .ref 81, .int (nI (6 * e))] [] h Q := by
  have hS := hC.sok
  obtain ⟨fs, ho⟩ := hC.o
  iterate 5 (refine G.st rfl rfl ?_)
  refine G.xald rfl rfl (ixL (k := 1) hX hi (by omega)) ?_
  refine G.callv rfl rfl rfl (ho) (Nat.le_of_ble_eq_true rfl) rfl (Nat.le_of_ble_eq_true rfl) (Sp.up (p6_forget X _ hC) (Nat.le_of_ble_eq_true rfl)) ?_
  rintro _ h1 ⟨rfl, hC1⟩
  obtain ⟨c, rfl, hc⟩ := hC1.hr
  iterate 5 (refine G.st rfl rfl ?_)
  refine G.xald rfl rfl (ixL (k := 1) hX hi (by omega)) ?_
  refine G.call rfl rfl (Nat.le_of_ble_eq_true rfl) (Sp.up (p7_forget X _ hS hM) (Nat.le_of_ble_eq_true rfl)) ?_
  rintro _ _ ⟨rfl, m', rfl, hM'⟩
  refine G.brt rfl rfl ?_
  exact k _ m' _ (hc m') (hM'.mono (Nat.le_succ n))
theorem w_number (hX : X.1 ≤ 3072) (hi : 6 * e + 6 ≤ X.1) (hn : n < 2 ^ 29) (hC : CI m s h) (hM : MR n m s) (k : ∀ s' m' h', CI m' s' h' → MR (n + 1) m' s' → G X 40 kL_law 1648 [.retAddr 2, .ref 0, .ref 81, .int (nI (6 * e))] [] h' Q) : G X 40 kL_law 695 [.retAddr 2, .ref 0, .ref 81, .int (nI (6 * e))] [] h Q := by
  have hS := hC.sok
  obtain ⟨fs, ho⟩ := hC.o
  iterate 5 (refine G.st rfl rfl ?_)
  refine G.xald rfl rfl (ixL (k := 1) hX hi (by omega)) ?_
  refine G.callv rfl rfl rfl (ho) (Nat.le_of_ble_eq_true rfl) rfl (Nat.le_of_ble_eq_true rfl) (Sp.up (p6_number X _ hC) (Nat.le_of_ble_eq_true rfl)) ?_
  rintro _ h1 ⟨rfl, hC1⟩
  obtain ⟨c, rfl, hc⟩ := hC1.hr
  iterate 5 (refine G.st rfl rfl ?_)
  refine G.xald rfl rfl (ixL (k := 1) hX hi (by omega)) ?_
  refine G.call rfl rfl (Nat.le_of_ble_eq_true rfl) (Sp.up (p7_number X _ hS hM) (Nat.le_of_ble_eq_true rfl)) ?_
  rintro _ _ ⟨rfl, m', rfl, hM'⟩
  refine G.brt rfl rfl ?_
  exact k _ m' _ (hc m') (hM'.mono (Nat.le_succ n))
theorem w_read (hX : X.1 ≤ 3072) (hi : 6 * e + 6 ≤ X.1) (hn : n < 2 ^ 29) (hC : CI m s h) (hM : MR n m s) (k : ∀ s' m' h', CI m' s' h' → MR (n + 1) m' s' → G X 40 kL_law 1648 [.retAddr 2, .ref 0, .ref 81, .int (nI (6 * e))] [] h' Q) : G X 40 kL_law 718 [.retAddr 2, .ref 0, .ref 81, .int (nI (6 * e))] [] h Q := by
  have hS := hC.sok
  obtain ⟨fs, ho⟩ := hC.o
  iterate 5 (refine G.st rfl rfl ?_)
  refine G.xald rfl rfl (ixL (k := 1) hX hi (by omega)) ?_
  refine G.callv rfl rfl rfl (ho) (Nat.le_of_ble_eq_true rfl) rfl (Nat.le_of_ble_eq_true rfl) (Sp.up (p6_read X _ hC) (Nat.le_of_ble_eq_true rfl)) ?_
  rintro _ h1 ⟨rfl, hC1⟩
  obtain ⟨c, rfl, hc⟩ := hC1.hr
  iterate 5 (refine G.st rfl rfl ?_)
  refine G.xald rfl rfl (ixL (k := 1) hX hi (by omega)) ?_
  refine G.call rfl rfl (Nat.le_of_ble_eq_true rfl) (Sp.up (p7_read X _ hS hM) (Nat.le_of_ble_eq_true rfl)) ?_
  rintro _ _ ⟨rfl, m', rfl, hM'⟩
  refine G.brt rfl rfl ?_
  exact k _ m' _ (hc m') (hM'.mono (Nat.le_succ n))
theorem w_apart (hX : X.1 ≤ 3072) (hi : 6 * e + 6 ≤ X.1) (hn : n < 2 ^ 29) (hC : CI m s h) (hM : MR n m s) (k : ∀ s' m' h', CI m' s' h' → MR (n + 1) m' s' → G X 40 kL_law 1648 [.retAddr 2, .ref 0, .ref 81, .int (nI (6 * e))] [] h' Q) : G X 40 kL_law 741 [.retAddr 2, .ref 0, .ref 81, .int (nI (6 * e))] [] h Q := by
  have hS := hC.sok
  obtain ⟨fs, ho⟩ := hC.o
  iterate 1 (refine G.st rfl rfl ?_)
  refine G.callv rfl rfl rfl (ho) (Nat.le_of_ble_eq_true rfl) rfl (Nat.le_of_ble_eq_true rfl) (Sp.up (p6_apart X hC) (Nat.le_of_ble_eq_true rfl)) ?_
  rintro _ h1 ⟨rfl, hC1⟩
  obtain ⟨c, rfl, hc⟩ := hC1.hr
  iterate 1 (refine G.st rfl rfl ?_)
  refine G.call rfl rfl (Nat.le_of_ble_eq_true rfl) (Sp.up (p7_apart X hS hM) (Nat.le_of_ble_eq_true rfl)) ?_
  rintro _ _ ⟨rfl, m', rfl, hM'⟩
  refine G.brt rfl rfl ?_
  exact k _ m' _ (hc m') (hM'.mono (Nat.le_succ n))
theorem w_worth (hX : X.1 ≤ 3072) (hi : 6 * e + 6 ≤ X.1) (hn : n < 2 ^ 29) (hC : CI m s h) (hM : MR n m s) (k : ∀ s' m' h', CI m' s' h' → MR (n + 1) m' s' → G X 40 kL_law 1648 [.retAddr 2, .ref 0, .ref 81, .int (nI (6 * e))] [] h' Q) : G X 40 kL_law 754 [.retAddr 2, .ref 0, .ref 81, .int (nI (6 * e))] [] h Q := by
  have hS := hC.sok
  obtain ⟨fs, ho⟩ := hC.o
  iterate 5 (refine G.st rfl rfl ?_)
  refine G.xald rfl rfl (ixL (k := 1) hX hi (by omega)) ?_
  refine G.callv rfl rfl rfl (ho) (Nat.le_of_ble_eq_true rfl) rfl (Nat.le_of_ble_eq_true rfl) (Sp.up (p6_worth X _ hC) (Nat.le_of_ble_eq_true rfl)) ?_
  rintro _ h1 ⟨rfl, hC1⟩
  obtain ⟨c, rfl, hc⟩ := hC1.hr
  iterate 5 (refine G.st rfl rfl ?_)
  refine G.xald rfl rfl (ixL (k := 1) hX hi (by omega)) ?_
  refine G.call rfl rfl (Nat.le_of_ble_eq_true rfl) (Sp.up (p7_worth X _ hS hM) (Nat.le_of_ble_eq_true rfl)) ?_
  rintro _ _ ⟨rfl, m', rfl, hM'⟩
  refine G.brt rfl rfl ?_
  exact k _ m' _ (hc m') (hM'.mono (Nat.le_succ n))
theorem w_worthIn (hX : X.1 ≤ 3072) (hi : 6 * e + 6 ≤ X.1) (hn : n < 2 ^ 29) (hC : CI m s h) (hM : MR n m s) (k : ∀ s' m' h', CI m' s' h' → MR (n + 1) m' s' → G X 40 kL_law 1648 [.retAddr 2, .ref 0, .ref 81, .int (nI (6 * e))] [] h' Q) : G X 40 kL_law 777 [.retAddr 2, .ref 0, .ref 81, .int (nI (6 * e))] [] h Q := by
  have hS := hC.sok
  obtain ⟨fs, ho⟩ := hC.o
  iterate 5 (refine G.st rfl rfl ?_)
  refine G.xald rfl rfl (ixL (k := 1) hX hi (by omega)) ?_
  iterate 4 (refine G.st rfl rfl ?_)
  refine G.xald rfl rfl (ixL (k := 2) hX hi (by omega)) ?_
  refine G.callv rfl rfl rfl (ho) (Nat.le_of_ble_eq_true rfl) rfl (Nat.le_of_ble_eq_true rfl) (Sp.up (p6_worthIn X _ _ hC) (Nat.le_of_ble_eq_true rfl)) ?_
  rintro _ h1 ⟨rfl, hC1⟩
  obtain ⟨c, rfl, hc⟩ := hC1.hr
  iterate 5 (refine G.st rfl rfl ?_)
  refine G.xald rfl rfl (ixL (k := 1) hX hi (by omega)) ?_
  iterate 4 (refine G.st rfl rfl ?_)
  refine G.xald rfl rfl (ixL (k := 2) hX hi (by omega)) ?_
  refine G.call rfl rfl (Nat.le_of_ble_eq_true rfl) (Sp.up (p7_worthIn X _ _ hS hM) (Nat.le_of_ble_eq_true rfl)) ?_
  rintro _ _ ⟨rfl, m', rfl, hM'⟩
  refine G.brt rfl rfl ?_
  exact k _ m' _ (hc m') (hM'.mono (Nat.le_succ n))
theorem w_says (hX : X.1 ≤ 3072) (hi : 6 * e + 6 ≤ X.1) (hn : n < 2 ^ 29) (hC : CI m s h) (hM : MR n m s) (k : ∀ s' m' h', CI m' s' h' → MR (n + 1) m' s' → G X 40 kL_law 1648 [.retAddr 2, .ref 0, .ref 81, .int (nI (6 * e))] [] h' Q) : G X 40 kL_law 810 [.retAddr 2, .ref 0, .ref 81, .int (nI (6 * e))] [] h Q := by
  have hS := hC.sok
  obtain ⟨fs, ho⟩ := hC.o
  iterate 5 (refine G.st rfl rfl ?_)
  refine G.xald rfl rfl (ixL (k := 1) hX hi (by omega)) ?_
  refine G.callv rfl rfl rfl (ho) (Nat.le_of_ble_eq_true rfl) rfl (Nat.le_of_ble_eq_true rfl) (Sp.up (p6_says X _ hC) (Nat.le_of_ble_eq_true rfl)) ?_
  rintro _ h1 ⟨rfl, hC1⟩
  obtain ⟨c, rfl, hc⟩ := hC1.hr
  iterate 5 (refine G.st rfl rfl ?_)
  refine G.xald rfl rfl (ixL (k := 1) hX hi (by omega)) ?_
  refine G.call rfl rfl (Nat.le_of_ble_eq_true rfl) (Sp.up (p7_says X _ hS hM) (Nat.le_of_ble_eq_true rfl)) ?_
  rintro _ _ ⟨rfl, m', rfl, hM'⟩
  refine G.brt rfl rfl ?_
  exact k _ m' _ (hc m') (hM'.mono (Nat.le_succ n))
theorem w_winds (hX : X.1 ≤ 3072) (hi : 6 * e + 6 ≤ X.1) (hn : n < 2 ^ 29) (hC : CI m s h) (hM : MR n m s) (k : ∀ s' m' h', CI m' s' h' → MR (n + 1) m' s' → G X 40 kL_law 1648 [.retAddr 2, .ref 0, .ref 81, .int (nI (6 * e))] [] h' Q) : G X 40 kL_law 833 [.retAddr 2, .ref 0, .ref 81, .int (nI (6 * e))] [] h Q := by
  have hS := hC.sok
  obtain ⟨fs, ho⟩ := hC.o
  iterate 5 (refine G.st rfl rfl ?_)
  refine G.xald rfl rfl (ixL (k := 1) hX hi (by omega)) ?_
  refine G.callv rfl rfl rfl (ho) (Nat.le_of_ble_eq_true rfl) rfl (Nat.le_of_ble_eq_true rfl) (Sp.up (p6_winds X _ hC) (Nat.le_of_ble_eq_true rfl)) ?_
  rintro _ h1 ⟨rfl, hC1⟩
  obtain ⟨c, rfl, hc⟩ := hC1.hr
  iterate 5 (refine G.st rfl rfl ?_)
  refine G.xald rfl rfl (ixL (k := 1) hX hi (by omega)) ?_
  refine G.call rfl rfl (Nat.le_of_ble_eq_true rfl) (Sp.up (p7_winds X _ hS hM) (Nat.le_of_ble_eq_true rfl)) ?_
  rintro _ _ ⟨rfl, m', rfl, hM'⟩
  refine G.brt rfl rfl ?_
  exact k _ m' _ (hc m') (hM'.mono (Nat.le_succ n))
theorem w_lost (hX : X.1 ≤ 3072) (hi : 6 * e + 6 ≤ X.1) (hn : n < 2 ^ 29) (hC : CI m s h) (hM : MR n m s) (k : ∀ s' m' h', CI m' s' h' → MR (n + 1) m' s' → G X 40 kL_law 1648 [.retAddr 2, .ref 0, .ref 81, .int (nI (6 * e))] [] h' Q) : G X 40 kL_law 856 [.retAddr 2, .ref 0, .ref 81, .int (nI (6 * e))] [] h Q := by
  have hS := hC.sok
  obtain ⟨fs, ho⟩ := hC.o
  iterate 5 (refine G.st rfl rfl ?_)
  refine G.xald rfl rfl (ixL (k := 1) hX hi (by omega)) ?_
  refine G.callv rfl rfl rfl (ho) (Nat.le_of_ble_eq_true rfl) rfl (Nat.le_of_ble_eq_true rfl) (Sp.up (p6_lost X _ hC) (Nat.le_of_ble_eq_true rfl)) ?_
  rintro _ h1 ⟨rfl, hC1⟩
  obtain ⟨c, rfl, hc⟩ := hC1.hr
  iterate 5 (refine G.st rfl rfl ?_)
  refine G.xald rfl rfl (ixL (k := 1) hX hi (by omega)) ?_
  refine G.call rfl rfl (Nat.le_of_ble_eq_true rfl) (Sp.up (p7_lost X _ hS hM) (Nat.le_of_ble_eq_true rfl)) ?_
  rintro _ _ ⟨rfl, m', rfl, hM'⟩
  refine G.brt rfl rfl ?_
  exact k _ m' _ (hc m') (hM'.mono (Nat.le_succ n))
theorem w_fewest (hX : X.1 ≤ 3072) (hi : 6 * e + 6 ≤ X.1) (hn : n < 2 ^ 29) (hC : CI m s h) (hM : MR n m s) (k : ∀ s' m' h', CI m' s' h' → MR (n + 1) m' s' → G X 40 kL_law 1648 [.retAddr 2, .ref 0, .ref 81, .int (nI (6 * e))] [] h' Q) : G X 40 kL_law 879 [.retAddr 2, .ref 0, .ref 81, .int (nI (6 * e))] [] h Q := by
  have hS := hC.sok
  obtain ⟨fs, ho⟩ := hC.o
  iterate 5 (refine G.st rfl rfl ?_)
  refine G.xald rfl rfl (ixL (k := 1) hX hi (by omega)) ?_
  iterate 4 (refine G.st rfl rfl ?_)
  refine G.xald rfl rfl (ixL (k := 2) hX hi (by omega)) ?_
  refine G.callv rfl rfl rfl (ho) (Nat.le_of_ble_eq_true rfl) rfl (Nat.le_of_ble_eq_true rfl) (Sp.up (p6_fewest X _ _ hC) (Nat.le_of_ble_eq_true rfl)) ?_
  rintro _ h1 ⟨rfl, hC1⟩
  obtain ⟨c, rfl, hc⟩ := hC1.hr
  iterate 5 (refine G.st rfl rfl ?_)
  refine G.xald rfl rfl (ixL (k := 1) hX hi (by omega)) ?_
  iterate 4 (refine G.st rfl rfl ?_)
  refine G.xald rfl rfl (ixL (k := 2) hX hi (by omega)) ?_
  refine G.call rfl rfl (Nat.le_of_ble_eq_true rfl) (Sp.up (p7_fewest X _ _ hS hM) (Nat.le_of_ble_eq_true rfl)) ?_
  rintro _ _ ⟨rfl, m', rfl, hM'⟩
  refine G.brt rfl rfl ?_
  exact k _ m' _ (hc m') (hM'.mono (Nat.le_succ n))
theorem w_which (hX : X.1 ≤ 3072) (hi : 6 * e + 6 ≤ X.1) (hn : n < 2 ^ 29) (hC : CI m s h) (hM : MR n m s) (k : ∀ s' m' h', CI m' s' h' → MR (n + 1) m' s' → G X 40 kL_law 1648 [.retAddr 2, .ref 0, .ref 81, .int (nI (6 * e))] [] h' Q) : G X 40 kL_law 912 [.retAddr 2, .ref 0, .ref 81, .int (nI (6 * e))] [] h Q := by
  have hS := hC.sok
  obtain ⟨fs, ho⟩ := hC.o
  iterate 5 (refine G.st rfl rfl ?_)
  refine G.xald rfl rfl (ixL (k := 1) hX hi (by omega)) ?_
  iterate 4 (refine G.st rfl rfl ?_)
  refine G.xald rfl rfl (ixL (k := 2) hX hi (by omega)) ?_
  refine G.callv rfl rfl rfl (ho) (Nat.le_of_ble_eq_true rfl) rfl (Nat.le_of_ble_eq_true rfl) (Sp.up (p6_which X _ _ hC) (Nat.le_of_ble_eq_true rfl)) ?_
  rintro _ h1 ⟨rfl, hC1⟩
  obtain ⟨c, rfl, hc⟩ := hC1.hr
  iterate 5 (refine G.st rfl rfl ?_)
  refine G.xald rfl rfl (ixL (k := 1) hX hi (by omega)) ?_
  iterate 4 (refine G.st rfl rfl ?_)
  refine G.xald rfl rfl (ixL (k := 2) hX hi (by omega)) ?_
  refine G.call rfl rfl (Nat.le_of_ble_eq_true rfl) (Sp.up (p7_which X _ _ hS hM) (Nat.le_of_ble_eq_true rfl)) ?_
  rintro _ _ ⟨rfl, m', rfl, hM'⟩
  refine G.brt rfl rfl ?_
  exact k _ m' _ (hc m') (hM'.mono (Nat.le_succ n))
theorem w_more (hX : X.1 ≤ 3072) (hi : 6 * e + 6 ≤ X.1) (hn : n < 2 ^ 29) (hC : CI m s h) (hM : MR n m s) (k : ∀ s' m' h', CI m' s' h' → MR (n + 1) m' s' → G X 40 kL_law 1648 [.retAddr 2, .ref 0, .ref 81, .int (nI (6 * e))] [] h' Q) : G X 40 kL_law 945 [.retAddr 2, .ref 0, .ref 81, .int (nI (6 * e))] [] h Q := by
  have hS := hC.sok
  obtain ⟨fs, ho⟩ := hC.o
  iterate 5 (refine G.st rfl rfl ?_)
  refine G.xald rfl rfl (ixL (k := 1) hX hi (by omega)) ?_
  iterate 4 (refine G.st rfl rfl ?_)
  refine G.xald rfl rfl (ixL (k := 2) hX hi (by omega)) ?_
  refine G.callv rfl rfl rfl (ho) (Nat.le_of_ble_eq_true rfl) rfl (Nat.le_of_ble_eq_true rfl) (Sp.up (p6_more X _ _ hC) (Nat.le_of_ble_eq_true rfl)) ?_
  rintro _ h1 ⟨rfl, hC1⟩
  obtain ⟨c, rfl, hc⟩ := hC1.hr
  iterate 5 (refine G.st rfl rfl ?_)
  refine G.xald rfl rfl (ixL (k := 1) hX hi (by omega)) ?_
  iterate 4 (refine G.st rfl rfl ?_)
  refine G.xald rfl rfl (ixL (k := 2) hX hi (by omega)) ?_
  refine G.call rfl rfl (Nat.le_of_ble_eq_true rfl) (Sp.up (p7_more X _ _ hS hM) (Nat.le_of_ble_eq_true rfl)) ?_
  rintro _ _ ⟨rfl, m', rfl, hM'⟩
  refine G.brt rfl rfl ?_
  exact k _ m' _ (hc m') (hM'.mono (Nat.le_succ n))
theorem w_orders (hX : X.1 ≤ 3072) (hi : 6 * e + 6 ≤ X.1) (hn : n < 2 ^ 29) (hC : CI m s h) (hM : MR n m s) (k : ∀ s' m' h', CI m' s' h' → MR (n + 1) m' s' → G X 40 kL_law 1648 [.retAddr 2, .ref 0, .ref 81, .int (nI (6 * e))] [] h' Q) : G X 40 kL_law 978 [.retAddr 2, .ref 0, .ref 81, .int (nI (6 * e))] [] h Q := by
  have hS := hC.sok
  obtain ⟨fs, ho⟩ := hC.o
  iterate 5 (refine G.st rfl rfl ?_)
  refine G.xald rfl rfl (ixL (k := 1) hX hi (by omega)) ?_
  iterate 4 (refine G.st rfl rfl ?_)
  refine G.xald rfl rfl (ixL (k := 2) hX hi (by omega)) ?_
  refine G.callv rfl rfl rfl (ho) (Nat.le_of_ble_eq_true rfl) rfl (Nat.le_of_ble_eq_true rfl) (Sp.up (p6_orders X _ _ hC) (Nat.le_of_ble_eq_true rfl)) ?_
  rintro _ h1 ⟨rfl, hC1⟩
  obtain ⟨c, rfl, hc⟩ := hC1.hr
  iterate 5 (refine G.st rfl rfl ?_)
  refine G.xald rfl rfl (ixL (k := 1) hX hi (by omega)) ?_
  iterate 4 (refine G.st rfl rfl ?_)
  refine G.xald rfl rfl (ixL (k := 2) hX hi (by omega)) ?_
  refine G.call rfl rfl (Nat.le_of_ble_eq_true rfl) (Sp.up (p7_orders X _ _ hS hM) (Nat.le_of_ble_eq_true rfl)) ?_
  rintro _ _ ⟨rfl, m', rfl, hM'⟩
  refine G.brt rfl rfl ?_
  exact k _ m' _ (hc m') (hM'.mono (Nat.le_succ n))
theorem w_most (hX : X.1 ≤ 3072) (hi : 6 * e + 6 ≤ X.1) (hn : n < 2 ^ 29) (hC : CI m s h) (hM : MR n m s) (k : ∀ s' m' h', CI m' s' h' → MR (n + 1) m' s' → G X 40 kL_law 1648 [.retAddr 2, .ref 0, .ref 81, .int (nI (6 * e))] [] h' Q) : G X 40 kL_law 1011 [.retAddr 2, .ref 0, .ref 81, .int (nI (6 * e))] [] h Q := by
  have hS := hC.sok
  obtain ⟨fs, ho⟩ := hC.o
  iterate 5 (refine G.st rfl rfl ?_)
  refine G.xald rfl rfl (ixL (k := 1) hX hi (by omega)) ?_
  refine G.callv rfl rfl rfl (ho) (Nat.le_of_ble_eq_true rfl) rfl (Nat.le_of_ble_eq_true rfl) (Sp.up (p6_most X _ hC) (Nat.le_of_ble_eq_true rfl)) ?_
  rintro _ h1 ⟨rfl, hC1⟩
  obtain ⟨c, rfl, hc⟩ := hC1.hr
  iterate 5 (refine G.st rfl rfl ?_)
  refine G.xald rfl rfl (ixL (k := 1) hX hi (by omega)) ?_
  refine G.call rfl rfl (Nat.le_of_ble_eq_true rfl) (Sp.up (p7_most X _ hS hM) (Nat.le_of_ble_eq_true rfl)) ?_
  rintro _ _ ⟨rfl, m', rfl, hM'⟩
  refine G.brt rfl rfl ?_
  exact k _ m' _ (hc m') (hM'.mono (Nat.le_succ n))
theorem w_least (hX : X.1 ≤ 3072) (hi : 6 * e + 6 ≤ X.1) (hn : n < 2 ^ 29) (hC : CI m s h) (hM : MR n m s) (k : ∀ s' m' h', CI m' s' h' → MR (n + 1) m' s' → G X 40 kL_law 1648 [.retAddr 2, .ref 0, .ref 81, .int (nI (6 * e))] [] h' Q) : G X 40 kL_law 1034 [.retAddr 2, .ref 0, .ref 81, .int (nI (6 * e))] [] h Q := by
  have hS := hC.sok
  obtain ⟨fs, ho⟩ := hC.o
  iterate 5 (refine G.st rfl rfl ?_)
  refine G.xald rfl rfl (ixL (k := 1) hX hi (by omega)) ?_
  refine G.callv rfl rfl rfl (ho) (Nat.le_of_ble_eq_true rfl) rfl (Nat.le_of_ble_eq_true rfl) (Sp.up (p6_least X _ hC) (Nat.le_of_ble_eq_true rfl)) ?_
  rintro _ h1 ⟨rfl, hC1⟩
  obtain ⟨c, rfl, hc⟩ := hC1.hr
  iterate 5 (refine G.st rfl rfl ?_)
  refine G.xald rfl rfl (ixL (k := 1) hX hi (by omega)) ?_
  refine G.call rfl rfl (Nat.le_of_ble_eq_true rfl) (Sp.up (p7_least X _ hS hM) (Nat.le_of_ble_eq_true rfl)) ?_
  rintro _ _ ⟨rfl, m', rfl, hM'⟩
  refine G.brt rfl rfl ?_
  exact k _ m' _ (hc m') (hM'.mono (Nat.le_succ n))
theorem w_order (hX : X.1 ≤ 3072) (hi : 6 * e + 6 ≤ X.1) (hn : n < 2 ^ 29) (hC : CI m s h) (hM : MR n m s) (k : ∀ s' m' h', CI m' s' h' → MR (n + 1) m' s' → G X 40 kL_law 1648 [.retAddr 2, .ref 0, .ref 81, .int (nI (6 * e))] [] h' Q) : G X 40 kL_law 1057 [.retAddr 2, .ref 0, .ref 81, .int (nI (6 * e))] [] h Q := by
  have hS := hC.sok
  obtain ⟨fs, ho⟩ := hC.o
  iterate 5 (refine G.st rfl rfl ?_)
  refine G.xald rfl rfl (ixL (k := 1) hX hi (by omega)) ?_
  iterate 4 (refine G.st rfl rfl ?_)
  refine G.xald rfl rfl (ixL (k := 2) hX hi (by omega)) ?_
  refine G.callv rfl rfl rfl (ho) (Nat.le_of_ble_eq_true rfl) rfl (Nat.le_of_ble_eq_true rfl) (Sp.up (p6_order X _ _ hC) (Nat.le_of_ble_eq_true rfl)) ?_
  rintro _ h1 ⟨rfl, hC1⟩
  obtain ⟨c, rfl, hc⟩ := hC1.hr
  iterate 5 (refine G.st rfl rfl ?_)
  refine G.xald rfl rfl (ixL (k := 1) hX hi (by omega)) ?_
  iterate 4 (refine G.st rfl rfl ?_)
  refine G.xald rfl rfl (ixL (k := 2) hX hi (by omega)) ?_
  refine G.call rfl rfl (Nat.le_of_ble_eq_true rfl) (Sp.up (p7_order X _ _ hS hM) (Nat.le_of_ble_eq_true rfl)) ?_
  rintro _ _ ⟨rfl, m', rfl, hM'⟩
  refine G.brt rfl rfl ?_
  exact k _ m' _ (hc m') (hM'.mono (Nat.le_succ n))
theorem w_worths (hX : X.1 ≤ 3072) (hi : 6 * e + 6 ≤ X.1) (hn : n < 2 ^ 29) (hC : CI m s h) (hM : MR n m s) (k : ∀ s' m' h', CI m' s' h' → MR (n + 1) m' s' → G X 40 kL_law 1648 [.retAddr 2, .ref 0, .ref 81, .int (nI (6 * e))] [] h' Q) : G X 40 kL_law 1090 [.retAddr 2, .ref 0, .ref 81, .int (nI (6 * e))] [] h Q := by
  have hS := hC.sok
  obtain ⟨fs, ho⟩ := hC.o
  iterate 5 (refine G.st rfl rfl ?_)
  refine G.xald rfl rfl (ixL (k := 1) hX hi (by omega)) ?_
  refine G.callv rfl rfl rfl (ho) (Nat.le_of_ble_eq_true rfl) rfl (Nat.le_of_ble_eq_true rfl) (Sp.up (p6_worths X _ hC) (Nat.le_of_ble_eq_true rfl)) ?_
  rintro _ h1 ⟨rfl, hC1⟩
  obtain ⟨c, rfl, hc⟩ := hC1.hr
  iterate 5 (refine G.st rfl rfl ?_)
  refine G.xald rfl rfl (ixL (k := 1) hX hi (by omega)) ?_
  refine G.call rfl rfl (Nat.le_of_ble_eq_true rfl) (Sp.up (p7_worths X _ hS hM hn) (Nat.le_of_ble_eq_true rfl)) ?_
  rintro _ _ ⟨rfl, m', rfl, hM'⟩
  refine G.brt rfl rfl ?_
  exact k _ m' _ (hc m') hM'
theorem w_can (hX : X.1 ≤ 3072) (hi : 6 * e + 6 ≤ X.1) (hn : n < 2 ^ 29) (hC : CI m s h) (hM : MR n m s) (k : ∀ s' m' h', CI m' s' h' → MR (n + 1) m' s' → G X 40 kL_law 1648 [.retAddr 2, .ref 0, .ref 81, .int (nI (6 * e))] [] h' Q) : G X 40 kL_law 1113 [.retAddr 2, .ref 0, .ref 81, .int (nI (6 * e))] [] h Q := by
  have hS := hC.sok
  obtain ⟨fs, ho⟩ := hC.o
  iterate 5 (refine G.st rfl rfl ?_)
  refine G.xald rfl rfl (ixL (k := 1) hX hi (by omega)) ?_
  refine G.callv rfl rfl rfl (ho) (Nat.le_of_ble_eq_true rfl) rfl (Nat.le_of_ble_eq_true rfl) (Sp.up (p6_can X _ hC) (Nat.le_of_ble_eq_true rfl)) ?_
  rintro _ h1 ⟨rfl, hC1⟩
  obtain ⟨c, rfl, hc⟩ := hC1.hr
  iterate 5 (refine G.st rfl rfl ?_)
  refine G.xald rfl rfl (ixL (k := 1) hX hi (by omega)) ?_
  refine G.call rfl rfl (Nat.le_of_ble_eq_true rfl) (Sp.up (p7_can X _ hS hM) (Nat.le_of_ble_eq_true rfl)) ?_
  rintro _ _ ⟨rfl, m', rfl, hM'⟩
  refine G.brt rfl rfl ?_
  exact k _ m' _ (hc m') (hM'.mono (Nat.le_succ n))
theorem w_join (hX : X.1 ≤ 3072) (hi : 6 * e + 6 ≤ X.1) (hn : n < 2 ^ 29) (hC : CI m s h) (hM : MR n m s) (k : ∀ s' m' h', CI m' s' h' → MR (n + 1) m' s' → G X 40 kL_law 1648 [.retAddr 2, .ref 0, .ref 81, .int (nI (6 * e))] [] h' Q) : G X 40 kL_law 1136 [.retAddr 2, .ref 0, .ref 81, .int (nI (6 * e))] [] h Q := by
  have hS := hC.sok
  obtain ⟨fs, ho⟩ := hC.o
  iterate 5 (refine G.st rfl rfl ?_)
  refine G.xald rfl rfl (ixL (k := 1) hX hi (by omega)) ?_
  iterate 4 (refine G.st rfl rfl ?_)
  refine G.xald rfl rfl (ixL (k := 2) hX hi (by omega)) ?_
  refine G.callv rfl rfl rfl (ho) (Nat.le_of_ble_eq_true rfl) rfl (Nat.le_of_ble_eq_true rfl) (Sp.up (p6_join X _ _ hC) (Nat.le_of_ble_eq_true rfl)) ?_
  rintro _ h1 ⟨rfl, hC1⟩
  obtain ⟨c, rfl, hc⟩ := hC1.hr
  iterate 5 (refine G.st rfl rfl ?_)
  refine G.xald rfl rfl (ixL (k := 1) hX hi (by omega)) ?_
  iterate 4 (refine G.st rfl rfl ?_)
  refine G.xald rfl rfl (ixL (k := 2) hX hi (by omega)) ?_
  refine G.call rfl rfl (Nat.le_of_ble_eq_true rfl) (Sp.up (p7_join X _ _ hS hM) (Nat.le_of_ble_eq_true rfl)) ?_
  rintro _ _ ⟨rfl, m', rfl, hM'⟩
  refine G.brt rfl rfl ?_
  exact k _ m' _ (hc m') (hM'.mono (Nat.le_succ n))
theorem w_same (hX : X.1 ≤ 3072) (hi : 6 * e + 6 ≤ X.1) (hn : n < 2 ^ 29) (hC : CI m s h) (hM : MR n m s) (k : ∀ s' m' h', CI m' s' h' → MR (n + 1) m' s' → G X 40 kL_law 1648 [.retAddr 2, .ref 0, .ref 81, .int (nI (6 * e))] [] h' Q) : G X 40 kL_law 1169 [.retAddr 2, .ref 0, .ref 81, .int (nI (6 * e))] [] h Q := by
  have hS := hC.sok
  obtain ⟨fs, ho⟩ := hC.o
  iterate 5 (refine G.st rfl rfl ?_)
  refine G.xald rfl rfl (ixL (k := 1) hX hi (by omega)) ?_
  iterate 4 (refine G.st rfl rfl ?_)
  refine G.xald rfl rfl (ixL (k := 2) hX hi (by omega)) ?_
  refine G.callv rfl rfl rfl (ho) (Nat.le_of_ble_eq_true rfl) rfl (Nat.le_of_ble_eq_true rfl) (Sp.up (p6_same X _ _ hC) (Nat.le_of_ble_eq_true rfl)) ?_
  rintro _ h1 ⟨rfl, hC1⟩
  obtain ⟨c, rfl, hc⟩ := hC1.hr
  iterate 5 (refine G.st rfl rfl ?_)
  refine G.xald rfl rfl (ixL (k := 1) hX hi (by omega)) ?_
  iterate 4 (refine G.st rfl rfl ?_)
  refine G.xald rfl rfl (ixL (k := 2) hX hi (by omega)) ?_
  refine G.call rfl rfl (Nat.le_of_ble_eq_true rfl) (Sp.up (p7_same X _ _ hS hM) (Nat.le_of_ble_eq_true rfl)) ?_
  rintro _ _ ⟨rfl, m', rfl, hM'⟩
  refine G.brt rfl rfl ?_
  exact k _ m' _ (hc m') (hM'.mono (Nat.le_succ n))
theorem w_best (hX : X.1 ≤ 3072) (hi : 6 * e + 6 ≤ X.1) (hn : n < 2 ^ 29) (hC : CI m s h) (hM : MR n m s) (k : ∀ s' m' h', CI m' s' h' → MR (n + 1) m' s' → G X 40 kL_law 1648 [.retAddr 2, .ref 0, .ref 81, .int (nI (6 * e))] [] h' Q) : G X 40 kL_law 1202 [.retAddr 2, .ref 0, .ref 81, .int (nI (6 * e))] [] h Q := by
  have hS := hC.sok
  obtain ⟨fs, ho⟩ := hC.o
  iterate 5 (refine G.st rfl rfl ?_)
  refine G.xald rfl rfl (ixL (k := 1) hX hi (by omega)) ?_
  refine G.callv rfl rfl rfl (ho) (Nat.le_of_ble_eq_true rfl) rfl (Nat.le_of_ble_eq_true rfl) (Sp.up (p6_best X _ hC) (Nat.le_of_ble_eq_true rfl)) ?_
  rintro _ h1 ⟨rfl, hC1⟩
  obtain ⟨c, rfl, hc⟩ := hC1.hr
  iterate 5 (refine G.st rfl rfl ?_)
  refine G.xald rfl rfl (ixL (k := 1) hX hi (by omega)) ?_
  refine G.call rfl rfl (Nat.le_of_ble_eq_true rfl) (Sp.up (p7_best X _ hS hM) (Nat.le_of_ble_eq_true rfl)) ?_
  rintro _ _ ⟨rfl, m', rfl, hM'⟩
  refine G.brt rfl rfl ?_
  exact k _ m' _ (hc m') (hM'.mono (Nat.le_succ n))
theorem w_feed (hX : X.1 ≤ 3072) (hi : 6 * e + 6 ≤ X.1) (hn : n < 2 ^ 29) (hC : CI m s h) (hM : MR n m s) (k : ∀ s' m' h', CI m' s' h' → MR (n + 1) m' s' → G X 40 kL_law 1648 [.retAddr 2, .ref 0, .ref 81, .int (nI (6 * e))] [] h' Q) : G X 40 kL_law 1225 [.retAddr 2, .ref 0, .ref 81, .int (nI (6 * e))] [] h Q := by
  have hS := hC.sok
  obtain ⟨fs, ho⟩ := hC.o
  iterate 5 (refine G.st rfl rfl ?_)
  refine G.xald rfl rfl (ixL (k := 1) hX hi (by omega)) ?_
  iterate 4 (refine G.st rfl rfl ?_)
  refine G.xald rfl rfl (ixL (k := 2) hX hi (by omega)) ?_
  refine G.callv rfl rfl rfl (ho) (Nat.le_of_ble_eq_true rfl) rfl (Nat.le_of_ble_eq_true rfl) (Sp.up (p6_feed X _ _ hC) (Nat.le_of_ble_eq_true rfl)) ?_
  rintro _ h1 ⟨rfl, hC1⟩
  obtain ⟨c, rfl, hc⟩ := hC1.hr
  iterate 5 (refine G.st rfl rfl ?_)
  refine G.xald rfl rfl (ixL (k := 1) hX hi (by omega)) ?_
  iterate 4 (refine G.st rfl rfl ?_)
  refine G.xald rfl rfl (ixL (k := 2) hX hi (by omega)) ?_
  refine G.call rfl rfl (Nat.le_of_ble_eq_true rfl) (Sp.up (p7_feed X _ _ hS hM) (Nat.le_of_ble_eq_true rfl)) ?_
  rintro _ _ ⟨rfl, m', rfl, hM'⟩
  refine G.brt rfl rfl ?_
  exact k _ m' _ (hc m') (hM'.mono (Nat.le_succ n))
theorem w_wipe (hX : X.1 ≤ 3072) (hi : 6 * e + 6 ≤ X.1) (hn : n < 2 ^ 29) (hC : CI m s h) (hM : MR n m s) (k : ∀ s' m' h', CI m' s' h' → MR (n + 1) m' s' → G X 40 kL_law 1648 [.retAddr 2, .ref 0, .ref 81, .int (nI (6 * e))] [] h' Q) : G X 40 kL_law 1258 [.retAddr 2, .ref 0, .ref 81, .int (nI (6 * e))] [] h Q := by
  have hS := hC.sok
  obtain ⟨fs, ho⟩ := hC.o
  iterate 1 (refine G.st rfl rfl ?_)
  refine G.callv rfl rfl rfl (ho) (Nat.le_of_ble_eq_true rfl) rfl (Nat.le_of_ble_eq_true rfl) (Sp.up (p6_wipe X hC) (Nat.le_of_ble_eq_true rfl)) ?_
  rintro _ h1 ⟨rfl, hC1⟩
  obtain ⟨c, rfl, hc⟩ := hC1.hr
  iterate 1 (refine G.st rfl rfl ?_)
  refine G.call rfl rfl (Nat.le_of_ble_eq_true rfl) (Sp.up (p7_wipe X hS hM) (Nat.le_of_ble_eq_true rfl)) ?_
  rintro _ _ ⟨rfl, m', rfl, hM'⟩
  refine G.brt rfl rfl ?_
  exact k _ m' _ (hc m') (hM'.mono (Nat.le_succ n))
theorem w_town (hX : X.1 ≤ 3072) (hi : 6 * e + 6 ≤ X.1) (hn : n < 2 ^ 29) (hC : CI m s h) (hM : MR n m s) (k : ∀ s' m' h', CI m' s' h' → MR (n + 1) m' s' → G X 40 kL_law 1648 [.retAddr 2, .ref 0, .ref 81, .int (nI (6 * e))] [] h' Q) : G X 40 kL_law 1271 [.retAddr 2, .ref 0, .ref 81, .int (nI (6 * e))] [] h Q := by
  have hS := hC.sok
  obtain ⟨fs, ho⟩ := hC.o
  iterate 1 (refine G.st rfl rfl ?_)
  refine G.callv rfl rfl rfl (ho) (Nat.le_of_ble_eq_true rfl) rfl (Nat.le_of_ble_eq_true rfl) (Sp.up (p6_town X hC) (Nat.le_of_ble_eq_true rfl)) ?_
  rintro _ h1 ⟨rfl, hC1⟩
  obtain ⟨c, rfl, hc⟩ := hC1.hr
  iterate 1 (refine G.st rfl rfl ?_)
  refine G.call rfl rfl (Nat.le_of_ble_eq_true rfl) (Sp.up (p7_town X hS hM) (Nat.le_of_ble_eq_true rfl)) ?_
  rintro _ _ ⟨rfl, m', rfl, hM'⟩
  refine G.brt rfl rfl ?_
  exact k _ m' _ (hc m') (hM'.mono (Nat.le_succ n))
theorem w_sheet (hX : X.1 ≤ 3072) (hi : 6 * e + 6 ≤ X.1) (hn : n < 2 ^ 29) (hC : CI m s h) (hM : MR n m s) (k : ∀ s' m' h', CI m' s' h' → MR (n + 1) m' s' → G X 40 kL_law 1648 [.retAddr 2, .ref 0, .ref 81, .int (nI (6 * e))] [] h' Q) : G X 40 kL_law 1284 [.retAddr 2, .ref 0, .ref 81, .int (nI (6 * e))] [] h Q := by
  have hS := hC.sok
  obtain ⟨fs, ho⟩ := hC.o
  iterate 5 (refine G.st rfl rfl ?_)
  refine G.xald rfl rfl (ixL (k := 1) hX hi (by omega)) ?_
  iterate 4 (refine G.st rfl rfl ?_)
  refine G.xald rfl rfl (ixL (k := 2) hX hi (by omega)) ?_
  iterate 4 (refine G.st rfl rfl ?_)
  refine G.xald rfl rfl (ixL (k := 3) hX hi (by omega)) ?_
  refine G.callv rfl rfl rfl (ho) (Nat.le_of_ble_eq_true rfl) rfl (Nat.le_of_ble_eq_true rfl) (Sp.up (p6_sheet X _ _ _ hC) (Nat.le_of_ble_eq_true rfl)) ?_
  rintro _ h1 ⟨rfl, hC1⟩
  obtain ⟨c, rfl, hc⟩ := hC1.hr
  iterate 5 (refine G.st rfl rfl ?_)
  refine G.xald rfl rfl (ixL (k := 1) hX hi (by omega)) ?_
  iterate 4 (refine G.st rfl rfl ?_)
  refine G.xald rfl rfl (ixL (k := 2) hX hi (by omega)) ?_
  iterate 4 (refine G.st rfl rfl ?_)
  refine G.xald rfl rfl (ixL (k := 3) hX hi (by omega)) ?_
  refine G.call rfl rfl (Nat.le_of_ble_eq_true rfl) (Sp.up (p7_sheet X _ _ _ hS hM) (Nat.le_of_ble_eq_true rfl)) ?_
  rintro _ _ ⟨rfl, m', rfl, hM'⟩
  refine G.brt rfl rfl ?_
  exact k _ m' _ (hc m') (hM'.mono (Nat.le_succ n))
theorem w_write (hX : X.1 ≤ 3072) (hi : 6 * e + 6 ≤ X.1) (hn : n < 2 ^ 29) (hC : CI m s h) (hM : MR n m s) (k : ∀ s' m' h', CI m' s' h' → MR (n + 1) m' s' → G X 40 kL_law 1648 [.retAddr 2, .ref 0, .ref 81, .int (nI (6 * e))] [] h' Q) : G X 40 kL_law 1327 [.retAddr 2, .ref 0, .ref 81, .int (nI (6 * e))] [] h Q := by
  have hS := hC.sok
  obtain ⟨fs, ho⟩ := hC.o
  iterate 5 (refine G.st rfl rfl ?_)
  refine G.xald rfl rfl (ixL (k := 1) hX hi (by omega)) ?_
  iterate 4 (refine G.st rfl rfl ?_)
  refine G.xald rfl rfl (ixL (k := 2) hX hi (by omega)) ?_
  iterate 4 (refine G.st rfl rfl ?_)
  refine G.xald rfl rfl (ixL (k := 3) hX hi (by omega)) ?_
  iterate 7 (refine G.st rfl rfl ?_)
  refine G.xald rfl rfl (ixL (k := 4) hX hi (by omega)) ?_
  iterate 4 (refine G.st rfl rfl ?_)
  refine G.callv rfl rfl rfl (ho) (Nat.le_of_ble_eq_true rfl) rfl (Nat.le_of_ble_eq_true rfl) (Sp.up (p6_write X _ _ _ hC) (Nat.le_of_ble_eq_true rfl)) ?_
  rintro _ h1 ⟨rfl, hC1⟩
  obtain ⟨c, rfl, hc⟩ := hC1.hr
  iterate 5 (refine G.st rfl rfl ?_)
  refine G.xald rfl rfl (ixL (k := 1) hX hi (by omega)) ?_
  iterate 4 (refine G.st rfl rfl ?_)
  refine G.xald rfl rfl (ixL (k := 2) hX hi (by omega)) ?_
  iterate 4 (refine G.st rfl rfl ?_)
  refine G.xald rfl rfl (ixL (k := 3) hX hi (by omega)) ?_
  iterate 7 (refine G.st rfl rfl ?_)
  refine G.xald rfl rfl (ixL (k := 4) hX hi (by omega)) ?_
  iterate 4 (refine G.st rfl rfl ?_)
  refine G.call rfl rfl (Nat.le_of_ble_eq_true rfl) (Sp.up (p7_write X _ _ _ hS hM) (Nat.le_of_ble_eq_true rfl)) ?_
  rintro _ _ ⟨rfl, m', rfl, hM'⟩
  iterate 1 (refine G.st rfl rfl ?_)
  refine G.brt rfl lcmp_s ?_
  exact k _ m' _ (hc m') (hM'.mono (Nat.le_succ n))
theorem w_copy (hX : X.1 ≤ 3072) (hi : 6 * e + 6 ≤ X.1) (hn : n < 2 ^ 29) (hC : CI m s h) (hM : MR n m s) (k : ∀ s' m' h', CI m' s' h' → MR (n + 1) m' s' → G X 40 kL_law 1648 [.retAddr 2, .ref 0, .ref 81, .int (nI (6 * e))] [] h' Q) : G X 40 kL_law 1401 [.retAddr 2, .ref 0, .ref 81, .int (nI (6 * e))] [] h Q := by
  have hS := hC.sok
  obtain ⟨fs, ho⟩ := hC.o
  iterate 5 (refine G.st rfl rfl ?_)
  refine G.xald rfl rfl (ixL (k := 1) hX hi (by omega)) ?_
  iterate 4 (refine G.st rfl rfl ?_)
  refine G.xald rfl rfl (ixL (k := 2) hX hi (by omega)) ?_
  iterate 4 (refine G.st rfl rfl ?_)
  refine G.xald rfl rfl (ixL (k := 3) hX hi (by omega)) ?_
  iterate 4 (refine G.st rfl rfl ?_)
  refine G.xald rfl rfl (ixL (k := 4) hX hi (by omega)) ?_
  iterate 4 (refine G.st rfl rfl ?_)
  refine G.xald rfl rfl (ixL (k := 5) hX hi (by omega)) ?_
  refine G.callv rfl rfl rfl (ho) (Nat.le_of_ble_eq_true rfl) rfl (Nat.le_of_ble_eq_true rfl) (Sp.up (p6_copy X _ _ _ _ _ hC) (Nat.le_of_ble_eq_true rfl)) ?_
  rintro _ h1 ⟨rfl, hC1⟩
  obtain ⟨c, rfl, hc⟩ := hC1.hr
  iterate 5 (refine G.st rfl rfl ?_)
  refine G.xald rfl rfl (ixL (k := 1) hX hi (by omega)) ?_
  iterate 4 (refine G.st rfl rfl ?_)
  refine G.xald rfl rfl (ixL (k := 2) hX hi (by omega)) ?_
  iterate 4 (refine G.st rfl rfl ?_)
  refine G.xald rfl rfl (ixL (k := 3) hX hi (by omega)) ?_
  iterate 4 (refine G.st rfl rfl ?_)
  refine G.xald rfl rfl (ixL (k := 4) hX hi (by omega)) ?_
  iterate 4 (refine G.st rfl rfl ?_)
  refine G.xald rfl rfl (ixL (k := 5) hX hi (by omega)) ?_
  refine G.call rfl rfl (Nat.le_of_ble_eq_true rfl) (Sp.up (p7_copy X _ _ _ _ _ hS hM) (Nat.le_of_ble_eq_true rfl)) ?_
  rintro _ _ ⟨rfl, m', rfl, hM'⟩
  refine G.brt rfl rfl ?_
  exact k _ m' _ (hc m') (hM'.mono (Nat.le_succ n))
theorem w_lays (hX : X.1 ≤ 3072) (hi : 6 * e + 6 ≤ X.1) (hn : n < 2 ^ 29) (hC : CI m s h) (hM : MR n m s) (k : ∀ s' m' h', CI m' s' h' → MR (n + 1) m' s' → G X 40 kL_law 1648 [.retAddr 2, .ref 0, .ref 81, .int (nI (6 * e))] [] h' Q) : G X 40 kL_law 1464 [.retAddr 2, .ref 0, .ref 81, .int (nI (6 * e))] [] h Q := by
  have hS := hC.sok
  obtain ⟨fs, ho⟩ := hC.o
  iterate 5 (refine G.st rfl rfl ?_)
  refine G.xald rfl rfl (ixL (k := 1) hX hi (by omega)) ?_
  iterate 4 (refine G.st rfl rfl ?_)
  refine G.xald rfl rfl (ixL (k := 2) hX hi (by omega)) ?_
  refine G.callv rfl rfl rfl (ho) (Nat.le_of_ble_eq_true rfl) rfl (Nat.le_of_ble_eq_true rfl) (Sp.up (p6_lays X _ _ hC) (Nat.le_of_ble_eq_true rfl)) ?_
  rintro _ h1 ⟨rfl, hC1⟩
  obtain ⟨c, rfl, hc⟩ := hC1.hr
  iterate 5 (refine G.st rfl rfl ?_)
  refine G.xald rfl rfl (ixL (k := 1) hX hi (by omega)) ?_
  iterate 4 (refine G.st rfl rfl ?_)
  refine G.xald rfl rfl (ixL (k := 2) hX hi (by omega)) ?_
  refine G.call rfl rfl (Nat.le_of_ble_eq_true rfl) (Sp.up (p7_lays X _ _ hS hM) (Nat.le_of_ble_eq_true rfl)) ?_
  rintro _ _ ⟨rfl, m', rfl, hM'⟩
  refine G.brt rfl rfl ?_
  exact k _ m' _ (hc m') (hM'.mono (Nat.le_succ n))
theorem w_show (hX : X.1 ≤ 3072) (hi : 6 * e + 6 ≤ X.1) (hn : n < 2 ^ 29) (hC : CI m s h) (hM : MR n m s) (k : ∀ s' m' h', CI m' s' h' → MR (n + 1) m' s' → G X 40 kL_law 1648 [.retAddr 2, .ref 0, .ref 81, .int (nI (6 * e))] [] h' Q) : G X 40 kL_law 1497 [.retAddr 2, .ref 0, .ref 81, .int (nI (6 * e))] [] h Q := by
  have hS := hC.sok
  obtain ⟨fs, ho⟩ := hC.o
  iterate 5 (refine G.st rfl rfl ?_)
  refine G.xald rfl rfl (ixL (k := 1) hX hi (by omega)) ?_
  iterate 4 (refine G.st rfl rfl ?_)
  refine G.xald rfl rfl (ixL (k := 2) hX hi (by omega)) ?_
  refine G.callv rfl rfl rfl (ho) (Nat.le_of_ble_eq_true rfl) rfl (Nat.le_of_ble_eq_true rfl) (Sp.up (p6_show X _ _ hC) (Nat.le_of_ble_eq_true rfl)) ?_
  rintro _ h1 ⟨rfl, hC1⟩
  obtain ⟨c, rfl, hc⟩ := hC1.hr
  iterate 5 (refine G.st rfl rfl ?_)
  refine G.xald rfl rfl (ixL (k := 1) hX hi (by omega)) ?_
  iterate 4 (refine G.st rfl rfl ?_)
  refine G.xald rfl rfl (ixL (k := 2) hX hi (by omega)) ?_
  refine G.call rfl rfl (Nat.le_of_ble_eq_true rfl) (Sp.up (p7_show X _ _ hS hM) (Nat.le_of_ble_eq_true rfl)) ?_
  rintro _ _ ⟨rfl, m', rfl, hM'⟩
  refine G.brt rfl rfl ?_
  exact k _ m' _ (hc m') (hM'.mono (Nat.le_succ n))
theorem w_check (hX : X.1 ≤ 3072) (hi : 6 * e + 6 ≤ X.1) (hn : n < 2 ^ 29) (hC : CI m s h) (hM : MR n m s) (k : ∀ s' m' h', CI m' s' h' → MR (n + 1) m' s' → G X 40 kL_law 1648 [.retAddr 2, .ref 0, .ref 81, .int (nI (6 * e))] [] h' Q) : G X 40 kL_law 1530 [.retAddr 2, .ref 0, .ref 81, .int (nI (6 * e))] [] h Q := by
  have hS := hC.sok
  obtain ⟨fs, ho⟩ := hC.o
  iterate 5 (refine G.st rfl rfl ?_)
  refine G.xald rfl rfl (ixL (k := 1) hX hi (by omega)) ?_
  iterate 4 (refine G.st rfl rfl ?_)
  refine G.xald rfl rfl (ixL (k := 2) hX hi (by omega)) ?_
  refine G.callv rfl rfl rfl (ho) (Nat.le_of_ble_eq_true rfl) rfl (Nat.le_of_ble_eq_true rfl) (Sp.up (p6_check X _ _ hC) (Nat.le_of_ble_eq_true rfl)) ?_
  rintro _ h1 ⟨rfl, hC1⟩
  obtain ⟨c, rfl, hc⟩ := hC1.hr
  iterate 5 (refine G.st rfl rfl ?_)
  refine G.xald rfl rfl (ixL (k := 1) hX hi (by omega)) ?_
  iterate 4 (refine G.st rfl rfl ?_)
  refine G.xald rfl rfl (ixL (k := 2) hX hi (by omega)) ?_
  refine G.call rfl rfl (Nat.le_of_ble_eq_true rfl) (Sp.up (p7_check X _ _ hS hM) (Nat.le_of_ble_eq_true rfl)) ?_
  rintro _ _ ⟨rfl, m', rfl, hM'⟩
  refine G.brt rfl rfl ?_
  exact k _ m' _ (hc m') (hM'.mono (Nat.le_succ n))
theorem w_image (hX : X.1 ≤ 3072) (hi : 6 * e + 6 ≤ X.1) (hn : n < 2 ^ 29) (hC : CI m s h) (hM : MR n m s) (k : ∀ s' m' h', CI m' s' h' → MR (n + 1) m' s' → G X 40 kL_law 1648 [.retAddr 2, .ref 0, .ref 81, .int (nI (6 * e))] [] h' Q) : G X 40 kL_law 1563 [.retAddr 2, .ref 0, .ref 81, .int (nI (6 * e))] [] h Q := by
  have hS := hC.sok
  obtain ⟨fs, ho⟩ := hC.o
  iterate 1 (refine G.st rfl rfl ?_)
  refine G.callv rfl rfl rfl (ho) (Nat.le_of_ble_eq_true rfl) rfl (Nat.le_of_ble_eq_true rfl) (Sp.up (p6_image X hC) (Nat.le_of_ble_eq_true rfl)) ?_
  rintro _ h1 ⟨rfl, hC1⟩
  obtain ⟨c, rfl, hc⟩ := hC1.hr
  iterate 1 (refine G.st rfl rfl ?_)
  refine G.call rfl rfl (Nat.le_of_ble_eq_true rfl) (Sp.up (p7_image X hS hM) (Nat.le_of_ble_eq_true rfl)) ?_
  rintro _ _ ⟨rfl, m', rfl, hM'⟩
  refine G.brt rfl rfl ?_
  exact k _ m' _ (hc m') (hM'.mono (Nat.le_succ n))
theorem w_undo (hX : X.1 ≤ 3072) (hi : 6 * e + 6 ≤ X.1) (hn : n < 2 ^ 29) (hC : CI m s h) (hM : MR n m s) (k : ∀ s' m' h', CI m' s' h' → MR (n + 1) m' s' → G X 40 kL_law 1648 [.retAddr 2, .ref 0, .ref 81, .int (nI (6 * e))] [] h' Q) : G X 40 kL_law 1576 [.retAddr 2, .ref 0, .ref 81, .int (nI (6 * e))] [] h Q := by
  have hS := hC.sok
  obtain ⟨fs, ho⟩ := hC.o
  iterate 1 (refine G.st rfl rfl ?_)
  refine G.callv rfl rfl rfl (ho) (Nat.le_of_ble_eq_true rfl) rfl (Nat.le_of_ble_eq_true rfl) (Sp.up (p6_undo X hC) (Nat.le_of_ble_eq_true rfl)) ?_
  rintro _ h1 ⟨rfl, hC1⟩
  obtain ⟨c, rfl, hc⟩ := hC1.hr
  iterate 1 (refine G.st rfl rfl ?_)
  refine G.call rfl rfl (Nat.le_of_ble_eq_true rfl) (Sp.up (p7_undo X hS hM) (Nat.le_of_ble_eq_true rfl)) ?_
  rintro _ _ ⟨rfl, m', rfl, hM'⟩
  refine G.brt rfl rfl ?_
  exact k _ m' _ (hc m') (hM'.mono (Nat.le_succ n))
theorem w_tear (hX : X.1 ≤ 3072) (hi : 6 * e + 6 ≤ X.1) (hn : n < 2 ^ 29) (hC : CI m s h) (hM : MR n m s) (k : ∀ s' m' h', CI m' s' h' → MR (n + 1) m' s' → G X 40 kL_law 1648 [.retAddr 2, .ref 0, .ref 81, .int (nI (6 * e))] [] h' Q) : G X 40 kL_law 1589 [.retAddr 2, .ref 0, .ref 81, .int (nI (6 * e))] [] h Q := by
  have hS := hC.sok
  obtain ⟨fs, ho⟩ := hC.o
  iterate 1 (refine G.st rfl rfl ?_)
  refine G.callv rfl rfl rfl (ho) (Nat.le_of_ble_eq_true rfl) rfl (Nat.le_of_ble_eq_true rfl) (Sp.up (p6_tear X hC) (Nat.le_of_ble_eq_true rfl)) ?_
  rintro _ h1 ⟨rfl, hC1⟩
  obtain ⟨c, rfl, hc⟩ := hC1.hr
  iterate 1 (refine G.st rfl rfl ?_)
  refine G.call rfl rfl (Nat.le_of_ble_eq_true rfl) (Sp.up (p7_tear X hS hM) (Nat.le_of_ble_eq_true rfl)) ?_
  rintro _ _ ⟨rfl, m', rfl, hM'⟩
  refine G.brt rfl rfl ?_
  exact k _ m' _ (hc m') (hM'.mono (Nat.le_succ n))
theorem w_count (hX : X.1 ≤ 3072) (hi : 6 * e + 6 ≤ X.1) (hn : n < 2 ^ 29) (hC : CI m s h) (hM : MR n m s) (k : ∀ s' m' h', CI m' s' h' → MR (n + 1) m' s' → G X 40 kL_law 1648 [.retAddr 2, .ref 0, .ref 81, .int (nI (6 * e))] [] h' Q) : G X 40 kL_law 1602 [.retAddr 2, .ref 0, .ref 81, .int (nI (6 * e))] [] h Q := by
  have hS := hC.sok
  obtain ⟨fs, ho⟩ := hC.o
  iterate 5 (refine G.st rfl rfl ?_)
  refine G.xald rfl rfl (ixL (k := 1) hX hi (by omega)) ?_
  refine G.callv rfl rfl rfl (ho) (Nat.le_of_ble_eq_true rfl) rfl (Nat.le_of_ble_eq_true rfl) (Sp.up (p6_count X _ hC) (Nat.le_of_ble_eq_true rfl)) ?_
  rintro _ h1 ⟨rfl, hC1⟩
  obtain ⟨c, rfl, hc⟩ := hC1.hr
  iterate 5 (refine G.st rfl rfl ?_)
  refine G.xald rfl rfl (ixL (k := 1) hX hi (by omega)) ?_
  refine G.call rfl rfl (Nat.le_of_ble_eq_true rfl) (Sp.up (p7_count X _ hS hM) (Nat.le_of_ble_eq_true rfl)) ?_
  rintro _ _ ⟨rfl, m', rfl, hM'⟩
  refine G.brt rfl rfl ?_
  exact k _ m' _ (hc m') (hM'.mono (Nat.le_succ n))
theorem w_status (hX : X.1 ≤ 3072) (hi : 6 * e + 6 ≤ X.1) (hn : n < 2 ^ 29) (hC : CI m s h) (hM : MR n m s) (k : ∀ s' m' h', CI m' s' h' → MR (n + 1) m' s' → G X 40 kL_law 1648 [.retAddr 2, .ref 0, .ref 81, .int (nI (6 * e))] [] h' Q) : G X 40 kL_law 1625 [.retAddr 2, .ref 0, .ref 81, .int (nI (6 * e))] [] h Q := by
  have hS := hC.sok
  obtain ⟨fs, ho⟩ := hC.o
  iterate 5 (refine G.st rfl rfl ?_)
  refine G.xald rfl rfl (ixL (k := 1) hX hi (by omega)) ?_
  refine G.callv rfl rfl rfl (ho) (Nat.le_of_ble_eq_true rfl) rfl (Nat.le_of_ble_eq_true rfl) (Sp.up (p6_status X _ hC) (Nat.le_of_ble_eq_true rfl)) ?_
  rintro _ h1 ⟨rfl, hC1⟩
  obtain ⟨c, rfl, hc⟩ := hC1.hr
  iterate 5 (refine G.st rfl rfl ?_)
  refine G.xald rfl rfl (ixL (k := 1) hX hi (by omega)) ?_
  refine G.call rfl rfl (Nat.le_of_ble_eq_true rfl) (Sp.up (p7_status X _ hS hM) (Nat.le_of_ble_eq_true rfl)) ?_
  rintro _ _ ⟨rfl, m', rfl, hM'⟩
  refine G.brt rfl rfl ?_
  exact k _ m' _ (hc m') (hM'.mono (Nat.le_succ n))
end LAWC
