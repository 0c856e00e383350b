/-! ===== the reference: promises 3 to 11 ===== -/
theorem gD_set {g : List Gar} {j p : Nat} {x : Gar} (hj : j < g.length) : gD (g.set j x) p = if p = j then x else gD g p := by
  unfold gD
  rw [List.getD_eq_getElem?_getD, List.getD_eq_getElem?_getD, List.getElem?_set]
  by_cases e : p = j
  · subst e
    simp [hj]
  · have e2 : ¬ j = p := fun q => e q.symm
    simp [e, e2]
theorem gD_erase {g : List Gar} {j p : Nat} : gD (g.eraseIdx j) p = if p < j then gD g p else gD g (p + 1) := by
  unfold gD
  rw [List.getD_eq_getElem?_getD, List.getD_eq_getElem?_getD, List.getD_eq_getElem?_getD, List.getElem?_eraseIdx]
  split <;> rfl
section RLINES
variable {c : Nat → aC} {m : sM} {s : Sg} {n : Nat}
theorem l7_off (X : aX) {l j L : Nat} {z : Int32} (hl : l < 4) (hj : j < L) (hL : L ≤ 7) (f0 : Nat → Int32) : ∀ (k at' : Nat) (f : Nat → Int32), at' + k = pl l (L - 1) → pl l j ≤ at' → (∀ i, f i = if pl l j ≤ i ∧ i < at' then f0 (i + 3) else if i = l then nI (L - 1) else f0 i) → G X 10 kX7_off 48 [.ref 81, .int (nI l), .int (nI j), .int z, .int (nI at')] [] (HR c (mSs m f)) (fun v h' => v = some (.int z) ∧ ∃ f', h' = HR c (mSs m f') ∧ ∀ i, f' i = if pl l j ≤ i ∧ i < pl l (L - 1) then f0 (i + 3) else if i = l then nI (L - 1) else f0 i) := by
  intro k
  induction k with
  | zero =>
    intro at' f hk hja hf
    have hfl : f l = nI (L - 1) := by rw [hf l, if_neg (by unfold pl; omega), if_pos rfl]
    iterate 7 (refine G.st rfl rfl ?_)
    refine G.iald rfl rfl (ix0 (show l < 110 by omega) (by omega)) ?_
    show G X 10 kX7_off 59 [.ref 81, .int (nI l), .int (nI j), .int z, .int (nI at')] [.int (f l), .int (nI l), .int (nI at')] (HR c (mSs m f)) _
    rw [hfl]
    refine G.call rfl rfl (Nat.le_of_ble_eq_true rfl) (Sp.up (s7_pl X l (L - 1) _) (Nat.le_of_ble_eq_true rfl)) ?_
    rintro _ _ ⟨rfl, rfl⟩
    refine G.brt rfl (by rw [nI_leI (by unfold pl; omega) (by unfold pl at *; omega)]; omega) ?_
    iterate 1 (refine G.st rfl rfl ?_)
    refine G.ret rfl rfl ⟨rfl, f, rfl, ?_⟩
    rw [← show at' = pl l (L - 1) by omega]
    exact hf
  | succ k ih =>
    intro at' f hk hja hf
    have hfl : f l = nI (L - 1) := by rw [hf l, if_neg (by unfold pl; omega), if_pos rfl]
    have hat : at' + 3 < 110 := by unfold pl at *; omega
    iterate 7 (refine G.st rfl rfl ?_)
    refine G.iald rfl rfl (ix0 (show l < 110 by omega) (by omega)) ?_
    show G X 10 kX7_off 59 [.ref 81, .int (nI l), .int (nI j), .int z, .int (nI at')] [.int (f l), .int (nI l), .int (nI at')] (HR c (mSs m f)) _
    rw [hfl]
    refine G.call rfl rfl (Nat.le_of_ble_eq_true rfl) (Sp.up (s7_pl X l (L - 1) _) (Nat.le_of_ble_eq_true rfl)) ?_
    rintro _ _ ⟨rfl, rfl⟩
    refine G.brf rfl (by rw [nI_leI (by unfold pl; omega) (by omega)]; omega) ?_
    iterate 8 (refine G.st rfl rfl ?_)
    rw [show (3 : Int32) = nI 3 from rfl, nI_add]
    refine G.iald rfl rfl (ix_nI hat (by omega)) ?_
    refine G.sst rfl (ix_nI (show at' < 110 by omega) (by omega)) ?_
    iterate 1 (refine G.st rfl rfl ?_)
    rw [nI_1]
    iterate 1 (refine G.st rfl rfl ?_)
    refine ih (at' + 1) (upd f at' (f (at' + 3))) (by omega) (by omega) (fun i => ?_)
    rw [upd_if]
    have hf3 : f (at' + 3) = f0 (at' + 3) := by rw [hf, if_neg (by omega), if_neg (by unfold pl at *; omega)]
    by_cases e : i = at'
    · rw [if_pos e, if_pos (by omega), hf3, e]
    · rw [if_neg e, hf i]
      by_cases h2 : pl l j ≤ i ∧ i < at'
      · rw [if_pos h2, if_pos (by omega)]
      · rw [if_neg h2, if_neg (show ¬ (pl l j ≤ i ∧ i < at' + 1) by omega)]
theorem p7_off (X : aX) (line peg : Int32) (hS : SOk s) (hM : MR n m s) : Sp X 10 kX7_off [.ref 81, .int line, .int peg] (HR c m) (MP c n (S_off s line peg)) := by
  unfold Sp S_off
  show G X 10 kX7_off 0 [.ref 81, .int line, .int peg, .double 0, .double 0] [] _ _
  iterate 3 (refine G.st rfl rfl ?_)
  refine G.call rfl rfl (Nat.le_of_ble_eq_true rfl) (Sp.up (s7_isPeg X hS hM line peg) (Nat.le_of_ble_eq_true rfl)) ?_
  rintro _ _ ⟨rfl, rfl⟩
  by_cases hp : pegOk s line peg
  case neg =>
    rw [if_neg hp]
    refine G.brt rfl (bI_0.mpr hp) ?_
    iterate 2 (refine G.st rfl rfl ?_)
    refine G.call rfl rfl (Nat.le_of_ble_eq_true rfl) (Sp.up (c7_f0 X hM) (Nat.le_of_ble_eq_true rfl)) ?_
    rintro _ _ ⟨rfl, hci⟩
    exact G.ret rfl rfl ⟨rfl, hci⟩
  rw [if_pos hp]
  refine G.brf rfl (bI_n hp) ?_
  obtain ⟨l, j, hl, rfl, hj, hj7, rfl⟩ := peg_n hS hp
  have h7 := hS.len hl
  have hpl := pl_lt hl hj7
  obtain ⟨g1, g2, g3⟩ := hM.gar hl hj
  rw [ln_nI (by omega), ln_nI (by omega)]
  iterate 4 (refine G.st rfl rfl ?_)
  refine G.call rfl rfl (Nat.le_of_ble_eq_true rfl) (Sp.up (s7_pl X l j _) (Nat.le_of_ble_eq_true rfl)) ?_
  rintro _ _ ⟨rfl, rfl⟩
  show G X 10 kX7_off 25 [.ref 81, .int (nI l), .int (nI j), .double 0, .double 0] [.int (nI (pl l j)), .ref 82] (HR c m) _
  iterate 2 (refine G.st rfl rfl ?_)
  rw [nI_1]
  refine G.iald rfl rfl (ix_nI (show pl l j + 1 < 110 by omega) (by omega)) ?_
  rw [g2]
  iterate 7 (refine G.st rfl rfl ?_)
  refine G.iald rfl rfl (ix0 (show l < 110 by omega) (by omega)) ?_
  rw [hM.len hl]
  iterate 2 (refine G.st rfl rfl ?_)
  rw [nI_p (by omega)]
  refine G.sst rfl (ix0 (show l < 110 by omega) (by omega)) ?_
  iterate 2 (refine G.st rfl rfl ?_)
  refine G.call rfl rfl (Nat.le_of_ble_eq_true rfl) (Sp.up (s7_pl X l j _) (Nat.le_of_ble_eq_true rfl)) ?_
  rintro _ _ ⟨rfl, rfl⟩
  iterate 1 (refine G.st rfl rfl ?_)
  refine (l7_off X (j := j) (L := (zL s l).length) hl hj h7 (ms m) (pl l ((zL s l).length - 1) - pl l j) (pl l j) (upd (ms m) l (nI ((zL s l).length - 1))) (by unfold pl; omega) (Nat.le_refl _) (fun i => ?_)).imp ?_
  · rw [upd_if, if_neg (show ¬ (pl l j ≤ i ∧ i < pl l j) by omega)]
  · rintro v _ ⟨rfl, f', rfl, hf⟩
    refine ⟨rfl, _, rfl, ?_⟩
    have hlen : ((zL s l).eraseIdx j).length = (zL s l).length - 1 := List.length_eraseIdx_of_lt hj
    refine hM.line hS hl (by rw [hlen]; omega) (fun i hi hb => ?_) ?_ (fun p hpp => ?_)
    · rw [hf i, if_neg (by unfold pl at *; omega), if_neg hi]
    · rw [hf l, if_neg (by unfold pl at *; omega), if_pos rfl, hlen]
    · rw [hlen] at hpp
      rw [gD_erase]
      unfold G3
      rw [hf, hf, hf]
      by_cases h : p < j
      · obtain ⟨q1, q2, q3⟩ := hM.gar hl (show p < (zL s l).length by omega)
        rw [if_pos h, if_neg (by unfold pl; omega), if_neg (by unfold pl; omega), if_neg (by unfold pl; omega), if_neg (by unfold pl; omega), if_neg (by unfold pl; omega), if_neg (by unfold pl; omega), q1, q2, q3]
      · obtain ⟨q1, q2, q3⟩ := hM.gar hl (show p + 1 < (zL s l).length by omega)
        rw [if_neg h, if_pos (by unfold pl; omega), if_pos (by unfold pl; omega), if_pos (by unfold pl; omega)]
        rw [show pl l p + 3 = pl l (p + 1) by unfold pl; omega, show pl l p + 1 + 3 = pl l (p + 1) + 1 by unfold pl; omega, show pl l p + 2 + 3 = pl l (p + 1) + 2 by unfold pl; omega, q1, q2, q3]
theorem p7_of (X : aX) (line peg what : Int32) (hS : SOk s) (hM : MR n m s) : Sp X 10 kX7_of [.ref 81, .int line, .int peg, .int what] (HR c m) (MP c n (S_of s line peg what)) := by
  unfold Sp S_of
  show G X 10 kX7_of 0 [.ref 81, .int line, .int peg, .int what] [] _ _
  have bad : G X 10 kX7_of 21 [.ref 81, .int line, .int peg, .int what] [] (HR c m) (MP c n (fin 0 s)) := by
    iterate 2 (refine G.st rfl rfl ?_)
    refine G.call rfl rfl (Nat.le_of_ble_eq_true rfl) (Sp.up (c7_f0 X hM) (Nat.le_of_ble_eq_true rfl)) ?_
    rintro _ _ ⟨rfl, hci⟩
    exact G.ret rfl rfl ⟨rfl, hci⟩
  iterate 3 (refine G.st rfl rfl ?_)
  refine G.call rfl rfl (Nat.le_of_ble_eq_true rfl) (Sp.up (s7_isPeg X hS hM line peg) (Nat.le_of_ble_eq_true rfl)) ?_
  rintro _ _ ⟨rfl, rfl⟩
  by_cases hp : pegOk s line peg
  case neg =>
    rw [if_neg hp]
    exact G.brt rfl (bI_0.mpr hp) bad
  rw [if_pos hp]
  refine G.brf rfl (bI_n hp) ?_
  iterate 4 (refine G.st rfl rfl ?_)
  refine G.call rfl rfl (Nat.le_of_ble_eq_true rfl) (Sp.up (s7_isInI X what 0 4 _) (Nat.le_of_ble_eq_true rfl)) ?_
  rintro _ _ ⟨rfl, rfl⟩
  by_cases hw : 0 ≤ what ∧ what ≤ 4
  case neg =>
    rw [if_neg (fun q => hw (by rw [q]; decide)), if_neg (fun q => hw (by rw [q]; decide)), if_neg (fun q => hw (by rw [q]; decide)), if_neg (fun q => hw (by rw [q]; decide)), if_neg (fun q => hw (by rw [q]; decide))]
    exact G.brt rfl (bI_0.mpr hw) bad
  refine G.brf rfl (bI_n hw) ?_
  obtain ⟨l, j, hl, rfl, hj, hj7, rfl⟩ := peg_n hS hp
  have h7 := hS.len hl
  have hpl := pl_lt hl hj7
  obtain ⟨g1, g2, g3⟩ := hM.gar hl hj
  rw [ln_nI (by omega), ln_nI (by omega)]
  have hk := gK_at (hS.gk hl) hj
  obtain ⟨q, hq, rfl⟩ := nI_arg (k := 4) rfl (by omega) hw.1 hw.2
  have low : ∀ q, q < 3 → G X 10 kX7_of 28 [.ref 81, .int (nI l), .int (nI j), .int (nI q)] [] (HR c m) (fun v h' => v = some (.int (ms m (pl l j + q))) ∧ ∃ m', h' = HR c m' ∧ MR n m' s) := by
    intro q hq
    iterate 2 (refine G.st rfl rfl ?_)
    refine G.brf rfl (by show ¬ nI 3 ≤ nI q; rw [nI_leI (by omega) (by omega)]; omega) ?_
    iterate 4 (refine G.st rfl rfl ?_)
    refine G.call rfl rfl (Nat.le_of_ble_eq_true rfl) (Sp.up (s7_pl X l j _) (Nat.le_of_ble_eq_true rfl)) ?_
    rintro _ _ ⟨rfl, rfl⟩
    show G X 10 kX7_of 42 [.ref 81, .int (nI l), .int (nI j), .int (nI q)] [.int (nI (pl l j)), .ref 82] (HR c m) _
    iterate 2 (refine G.st rfl rfl ?_)
    rw [nI_add]
    refine G.iald rfl rfl (ix_nI (show pl l j + q < 110 by omega) (by omega)) ?_
    exact G.ret rfl rfl ⟨rfl, m, rfl, hM⟩
  rcases (show q = 0 ∨ q = 1 ∨ q = 2 ∨ q = 3 ∨ q = 4 by omega) with rfl | rfl | rfl | rfl | rfl
  · rw [if_pos (by decide)]
    have := low 0 (by omega)
    rw [Nat.add_zero, g1] at this
    exact this
  · rw [if_neg (by decide), if_pos (by decide)]
    have := low 1 (by omega)
    rw [g2] at this
    exact this
  · rw [if_neg (by decide), if_neg (by decide), if_pos (by decide)]
    have := low 2 (by omega)
    rw [g3] at this
    exact this
  · rw [if_neg (by decide), if_neg (by decide), if_neg (by decide), if_pos (by decide)]
    iterate 2 (refine G.st rfl rfl ?_)
    refine G.brt rfl (by decide) ?_
    iterate 2 (refine G.st rfl rfl ?_)
    refine G.call rfl rfl (Nat.le_of_ble_eq_true rfl) (Sp.up (s7_lays X hS hM hl) (Nat.le_of_ble_eq_true rfl)) ?_
    rintro _ _ ⟨rfl, m', rfl, hra, hrw, hrn⟩
    have hM' := hra.MR hM
    iterate 2 (refine G.st rfl rfl ?_)
    refine G.brt rfl (by decide) ?_
    iterate 5 (refine G.st rfl rfl ?_)
    refine G.iald rfl rfl (j := 4) ⟨by decide, rfl, by decide⟩ ?_
    show G X 10 kX7_of 64 [.ref 81, .int (nI l), .int (nI j), .int (nI 3)] [.int (ms m' 4), .int (nI j), .ref 81] (HR c m') _
    rw [hM'.1.2.1]
    refine G.call rfl rfl (Nat.le_of_ble_eq_true rfl) (Sp.up (s7_isSeen X (p := j) (show j < 15 by omega) (show G3 (mrw m') (3 * j) = ((gD (zL s l) j).1, (gD (zL s l) j).2.1, (gD (zL s l) j).2.2) from hrw j hj) hk.1) (Nat.le_of_ble_eq_true rfl)) ?_
    rintro _ _ ⟨rfl, rfl⟩
    by_cases hsn : seenB (zW s) (gD (zL s l) j).1 (gD (zL s l) j).2.1 (gD (zL s l) j).2.2 = true
    · refine G.brf rfl (bI_n hsn) ?_
      iterate 2 (refine G.st rfl rfl ?_)
      refine G.ret rfl rfl ⟨?_, m', rfl, hM'⟩
      rw [bI_t hsn]
    · refine G.brt rfl (bI_0.mpr hsn) ?_
      iterate 2 (refine G.st rfl rfl ?_)
      refine G.ret rfl rfl ⟨?_, m', rfl, hM'⟩
      rw [bI_f hsn]
  · rw [if_neg (by decide), if_neg (by decide), if_neg (by decide), if_neg (by decide), if_pos (by decide)]
    iterate 2 (refine G.st rfl rfl ?_)
    refine G.brt rfl (by decide) ?_
    iterate 2 (refine G.st rfl rfl ?_)
    refine G.call rfl rfl (Nat.le_of_ble_eq_true rfl) (Sp.up (s7_lays X hS hM hl) (Nat.le_of_ble_eq_true rfl)) ?_
    rintro _ _ ⟨rfl, m', rfl, hra, hrw, hrn⟩
    have hM' := hra.MR hM
    iterate 2 (refine G.st rfl rfl ?_)
    refine G.brf rfl (by decide) ?_
    iterate 4 (refine G.st rfl rfl ?_)
    rw [nI_1]
    iterate 3 (refine G.st rfl rfl ?_)
    refine G.iald rfl rfl (j := 4) ⟨by decide, rfl, by decide⟩ ?_
    show G X 10 kX7_of 88 [.ref 81, .int (nI l), .int (nI j), .int (nI 4)] [.int (ms m' 4), .int (nI (j + 1)), .ref 81] (HR c m') _
    rw [hM'.1.2.1]
    refine G.call rfl rfl (Nat.le_of_ble_eq_true rfl) (Sp.up (s7_worthOfFirst X hrw (hS.gk hl) (show j + 1 ≤ (zL s l).length by omega) (by omega)) (Nat.le_of_ble_eq_true rfl)) ?_
    rintro _ _ ⟨rfl, rfl⟩
    exact G.ret rfl rfl ⟨rfl, m', rfl, hM'⟩
/-- one cell of a garment becomes another -/
theorem MR.put (hM : MR n m s) (hS : SOk s) {l j q : Nat} {v : Int32} {x : Gar} (hl : l < 4) (hj : j < (zL s l).length) (hq : q < 3) (hx : x = if q = 0 then (v, (gD (zL s l) j).2) else if q = 1 then ((gD (zL s l) j).1, v, (gD (zL s l) j).2.2) else ((gD (zL s l) j).1, (gD (zL s l) j).2.1, v)) : MR n (mSs m (upd (ms m) (pl l j + q) v)) (zSL s (va_up (zL s) l ((zL s l).set j x))) := by
  have h7 := hS.len hl
  refine hM.line hS hl (by rw [List.length_set]; exact h7) (fun i hi hb => ?_) ?_ (fun p hpp => ?_)
  · rw [upd_n (by unfold pl at *; omega)]
  · rw [upd_n (by unfold pl at *; omega), hM.len hl, List.length_set]
  · rw [List.length_set] at hpp
    rw [gD_set hj]
    obtain ⟨q1, q2, q3⟩ := hM.gar hl hpp
    unfold G3
    by_cases e : p = j
    · subst e
      rw [if_pos rfl, hx]
      rcases (show q = 0 ∨ q = 1 ∨ q = 2 by omega) with rfl | rfl | rfl
      · rw [Nat.add_zero, upd_s, upd_n (by omega), upd_n (by omega), q2, q3]
        rfl
      · rw [upd_n (by omega), upd_s, upd_n (by omega), q1, q3]
        rfl
      · rw [upd_n (by omega), upd_n (by omega), upd_s, q1, q2]
        rfl
    · rw [if_neg e, upd_n (by unfold pl; omega), upd_n (by unfold pl; omega), upd_n (by unfold pl; omega), q1, q2, q3]
theorem p7_set (X : aX) (line peg what v : Int32) (hS : SOk s) (hM : MR n m s) : Sp X 10 kX7_set [.ref 81, .int line, .int peg, .int what, .int v] (HR c m) (MP c n (S_set s line peg what v)) := by
  unfold Sp S_set
  show G X 10 kX7_set 0 [.ref 81, .int line, .int peg, .int what, .int v] [] _ _
  have bad : G X 10 kX7_set 43 [.ref 81, .int line, .int peg, .int what, .int v] [] (HR c m) (MP c n (fin 0 s)) := by
    iterate 2 (refine G.st rfl rfl ?_)
    refine G.call rfl rfl (Nat.le_of_ble_eq_true rfl) (Sp.up (c7_f0 X hM) (Nat.le_of_ble_eq_true rfl)) ?_
    rintro _ _ ⟨rfl, hci⟩
    exact G.ret rfl rfl ⟨rfl, hci⟩
  iterate 3 (refine G.st rfl rfl ?_)
  refine G.call rfl rfl (Nat.le_of_ble_eq_true rfl) (Sp.up (s7_isPeg X hS hM line peg) (Nat.le_of_ble_eq_true rfl)) ?_
  rintro _ _ ⟨rfl, rfl⟩
  by_cases hp : pegOk s line peg
  case neg =>
    rw [if_neg hp]
    exact G.brt rfl (bI_0.mpr hp) bad
  rw [if_pos hp]
  refine G.brf rfl (bI_n hp) ?_
  iterate 4 (refine G.st rfl rfl ?_)
  refine G.call rfl rfl (Nat.le_of_ble_eq_true rfl) (Sp.up (s7_isInI X what 1 2 _) (Nat.le_of_ble_eq_true rfl)) ?_
  rintro _ _ ⟨rfl, rfl⟩
  by_cases hw : 1 ≤ what ∧ what ≤ 2
  case neg =>
    rw [if_neg (fun q => hw (by rw [q.1]; decide)), if_neg (fun q => hw (by rw [q.1]; decide))]
    exact G.brt rfl (bI_0.mpr hw) bad
  refine G.brf rfl (bI_n hw) ?_
  obtain ⟨l, j, hl, rfl, hj, hj7, rfl⟩ := peg_n hS hp
  have hpl := pl_lt hl hj7
  obtain ⟨g1, g2, g3⟩ := hM.gar hl hj
  rw [ln_nI (by omega), ln_nI (by omega)]
  have put : ∀ q : Nat, q < 3 → G X 10 kX7_set 50 [.ref 81, .int (nI l), .int (nI j), .int (nI q), .int v] [] (HR c m) (An (some (.int (ms m (pl l j + q)))) (HR c (mSs m (upd (ms m) (pl l j + q) v)))) := by
    intro q hq
    iterate 3 (refine G.st rfl rfl ?_)
    refine G.call rfl rfl (Nat.le_of_ble_eq_true rfl) (Sp.up (s7_pl X l j _) (Nat.le_of_ble_eq_true rfl)) ?_
    rintro _ _ ⟨rfl, rfl⟩
    iterate 2 (refine G.st rfl rfl ?_)
    rw [nI_add]
    iterate 1 (refine G.st rfl rfl ?_)
    refine G.call rfl rfl (Nat.le_of_ble_eq_true rfl) (Sp.up (s7_becomes X (ix_nI (show pl l j + q < 110 by omega) (by omega))) (Nat.le_of_ble_eq_true rfl)) ?_
    rintro _ _ ⟨rfl, rfl⟩
    exact G.ret rfl rfl ⟨rfl, rfl⟩
  iterate 4 (refine G.st rfl rfl ?_)
  by_cases h1 : what = 1
  · subst h1
    refine G.brt rfl rfl ?_
    iterate 3 (refine G.st rfl rfl ?_)
    refine G.call rfl rfl (Nat.le_of_ble_eq_true rfl) (Sp.up (s7_isInI X v 1 9 _) (Nat.le_of_ble_eq_true rfl)) ?_
    rintro _ _ ⟨rfl, rfl⟩
    by_cases hv : 1 ≤ v ∧ v ≤ 9
    · rw [if_pos ⟨rfl, hv⟩]
      refine G.brf rfl (bI_n hv) ?_
      refine (put 1 (by omega)).imp ?_
      rintro _ _ ⟨rfl, rfl⟩
      exact ⟨by rw [g2], _, rfl, hM.put hS hl hj (by omega) rfl⟩
    · rw [if_neg (fun q => hv q.2), if_neg (fun q => absurd q.1 (by decide))]
      exact G.brt rfl (bI_0.mpr hv) bad
  · have h2 : what = 2 := by
      have := hw.1
      have := hw.2
      grind
    subst h2
    refine G.brf rfl (by decide) ?_
    iterate 2 (refine G.st rfl rfl ?_)
    refine G.call rfl rfl (Nat.le_of_ble_eq_true rfl) (Sp.up (s7_isInI X v 0 9 _) (Nat.le_of_ble_eq_true rfl)) ?_
    rintro _ _ ⟨rfl, rfl⟩
    rw [if_neg (fun q => absurd q.1 (by decide))]
    by_cases hv : 0 ≤ v ∧ v ≤ 9
    · rw [if_pos ⟨rfl, hv⟩]
      refine G.brf rfl (bI_n hv) ?_
      refine (put 2 (by omega)).imp ?_
      rintro _ _ ⟨rfl, rfl⟩
      exact ⟨by rw [g3], _, rfl, hM.put hS hl hj (by omega) rfl⟩
    · rw [if_neg (fun q => hv q.2)]
      exact G.brt rfl (bI_0.mpr hv) bad
theorem p7_turn (X : aX) (line peg kind : Int32) (hS : SOk s) (hM : MR n m s) : Sp X 10 kX7_turn [.ref 81, .int line, .int peg, .int kind] (HR c m) (MP c n (S_turn s line peg kind)) := by
  unfold Sp S_turn
  show G X 10 kX7_turn 0 [.ref 81, .int line, .int peg, .int kind] [] _ _
  have bad : G X 10 kX7_turn 34 [.ref 81, .int line, .int peg, .int kind] [] (HR c m) (MP c n (fin 0 s)) := by
    iterate 2 (refine G.st rfl rfl ?_)
    refine G.call rfl rfl (Nat.le_of_ble_eq_true rfl) (Sp.up (c7_f0 X hM) (Nat.le_of_ble_eq_true rfl)) ?_
    rintro _ _ ⟨rfl, hci⟩
    exact G.ret rfl rfl ⟨rfl, hci⟩
  iterate 3 (refine G.st rfl rfl ?_)
  refine G.call rfl rfl (Nat.le_of_ble_eq_true rfl) (Sp.up (s7_isPeg X hS hM line peg) (Nat.le_of_ble_eq_true rfl)) ?_
  rintro _ _ ⟨rfl, rfl⟩
  by_cases hp : pegOk s line peg
  case neg =>
    rw [if_neg (fun q => hp q.1)]
    exact G.brt rfl (bI_0.mpr hp) bad
  refine G.brf rfl (bI_n hp) ?_
  iterate 4 (refine G.st rfl rfl ?_)
  refine G.call rfl rfl (Nat.le_of_ble_eq_true rfl) (Sp.up (s7_isInI X kind 0 5 _) (Nat.le_of_ble_eq_true rfl)) ?_
  rintro _ _ ⟨rfl, rfl⟩
  by_cases hk : 0 ≤ kind ∧ kind ≤ 5
  case neg =>
    rw [if_neg (fun q => hk q.2)]
    exact G.brt rfl (bI_0.mpr hk) bad
  rw [if_pos ⟨hp, hk⟩]
  refine G.brf rfl (bI_n hk) ?_
  obtain ⟨l, j, hl, rfl, hj, hj7, rfl⟩ := peg_n hS hp
  have hpl := pl_lt hl hj7
  obtain ⟨g1, g2, g3⟩ := hM.gar hl hj
  rw [ln_nI (by omega), ln_nI (by omega)]
  iterate 3 (refine G.st rfl rfl ?_)
  refine G.call rfl rfl (Nat.le_of_ble_eq_true rfl) (Sp.up (s7_pl X l j _) (Nat.le_of_ble_eq_true rfl)) ?_
  rintro _ _ ⟨rfl, rfl⟩
  iterate 1 (refine G.st rfl rfl ?_)
  refine G.call rfl rfl (Nat.le_of_ble_eq_true rfl) (Sp.up (s7_becomes X (ix_nI (show pl l j + 0 < 110 by omega) (by omega))) (Nat.le_of_ble_eq_true rfl)) ?_
  rintro _ _ ⟨rfl, rfl⟩
  iterate 1 (refine G.st rfl rfl ?_)
  exact G.ret rfl rfl ⟨by rw [g1], _, rfl, hM.put hS hl hj (q := 0) (by omega) rfl⟩
theorem p7_as (X : aX) (line peg kind : Int32) (hS : SOk s) (hM : MR n m s) : Sp X 10 kX7_as [.ref 81, .int line, .int peg, .int kind] (HR c m) (MP c n (S_as s line peg kind)) := by
  unfold Sp S_as
  show G X 10 kX7_as 0 [.ref 81, .int line, .int peg, .int kind] [] _ _
  have bad : G X 10 kX7_as 21 [.ref 81, .int line, .int peg, .int kind] [] (HR c m) (MP c n (fin 0 s)) := by
    iterate 2 (refine G.st rfl rfl ?_)
    refine G.call rfl rfl (Nat.le_of_ble_eq_true rfl) (Sp.up (c7_f0 X hM) (Nat.le_of_ble_eq_true rfl)) ?_
    rintro _ _ ⟨rfl, hci⟩
    exact G.ret rfl rfl ⟨rfl, hci⟩
  iterate 3 (refine G.st rfl rfl ?_)
  refine G.call rfl rfl (Nat.le_of_ble_eq_true rfl) (Sp.up (s7_isPeg X hS hM line peg) (Nat.le_of_ble_eq_true rfl)) ?_
  rintro _ _ ⟨rfl, rfl⟩
  by_cases hp : pegOk s line peg
  case neg =>
    rw [if_neg (fun q => hp q.1)]
    exact G.brt rfl (bI_0.mpr hp) bad
  refine G.brf rfl (bI_n hp) ?_
  iterate 4 (refine G.st rfl rfl ?_)
  refine G.call rfl rfl (Nat.le_of_ble_eq_true rfl) (Sp.up (s7_isInI X kind 0 5 _) (Nat.le_of_ble_eq_true rfl)) ?_
  rintro _ _ ⟨rfl, rfl⟩
  by_cases hk : 0 ≤ kind ∧ kind ≤ 5
  case neg =>
    rw [if_neg (fun q => hk q.2)]
    exact G.brt rfl (bI_0.mpr hk) bad
  rw [if_pos ⟨hp, hk⟩]
  refine G.brf rfl (bI_n hk) ?_
  obtain ⟨l, j, hl, rfl, hj, hj7, rfl⟩ := peg_n hS hp
  have hpl := pl_lt hl hj7
  obtain ⟨g1, g2, g3⟩ := hM.gar hl hj
  rw [ln_nI (by omega), ln_nI (by omega)]
  iterate 4 (refine G.st rfl rfl ?_)
  refine G.call rfl rfl (Nat.le_of_ble_eq_true rfl) (Sp.up (s7_pl X l j _) (Nat.le_of_ble_eq_true rfl)) ?_
  rintro _ _ ⟨rfl, rfl⟩
  refine G.iald rfl rfl (ix_nI (show pl l j < 110 by omega) (by omega)) ?_
  rw [g1]
  iterate 1 (refine G.st rfl rfl ?_)
  refine G.call rfl rfl (Nat.le_of_ble_eq_true rfl) (Sp.up (s7_isUnder X _ _ _) (Nat.le_of_ble_eq_true rfl)) ?_
  rintro _ _ ⟨⟨b, rfl, hb⟩, rfl⟩
  by_cases hu : undP (gD (zL s l) j).1 kind
  · rw [if_pos hu]
    refine G.brf rfl (fun q => hb.mp q hu) ?_
    iterate 4 (refine G.st rfl rfl ?_)
    refine G.call rfl rfl (Nat.le_of_ble_eq_true rfl) (Sp.up (s7_pl X l j _) (Nat.le_of_ble_eq_true rfl)) ?_
    rintro _ _ ⟨rfl, rfl⟩
    iterate 2 (refine G.st rfl rfl ?_)
    rw [nI_1]
    refine G.iald rfl rfl (ix_nI (show pl l j + 1 < 110 by omega) (by omega)) ?_
    rw [g2]
    iterate 1 (refine G.st rfl rfl ?_)
    exact G.ret rfl rfl ⟨rfl, m, rfl, hM⟩
  · rw [if_neg hu]
    refine G.brt rfl (hb.mpr hu) ?_
    iterate 2 (refine G.st rfl rfl ?_)
    refine G.call rfl rfl (Nat.le_of_ble_eq_true rfl) (Sp.up (c7_f2 X hM) (Nat.le_of_ble_eq_true rfl)) ?_
    rintro _ _ ⟨rfl, hci⟩
    exact G.ret rfl rfl ⟨rfl, hci⟩
end RLINES
