section JOIN
variable {rw : Nat → sR} {nu : Nat → Nat → Int32} {wd : Nat → Int32 × Int32} {vo : sV} {od : sO} {tp : sP} {sh : Nat → sS} {fi : Nat → Int32} {ik : Int32} {m : sM} {s : Sg}
def S_same (s : Sg) (a b : Int32) : Int32 × Sg := if (0 ≤ a ∧ a ≤ 3) ∧ 0 ≤ b ∧ b ≤ 3 then (nI (likeN (gD (zL s (ln a))) (gD (zL s (ln b))) (min (zL s (ln a)).length (zL s (ln b)).length)), s) else fin 0 s
theorem p6_same (X : aX) (a b : Int32) {h : aH} (hC : CI m s h) : Sp X 10 kX6_same [.ref 0, .int a, .int b] h (fun v h' => v = some (.int (S_same s a b).1) ∧ CI m (S_same s a b).2 h') := by
  obtain ⟨rw, nu, wd, vo, od, tp, sh, fi, ik, rfl, hC⟩ := hC
  unfold Sp S_same
  have bad : G X 10 kX6_same 14 (eL kX6_same [.ref 0, .int a, .int b]) [] (H rw nu wd vo od tp sh fi ik m) (fun v h' => v = some (.int (fin 0 s).1) ∧ CI m (fin 0 s).2 h') := by
    iterate 2 (refine G.st rfl rfl ?_)
    refine G.call rfl rfl (Nat.le_of_ble_eq_true rfl) (Sp.up (c6_f0 X hC) (Nat.le_of_ble_eq_true rfl)) ?_
    rintro _ _ ⟨rfl, hci⟩
    exact G.ret rfl rfl ⟨rfl, hci⟩
  iterate 1 (refine G.st rfl rfl ?_)
  refine G.call rfl rfl (Nat.le_of_ble_eq_true rfl) (Sp.up (s6_isLine X a _) (Nat.le_of_ble_eq_true rfl)) ?_
  rintro _ _ ⟨rfl, rfl⟩
  by_cases hl : 0 ≤ a ∧ a ≤ 3
  case neg =>
    rw [if_neg (fun q => hl q.1)]
    exact G.brt rfl (bI_0.mpr hl) bad
  refine G.brf rfl (bI_n hl) ?_
  iterate 1 (refine G.st rfl rfl ?_)
  refine G.call rfl rfl (Nat.le_of_ble_eq_true rfl) (Sp.up (s6_isLine X b _) (Nat.le_of_ble_eq_true rfl)) ?_
  rintro _ _ ⟨rfl, rfl⟩
  by_cases hm : 0 ≤ b ∧ b ≤ 3
  case neg =>
    rw [if_neg (fun q => hm q.2)]
    exact G.brt rfl (bI_0.mpr hm) bad
  refine G.brf rfl (bI_n hm) ?_
  rw [if_pos ⟨hl, hm⟩]
  obtain ⟨l, hl4, rfl⟩ := lok_n hl
  obtain ⟨l2, hl42, rfl⟩ := lok_n hm
  obtain ⟨hr, hgk, h7⟩ := hC.rep hl4
  obtain ⟨hr2, hgk2, h72⟩ := hC.rep hl42
  rw [ln_nI (by omega), ln_nI (by omega)]
  iterate 4 (refine G.st rfl rfl ?_)
  refine G.aald rfl rfl (by decide) (ix_nI hl4 (by omega)) (rf4_row hl4) ?_
  iterate 4 (refine G.st rfl rfl ?_)
  refine G.aald rfl rfl (by decide) (ix_nI hl42 (by omega)) (rf4_row hl42) ?_
  have hrow := H_row (rw := rw) (nu := nu) (wd := wd) (vo := vo) (od := od) (tp := tp) (sh := sh) (fi := fi) (ik := ik) (m := m) (show l < 13 by omega)
  refine G.callv rfl rfl rfl (hrow.1) (Nat.le_of_ble_eq_true rfl) rfl (Nat.le_of_ble_eq_true rfl) (Sp.up (s1_pegsLike X hrow (H_row (show l2 < 13 by omega)) hr hr2) (Nat.le_of_ble_eq_true rfl)) ?_
  rintro _ _ ⟨rfl, rfl⟩
  exact G.ret rfl rfl ⟨rfl, CI.mk hC⟩
/-- where the joined rows are worth the most -/
def joinN (w : Int32) (a b : List Gar) : Nat → Nat × Int32
  | 0 => (0, wlst w (a ++ b))
  | j + 1 => if wlst w (a ++ b.drop (j + 1)) ≤ (joinN w a b j).2 then joinN w a b j else (j + 1, wlst w (a ++ b.drop (j + 1)))
def S_join (s : Sg) (a b : Int32) : Int32 × Sg := if (0 ≤ a ∧ a ≤ 3) ∧ (0 ≤ b ∧ b ≤ 3) ∧ a ≠ b then (nI (joinN (zW s) (zL s (ln b)) (zL s (ln a)) (zL s (ln a)).length).1, s) else fin 0 s
theorem l6_join (X : aX) {l l2 : Nat} {u : Value} (hl4 : l < 4) (hl42 : l2 < 4) (hC : CR rw nu wd tp sh fi ik s) : ∀ (k j : Nat) (u7 : Value) (vo : sV), j + k = (zL s l).length → G X 10 kX6_join 59 [.ref 0, u, .int (nI l2), .ref (rb l), .int (nI (joinN (zW s) (zL s l2) (zL s l) j).1), .int (joinN (zW s) (zL s l2) (zL s l) j).2, .int (nI (j + 1)), u7] [] (H rw nu wd vo od tp sh fi ik m) (fun v h' => v = some (.int (nI (joinN (zW s) (zL s l2) (zL s l) (zL s l).length).1)) ∧ CI m s h') := by
  obtain ⟨hr, hgk, h7⟩ := hC.rep hl4
  obtain ⟨hr2, hgk2, h72⟩ := hC.rep hl42
  have hw := hC.wd0
  intro k
  induction k with
  | zero =>
    intro j u7 vo hj
    iterate 2 (refine G.st rfl rfl ?_)
    refine G.get rfl (H_row (by omega)).1 rfl ?_
    rw [hr.1]
    refine G.brt rfl (by rw [nI_ltI (by omega) (by omega)]; omega) ?_
    iterate 1 (refine G.st rfl rfl ?_)
    refine G.ret rfl rfl ⟨?_, CI.mk hC⟩
    rw [show j = (zL s l).length by omega]
  | succ k ih =>
    intro j u7 vo hj
    iterate 2 (refine G.st rfl rfl ?_)
    refine G.get rfl (H_row (by omega)).1 rfl ?_
    rw [hr.1]
    refine G.brf rfl (by rw [nI_ltI (by omega) (by omega)]; omega) ?_
    iterate 5 (refine G.st rfl rfl ?_)
    refine G.aald rfl rfl (by decide) (ix_nI hl42 (by omega)) (rf4_row hl42) ?_
    iterate 2 (refine G.st rfl rfl ?_)
    refine G.call rfl rfl (Nat.le_of_ble_eq_true rfl) (Sp.up (s6_worthJoined X (show l2 < 13 by omega) hr2 hgk2 (show l < 13 by omega) hr hgk (show j + 1 ≤ (zL s l).length by omega)) (Nat.le_of_ble_eq_true rfl)) ?_
    rintro _ _ ⟨rfl, vo1, rfl⟩
    rw [hw]
    iterate 3 (refine G.st rfl rfl ?_)
    refine G.br rfl (fun hc => ?_) (fun hc => ?_)
    · iterate 1 (refine G.st rfl rfl ?_)
      rw [nI_1]
      iterate 1 (refine G.st rfl rfl ?_)
      have := ih (j + 1) (.int (wlst (zW s) (zL s l2 ++ (zL s l).drop (j + 1)))) vo1 (by omega)
      conv at this => arg 5; unfold joinN
      rw [if_pos hc] at this
      exact this
    · iterate 4 (refine G.st rfl rfl ?_)
      iterate 1 (refine G.st rfl rfl ?_)
      rw [nI_1]
      iterate 1 (refine G.st rfl rfl ?_)
      have := ih (j + 1) (.int (wlst (zW s) (zL s l2 ++ (zL s l).drop (j + 1)))) vo1 (by omega)
      conv at this => arg 5; unfold joinN
      rw [if_neg hc] at this
      exact this
theorem p6_join (X : aX) (a b : Int32) {h : aH} (hC : CI m s h) : Sp X 10 kX6_join [.ref 0, .int a, .int b] h (fun v h' => v = some (.int (S_join s a b).1) ∧ CI m (S_join s a b).2 h') := by
  obtain ⟨rw, nu, wd, vo, od, tp, sh, fi, ik, rfl, hC⟩ := hC
  unfold Sp S_join
  have bad : G X 10 kX6_join 19 (eL kX6_join [.ref 0, .int a, .int b]) [] (H rw nu wd vo od tp sh fi ik m) (fun v h' => v = some (.int (fin 0 s).1) ∧ CI m (fin 0 s).2 h') := by
    iterate 2 (refine G.st rfl rfl ?_)
    refine G.call rfl rfl (Nat.le_of_ble_eq_true rfl) (Sp.up (c6_f0 X hC) (Nat.le_of_ble_eq_true rfl)) ?_
    rintro _ _ ⟨rfl, hci⟩
    exact G.ret rfl rfl ⟨rfl, hci⟩
  iterate 1 (refine G.st rfl rfl ?_)
  refine G.call rfl rfl (Nat.le_of_ble_eq_true rfl) (Sp.up (s6_isLine X a _) (Nat.le_of_ble_eq_true rfl)) ?_
  rintro _ _ ⟨rfl, rfl⟩
  by_cases hl : 0 ≤ a ∧ a ≤ 3
  case neg =>
    rw [if_neg (fun q => hl q.1)]
    exact G.brt rfl (bI_0.mpr hl) bad
  refine G.brf rfl (bI_n hl) ?_
  iterate 1 (refine G.st rfl rfl ?_)
  refine G.call rfl rfl (Nat.le_of_ble_eq_true rfl) (Sp.up (s6_isLine X b _) (Nat.le_of_ble_eq_true rfl)) ?_
  rintro _ _ ⟨rfl, rfl⟩
  by_cases hm : 0 ≤ b ∧ b ≤ 3
  case neg =>
    rw [if_neg (fun q => hm q.2.1)]
    exact G.brt rfl (bI_0.mpr hm) bad
  refine G.brf rfl (bI_n hm) ?_
  iterate 2 (refine G.st rfl rfl ?_)
  by_cases hne : a = b
  · rw [if_neg (fun q => q.2.2 hne)]
    exact G.brt rfl hne bad
  refine G.brf rfl hne ?_
  rw [if_pos ⟨hl, hm, hne⟩]
  obtain ⟨l, hl4, rfl⟩ := lok_n hl
  obtain ⟨l2, hl42, rfl⟩ := lok_n hm
  obtain ⟨hr, hgk, h7⟩ := hC.rep hl4
  obtain ⟨hr2, hgk2, h72⟩ := hC.rep hl42
  rw [ln_nI (by omega), ln_nI (by omega)]
  have hw := hC.wd0
  iterate 4 (refine G.st rfl rfl ?_)
  refine G.aald rfl rfl (by decide) (ix_nI hl4 (by omega)) (rf4_row hl4) ?_
  iterate 8 (refine G.st rfl rfl ?_)
  refine G.aald rfl rfl (by decide) (ix_nI hl42 (by omega)) (rf4_row hl42) ?_
  iterate 2 (refine G.st rfl rfl ?_)
  refine G.call rfl rfl (Nat.le_of_ble_eq_true rfl) (Sp.up (s6_worthJoined X (show l2 < 13 by omega) hr2 hgk2 (show l < 13 by omega) hr hgk (show 0 ≤ (zL s l).length by omega)) (Nat.le_of_ble_eq_true rfl)) ?_
  rintro _ _ ⟨rfl, vo1, rfl⟩
  rw [hw]
  iterate 3 (refine G.st rfl rfl ?_)
  exact l6_join X hl4 hl42 hC (zL s l).length 0 _ vo1 (by omega)
/-- the line read as mn in the most winds -/
def bestN (s : Sg) (mn : Int32) : Nat → Int32 × Int32
  | 0 => (-1, 0)
  | l + 1 => if bcI (wndN (zN s) (zL s l) mn 21) ≤ (bestN s mn l).2 then bestN s mn l else (nI l, bcI (wndN (zN s) (zL s l) mn 21))
def S_best (s : Sg) (mn : Int32) : Int32 × Sg := if 0 ≤ mn ∧ mn ≤ 9 then (if 0 ≤ (bestN s mn 4).1 then ((bestN s mn 4).1, s) else fin 3 s) else fin 0 s
theorem l6_best (X : aX) {mn : Int32} (hC : CR rw nu wd tp sh fi ik s) : ∀ (k l : Nat) (u5 : Value) (vo : sV), l + k = 4 → G X 10 kX6_best 21 [.ref 0, .int mn, .int (bestN s mn l).1, .int (bestN s mn l).2, .int (nI l), u5] [] (H rw nu wd vo od tp sh fi ik m) (fun v h' => v = some (.int (if 0 ≤ (bestN s mn 4).1 then ((bestN s mn 4).1, s) else fin 3 s).1) ∧ CI m (if 0 ≤ (bestN s mn 4).1 then ((bestN s mn 4).1, s) else fin 3 s).2 h') := by
  intro k
  induction k with
  | zero =>
    intro l u5 vo hl
    obtain rfl : l = 4 := by omega
    iterate 2 (refine G.st rfl rfl ?_)
    refine G.brt rfl (le_nI (k := 4) rfl (by omega) (by omega)) ?_
    iterate 1 (refine G.st rfl rfl ?_)
    by_cases hb : 0 ≤ (bestN s mn 4).1
    · rw [if_pos hb]
      refine G.brt rfl hb ?_
      iterate 1 (refine G.st rfl rfl ?_)
      exact G.ret rfl rfl ⟨rfl, CI.mk hC⟩
    · rw [if_neg hb]
      refine G.brf rfl hb ?_
      iterate 2 (refine G.st rfl rfl ?_)
      refine G.call rfl rfl (Nat.le_of_ble_eq_true rfl) (Sp.up (c6_f3 X hC) (Nat.le_of_ble_eq_true rfl)) ?_
      rintro _ _ ⟨rfl, hci⟩
      iterate 1 (refine G.st rfl rfl ?_)
      exact G.ret rfl rfl ⟨rfl, hci⟩
  | succ k ih =>
    intro l u5 vo hl
    obtain ⟨hr, hgk, h7⟩ := hC.rep (show l < 4 by omega)
    iterate 2 (refine G.st rfl rfl ?_)
    refine G.brf rfl (nle_nI (k := 4) rfl (by omega) (by omega)) ?_
    iterate 5 (refine G.st rfl rfl ?_)
    refine G.aald rfl rfl (by decide) (ix_nI (show l < 4 by omega) (by omega)) (rf4_row (show l < 4 by omega)) ?_
    iterate 1 (refine G.st rfl rfl ?_)
    refine G.call rfl rfl (Nat.le_of_ble_eq_true rfl) (Sp.up (s6_windsReadAs X hC.num (show l < 13 by omega) hr hgk) (Nat.le_of_ble_eq_true rfl)) ?_
    rintro _ _ ⟨rfl, vo1, rfl⟩
    refine G.call rfl rfl (Nat.le_of_ble_eq_true rfl) (Sp.up (sj_bitCount X _ _) (Nat.le_of_ble_eq_true rfl)) ?_
    rintro _ _ ⟨rfl, rfl⟩
    iterate 3 (refine G.st rfl rfl ?_)
    refine G.br rfl (fun hc => ?_) (fun hc => ?_)
    · iterate 1 (refine G.st rfl rfl ?_)
      rw [nI_1]
      iterate 1 (refine G.st rfl rfl ?_)
      have := ih (l + 1) (.int (bcI (wndN (zN s) (zL s l) mn 21))) vo1 (by omega)
      conv at this => arg 5; unfold bestN
      rw [if_pos hc] at this
      exact this
    · iterate 4 (refine G.st rfl rfl ?_)
      iterate 1 (refine G.st rfl rfl ?_)
      rw [nI_1]
      iterate 1 (refine G.st rfl rfl ?_)
      have := ih (l + 1) (.int (bcI (wndN (zN s) (zL s l) mn 21))) vo1 (by omega)
      conv at this => arg 5; unfold bestN
      rw [if_neg hc] at this
      exact this
theorem p6_best (X : aX) (mn : Int32) {h : aH} (hC : CI m s h) : Sp X 10 kX6_best [.ref 0, .int mn] h (fun v h' => v = some (.int (S_best s mn).1) ∧ CI m (S_best s mn).2 h') := by
  obtain ⟨rw, nu, wd, vo, od, tp, sh, fi, ik, rfl, hC⟩ := hC
  unfold Sp S_best
  iterate 1 (refine G.st rfl rfl ?_)
  refine G.call rfl rfl (Nat.le_of_ble_eq_true rfl) (Sp.up (s6_isMeaning X mn _) (Nat.le_of_ble_eq_true rfl)) ?_
  rintro _ _ ⟨rfl, rfl⟩
  by_cases hm : 0 ≤ mn ∧ mn ≤ 9
  case neg =>
    rw [if_neg hm]
    refine G.brt rfl (bI_0.mpr hm) ?_
    iterate 2 (refine G.st rfl rfl ?_)
    refine G.call rfl rfl (Nat.le_of_ble_eq_true rfl) (Sp.up (c6_f0 X hC) (Nat.le_of_ble_eq_true rfl)) ?_
    rintro _ _ ⟨rfl, hci⟩
    exact G.ret rfl rfl ⟨rfl, hci⟩
  rw [if_pos hm]
  refine G.brf rfl (bI_n hm) ?_
  iterate 6 (refine G.st rfl rfl ?_)
  exact l6_best X hC 4 0 _ vo rfl
end JOIN
