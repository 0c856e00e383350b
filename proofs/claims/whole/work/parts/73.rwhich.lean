/-! ===== the reference: fewest, which, best ===== -/
theorem rd_none {nm : Nat → Option Int32} {b : Nat} (hb : b < 10) (h : nm b = none) (v : Int32) : ¬ rdI (rd nm v) = nI b := by
  intro e
  have e2 := (rdI_iff (fun x hx => rd_lt hx) hb).mp e
  have := (rdN_in nm v 10 b e2).2
  rw [h] at this
  cases this
theorem fwN_none {nm : Nat → Option Int32} {w : Int32} {g : List Gar} {b : Nat} (hb : b < 10) (h : nm b = none) : ∀ k, fwN nm w g (nI b) k = none
  | 0 => rfl
  | k + 1 => by
    unfold fwN
    rw [if_neg (fun q => rd_none hb h _ q.1)]
    exact fwN_none hb h k
theorem wndN_none {nm : Nat → Option Int32} {g : List Gar} {b : Nat} (hb : b < 10) (h : nm b = none) : ∀ k, wndN nm g (nI b) k = 0
  | 0 => rfl
  | k + 1 => by
    unfold wndN
    rw [if_neg (rd_none hb h _)]
    exact wndN_none hb h k
theorem wnd_n {nm : Nat → Option Int32} {g : List Gar} {mn : Int32} : ∀ k, k ≤ 21 → ∃ w, w < 2 ^ k ∧ wndN nm g mn k = nI w
  | 0, _ => ⟨0, by omega, rfl⟩
  | k + 1, h => by
    obtain ⟨w, h1, h2⟩ := wnd_n (nm := nm) (g := g) (mn := mn) k (by omega)
    unfold wndN
    rw [h2]
    have hk : w < 2 ^ (k + 1) := by rw [Nat.pow_succ]; omega
    split
    · refine ⟨w ||| 2 ^ k, Nat.or_lt_two_pow hk (Nat.pow_lt_pow_right (by omega) (by omega)), ?_⟩
      rw [shl_10 k (by omega), nI_or]
    · exact ⟨w, hk, rfl⟩
section RWHICH
variable {c : Nat → aC} {m : sM} {s : Sg} {n : Nat}
theorem l7_few (X : aX) {l b : Nat} (hS : SOk s) (hl : l < 4) (hb : b < 10) (hx : (zN s b).isSome = true) : ∀ (k q : Nat) (m : sM) (u5 : Value), q + k = 2 ^ (zL s l).length → MR n m s → G X 3 kX7_fewestSet 5 [.ref 81, .int (nI l), .int (nI b), .int (rdI (fwN (zN s) (zW s) (zL s l) (nI b) q)), .int (nI q), u5] [] (HR c m) (fun v h' => v = some (.int (rdI (fwN (zN s) (zW s) (zL s l) (nI b) (2 ^ (zL s l).length)))) ∧ ∃ m', h' = HR c m' ∧ MR n m' s) := by
  have h7 := hS.len hl
  have h128 : 2 ^ (zL s l).length ≤ 2 ^ 7 := Nat.pow_le_pow_right (by omega) h7
  have hlt : ∀ q d, fwN (zN s) (zW s) (zL s l) (nI b) q = some d → d < q := fun q d h => fwN_lt q d h
  intro k
  induction k with
  | zero =>
    intro q m u5 hq hM
    iterate 7 (refine G.st rfl rfl ?_)
    refine G.iald rfl rfl (ix0 (show l < 110 by omega) (by omega)) ?_
    rw [hM.len hl]
    iterate 1 (refine G.st rfl rfl ?_)
    rw [shl_8 _ (by omega)]
    refine G.brt rfl (by rw [nI_leI (by omega) (by omega)]; omega) ?_
    iterate 1 (refine G.st rfl rfl ?_)
    exact G.ret rfl rfl ⟨by rw [show q = 2 ^ (zL s l).length by omega], m, rfl, hM⟩
  | succ k ih =>
    intro q m u5 hq hM
    iterate 7 (refine G.st rfl rfl ?_)
    refine G.iald rfl rfl (ix0 (show l < 110 by omega) (by omega)) ?_
    rw [hM.len hl]
    iterate 1 (refine G.st rfl rfl ?_)
    rw [shl_8 _ (by omega)]
    refine G.brf rfl (by rw [nI_leI (by omega) (by omega)]; omega) ?_
    iterate 5 (refine G.st rfl rfl ?_)
    refine G.iald rfl rfl (ixa (k := 6) rfl (show 6 + b < 110 by omega) (by omega)) ?_
    rw [hM.has hb]
    iterate 1 (refine G.st rfl rfl ?_)
    refine G.brt rfl (bI_1.mpr hx) ?_
    iterate 3 (refine G.st rfl rfl ?_)
    refine G.call rfl rfl (Nat.le_of_ble_eq_true rfl) (Sp.up (s7_laysBut X (M := nI q) hS hM hl) (Nat.le_of_ble_eq_true rfl)) ?_
    rintro _ _ ⟨rfl, m', rfl, hra, h1, h2⟩
    have hM' := hra.MR hM
    have keep : ∀ u, fwN (zN s) (zW s) (zL s l) (nI b) (q + 1) = fwN (zN s) (zW s) (zL s l) (nI b) q → G X 3 kX7_fewestSet 85 [.ref 81, .int (nI l), .int (nI b), .int (rdI (fwN (zN s) (zW s) (zL s l) (nI b) q)), .int (nI q), .int u] [] (HR c m') (fun v h' => v = some (.int (rdI (fwN (zN s) (zW s) (zL s l) (nI b) (2 ^ (zL s l).length)))) ∧ ∃ m', h' = HR c m' ∧ MR n m' s) := by
      intro u e
      iterate 3 (refine G.st rfl rfl ?_)
      rw [nI_1]
      iterate 1 (refine G.st rfl rfl ?_)
      have := ih (q + 1) m' (.int u) (by omega) hM'
      rw [e] at this
      exact this
    have no : fwN (zN s) (zW s) (zL s l) (nI b) (q + 1) = fwN (zN s) (zW s) (zL s l) (nI b) q → G X 3 kX7_fewestSet 60 [.ref 81, .int (nI l), .int (nI b), .int (rdI (fwN (zN s) (zW s) (zL s l) (nI b) q)), .int (nI q), u5] [] (HR c m') (fun v h' => v = some (.int (rdI (fwN (zN s) (zW s) (zL s l) (nI b) (2 ^ (zL s l).length)))) ∧ ∃ m', h' = HR c m' ∧ MR n m' s) := by
      intro e
      iterate 3 (refine G.st rfl rfl ?_)
      exact G.brt rfl rfl (keep 0 e)
    have yes : (fwN (zN s) (zW s) (zL s l) (nI b) q = none ∨ ∃ d ∈ fwN (zN s) (zW s) (zL s l) (nI b) q, popN q < popN d) → G X 3 kX7_fewestSet 56 [.ref 81, .int (nI l), .int (nI b), .int (rdI (fwN (zN s) (zW s) (zL s l) (nI b) q)), .int (nI q), u5] [] (HR c m') (fun v h' => v = some (.int (rdI (fwN (zN s) (zW s) (zL s l) (nI b) (2 ^ (zL s l).length)))) ∧ ∃ m', h' = HR c m' ∧ MR n m' s) := by
      intro hf
      iterate 4 (refine G.st rfl rfl ?_)
      refine G.brf rfl (by decide) ?_
      iterate 2 (refine G.st rfl rfl ?_)
      refine G.call rfl rfl (Nat.le_of_ble_eq_true rfl) (Sp.up (s7_butRead X hS hM' hl h1 h2) (Nat.le_of_ble_eq_true rfl)) ?_
      rintro _ _ ⟨rfl, rfl⟩
      refine G.call rfl rfl (Nat.le_of_ble_eq_true rfl) (Sp.up (s7_readAs X hM') (Nat.le_of_ble_eq_true rfl)) ?_
      rintro _ _ ⟨rfl, rfl⟩
      iterate 1 (refine G.st rfl rfl ?_)
      by_cases hc : rdI (rd (zN s) (wlst (zW s) (fil (nI q) (zL s l) 0 (zL s l).length))) = nI b
      · refine G.brt rfl hc ?_
        have e : fwN (zN s) (zW s) (zL s l) (nI b) (q + 1) = some q := by
          conv => lhs; unfold fwN
          rw [if_pos ⟨hc, hf⟩]
        iterate 4 (refine G.st rfl rfl ?_)
        rw [nI_1]
        iterate 1 (refine G.st rfl rfl ?_)
        have := ih (q + 1) m' (.int 1) (by omega) hM'
        rw [e] at this
        exact this
      · refine G.brf rfl hc ?_
        refine keep 1 ?_
        conv => lhs; unfold fwN
        rw [if_neg (fun w => hc w.1)]
    iterate 1 (refine G.st rfl rfl ?_)
    cases hfw : fwN (zN s) (zW s) (zL s l) (nI b) q with
    | none =>
      rw [hfw] at yes
      exact G.brt rfl (by decide) (yes (Or.inl rfl))
    | some d =>
      have hd := hlt q d hfw
      rw [hfw] at yes no
      refine G.brf rfl (nI_pos (show d < 2 ^ 31 by omega)) ?_
      iterate 1 (refine G.st rfl rfl ?_)
      refine G.call rfl rfl (Nat.le_of_ble_eq_true rfl) (Sp.up (s7_manyIn X (show q < 2 ^ 31 by omega) _) (Nat.le_of_ble_eq_true rfl)) ?_
      rintro _ _ ⟨rfl, rfl⟩
      iterate 1 (refine G.st rfl rfl ?_)
      refine G.call rfl rfl (Nat.le_of_ble_eq_true rfl) (Sp.up (s7_manyIn X (show d < 2 ^ 31 by omega) _) (Nat.le_of_ble_eq_true rfl)) ?_
      rintro _ _ ⟨rfl, rfl⟩
      have p1 := (bcI_128 q (by omega)).2
      have p2 := (bcI_128 d (by omega)).2
      rw [← popN_R, ← popN_R]
      by_cases hc : popN d ≤ popN q
      · refine G.brt rfl (by rw [nI_leI (by omega) (by omega)]; exact hc) ?_
        refine no ?_
        conv => lhs; unfold fwN
        rw [hfw, if_neg]
        rintro ⟨-, w | ⟨d', w1, w2⟩⟩
        · cases w
        · cases w1
          omega
      · refine G.brf rfl (by rw [nI_leI (by omega) (by omega)]; exact hc) ?_
        exact yes (Or.inr ⟨d, rfl, by omega⟩)
theorem s7_fewestSet (X : aX) {l b : Nat} (hS : SOk s) (hM : MR n m s) (hl : l < 4) (hb : b < 10) : Sp X 3 kX7_fewestSet [.ref 81, .int (nI l), .int (nI b)] (HR c m) (fun v h' => v = some (.int (rdI (fwN (zN s) (zW s) (zL s l) (nI b) (2 ^ (zL s l).length)))) ∧ ∃ m', h' = HR c m' ∧ MR n m' s) := by
  unfold Sp
  have h7 := hS.len hl
  have hpos : 0 < 2 ^ (zL s l).length := Nat.two_pow_pos _
  have h128 : 2 ^ (zL s l).length ≤ 2 ^ 7 := Nat.pow_le_pow_right (by omega) h7
  iterate 4 (refine G.st rfl rfl ?_)
  by_cases hx : (zN s b).isSome = true
  · exact l7_few X hS hl hb hx (2 ^ (zL s l).length) 0 m (.double 0) (by omega) hM
  · have hn : zN s b = none := by simpa using hx
    iterate 7 (refine G.st rfl rfl ?_)
    refine G.iald rfl rfl (ix0 (show l < 110 by omega) (by omega)) ?_
    rw [hM.len hl]
    iterate 1 (refine G.st rfl rfl ?_)
    rw [shl_8 _ (by omega)]
    refine G.brf rfl (by show ¬ nI (2 ^ (zL s l).length) ≤ nI 0; rw [nI_leI (by omega) (by omega)]; omega) ?_
    iterate 5 (refine G.st rfl rfl ?_)
    refine G.iald rfl rfl (ixa (k := 6) rfl (show 6 + b < 110 by omega) (by omega)) ?_
    rw [hM.has hb]
    iterate 1 (refine G.st rfl rfl ?_)
    refine G.brf rfl (fun q => hx (bI_1.mp q)) ?_
    iterate 1 (refine G.st rfl rfl ?_)
    refine G.ret rfl rfl ⟨?_, m, rfl, hM⟩
    rw [fwN_none hb hn]
    rfl
theorem fw_128 (hS : SOk s) {l b d : Nat} (hl : l < 4) (h : fwN (zN s) (zW s) (zL s l) (nI b) (2 ^ (zL s l).length) = some d) : d < 128 := by
  have h7 := hS.len hl
  have h128 : 2 ^ (zL s l).length ≤ 2 ^ 7 := Nat.pow_le_pow_right (by omega) h7
  have := fwN_lt _ d h
  omega
theorem p7_which (X : aX) (line mn : Int32) (hS : SOk s) (hM : MR n m s) : Sp X 10 kX7_which [.ref 81, .int line, .int mn] (HR c m) (MP c n (S_which s line mn)) := by
  unfold Sp S_which fw
  show G X 10 kX7_which 0 [.ref 81, .int line, .int mn] [] _ _
  have bad : G X 10 kX7_which 27 [.ref 81, .int line, .int mn] [] (HR c m) (MP c n (fin 0 s)) := by
    iterate 2 (refine G.st rfl rfl ?_)
    refine G.call rfl rfl (Nat.le_of_ble_eq_true rfl) (Sp.up (c7_f0 X hM) (Nat.le_of_ble_eq_true rfl)) ?_
    rintro _ _ ⟨rfl, hci⟩
    exact G.ret rfl rfl ⟨rfl, hci⟩
  iterate 1 (refine G.st rfl rfl ?_)
  refine G.call rfl rfl (Nat.le_of_ble_eq_true rfl) (Sp.up (s7_isLine X line _) (Nat.le_of_ble_eq_true rfl)) ?_
  rintro _ _ ⟨rfl, rfl⟩
  by_cases hl : 0 ≤ line ∧ line ≤ 3
  case neg =>
    rw [if_neg (fun q => hl q.1)]
    exact G.brt rfl (bI_0.mpr hl) bad
  refine G.brf rfl (bI_n hl) ?_
  iterate 1 (refine G.st rfl rfl ?_)
  refine G.call rfl rfl (Nat.le_of_ble_eq_true rfl) (Sp.up (s7_isMeaning X mn _) (Nat.le_of_ble_eq_true rfl)) ?_
  rintro _ _ ⟨rfl, rfl⟩
  by_cases hm : 0 ≤ mn ∧ mn ≤ 9
  case neg =>
    rw [if_neg (fun q => hm q.2)]
    exact G.brt rfl (bI_0.mpr hm) bad
  refine G.brf rfl (bI_n hm) ?_
  rw [if_pos ⟨hl, hm⟩]
  obtain ⟨l, hl4, rfl⟩ := lok_n hl
  obtain ⟨b, hb, rfl⟩ := mok_n hm
  rw [ln_nI (by omega)]
  iterate 4 (refine G.st rfl rfl ?_)
  refine G.call rfl rfl (Nat.le_of_ble_eq_true rfl) (Sp.up (s7_fewestSet X hS hM hl4 hb) (Nat.le_of_ble_eq_true rfl)) ?_
  rintro _ _ ⟨rfl, m', rfl, hM'⟩
  refine G.call rfl rfl (Nat.le_of_ble_eq_true rfl) (Sp.up (c7_oN X hM' (fun d hd => by have := fw_128 hS hl4 hd; omega)) (Nat.le_of_ble_eq_true rfl)) ?_
  rintro _ _ ⟨rfl, hci⟩
  iterate 1 (refine G.st rfl rfl ?_)
  exact G.ret rfl rfl ⟨rfl, hci⟩
theorem p7_fewest (X : aX) (line mn : Int32) (hS : SOk s) (hM : MR n m s) : Sp X 10 kX7_fewest [.ref 81, .int line, .int mn] (HR c m) (MP c n (S_fewest s line mn)) := by
  unfold Sp S_fewest fw
  show G X 10 kX7_fewest 0 [.ref 81, .int line, .int mn, .double 0] [] _ _
  have bad : G X 10 kX7_fewest 14 [.ref 81, .int line, .int mn, .double 0] [] (HR c m) (MP c n (fin 0 s)) := by
    iterate 2 (refine G.st rfl rfl ?_)
    refine G.call rfl rfl (Nat.le_of_ble_eq_true rfl) (Sp.up (c7_f0 X hM) (Nat.le_of_ble_eq_true rfl)) ?_
    rintro _ _ ⟨rfl, hci⟩
    exact G.ret rfl rfl ⟨rfl, hci⟩
  iterate 1 (refine G.st rfl rfl ?_)
  refine G.call rfl rfl (Nat.le_of_ble_eq_true rfl) (Sp.up (s7_isLine X line _) (Nat.le_of_ble_eq_true rfl)) ?_
  rintro _ _ ⟨rfl, rfl⟩
  by_cases hl : 0 ≤ line ∧ line ≤ 3
  case neg =>
    rw [if_neg (fun q => hl q.1)]
    exact G.brt rfl (bI_0.mpr hl) bad
  refine G.brf rfl (bI_n hl) ?_
  iterate 1 (refine G.st rfl rfl ?_)
  refine G.call rfl rfl (Nat.le_of_ble_eq_true rfl) (Sp.up (s7_isMeaning X mn _) (Nat.le_of_ble_eq_true rfl)) ?_
  rintro _ _ ⟨rfl, rfl⟩
  by_cases hm : 0 ≤ mn ∧ mn ≤ 9
  case neg =>
    rw [if_neg (fun q => hm q.2)]
    exact G.brt rfl (bI_0.mpr hm) bad
  refine G.brf rfl (bI_n hm) ?_
  rw [if_pos ⟨hl, hm⟩]
  obtain ⟨l, hl4, rfl⟩ := lok_n hl
  obtain ⟨b, hb, rfl⟩ := mok_n hm
  rw [ln_nI (by omega)]
  iterate 3 (refine G.st rfl rfl ?_)
  refine G.call rfl rfl (Nat.le_of_ble_eq_true rfl) (Sp.up (s7_fewestSet X hS hM hl4 hb) (Nat.le_of_ble_eq_true rfl)) ?_
  rintro _ _ ⟨rfl, m', rfl, hM'⟩
  iterate 2 (refine G.st rfl rfl ?_)
  cases hd : fwN (zN s) (zW s) (zL s l) (nI b) (2 ^ (zL s l).length) with
  | none =>
    refine G.brf rfl (by decide) ?_
    iterate 2 (refine G.st rfl rfl ?_)
    refine G.call rfl rfl (Nat.le_of_ble_eq_true rfl) (Sp.up (c7_f3 X hM') (Nat.le_of_ble_eq_true rfl)) ?_
    rintro _ _ ⟨rfl, hci⟩
    iterate 1 (refine G.st rfl rfl ?_)
    exact G.ret rfl rfl ⟨rfl, hci⟩
  | some d =>
    have := fw_128 hS hl4 hd
    refine G.brt rfl (nI_pos' (show d < 2 ^ 31 by omega)) ?_
    iterate 1 (refine G.st rfl rfl ?_)
    refine G.call rfl rfl (Nat.le_of_ble_eq_true rfl) (Sp.up (s7_manyIn X (show d < 2 ^ 31 by omega) _) (Nat.le_of_ble_eq_true rfl)) ?_
    rintro _ _ ⟨rfl, rfl⟩
    rw [← popN_R]
    exact G.ret rfl rfl ⟨rfl, m', rfl, hM'⟩
end RWHICH
