section RLOST
variable {c : Nat → aC} {m : sM} {s : Sg} {n : Nat}
theorem s7_butRead (X : aX) {l : Nat} {M : Int32} {m' : sM} (hS : SOk s) (hM : MR n m' s) (hl : l < 4) (h1 : RW m' (fil M (zL s l) 0 (zL s l).length)) (h2 : mrn m' = nI (fil M (zL s l) 0 (zL s l).length).length) : Sp X 2 kX7_worthAside [.ref 81] (HR c m') (An (some (.int (wlst (zW s) (fil M (zL s l) 0 (zL s l).length)))) (HR c m')) := by
  have h7 := hS.len hl
  have h8 := fil_len M (zL s l) (zL s l).length 0
  exact s7_worthAside X hM h1 h2 (fil_K (hS.gk hl) _ 0 (by omega)) (by omega)
theorem l7_lost (X : aX) {l : Nat} {now : Int32} (hS : SOk s) (hl : l < 4) : ∀ (k p : Nat) (m : sM), p + k = (zL s l).length → MR n m s → G X 10 kX7_lost 46 [.ref 81, .int (nI l), .int now, .int (lostN (zN s) (zW s) (zL s l) now p), .int (nI p)] [] (HR c m) (MP c n (lostN (zN s) (zW s) (zL s l) now (zL s l).length, s))
  | 0, p, m, hp, hM => by
    have h7 := hS.len hl
    iterate 6 (refine G.st rfl rfl ?_)
    refine G.iald rfl rfl (ix0 (show l < 110 by omega) (by omega)) ?_
    rw [hM.len hl]
    refine G.brt rfl (by rw [nI_leI (by omega) (by omega)]; omega) ?_
    iterate 1 (refine G.st rfl rfl ?_)
    exact G.ret rfl rfl ⟨by rw [show p = (zL s l).length by omega], m, rfl, hM⟩
  | k + 1, p, m, hp, hM => by
    have h7 := hS.len hl
    iterate 6 (refine G.st rfl rfl ?_)
    refine G.iald rfl rfl (ix0 (show l < 110 by omega) (by omega)) ?_
    rw [hM.len hl]
    refine G.brf rfl (by rw [nI_leI (by omega) (by omega)]; omega) ?_
    iterate 5 (refine G.st rfl rfl ?_)
    refine G.call rfl rfl (Nat.le_of_ble_eq_true rfl) (Sp.up (s7_laysBut X hS hM hl) (Nat.le_of_ble_eq_true rfl)) ?_
    rintro _ _ ⟨rfl, m', rfl, hra, h1, h2⟩
    have hM' := hra.MR hM
    iterate 3 (refine G.st rfl rfl ?_)
    refine G.call rfl rfl (Nat.le_of_ble_eq_true rfl) (Sp.up (s7_butRead X hS hM' hl h1 h2) (Nat.le_of_ble_eq_true rfl)) ?_
    rintro _ _ ⟨rfl, rfl⟩
    refine G.call rfl rfl (Nat.le_of_ble_eq_true rfl) (Sp.up (s7_readAs X hM') (Nat.le_of_ble_eq_true rfl)) ?_
    rintro _ _ ⟨rfl, rfl⟩
    iterate 1 (refine G.st rfl rfl ?_)
    have := l7_lost X (l := l) (now := now) hS hl k (p + 1) m' (by omega) hM'
    conv at this => arg 5; unfold lostN
    refine G.br rfl (fun hc => ?_) (fun hc => ?_)
    · rw [if_pos hc] at this
      iterate 3 (refine G.st rfl rfl ?_)
      rw [or_0]
      iterate 2 (refine G.st rfl rfl ?_)
      rw [nI_1]
      iterate 1 (refine G.st rfl rfl ?_)
      exact this
    · rw [if_neg hc] at this
      iterate 6 (refine G.st rfl rfl ?_)
      rw [nI_1]
      iterate 1 (refine G.st rfl rfl ?_)
      exact this
theorem p7_lost (X : aX) (line : Int32) (hS : SOk s) (hM : MR n m s) : Sp X 10 kX7_lost [.ref 81, .int line] (HR c m) (MP c n (S_lost s line)) := by
  unfold Sp S_lost
  show G X 10 kX7_lost 0 [.ref 81, .int line, .double 0, .double 0, .double 0] [] _ _
  iterate 1 (refine G.st rfl rfl ?_)
  refine G.call rfl rfl (Nat.le_of_ble_eq_true rfl) (Sp.up (s7_isLine X line _) (Nat.le_of_ble_eq_true rfl)) ?_
  rintro _ _ ⟨rfl, rfl⟩
  by_cases hl : 0 ≤ line ∧ line ≤ 3
  case neg =>
    rw [if_neg hl]
    refine G.brt rfl (bI_0.mpr hl) ?_
    iterate 2 (refine G.st rfl rfl ?_)
    refine G.call rfl rfl (Nat.le_of_ble_eq_true rfl) (Sp.up (c7_f0 X hM) (Nat.le_of_ble_eq_true rfl)) ?_
    rintro _ _ ⟨rfl, hci⟩
    exact G.ret rfl rfl ⟨rfl, hci⟩
  rw [if_pos hl]
  refine G.brf rfl (bI_n hl) ?_
  obtain ⟨l, hl4, rfl⟩ := lok_n hl
  rw [ln_nI (by omega)]
  iterate 6 (refine G.st rfl rfl ?_)
  refine G.iald rfl rfl (j := 4) ⟨by decide, rfl, by decide⟩ ?_
  rw [hM.1.2.1]
  refine G.call rfl rfl (Nat.le_of_ble_eq_true rfl) (Sp.up (s7_worthBy X hS hM hl4) (Nat.le_of_ble_eq_true rfl)) ?_
  rintro _ _ ⟨rfl, m', rfl, hra, hrw, hrn⟩
  have hM' := hra.MR hM
  refine G.call rfl rfl (Nat.le_of_ble_eq_true rfl) (Sp.up (s7_readAs X hM') (Nat.le_of_ble_eq_true rfl)) ?_
  rintro _ _ ⟨rfl, rfl⟩
  iterate 2 (refine G.st rfl rfl ?_)
  cases hr : rd (zN s) (wlst (zW s) (zL s l)) with
  | none =>
    refine G.brf rfl (by decide) ?_
    iterate 2 (refine G.st rfl rfl ?_)
    refine G.call rfl rfl (Nat.le_of_ble_eq_true rfl) (Sp.up (c7_f3 X hM') (Nat.le_of_ble_eq_true rfl)) ?_
    rintro _ _ ⟨rfl, hci⟩
    exact G.ret rfl rfl ⟨rfl, hci⟩
  | some b =>
    refine G.brt rfl (nI_pos' (show b < 2 ^ 31 by have := rd_lt hr; omega)) ?_
    iterate 4 (refine G.st rfl rfl ?_)
    exact l7_lost X hS hl4 (zL s l).length 0 m' (by omega) hM'
end RLOST
