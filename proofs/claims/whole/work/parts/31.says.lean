section SAYS
variable {rw : Nat → sR} {nu : Nat → Nat → Int32} {wd : Nat → Int32 × Int32} {vo : sV} {od : sO} {tp : sP} {sh : Nat → sS} {fi : Nat → Int32} {ik : Int32} {m : sM} {s : Sg}
def lostN (nm : Nat → Option Int32) (w : Int32) (g : List Gar) (now : Int32) : Nat → Int32
  | 0 => 0
  | p + 1 => if rdI (rd nm (wlst w (fil ((1 : Int32) <<< (nI p &&& 31)) g 0 g.length))) = now then lostN nm w g now p else lostN nm w g now p ||| ((1 : Int32) <<< (nI p &&& 31))
theorem l6_lost (X : aX) {l : Nat} {now : Int32} {u : Value} (hl4 : l < 4) (hC : CR rw nu wd tp sh fi ik s) : ∀ (k p : Nat) (vo : sV), p + k = (zL s l).length → G X 10 kX6_lost 48 [.ref 0, u, .ref (rb l), .int now, .int (lostN (zN s) (zW s) (zL s l) now p), .int (nI p)] [] (H rw nu wd vo od tp sh fi ik m) (fun v h' => v = some (.int (lostN (zN s) (zW s) (zL s l) now (zL s l).length)) ∧ CI m s h') := by
  obtain ⟨hr, hgk, h7⟩ := hC.rep hl4
  have hw := hC.wd0
  intro k
  induction k with
  | zero =>
    intro p vo hp
    iterate 2 (refine G.st rfl rfl ?_)
    refine G.get rfl (H_row (by omega)).1 rfl ?_
    rw [hr.1]
    refine G.brt rfl (by rw [nI_leI (by omega) (by omega)]; omega) ?_
    iterate 1 (refine G.st rfl rfl ?_)
    refine G.ret rfl rfl ⟨?_, CI.mk hC⟩
    rw [show p = (zL s l).length by omega]
  | succ k ih =>
    intro p vo hp
    iterate 2 (refine G.st rfl rfl ?_)
    refine G.get rfl (H_row (by omega)).1 rfl ?_
    rw [hr.1]
    refine G.brf rfl (by rw [nI_leI (by omega) (by omega)]; omega) ?_
    iterate 5 (refine G.st rfl rfl ?_)
    refine G.call rfl rfl (Nat.le_of_ble_eq_true rfl) (Sp.up (s6_readWithout X hC.num (show l < 13 by omega) hr hgk) (Nat.le_of_ble_eq_true rfl)) ?_
    rintro _ _ ⟨rfl, vo1, rfl⟩
    rw [hw]
    iterate 1 (refine G.st rfl rfl ?_)
    refine G.br rfl (fun hc => ?_) (fun hc => ?_)
    · iterate 1 (refine G.st rfl rfl ?_)
      rw [nI_1]
      iterate 1 (refine G.st rfl rfl ?_)
      have := ih (p + 1) vo1 (by omega)
      conv at this => arg 5; unfold lostN
      rw [if_pos hc] at this
      exact this
    · iterate 7 (refine G.st rfl rfl ?_)
      rw [nI_1]
      iterate 1 (refine G.st rfl rfl ?_)
      have := ih (p + 1) vo1 (by omega)
      conv at this => arg 5; unfold lostN
      rw [if_neg hc] at this
      exact this
def S_lost (s : Sg) (line : Int32) : Int32 × Sg := if 0 ≤ line ∧ line ≤ 3 then (match rd (zN s) (wlst (zW s) (zL s (ln line))) with | none => fin 3 s | some b => (lostN (zN s) (zW s) (zL s (ln line)) (nI b) (zL s (ln line)).length, s)) else fin 0 s
theorem p6_lost (X : aX) (line : Int32) {h : aH} (hC : CI m s h) : Sp X 10 kX6_lost [.ref 0, .int line] h (fun v h' => v = some (.int (S_lost s line).1) ∧ CI m (S_lost s line).2 h') := by
  obtain ⟨rw, nu, wd, vo, od, tp, sh, fi, ik, rfl, hC⟩ := hC
  unfold Sp S_lost
  iterate 1 (refine G.st rfl rfl ?_)
  refine G.call rfl rfl (Nat.le_of_ble_eq_true rfl) (Sp.up (s6_isLine X line _) (Nat.le_of_ble_eq_true rfl)) ?_
  rintro _ _ ⟨rfl, rfl⟩
  by_cases hl : 0 ≤ line ∧ line ≤ 3
  case neg =>
    rw [if_neg hl]
    refine G.brt rfl (bI_0.mpr hl) ?_
    iterate 2 (refine G.st rfl rfl ?_)
    refine G.call rfl rfl (Nat.le_of_ble_eq_true rfl) (Sp.up (c6_f0 X hC) (Nat.le_of_ble_eq_true rfl)) ?_
    rintro _ _ ⟨rfl, hci⟩
    exact G.ret rfl rfl ⟨rfl, hci⟩
  rw [if_pos hl]
  refine G.brf rfl (bI_n hl) ?_
  obtain ⟨l, hl4, rfl⟩ := lok_n hl
  obtain ⟨hr, hgk, h7⟩ := hC.rep hl4
  rw [ln_nI (by omega)]
  have hw := hC.wd0
  iterate 4 (refine G.st rfl rfl ?_)
  refine G.aald rfl rfl (by decide) (ix_nI hl4 (by omega)) (rf4_row hl4) ?_
  iterate 3 (refine G.st rfl rfl ?_)
  refine G.call rfl rfl (Nat.le_of_ble_eq_true rfl) (Sp.up (s6_readNow X hC.num (show l < 13 by omega) hr hgk) (Nat.le_of_ble_eq_true rfl)) ?_
  rintro _ _ ⟨rfl, vo1, rfl⟩
  rw [hw]
  iterate 3 (refine G.st rfl rfl ?_)
  cases hx : rd (zN s) (wlst (zW s) (zL s l)) with
  | none =>
    refine G.brt rfl rfl ?_
    iterate 2 (refine G.st rfl rfl ?_)
    refine G.call rfl rfl (Nat.le_of_ble_eq_true rfl) (Sp.up (c6_f3 X hC) (Nat.le_of_ble_eq_true rfl)) ?_
    rintro _ _ ⟨rfl, hci⟩
    exact G.ret rfl rfl ⟨rfl, hci⟩
  | some b =>
    refine G.brf rfl (nI_ne (by have := rd_lt hx; omega)) ?_
    iterate 4 (refine G.st rfl rfl ?_)
    exact l6_lost X hl4 hC (zL s l).length 0 vo1 (by omega)
def fw (s : Sg) (line mn : Int32) : Option Nat := fwN (zN s) (zW s) (zL s (ln line)) mn (2 ^ (zL s (ln line)).length)
def S_which (s : Sg) (line mn : Int32) : Int32 × Sg := if (0 ≤ line ∧ line ≤ 3) ∧ 0 ≤ mn ∧ mn ≤ 9 then (match fw s line mn with | none => fin 3 s | some b => (nI b, s)) else fin 0 s
def S_fewest (s : Sg) (line mn : Int32) : Int32 × Sg := if (0 ≤ line ∧ line ≤ 3) ∧ 0 ≤ mn ∧ mn ≤ 9 then (match fw s line mn with | none => fin 3 s | some b => (nI (popN b), s)) else fin 0 s
theorem fw_lt {l : Nat} {mn : Int32} {b : Nat} (hC : CR rw nu wd tp sh fi ik s) (hl4 : l < 4) (h : fwN (zN s) (zW s) (zL s l) mn (2 ^ (zL s l).length) = some b) : b < 128 := by
  have h7 := (hC.rep hl4).2.2
  have h1 := fwN_lt _ b h
  have h128 : 2 ^ (zL s l).length ≤ 2 ^ 7 := Nat.pow_le_pow_right (by omega) h7
  omega
theorem p6_which (X : aX) (line mn : Int32) {h : aH} (hC : CI m s h) : Sp X 10 kX6_which [.ref 0, .int line, .int mn] h (fun v h' => v = some (.int (S_which s line mn).1) ∧ CI m (S_which s line mn).2 h') := by
  obtain ⟨rw, nu, wd, vo, od, tp, sh, fi, ik, rfl, hC⟩ := hC
  unfold Sp S_which fw
  have bad : G X 10 kX6_which 14 (eL kX6_which [.ref 0, .int line, .int mn]) [] (H rw nu wd vo od tp sh fi ik m) (fun v h' => v = some (.int (fin 0 s).1) ∧ CI m (fin 0 s).2 h') := by
    iterate 2 (refine G.st rfl rfl ?_)
    refine G.call rfl rfl (Nat.le_of_ble_eq_true rfl) (Sp.up (c6_f0 X hC) (Nat.le_of_ble_eq_true rfl)) ?_
    rintro _ _ ⟨rfl, hci⟩
    exact G.ret rfl rfl ⟨rfl, hci⟩
  iterate 1 (refine G.st rfl rfl ?_)
  refine G.call rfl rfl (Nat.le_of_ble_eq_true rfl) (Sp.up (s6_isLine X line _) (Nat.le_of_ble_eq_true rfl)) ?_
  rintro _ _ ⟨rfl, rfl⟩
  by_cases hl : 0 ≤ line ∧ line ≤ 3
  case neg =>
    rw [if_neg (fun q => hl q.1)]
    exact G.brt rfl (bI_0.mpr hl) bad
  refine G.brf rfl (bI_n hl) ?_
  iterate 1 (refine G.st rfl rfl ?_)
  refine G.call rfl rfl (Nat.le_of_ble_eq_true rfl) (Sp.up (s6_isMeaning X mn _) (Nat.le_of_ble_eq_true rfl)) ?_
  rintro _ _ ⟨rfl, rfl⟩
  by_cases hm : 0 ≤ mn ∧ mn ≤ 9
  case neg =>
    rw [if_neg (fun q => hm q.2)]
    exact G.brt rfl (bI_0.mpr hm) bad
  refine G.brf rfl (bI_n hm) ?_
  rw [if_pos ⟨hl, hm⟩]
  obtain ⟨l, hl4, rfl⟩ := lok_n hl
  obtain ⟨hr, hgk, h7⟩ := hC.rep hl4
  rw [ln_nI (by omega)]
  have hw := hC.wd0
  iterate 5 (refine G.st rfl rfl ?_)
  refine G.aald rfl rfl (by decide) (ix_nI hl4 (by omega)) (rf4_row hl4) ?_
  iterate 1 (refine G.st rfl rfl ?_)
  refine G.call rfl rfl (Nat.le_of_ble_eq_true rfl) (Sp.up (s6_fewestOff X hC.num (show l < 13 by omega) hr hgk) (Nat.le_of_ble_eq_true rfl)) ?_
  rintro _ _ ⟨rfl, vo1, rfl⟩
  rw [hw]
  iterate 2 (refine G.st rfl rfl ?_)
  cases hx : fwN (zN s) (zW s) (zL s l) mn (2 ^ (zL s l).length) with
  | none =>
    refine G.brf rfl (show ¬ (0 : Int32) ≤ -1 by decide) ?_
    iterate 2 (refine G.st rfl rfl ?_)
    refine G.call rfl rfl (Nat.le_of_ble_eq_true rfl) (Sp.up (c6_f3 X hC) (Nat.le_of_ble_eq_true rfl)) ?_
    rintro _ _ ⟨rfl, hci⟩
    iterate 1 (refine G.st rfl rfl ?_)
    exact G.ret rfl rfl ⟨rfl, hci⟩
  | some b =>
    have hb := fw_lt hC hl4 hx
    refine G.brt rfl (show (0 : Int32) ≤ nI b from nI_pos' (by omega)) ?_
    iterate 1 (refine G.st rfl rfl ?_)
    exact G.ret rfl rfl ⟨rfl, CI.mk hC⟩
theorem p6_fewest (X : aX) (line mn : Int32) {h : aH} (hC : CI m s h) : Sp X 10 kX6_fewest [.ref 0, .int line, .int mn] h (fun v h' => v = some (.int (S_fewest s line mn).1) ∧ CI m (S_fewest s line mn).2 h') := by
  obtain ⟨rw, nu, wd, vo, od, tp, sh, fi, ik, rfl, hC⟩ := hC
  unfold Sp S_fewest fw
  have bad : G X 10 kX6_fewest 14 (eL kX6_fewest [.ref 0, .int line, .int mn]) [] (H rw nu wd vo od tp sh fi ik m) (fun v h' => v = some (.int (fin 0 s).1) ∧ CI m (fin 0 s).2 h') := by
    iterate 2 (refine G.st rfl rfl ?_)
    refine G.call rfl rfl (Nat.le_of_ble_eq_true rfl) (Sp.up (c6_f0 X hC) (Nat.le_of_ble_eq_true rfl)) ?_
    rintro _ _ ⟨rfl, hci⟩
    exact G.ret rfl rfl ⟨rfl, hci⟩
  iterate 1 (refine G.st rfl rfl ?_)
  refine G.call rfl rfl (Nat.le_of_ble_eq_true rfl) (Sp.up (s6_isLine X line _) (Nat.le_of_ble_eq_true rfl)) ?_
  rintro _ _ ⟨rfl, rfl⟩
  by_cases hl : 0 ≤ line ∧ line ≤ 3
  case neg =>
    rw [if_neg (fun q => hl q.1)]
    exact G.brt rfl (bI_0.mpr hl) bad
  refine G.brf rfl (bI_n hl) ?_
  iterate 1 (refine G.st rfl rfl ?_)
  refine G.call rfl rfl (Nat.le_of_ble_eq_true rfl) (Sp.up (s6_isMeaning X mn _) (Nat.le_of_ble_eq_true rfl)) ?_
  rintro _ _ ⟨rfl, rfl⟩
  by_cases hm : 0 ≤ mn ∧ mn ≤ 9
  case neg =>
    rw [if_neg (fun q => hm q.2)]
    exact G.brt rfl (bI_0.mpr hm) bad
  refine G.brf rfl (bI_n hm) ?_
  rw [if_pos ⟨hl, hm⟩]
  obtain ⟨l, hl4, rfl⟩ := lok_n hl
  obtain ⟨hr, hgk, h7⟩ := hC.rep hl4
  rw [ln_nI (by omega)]
  have hw := hC.wd0
  iterate 5 (refine G.st rfl rfl ?_)
  refine G.aald rfl rfl (by decide) (ix_nI hl4 (by omega)) (rf4_row hl4) ?_
  iterate 1 (refine G.st rfl rfl ?_)
  refine G.call rfl rfl (Nat.le_of_ble_eq_true rfl) (Sp.up (s6_fewestOff X hC.num (show l < 13 by omega) hr hgk) (Nat.le_of_ble_eq_true rfl)) ?_
  rintro _ _ ⟨rfl, vo1, rfl⟩
  rw [hw]
  iterate 2 (refine G.st rfl rfl ?_)
  cases hx : fwN (zN s) (zW s) (zL s l) mn (2 ^ (zL s l).length) with
  | none =>
    refine G.brf rfl (show ¬ (0 : Int32) ≤ -1 by decide) ?_
    iterate 2 (refine G.st rfl rfl ?_)
    refine G.call rfl rfl (Nat.le_of_ble_eq_true rfl) (Sp.up (c6_f3 X hC) (Nat.le_of_ble_eq_true rfl)) ?_
    rintro _ _ ⟨rfl, hci⟩
    iterate 1 (refine G.st rfl rfl ?_)
    exact G.ret rfl rfl ⟨rfl, hci⟩
  | some b =>
    have hb := fw_lt hC hl4 hx
    refine G.brt rfl (show (0 : Int32) ≤ nI b from nI_pos' (by omega)) ?_
    iterate 1 (refine G.st rfl rfl ?_)
    refine G.call rfl rfl (Nat.le_of_ble_eq_true rfl) (Sp.up (sj_bitCount X _ _) (Nat.le_of_ble_eq_true rfl)) ?_
    rintro _ _ ⟨rfl, rfl⟩
    refine G.ret rfl rfl ⟨?_, CI.mk hC⟩
    show some (Value.int (bcI (nI b))) = _
    rw [(bcI_128 b hb).1]
/-- the first garment that serves, from c on -/
def moreF (nm : Nat → Option Int32) (w : Int32) (g : List Gar) (mn : Int32) : Nat → Nat → Option Nat
  | 0, _ => none
  | k + 1, c => if nI c - nI c / 10 * 10 ≠ 0 ∧ rdI (rd nm (wlst w (g ++ [(nI c / 10, nI c - nI c / 10 * 10, 0)]))) = mn then some c else moreF nm w g mn k (c + 1)
theorem gcode : ∀ c, c < 60 → 0 < c → ((0 < (nI c).toInt64 ∧ (nI c).toInt64 < 60 ∧ (nI c).toInt64 - (nI c).toInt64 / 10 * 10 ≠ 0) ↔ nI c - nI c / 10 * 10 ≠ 0) ∧ (0 ≤ nI c / 10 ∧ nI c / 10 ≤ 5) := by decide +kernel
def S_more (s : Sg) (line mn : Int32) : Int32 × Sg := if (0 ≤ line ∧ line ≤ 3) ∧ 0 ≤ mn ∧ mn ≤ 9 then (match moreF (zN s) (zW s) (zL s (ln line)) mn 59 1 with | none => fin 3 s | some b => (nI b, s)) else fin 0 s
theorem l6_more (X : aX) {l : Nat} {mn : Int32} {u : Value} (hl4 : l < 4) (hC : CR rw nu wd tp sh fi ik s) : ∀ (k c : Nat) (vo : sV), c + k = 60 → 0 < c → G X 10 kX6_more 34 [.ref 0, u, .int mn, .ref (rb l), .int (nI c)] [] (H rw nu wd vo od tp sh fi ik m) (fun v h' => v = some (.int (match moreF (zN s) (zW s) (zL s l) mn k c with | none => fin 3 s | some b => (nI b, s)).1) ∧ CI m (match moreF (zN s) (zW s) (zL s l) mn k c with | none => fin 3 s | some b => (nI b, s)).2 h') := by
  obtain ⟨hr, hgk, h7⟩ := hC.rep hl4
  have hw := hC.wd0
  intro k
  induction k with
  | zero =>
    intro c vo hc h0
    iterate 2 (refine G.st rfl rfl ?_)
    refine G.brt rfl (le_nI (k := 60) rfl (by omega) (by omega)) ?_
    iterate 2 (refine G.st rfl rfl ?_)
    refine G.call rfl rfl (Nat.le_of_ble_eq_true rfl) (Sp.up (c6_f3 X hC) (Nat.le_of_ble_eq_true rfl)) ?_
    rintro _ _ ⟨rfl, hci⟩
    exact G.ret rfl rfl ⟨rfl, hci⟩
  | succ k ih =>
    intro c vo hc h0
    obtain ⟨g1, g2⟩ := gcode c (by omega) h0
    iterate 2 (refine G.st rfl rfl ?_)
    refine G.brf rfl (nle_nI (k := 60) rfl (by omega) (by omega)) ?_
    iterate 2 (refine G.st rfl rfl ?_)
    refine G.call rfl rfl (Nat.le_of_ble_eq_true rfl) (Sp.up (s6_isGarmentCode X _ _) (Nat.le_of_ble_eq_true rfl)) ?_
    rintro _ _ ⟨rfl, rfl⟩
    have skip : ∀ vo, ¬ (nI c - nI c / 10 * 10 ≠ 0 ∧ rdI (rd (zN s) (wlst (zW s) (zL s l ++ [(nI c / 10, nI c - nI c / 10 * 10, 0)]))) = mn) → G X 10 kX6_more 64 [.ref 0, u, .int mn, .ref (rb l), .int (nI c)] [] (H rw nu wd vo od tp sh fi ik m) (fun v h' => v = some (.int (match moreF (zN s) (zW s) (zL s l) mn (k + 1) c with | none => fin 3 s | some b => (nI b, s)).1) ∧ CI m (match moreF (zN s) (zW s) (zL s l) mn (k + 1) c with | none => fin 3 s | some b => (nI b, s)).2 h') := by
      intro vo hno
      iterate 1 (refine G.st rfl rfl ?_)
      rw [nI_1]
      iterate 1 (refine G.st rfl rfl ?_)
      unfold moreF
      rw [if_neg hno]
      exact ih (c + 1) vo (by omega) (by omega)
    by_cases hg : nI c - nI c / 10 * 10 ≠ 0
    · refine G.brf rfl (bI_n (g1.mpr hg)) ?_
      iterate 3 (refine G.st rfl rfl ?_)
      refine G.call rfl rfl (Nat.le_of_ble_eq_true rfl) (Sp.up (s6_readWithOneMore X hC.num (show l < 13 by omega) hr hgk (K6_of g2.1 g2.2)) (Nat.le_of_ble_eq_true rfl)) ?_
      rintro _ _ ⟨rfl, vo1, rfl⟩
      rw [hw]
      iterate 1 (refine G.st rfl rfl ?_)
      refine G.br rfl (fun hc2 => ?_) (fun hc2 => ?_)
      · iterate 1 (refine G.st rfl rfl ?_)
        unfold moreF
        rw [if_pos ⟨hg, hc2⟩]
        exact G.ret rfl rfl ⟨rfl, CI.mk hC⟩
      · exact skip vo1 (fun q => hc2 q.2)
    · refine G.brt rfl (bI_0.mpr (fun q => hg (g1.mp q))) ?_
      exact skip vo (fun q => hg q.1)
theorem p6_more (X : aX) (line mn : Int32) {h : aH} (hC : CI m s h) : Sp X 10 kX6_more [.ref 0, .int line, .int mn] h (fun v h' => v = some (.int (S_more s line mn).1) ∧ CI m (S_more s line mn).2 h') := by
  obtain ⟨rw, nu, wd, vo, od, tp, sh, fi, ik, rfl, hC⟩ := hC
  unfold Sp S_more
  have bad : G X 10 kX6_more 14 (eL kX6_more [.ref 0, .int line, .int mn]) [] (H rw nu wd vo od tp sh fi ik m) (fun v h' => v = some (.int (fin 0 s).1) ∧ CI m (fin 0 s).2 h') := by
    iterate 2 (refine G.st rfl rfl ?_)
    refine G.call rfl rfl (Nat.le_of_ble_eq_true rfl) (Sp.up (c6_f0 X hC) (Nat.le_of_ble_eq_true rfl)) ?_
    rintro _ _ ⟨rfl, hci⟩
    exact G.ret rfl rfl ⟨rfl, hci⟩
  iterate 1 (refine G.st rfl rfl ?_)
  refine G.call rfl rfl (Nat.le_of_ble_eq_true rfl) (Sp.up (s6_isLine X line _) (Nat.le_of_ble_eq_true rfl)) ?_
  rintro _ _ ⟨rfl, rfl⟩
  by_cases hl : 0 ≤ line ∧ line ≤ 3
  case neg =>
    rw [if_neg (fun q => hl q.1)]
    exact G.brt rfl (bI_0.mpr hl) bad
  refine G.brf rfl (bI_n hl) ?_
  iterate 1 (refine G.st rfl rfl ?_)
  refine G.call rfl rfl (Nat.le_of_ble_eq_true rfl) (Sp.up (s6_isMeaning X mn _) (Nat.le_of_ble_eq_true rfl)) ?_
  rintro _ _ ⟨rfl, rfl⟩
  by_cases hm : 0 ≤ mn ∧ mn ≤ 9
  case neg =>
    rw [if_neg (fun q => hm q.2)]
    exact G.brt rfl (bI_0.mpr hm) bad
  refine G.brf rfl (bI_n hm) ?_
  rw [if_pos ⟨hl, hm⟩]
  obtain ⟨l, hl4, rfl⟩ := lok_n hl
  rw [ln_nI (by omega)]
  iterate 4 (refine G.st rfl rfl ?_)
  refine G.aald rfl rfl (by decide) (ix_nI hl4 (by omega)) (rf4_row hl4) ?_
  iterate 3 (refine G.st rfl rfl ?_)
  exact l6_more X hl4 hC 59 1 vo rfl (by omega)
end SAYS
