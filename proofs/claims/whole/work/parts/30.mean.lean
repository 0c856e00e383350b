/-! ===== promises 13 to 16 and 18 to 25, the class ===== -/
section MEAN
variable {rw : Nat → sR} {nu : Nat → Nat → Int32} {wd : Nat → Int32 × Int32} {vo : sV} {od : sO} {tp : sP} {sh : Nat → sS} {fi : Nat → Int32} {ik : Int32} {m : sM} {s : Sg}
theorem mok_n {x : Int32} (h : 0 ≤ x ∧ x ≤ 9) : ∃ l, l < 10 ∧ x = nI l := by
  obtain ⟨l, h1, h2⟩ := nI_arg (k := 9) rfl (by omega) h.1 h.2
  exact ⟨l, by omega, h2⟩
theorem CR.numb (h : CR rw nu wd tp sh fi ik s) {j : Nat} (hj : j < 10) (o : Option Int32) (ho : ∀ x, o = some x → -999 ≤ x ∧ x ≤ 9999) : CR rw (va_up nu 0 (upd (nu 0) j (o.getD (-1000)))) wd tp sh fi ik (zSN s (va_up (zN s) j o)) := by
  have hn := h.num
  obtain ⟨⟨⟨a1, a2, a3⟩, b1, b2, b3⟩, h2, h3⟩ := h
  refine ⟨⟨⟨a1, fun k x hk hx => ?_, a3⟩, b1, fun k hk => ?_, b3⟩, ?_, h3⟩
  · by_cases e : k = j
    · subst e
      have : va_up (zN s) k o k = some x := hx
      rw [va_up_s] at this
      exact ho x this
    · have : va_up (zN s) j o k = some x := hx
      rw [va_up_n e] at this
      exact a2 k x hk this
  · rw [va_up_s]
    show upd (nu 0) j (o.getD (-1000)) k = (va_up (zN s) j o k).getD (-1000) ∧ ∀ x, va_up (zN s) j o k = some x → -999 ≤ x ∧ x ≤ 9999
    rw [upd_if]
    by_cases e : k = j
    · subst e
      rw [if_pos rfl, va_up_s]
      exact ⟨rfl, ho⟩
    · rw [if_neg e, va_up_n e]
      exact hn k hk
  · show match zK s with | none => ik = 0 | some k => ik = 1 ∧ CT rw (va_up nu 0 (upd (nu 0) j (o.getD (-1000))) 1) (wd 1) 4 k
    rw [va_up_n (by decide)]
    exact h2
def S_means (s : Sg) (mn x : Int32) : Int32 × Sg := if (0 ≤ mn ∧ mn ≤ 9) ∧ -999 ≤ x ∧ x ≤ 9999 then ((zN s (ln mn)).getD (-1000), zSN s (va_up (zN s) (ln mn) (some x))) else fin 0 s
theorem p6_means (X : aX) (mn x : Int32) {h : aH} (hC : CI m s h) : Sp X 10 kX6_means [.ref 0, .int mn, .int x] h (fun v h' => v = some (.int (S_means s mn x).1) ∧ CI m (S_means s mn x).2 h') := by
  obtain ⟨rw, nu, wd, vo, od, tp, sh, fi, ik, rfl, hC⟩ := hC
  unfold Sp S_means
  have bad : G X 10 kX6_means 20 (eL kX6_means [.ref 0, .int mn, .int x]) [] (H rw nu wd vo od tp sh fi ik m) (fun v h' => v = some (.int (fin 0 s).1) ∧ CI m (fin 0 s).2 h') := by
    iterate 2 (refine G.st rfl rfl ?_)
    refine G.call rfl rfl (Nat.le_of_ble_eq_true rfl) (Sp.up (c6_f0 X hC) (Nat.le_of_ble_eq_true rfl)) ?_
    rintro _ _ ⟨rfl, hci⟩
    exact G.ret rfl rfl ⟨rfl, hci⟩
  iterate 1 (refine G.st rfl rfl ?_)
  refine G.call rfl rfl (Nat.le_of_ble_eq_true rfl) (Sp.up (s6_isMeaning X mn _) (Nat.le_of_ble_eq_true rfl)) ?_
  rintro _ _ ⟨rfl, rfl⟩
  by_cases hl : 0 ≤ mn ∧ mn ≤ 9
  case neg =>
    rw [if_neg (fun q => hl q.1)]
    exact G.brt rfl (bI_0.mpr hl) bad
  refine G.brf rfl (bI_n hl) ?_
  iterate 3 (refine G.st rfl rfl ?_)
  refine G.call rfl rfl (Nat.le_of_ble_eq_true rfl) (Sp.up (s6_isWithin X x (-999) 9999 _) (Nat.le_of_ble_eq_true rfl)) ?_
  rintro _ _ ⟨rfl, rfl⟩
  by_cases hx : -999 ≤ x ∧ x ≤ 9999
  case neg =>
    rw [if_neg (fun q => hx q.2)]
    exact G.brt rfl (bI_0.mpr hx) bad
  refine G.brf rfl (bI_n hx) ?_
  rw [if_pos ⟨hl, hx⟩]
  obtain ⟨j, hj, rfl⟩ := mok_n hl
  rw [ln_nI (by omega)]
  iterate 4 (refine G.st rfl rfl ?_)
  refine G.iald rfl rfl (ix_nI hj (by omega)) ?_
  iterate 6 (refine G.st rfl rfl ?_)
  refine G.iast rfl rfl (ix_nI hj (by omega)) ?_
  iterate 1 (refine G.st rfl rfl ?_)
  refine G.ret rfl rfl ⟨?_, CI.mk (vo := vo) (od := od) (m := m) (hC.numb hj (some x) (fun y hy => by cases hy; exact hx))⟩
  rw [(hC.num j hj).1]
def S_forget (s : Sg) (mn : Int32) : Int32 × Sg := if 0 ≤ mn ∧ mn ≤ 9 then (bI ((zN s (ln mn)).isSome = true), zSN s (va_up (zN s) (ln mn) none)) else fin 0 s
theorem p6_forget (X : aX) (mn : Int32) {h : aH} (hC : CI m s h) : Sp X 10 kX6_forget [.ref 0, .int mn] h (fun v h' => v = some (.int (S_forget s mn).1) ∧ CI m (S_forget s mn).2 h') := by
  obtain ⟨rw, nu, wd, vo, od, tp, sh, fi, ik, rfl, hC⟩ := hC
  unfold Sp S_forget
  iterate 1 (refine G.st rfl rfl ?_)
  refine G.call rfl rfl (Nat.le_of_ble_eq_true rfl) (Sp.up (s6_isMeaning X mn _) (Nat.le_of_ble_eq_true rfl)) ?_
  rintro _ _ ⟨rfl, rfl⟩
  by_cases hl : 0 ≤ mn ∧ mn ≤ 9
  case neg =>
    rw [if_neg hl]
    refine G.brt rfl (bI_0.mpr hl) ?_
    iterate 2 (refine G.st rfl rfl ?_)
    refine G.call rfl rfl (Nat.le_of_ble_eq_true rfl) (Sp.up (c6_f0 X hC) (Nat.le_of_ble_eq_true rfl)) ?_
    rintro _ _ ⟨rfl, hci⟩
    exact G.ret rfl rfl ⟨rfl, hci⟩
  refine G.brf rfl (bI_n hl) ?_
  rw [if_pos hl]
  obtain ⟨j, hj, rfl⟩ := mok_n hl
  rw [ln_nI (by omega)]
  iterate 3 (refine G.st rfl rfl ?_)
  refine G.call rfl rfl (Nat.le_of_ble_eq_true rfl) (Sp.up (s4_hasNumber X hC.num hj) (Nat.le_of_ble_eq_true rfl)) ?_
  rintro _ _ ⟨rfl, rfl⟩
  have rest : ∀ b, b = bI ((zN s j).isSome = true) → G X 10 kX6_forget 30 (eL kX6_forget [.ref 0, .int (nI j)]) [.int b] (H rw nu wd vo od tp sh fi ik m) (fun v h' => v = some (.int (bI ((zN s j).isSome = true))) ∧ CI m (zSN s (va_up (zN s) j none)) h') := by
    intro b hb
    iterate 6 (refine G.st rfl rfl ?_)
    refine G.iast rfl rfl (ix_nI hj (by omega)) ?_
    iterate 1 (refine G.st rfl rfl ?_)
    refine G.ret rfl rfl ⟨by rw [hb], CI.mk (vo := vo) (od := od) (m := m) (hC.numb hj none (fun y hy => by cases hy))⟩
  by_cases hs : (zN s j).isSome = true
  · refine G.brf rfl (bI_n hs) ?_
    iterate 2 (refine G.st rfl rfl ?_)
    exact rest _ (bI_t hs).symm
  · refine G.brt rfl (bI_0.mpr hs) ?_
    iterate 1 (refine G.st rfl rfl ?_)
    exact rest _ (bI_f hs).symm
def S_number (s : Sg) (mn : Int32) : Int32 × Sg := if 0 ≤ mn ∧ mn ≤ 9 then (match zN s (ln mn) with | none => fin 3 s | some x => (x, s)) else fin 0 s
theorem p6_number (X : aX) (mn : Int32) {h : aH} (hC : CI m s h) : Sp X 10 kX6_number [.ref 0, .int mn] h (fun v h' => v = some (.int (S_number s mn).1) ∧ CI m (S_number s mn).2 h') := by
  obtain ⟨rw, nu, wd, vo, od, tp, sh, fi, ik, rfl, hC⟩ := hC
  unfold Sp S_number
  iterate 1 (refine G.st rfl rfl ?_)
  refine G.call rfl rfl (Nat.le_of_ble_eq_true rfl) (Sp.up (s6_isMeaning X mn _) (Nat.le_of_ble_eq_true rfl)) ?_
  rintro _ _ ⟨rfl, rfl⟩
  by_cases hl : 0 ≤ mn ∧ mn ≤ 9
  case neg =>
    rw [if_neg hl]
    refine G.brt rfl (bI_0.mpr hl) ?_
    iterate 2 (refine G.st rfl rfl ?_)
    refine G.call rfl rfl (Nat.le_of_ble_eq_true rfl) (Sp.up (c6_f0 X hC) (Nat.le_of_ble_eq_true rfl)) ?_
    rintro _ _ ⟨rfl, hci⟩
    exact G.ret rfl rfl ⟨rfl, hci⟩
  refine G.brf rfl (bI_n hl) ?_
  rw [if_pos hl]
  obtain ⟨j, hj, rfl⟩ := mok_n hl
  rw [ln_nI (by omega)]
  iterate 3 (refine G.st rfl rfl ?_)
  refine G.call rfl rfl (Nat.le_of_ble_eq_true rfl) (Sp.up (s4_hasNumber X hC.num hj) (Nat.le_of_ble_eq_true rfl)) ?_
  rintro _ _ ⟨rfl, rfl⟩
  cases hx : zN s j with
  | none =>
    refine G.brt rfl (bI_0.mpr (by simp)) ?_
    iterate 2 (refine G.st rfl rfl ?_)
    refine G.call rfl rfl (Nat.le_of_ble_eq_true rfl) (Sp.up (c6_f3 X hC) (Nat.le_of_ble_eq_true rfl)) ?_
    rintro _ _ ⟨rfl, hci⟩
    exact G.ret rfl rfl ⟨rfl, hci⟩
  | some x =>
    refine G.brf rfl (bI_n rfl) ?_
    iterate 4 (refine G.st rfl rfl ?_)
    refine G.iald rfl rfl (ix_nI hj (by omega)) ?_
    rw [(hC.num.val hj hx).1]
    exact G.ret rfl rfl ⟨rfl, CI.mk hC⟩
def S_rd (s : Sg) (v : Int32) : Int32 × Sg := match rd (zN s) v with | none => fin 3 s | some b => (nI b, s)
theorem rd_lt {nm : Nat → Option Int32} {v : Int32} {b : Nat} (h : rd nm v = some b) : b < 10 := (rdN_in nm v 10 b h).1
def S_read (s : Sg) (w : Int32) : Int32 × Sg := if -9999 ≤ w ∧ w ≤ 9999 then S_rd s w else fin 0 s
theorem p6_read (X : aX) (w : Int32) {h : aH} (hC : CI m s h) : Sp X 10 kX6_read [.ref 0, .int w] h (fun v h' => v = some (.int (S_read s w).1) ∧ CI m (S_read s w).2 h') := by
  obtain ⟨rw, nu, wd, vo, od, tp, sh, fi, ik, rfl, hC⟩ := hC
  unfold Sp S_read
  iterate 1 (refine G.st rfl rfl ?_)
  refine G.call rfl rfl (Nat.le_of_ble_eq_true rfl) (Sp.up (s6_isWorth X w _) (Nat.le_of_ble_eq_true rfl)) ?_
  rintro _ _ ⟨rfl, rfl⟩
  by_cases hl : -9999 ≤ w ∧ w ≤ 9999
  case neg =>
    rw [if_neg hl]
    refine G.brt rfl (bI_0.mpr hl) ?_
    iterate 2 (refine G.st rfl rfl ?_)
    refine G.call rfl rfl (Nat.le_of_ble_eq_true rfl) (Sp.up (c6_f0 X hC) (Nat.le_of_ble_eq_true rfl)) ?_
    rintro _ _ ⟨rfl, hci⟩
    exact G.ret rfl rfl ⟨rfl, hci⟩
  refine G.brf rfl (bI_n hl) ?_
  rw [if_pos hl]
  iterate 3 (refine G.st rfl rfl ?_)
  refine G.call rfl rfl (Nat.le_of_ble_eq_true rfl) (Sp.up (s4_readAs X hC.num hl) (Nat.le_of_ble_eq_true rfl)) ?_
  rintro _ _ ⟨rfl, rfl⟩
  unfold S_rd
  iterate 3 (refine G.st rfl rfl ?_)
  cases hx : rd (zN s) w with
  | none =>
    refine G.brt rfl rfl ?_
    iterate 2 (refine G.st rfl rfl ?_)
    refine G.call rfl rfl (Nat.le_of_ble_eq_true rfl) (Sp.up (c6_f3 X hC) (Nat.le_of_ble_eq_true rfl)) ?_
    rintro _ _ ⟨rfl, hci⟩
    iterate 1 (refine G.st rfl rfl ?_)
    exact G.ret rfl rfl ⟨rfl, hci⟩
  | some b =>
    refine G.brf rfl (nI_ne (by have := rd_lt hx; omega)) ?_
    iterate 1 (refine G.st rfl rfl ?_)
    exact G.ret rfl rfl ⟨rfl, CI.mk hC⟩
def S_worth (s : Sg) (line : Int32) : Int32 × Sg := if 0 ≤ line ∧ line ≤ 3 then (wlst (zW s) (zL s (ln line)), s) else fin 0 s
theorem p6_worth (X : aX) (line : Int32) {h : aH} (hC : CI m s h) : Sp X 10 kX6_worth [.ref 0, .int line] h (fun v h' => v = some (.int (S_worth s line).1) ∧ CI m (S_worth s line).2 h') := by
  obtain ⟨rw, nu, wd, vo, od, tp, sh, fi, ik, rfl, hC⟩ := hC
  unfold Sp S_worth
  iterate 1 (refine G.st rfl rfl ?_)
  refine G.call rfl rfl (Nat.le_of_ble_eq_true rfl) (Sp.up (s6_isLine X line _) (Nat.le_of_ble_eq_true rfl)) ?_
  rintro _ _ ⟨rfl, rfl⟩
  by_cases hl : 0 ≤ line ∧ line ≤ 3
  case neg =>
    rw [if_neg hl]
    refine G.brt rfl (bI_0.mpr hl) ?_
    iterate 2 (refine G.st rfl rfl ?_)
    refine G.call rfl rfl (Nat.le_of_ble_eq_true rfl) (Sp.up (c6_f0 X hC) (Nat.le_of_ble_eq_true rfl)) ?_
    rintro _ _ ⟨rfl, hci⟩
    exact G.ret rfl rfl ⟨rfl, hci⟩
  rw [if_pos hl]
  refine G.brf rfl (bI_n hl) ?_
  obtain ⟨l, hl4, rfl⟩ := lok_n hl
  obtain ⟨hr, hgk, h7⟩ := hC.rep hl4
  rw [ln_nI (by omega)]
  have hw := hC.wd0
  iterate 5 (refine G.st rfl rfl ?_)
  refine G.aald rfl rfl (by decide) (ix_nI hl4 (by omega)) (rf4_row hl4) ?_
  iterate 3 (refine G.st rfl rfl ?_)
  rw [hw]
  refine G.call rfl rfl (Nat.le_of_ble_eq_true rfl) (Sp.up (s6_worthOf X (show l < 13 by omega) hr hgk) (Nat.le_of_ble_eq_true rfl)) ?_
  rintro _ _ ⟨rfl, vo1, rfl⟩
  exact G.ret rfl rfl ⟨rfl, CI.mk hC⟩
def S_worthIn (s : Sg) (line w : Int32) : Int32 × Sg := if (0 ≤ line ∧ line ≤ 3) ∧ 0 ≤ w ∧ w ≤ 20 then (wlst w (zL s (ln line)), s) else fin 0 s
theorem p6_worthIn (X : aX) (line w : Int32) {h : aH} (hC : CI m s h) : Sp X 10 kX6_worthIn [.ref 0, .int line, .int w] h (fun v h' => v = some (.int (S_worthIn s line w).1) ∧ CI m (S_worthIn s line w).2 h') := by
  obtain ⟨rw, nu, wd, vo, od, tp, sh, fi, ik, rfl, hC⟩ := hC
  unfold Sp S_worthIn
  have bad : G X 10 kX6_worthIn 14 (eL kX6_worthIn [.ref 0, .int line, .int w]) [] (H rw nu wd vo od tp sh fi ik m) (fun v h' => v = some (.int (fin 0 s).1) ∧ CI m (fin 0 s).2 h') := by
    iterate 2 (refine G.st rfl rfl ?_)
    refine G.call rfl rfl (Nat.le_of_ble_eq_true rfl) (Sp.up (c6_f0 X hC) (Nat.le_of_ble_eq_true rfl)) ?_
    rintro _ _ ⟨rfl, hci⟩
    exact G.ret rfl rfl ⟨rfl, hci⟩
  iterate 1 (refine G.st rfl rfl ?_)
  refine G.call rfl rfl (Nat.le_of_ble_eq_true rfl) (Sp.up (s6_isLine X line _) (Nat.le_of_ble_eq_true rfl)) ?_
  rintro _ _ ⟨rfl, rfl⟩
  by_cases hl : 0 ≤ line ∧ line ≤ 3
  case neg =>
    rw [if_neg (fun q => hl q.1)]
    exact G.brt rfl (bI_0.mpr hl) bad
  refine G.brf rfl (bI_n hl) ?_
  iterate 1 (refine G.st rfl rfl ?_)
  refine G.call rfl rfl (Nat.le_of_ble_eq_true rfl) (Sp.up (s6_isWind X w _) (Nat.le_of_ble_eq_true rfl)) ?_
  rintro _ _ ⟨rfl, rfl⟩
  by_cases hw : 0 ≤ w ∧ w ≤ 20
  case neg =>
    rw [if_neg (fun q => hw q.2)]
    exact G.brt rfl (bI_0.mpr hw) bad
  refine G.brf rfl (bI_n hw) ?_
  rw [if_pos ⟨hl, hw⟩]
  obtain ⟨l, hl4, rfl⟩ := lok_n hl
  obtain ⟨hr, hgk, h7⟩ := hC.rep hl4
  rw [ln_nI (by omega)]
  iterate 5 (refine G.st rfl rfl ?_)
  refine G.aald rfl rfl (by decide) (ix_nI hl4 (by omega)) (rf4_row hl4) ?_
  iterate 1 (refine G.st rfl rfl ?_)
  refine G.call rfl rfl (Nat.le_of_ble_eq_true rfl) (Sp.up (s6_worthOf X (show l < 13 by omega) hr hgk) (Nat.le_of_ble_eq_true rfl)) ?_
  rintro _ _ ⟨rfl, vo1, rfl⟩
  exact G.ret rfl rfl ⟨rfl, CI.mk hC⟩
def S_says (s : Sg) (line : Int32) : Int32 × Sg := if 0 ≤ line ∧ line ≤ 3 then S_rd s (wlst (zW s) (zL s (ln line))) else fin 0 s
theorem p6_says (X : aX) (line : Int32) {h : aH} (hC : CI m s h) : Sp X 10 kX6_says [.ref 0, .int line] h (fun v h' => v = some (.int (S_says s line).1) ∧ CI m (S_says s line).2 h') := by
  obtain ⟨rw, nu, wd, vo, od, tp, sh, fi, ik, rfl, hC⟩ := hC
  unfold Sp S_says
  iterate 1 (refine G.st rfl rfl ?_)
  refine G.call rfl rfl (Nat.le_of_ble_eq_true rfl) (Sp.up (s6_isLine X line _) (Nat.le_of_ble_eq_true rfl)) ?_
  rintro _ _ ⟨rfl, rfl⟩
  by_cases hl : 0 ≤ line ∧ line ≤ 3
  case neg =>
    rw [if_neg hl]
    refine G.brt rfl (bI_0.mpr hl) ?_
    iterate 2 (refine G.st rfl rfl ?_)
    refine G.call rfl rfl (Nat.le_of_ble_eq_true rfl) (Sp.up (c6_f0 X hC) (Nat.le_of_ble_eq_true rfl)) ?_
    rintro _ _ ⟨rfl, hci⟩
    exact G.ret rfl rfl ⟨rfl, hci⟩
  rw [if_pos hl]
  refine G.brf rfl (bI_n hl) ?_
  obtain ⟨l, hl4, rfl⟩ := lok_n hl
  obtain ⟨hr, hgk, h7⟩ := hC.rep hl4
  rw [ln_nI (by omega)]
  have hw := hC.wd0
  iterate 5 (refine G.st rfl rfl ?_)
  refine G.aald rfl rfl (by decide) (ix_nI hl4 (by omega)) (rf4_row hl4) ?_
  refine G.call rfl rfl (Nat.le_of_ble_eq_true rfl) (Sp.up (s6_readNow X hC.num (show l < 13 by omega) hr hgk) (Nat.le_of_ble_eq_true rfl)) ?_
  rintro _ _ ⟨rfl, vo1, rfl⟩
  rw [hw]
  unfold S_rd
  iterate 3 (refine G.st rfl rfl ?_)
  cases hx : rd (zN s) (wlst (zW s) (zL s l)) with
  | none =>
    refine G.brt rfl rfl ?_
    iterate 2 (refine G.st rfl rfl ?_)
    refine G.call rfl rfl (Nat.le_of_ble_eq_true rfl) (Sp.up (c6_f3 X hC) (Nat.le_of_ble_eq_true rfl)) ?_
    rintro _ _ ⟨rfl, hci⟩
    iterate 1 (refine G.st rfl rfl ?_)
    exact G.ret rfl rfl ⟨rfl, hci⟩
  | some b =>
    refine G.brf rfl (nI_ne (by have := rd_lt hx; omega)) ?_
    iterate 1 (refine G.st rfl rfl ?_)
    exact G.ret rfl rfl ⟨rfl, CI.mk hC⟩
def S_winds (s : Sg) (line : Int32) : Int32 × Sg := if 0 ≤ line ∧ line ≤ 3 then (match rd (zN s) (wlst (zW s) (zL s (ln line))) with | none => fin 3 s | some b => (wndN (zN s) (zL s (ln line)) (nI b) 21, s)) else fin 0 s
theorem p6_winds (X : aX) (line : Int32) {h : aH} (hC : CI m s h) : Sp X 10 kX6_winds [.ref 0, .int line] h (fun v h' => v = some (.int (S_winds s line).1) ∧ CI m (S_winds s line).2 h') := by
  obtain ⟨rw, nu, wd, vo, od, tp, sh, fi, ik, rfl, hC⟩ := hC
  unfold Sp S_winds
  iterate 1 (refine G.st rfl rfl ?_)
  refine G.call rfl rfl (Nat.le_of_ble_eq_true rfl) (Sp.up (s6_isLine X line _) (Nat.le_of_ble_eq_true rfl)) ?_
  rintro _ _ ⟨rfl, rfl⟩
  by_cases hl : 0 ≤ line ∧ line ≤ 3
  case neg =>
    rw [if_neg hl]
    refine G.brt rfl (bI_0.mpr hl) ?_
    iterate 2 (refine G.st rfl rfl ?_)
    refine G.call rfl rfl (Nat.le_of_ble_eq_true rfl) (Sp.up (c6_f0 X hC) (Nat.le_of_ble_eq_true rfl)) ?_
    rintro _ _ ⟨rfl, hci⟩
    exact G.ret rfl rfl ⟨rfl, hci⟩
  rw [if_pos hl]
  refine G.brf rfl (bI_n hl) ?_
  obtain ⟨l, hl4, rfl⟩ := lok_n hl
  obtain ⟨hr, hgk, h7⟩ := hC.rep hl4
  rw [ln_nI (by omega)]
  have hw := hC.wd0
  iterate 4 (refine G.st rfl rfl ?_)
  refine G.aald rfl rfl (by decide) (ix_nI hl4 (by omega)) (rf4_row hl4) ?_
  iterate 3 (refine G.st rfl rfl ?_)
  refine G.call rfl rfl (Nat.le_of_ble_eq_true rfl) (Sp.up (s6_readNow X hC.num (show l < 13 by omega) hr hgk) (Nat.le_of_ble_eq_true rfl)) ?_
  rintro _ _ ⟨rfl, vo1, rfl⟩
  rw [hw]
  iterate 3 (refine G.st rfl rfl ?_)
  cases hx : rd (zN s) (wlst (zW s) (zL s l)) with
  | none =>
    refine G.brt rfl rfl ?_
    iterate 2 (refine G.st rfl rfl ?_)
    refine G.call rfl rfl (Nat.le_of_ble_eq_true rfl) (Sp.up (c6_f3 X hC) (Nat.le_of_ble_eq_true rfl)) ?_
    rintro _ _ ⟨rfl, hci⟩
    iterate 1 (refine G.st rfl rfl ?_)
    exact G.ret rfl rfl ⟨rfl, hci⟩
  | some b =>
    refine G.brf rfl (nI_ne (by have := rd_lt hx; omega)) ?_
    iterate 3 (refine G.st rfl rfl ?_)
    refine G.call rfl rfl (Nat.le_of_ble_eq_true rfl) (Sp.up (s6_windsReadAs X hC.num (show l < 13 by omega) hr hgk) (Nat.le_of_ble_eq_true rfl)) ?_
    rintro _ _ ⟨rfl, vo2, rfl⟩
    exact G.ret rfl rfl ⟨rfl, CI.mk hC⟩
end MEAN
