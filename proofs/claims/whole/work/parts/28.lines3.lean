section LINES3
variable {rw : Nat → sR} {nu : Nat → Nat → Int32} {wd : Nat → Int32 × Int32} {vo : sV} {od : sO} {tp : sP} {sh : Nat → sS} {fi : Nat → Int32} {ik : Int32} {m : sM} {s : Sg}
def S_turn (s : Sg) (line peg kind : Int32) : Int32 × Sg := if pegOk s line peg ∧ 0 ≤ kind ∧ kind ≤ 5 then ((gD (zL s (ln line)) (ln peg)).1, zSL s (va_up (zL s) (ln line) ((zL s (ln line)).set (ln peg) (kind, (gD (zL s (ln line)) (ln peg)).2.1, (gD (zL s (ln line)) (ln peg)).2.2)))) else fin 0 s
theorem p6_turn (X : aX) (line peg kind : Int32) {h : aH} (hC : CI m s h) : Sp X 10 kX6_turn [.ref 0, .int line, .int peg, .int kind] h (fun v h' => v = some (.int (S_turn s line peg kind).1) ∧ CI m (S_turn s line peg kind).2 h') := by
  obtain ⟨rw, nu, wd, vo, od, tp, sh, fi, ik, rfl, hC⟩ := hC
  unfold Sp S_turn
  have bad : G X 10 kX6_turn 16 (eL kX6_turn [.ref 0, .int line, .int peg, .int kind]) [] (H rw nu wd vo od tp sh fi ik m) (fun v h' => v = some (.int (fin 0 s).1) ∧ CI m (fin 0 s).2 h') := by
    iterate 2 (refine G.st rfl rfl ?_)
    refine G.call rfl rfl (Nat.le_of_ble_eq_true rfl) (Sp.up (c6_f0 X hC) (Nat.le_of_ble_eq_true rfl)) ?_
    rintro _ _ ⟨rfl, hci⟩
    exact G.ret rfl rfl ⟨rfl, hci⟩
  iterate 3 (refine G.st rfl rfl ?_)
  refine G.call rfl rfl (Nat.le_of_ble_eq_true rfl) (Sp.up (s6_isGarment X hC) (Nat.le_of_ble_eq_true rfl)) ?_
  rintro _ _ ⟨⟨b, rfl, -, hb⟩, rfl⟩
  by_cases hp : pegOk s line peg
  case neg =>
    rw [if_neg (fun q => hp q.1)]
    exact G.brt rfl (hb.mpr hp) bad
  refine G.brf rfl (fun q => hb.mp q hp) ?_
  iterate 1 (refine G.st rfl rfl ?_)
  refine G.call rfl rfl (Nat.le_of_ble_eq_true rfl) (Sp.up (s6_isKind X kind _) (Nat.le_of_ble_eq_true rfl)) ?_
  rintro _ _ ⟨rfl, rfl⟩
  by_cases hk : 0 ≤ kind ∧ kind ≤ 5
  case neg =>
    rw [if_neg (fun q => hk q.2)]
    exact G.brt rfl (bI_0.mpr hk) bad
  refine G.brf rfl (bI_n hk) ?_
  rw [if_pos ⟨hp, hk⟩]
  obtain ⟨l, j, hl4, rfl, hj, rfl⟩ := pegOk_n hC hp
  obtain ⟨hr, hgk, h7⟩ := hC.rep hl4
  rw [ln_nI (by omega), ln_nI (by omega)]
  have hR0 : RowAt (H rw nu wd vo od tp sh fi ik m) (rb l) (rw l) := H_row (by omega)
  have hx := ix_nI (show j < 7 by omega) (by omega)
  obtain ⟨a1, a2, a3⟩ := hr.gD hj
  have hgj := gK_at hgk hj
  iterate 4 (refine G.st rfl rfl ?_)
  refine G.aald rfl rfl (by decide) (ix_nI hl4 (by omega)) (rf4_row hl4) ?_
  iterate 2 (refine G.st rfl rfl ?_)
  refine G.get rfl hR0.1 rfl ?_
  iterate 1 (refine G.st rfl rfl ?_)
  refine G.iald rfl hR0.2.1 hx ?_
  iterate 2 (refine G.st rfl rfl ?_)
  refine G.get rfl hR0.1 rfl ?_
  iterate 2 (refine G.st rfl rfl ?_)
  refine G.iast rfl hR0.2.1 hx ?_
  rw [rset_1 hR0, H_rset (by omega)]
  iterate 1 (refine G.st rfl rfl ?_)
  refine G.ret rfl rfl ⟨by rw [a1], CI.mk (hC.line hl4 ?_ (gKs_set hgk ⟨K6_of hk.1 hk.2, hgj.2⟩))⟩
  have := hr.set (x := (kind, (gD (zL s l) j).2.1, (gD (zL s l) j).2.2)) hj
  unfold rput at this
  simp only at this
  rw [← a2, ← a3, upd_id, upd_id] at this
  rw [← a2, ← a3]
  exact this
def S_as (s : Sg) (line peg kind : Int32) : Int32 × Sg := if pegOk s line peg ∧ 0 ≤ kind ∧ kind ≤ 5 then (if undP (gD (zL s (ln line)) (ln peg)).1 kind then ((gD (zL s (ln line)) (ln peg)).2.1, s) else fin 2 s) else fin 0 s
theorem p6_as (X : aX) (line peg kind : Int32) {h : aH} (hC : CI m s h) : Sp X 10 kX6_as [.ref 0, .int line, .int peg, .int kind] h (fun v h' => v = some (.int (S_as s line peg kind).1) ∧ CI m (S_as s line peg kind).2 h') := by
  obtain ⟨rw, nu, wd, vo, od, tp, sh, fi, ik, rfl, hC⟩ := hC
  unfold Sp S_as
  have bad : G X 10 kX6_as 16 (eL kX6_as [.ref 0, .int line, .int peg, .int kind]) [] (H rw nu wd vo od tp sh fi ik m) (fun v h' => v = some (.int (fin 0 s).1) ∧ CI m (fin 0 s).2 h') := by
    iterate 2 (refine G.st rfl rfl ?_)
    refine G.call rfl rfl (Nat.le_of_ble_eq_true rfl) (Sp.up (c6_f0 X hC) (Nat.le_of_ble_eq_true rfl)) ?_
    rintro _ _ ⟨rfl, hci⟩
    exact G.ret rfl rfl ⟨rfl, hci⟩
  iterate 3 (refine G.st rfl rfl ?_)
  refine G.call rfl rfl (Nat.le_of_ble_eq_true rfl) (Sp.up (s6_isGarment X hC) (Nat.le_of_ble_eq_true rfl)) ?_
  rintro _ _ ⟨⟨b, rfl, -, hb⟩, rfl⟩
  by_cases hp : pegOk s line peg
  case neg =>
    rw [if_neg (fun q => hp q.1)]
    exact G.brt rfl (hb.mpr hp) bad
  refine G.brf rfl (fun q => hb.mp q hp) ?_
  iterate 1 (refine G.st rfl rfl ?_)
  refine G.call rfl rfl (Nat.le_of_ble_eq_true rfl) (Sp.up (s6_isKind X kind _) (Nat.le_of_ble_eq_true rfl)) ?_
  rintro _ _ ⟨rfl, rfl⟩
  by_cases hk : 0 ≤ kind ∧ kind ≤ 5
  case neg =>
    rw [if_neg (fun q => hk q.2)]
    exact G.brt rfl (bI_0.mpr hk) bad
  refine G.brf rfl (bI_n hk) ?_
  rw [if_pos ⟨hp, hk⟩]
  obtain ⟨l, j, hl4, rfl, hj, rfl⟩ := pegOk_n hC hp
  obtain ⟨hr, hgk, h7⟩ := hC.rep hl4
  rw [ln_nI (by omega), ln_nI (by omega)]
  have hR0 : RowAt (H rw nu wd vo od tp sh fi ik m) (rb l) (rw l) := H_row (by omega)
  have hx := ix_nI (show j < 7 by omega) (by omega)
  obtain ⟨a1, a2, a3⟩ := hr.gD hj
  have hgj := gK_at hgk hj
  iterate 4 (refine G.st rfl rfl ?_)
  refine G.aald rfl rfl (by decide) (ix_nI hl4 (by omega)) (rf4_row hl4) ?_
  iterate 2 (refine G.st rfl rfl ?_)
  refine G.get rfl hR0.1 rfl ?_
  iterate 1 (refine G.st rfl rfl ?_)
  refine G.iald rfl hR0.2.1 hx ?_
  rw [a1]
  iterate 1 (refine G.st rfl rfl ?_)
  refine G.call rfl rfl (Nat.le_of_ble_eq_true rfl) (Sp.up (s6_isOfKind X _ kind hgj.1 (K6_of hk.1 hk.2) _) (Nat.le_of_ble_eq_true rfl)) ?_
  rintro _ _ ⟨⟨b2, rfl, hb2⟩, rfl⟩
  by_cases hu : undP (gD (zL s l) j).1 kind
  case neg =>
    rw [if_neg hu]
    refine G.brt rfl (hb2.mpr hu) ?_
    iterate 2 (refine G.st rfl rfl ?_)
    refine G.call rfl rfl (Nat.le_of_ble_eq_true rfl) (Sp.up (c6_f2 X hC) (Nat.le_of_ble_eq_true rfl)) ?_
    rintro _ _ ⟨rfl, hci⟩
    exact G.ret rfl rfl ⟨rfl, hci⟩
  rw [if_pos hu]
  refine G.brf rfl (fun q => hb2.mp q hu) ?_
  iterate 1 (refine G.st rfl rfl ?_)
  refine G.get rfl hR0.1 rfl ?_
  iterate 1 (refine G.st rfl rfl ?_)
  refine G.iald rfl hR0.2.2.1 hx ?_
  refine G.ret rfl rfl ⟨by rw [a2], CI.mk hC⟩
def S_swap (s : Sg) (line one other : Int32) : Int32 × Sg := if pegOk s line one ∧ pegOk s line other then (apI one other, zSL s (va_up (zL s) (ln line) (((zL s (ln line)).set (ln one) (gD (zL s (ln line)) (ln other))).set (ln other) (gD (zL s (ln line)) (ln one))))) else fin 0 s
theorem abs_nI {a b : Nat} (ha : a < 7) (hb : b < 7) : (if 0 ≤ nI a - nI b then nI a - nI b else 0 - (nI a - nI b)) = apI (nI a) (nI b) := by
  have key : ∀ a, a < 7 → ∀ b, b < 7 → (if 0 ≤ nI a - nI b then nI a - nI b else 0 - (nI a - nI b)) = apI (nI a) (nI b) := by decide +kernel
  exact key a ha b hb
theorem p6_swap (X : aX) (line one other : Int32) {h : aH} (hC : CI m s h) : Sp X 10 kX6_swap [.ref 0, .int line, .int one, .int other] h (fun v h' => v = some (.int (S_swap s line one other).1) ∧ CI m (S_swap s line one other).2 h') := by
  obtain ⟨rw, nu, wd, vo, od, tp, sh, fi, ik, rfl, hC⟩ := hC
  unfold Sp S_swap
  have bad : G X 10 kX6_swap 18 (eL kX6_swap [.ref 0, .int line, .int one, .int other]) [] (H rw nu wd vo od tp sh fi ik m) (fun v h' => v = some (.int (fin 0 s).1) ∧ CI m (fin 0 s).2 h') := by
    iterate 2 (refine G.st rfl rfl ?_)
    refine G.call rfl rfl (Nat.le_of_ble_eq_true rfl) (Sp.up (c6_f0 X hC) (Nat.le_of_ble_eq_true rfl)) ?_
    rintro _ _ ⟨rfl, hci⟩
    exact G.ret rfl rfl ⟨rfl, hci⟩
  iterate 3 (refine G.st rfl rfl ?_)
  refine G.call rfl rfl (Nat.le_of_ble_eq_true rfl) (Sp.up (s6_isGarment X hC) (Nat.le_of_ble_eq_true rfl)) ?_
  rintro _ _ ⟨⟨b, rfl, -, hb⟩, rfl⟩
  by_cases hp : pegOk s line one
  case neg =>
    rw [if_neg (fun q => hp q.1)]
    exact G.brt rfl (hb.mpr hp) bad
  refine G.brf rfl (fun q => hb.mp q hp) ?_
  iterate 3 (refine G.st rfl rfl ?_)
  refine G.call rfl rfl (Nat.le_of_ble_eq_true rfl) (Sp.up (s6_isGarment X hC) (Nat.le_of_ble_eq_true rfl)) ?_
  rintro _ _ ⟨⟨b2, rfl, -, hb2⟩, rfl⟩
  by_cases hp2 : pegOk s line other
  case neg =>
    rw [if_neg (fun q => hp2 q.2)]
    exact G.brt rfl (hb2.mpr hp2) bad
  refine G.brf rfl (fun q => hb2.mp q hp2) ?_
  rw [if_pos ⟨hp, hp2⟩]
  obtain ⟨l, j, hl4, rfl, hj, rfl⟩ := pegOk_n hC hp
  obtain ⟨l2, j2, hl42, hll, hj2, rfl⟩ := pegOk_n hC hp2
  have : l2 = l := ((nI_eq (by omega) (by omega)).mp hll).symm
  subst this
  obtain ⟨hr, hgk, h7⟩ := hC.rep hl4
  rw [ln_nI (by omega), ln_nI (by omega), ln_nI (by omega)]
  have hR0 : RowAt (H rw nu wd vo od tp sh fi ik m) (rb l2) (rw l2) := H_row (by omega)
  iterate 4 (refine G.st rfl rfl ?_)
  refine G.aald rfl rfl (by decide) (ix_nI hl4 (by omega)) (rf4_row hl4) ?_
  iterate 2 (refine G.st rfl rfl ?_)
  refine G.callv rfl rfl rfl (hR0.1) (Nat.le_of_ble_eq_true rfl) rfl (Nat.le_of_ble_eq_true rfl) (Sp.up (s1_exchange X hR0 hr hj hj2) (Nat.le_of_ble_eq_true rfl)) ?_
  rintro _ _ ⟨rfl, q', rfl, hq'⟩
  rw [H_rset (by omega)]
  iterate 4 (refine G.st rfl rfl ?_)
  rw [abs_nI (by omega) (by omega)]
  rw [gD_at hj, gD_at hj2]
  exact G.ret rfl rfl ⟨rfl, CI.mk (hC.line hl4 hq' (gKs_set (gKs_set hgk (hgk _ (List.getElem_mem _))) (hgk _ (List.getElem_mem _))))⟩
def S_take (s : Sg) (line : Int32) : Int32 × Sg := if 0 ≤ line ∧ line ≤ 3 then (nI (zL s (ln line)).length, zSL s (va_up (zL s) (ln line) [])) else fin 0 s
theorem p6_take (X : aX) (line : Int32) {h : aH} (hC : CI m s h) : Sp X 10 kX6_take [.ref 0, .int line] h (fun v h' => v = some (.int (S_take s line).1) ∧ CI m (S_take s line).2 h') := by
  obtain ⟨rw, nu, wd, vo, od, tp, sh, fi, ik, rfl, hC⟩ := hC
  unfold Sp S_take
  iterate 1 (refine G.st rfl rfl ?_)
  refine G.call rfl rfl (Nat.le_of_ble_eq_true rfl) (Sp.up (s6_isLine X line _) (Nat.le_of_ble_eq_true rfl)) ?_
  rintro _ _ ⟨rfl, rfl⟩
  by_cases hl : 0 ≤ line ∧ line ≤ 3
  case neg =>
    rw [if_neg hl]
    refine G.brt rfl (bI_0.mpr hl) ?_
    iterate 2 (refine G.st rfl rfl ?_)
    refine G.call rfl rfl (Nat.le_of_ble_eq_true rfl) (Sp.up (c6_f0 X hC) (Nat.le_of_ble_eq_true rfl)) ?_
    rintro _ _ ⟨rfl, hci⟩
    exact G.ret rfl rfl ⟨rfl, hci⟩
  rw [if_pos hl]
  refine G.brf rfl (bI_n hl) ?_
  obtain ⟨l, hl4, rfl⟩ := lok_n hl
  obtain ⟨hr, hgk, h7⟩ := hC.rep hl4
  rw [ln_nI (by omega)]
  have hR0 : RowAt (H rw nu wd vo od tp sh fi ik m) (rb l) (rw l) := H_row (by omega)
  iterate 4 (refine G.st rfl rfl ?_)
  refine G.aald rfl rfl (by decide) (ix_nI hl4 (by omega)) (rf4_row hl4) ?_
  iterate 2 (refine G.st rfl rfl ?_)
  refine G.get rfl hR0.1 rfl ?_
  rw [hr.1]
  iterate 2 (refine G.st rfl rfl ?_)
  refine G.callv rfl rfl rfl (hR0.1) (Nat.le_of_ble_eq_true rfl) rfl (Nat.le_of_ble_eq_true rfl) (Sp.up (s1_clear X hR0) (Nat.le_of_ble_eq_true rfl)) ?_
  rintro _ _ ⟨rfl, rfl⟩
  rw [H_rset (by omega)]
  iterate 1 (refine G.st rfl rfl ?_)
  exact G.ret rfl rfl ⟨rfl, CI.mk (hC.line hl4 Rep.clear (fun x hx => by simp at hx))⟩
def S_like (s : Sg) (line other : Int32) : Int32 × Sg := if (0 ≤ line ∧ line ≤ 3) ∧ 0 ≤ other ∧ other ≤ 3 then (nI (zL s (ln other)).length, zSL s (va_up (zL s) (ln line) (zL s (ln other)))) else fin 0 s
theorem p6_like (X : aX) (line other : Int32) {h : aH} (hC : CI m s h) : Sp X 10 kX6_like [.ref 0, .int line, .int other] h (fun v h' => v = some (.int (S_like s line other).1) ∧ CI m (S_like s line other).2 h') := by
  obtain ⟨rw, nu, wd, vo, od, tp, sh, fi, ik, rfl, hC⟩ := hC
  unfold Sp S_like
  have bad : G X 10 kX6_like 14 (eL kX6_like [.ref 0, .int line, .int other]) [] (H rw nu wd vo od tp sh fi ik m) (fun v h' => v = some (.int (fin 0 s).1) ∧ CI m (fin 0 s).2 h') := by
    iterate 2 (refine G.st rfl rfl ?_)
    refine G.call rfl rfl (Nat.le_of_ble_eq_true rfl) (Sp.up (c6_f0 X hC) (Nat.le_of_ble_eq_true rfl)) ?_
    rintro _ _ ⟨rfl, hci⟩
    exact G.ret rfl rfl ⟨rfl, hci⟩
  iterate 1 (refine G.st rfl rfl ?_)
  refine G.call rfl rfl (Nat.le_of_ble_eq_true rfl) (Sp.up (s6_isLine X line _) (Nat.le_of_ble_eq_true rfl)) ?_
  rintro _ _ ⟨rfl, rfl⟩
  by_cases hl : 0 ≤ line ∧ line ≤ 3
  case neg =>
    rw [if_neg (fun q => hl q.1)]
    exact G.brt rfl (bI_0.mpr hl) bad
  refine G.brf rfl (bI_n hl) ?_
  iterate 1 (refine G.st rfl rfl ?_)
  refine G.call rfl rfl (Nat.le_of_ble_eq_true rfl) (Sp.up (s6_isLine X other _) (Nat.le_of_ble_eq_true rfl)) ?_
  rintro _ _ ⟨rfl, rfl⟩
  by_cases hl2 : 0 ≤ other ∧ other ≤ 3
  case neg =>
    rw [if_neg (fun q => hl2 q.2)]
    exact G.brt rfl (bI_0.mpr hl2) bad
  refine G.brf rfl (bI_n hl2) ?_
  rw [if_pos ⟨hl, hl2⟩]
  obtain ⟨l, hl4, rfl⟩ := lok_n hl
  obtain ⟨l2, hl42, rfl⟩ := lok_n hl2
  obtain ⟨hr, hgk, h7⟩ := hC.rep hl4
  obtain ⟨hr2, hgk2, h72⟩ := hC.rep hl42
  rw [ln_nI (by omega), ln_nI (by omega)]
  have hR0 : RowAt (H rw nu wd vo od tp sh fi ik m) (rb l) (rw l) := H_row (by omega)
  have hR2 : RowAt (H rw nu wd vo od tp sh fi ik m) (rb l2) (rw l2) := H_row (by omega)
  have hap : (rb l2 = rb l ∧ rw l2 = rw l) ∨ rb l + 4 ≤ rb l2 ∨ rb l2 + 4 ≤ rb l := by
    rcases rb_apart (i := l) (j := l2) (by omega) (by omega) with h1 | h1
    · subst h1; exact Or.inl ⟨rfl, rfl⟩
    · exact Or.inr h1
  iterate 4 (refine G.st rfl rfl ?_)
  refine G.aald rfl rfl (by decide) (ix_nI hl4 (by omega)) (rf4_row hl4) ?_
  iterate 4 (refine G.st rfl rfl ?_)
  refine G.aald rfl rfl (by decide) (ix_nI hl42 (by omega)) (rf4_row hl42) ?_
  refine G.callv rfl rfl rfl (hR0.1) (Nat.le_of_ble_eq_true rfl) rfl (Nat.le_of_ble_eq_true rfl) (Sp.up (s1_become X hR0 hR2 hr2 hap) (Nat.le_of_ble_eq_true rfl)) ?_
  rintro _ _ ⟨rfl, q', rfl, hq'⟩
  rw [H_rset (by omega)]
  iterate 4 (refine G.st rfl rfl ?_)
  refine G.aald rfl rfl (by decide) (ix_nI hl4 (by omega)) (rf4_row hl4) ?_
  refine G.get rfl (H_row (by omega)).1 rfl ?_
  rw [va_up_s, hq'.1]
  exact G.ret rfl rfl ⟨rfl, CI.mk (hC.line hl4 hq' hgk2)⟩
def S_wind (s : Sg) (v : Int32) : Int32 × Sg := if 0 ≤ v ∧ v ≤ 20 then (zW s, zSW s v) else fin 0 s
theorem CR.wind (h : CR rw nu wd tp sh fi ik s) {v : Int32} (hv : 0 ≤ v ∧ v ≤ 20) : CR rw nu (va_up wd 0 (v, (wd 0).2)) tp sh fi ik (zSW s v) := by
  have hw := h.wd0
  obtain ⟨⟨⟨a1, a2, a3, a4⟩, b1, b2, b3⟩, h2, h3⟩ := h
  refine ⟨⟨⟨a1, a2, hv, a4⟩, b1, b2, ?_⟩, ?_, h3⟩
  · rw [va_up_s, hw]
  · show match zK s with | none => ik = 0 | some k => ik = 1 ∧ CT rw (nu 1) (va_up wd 0 (v, (wd 0).2) 1) 4 k
    rw [va_up_n (by decide)]
    exact h2
theorem p6_wind (X : aX) (v : Int32) {h : aH} (hC : CI m s h) : Sp X 10 kX6_wind [.ref 0, .int v] h (fun r h' => r = some (.int (S_wind s v).1) ∧ CI m (S_wind s v).2 h') := by
  obtain ⟨rw, nu, wd, vo, od, tp, sh, fi, ik, rfl, hC⟩ := hC
  unfold Sp S_wind
  iterate 1 (refine G.st rfl rfl ?_)
  refine G.call rfl rfl (Nat.le_of_ble_eq_true rfl) (Sp.up (s6_isWind X v _) (Nat.le_of_ble_eq_true rfl)) ?_
  rintro _ _ ⟨rfl, rfl⟩
  by_cases hl : 0 ≤ v ∧ v ≤ 20
  case neg =>
    rw [if_neg hl]
    refine G.brt rfl (bI_0.mpr hl) ?_
    iterate 2 (refine G.st rfl rfl ?_)
    refine G.call rfl rfl (Nat.le_of_ble_eq_true rfl) (Sp.up (c6_f0 X hC) (Nat.le_of_ble_eq_true rfl)) ?_
    rintro _ _ ⟨rfl, hci⟩
    exact G.ret rfl rfl ⟨rfl, hci⟩
  rw [if_pos hl]
  refine G.brf rfl (bI_n hl) ?_
  have hw := hC.wd0
  iterate 9 (refine G.st rfl rfl ?_)
  refine G.ret rfl rfl ⟨?_, ?_⟩
  · rw [hw]
  · exact CI.mk (vo := vo) (od := od) (m := m) (hC.wind hl)
def S_days (s : Sg) (n : Int32) : Int32 × Sg := if 1 ≤ n ∧ n ≤ 99 then (if 9999 < zD s + n then fin 4 s else (nI (sum4 (fun l => dryN n (zL s l) (zL s l).length)), zSD (zSL s (fun l => (zL s l).map (dryG n))) (zD s + n))) else fin 0 s
theorem dry_K {n : Int32} {g : Gar} (hn : 1 ≤ n ∧ n ≤ 99) (h : gK g) : gK (dryG n g) := by
  obtain ⟨h1, h2, h3⟩ := h
  refine ⟨h1, h2, ?_⟩
  unfold dryG
  dsimp only
  grind
theorem p6_days (X : aX) (n : Int32) {h : aH} (hC : CI m s h) : Sp X 10 kX6_days [.ref 0, .int n] h (fun r h' => r = some (.int (S_days s n).1) ∧ CI m (S_days s n).2 h') := by
  obtain ⟨rw, nu, wd, vo, od, tp, sh, fi, ik, rfl, hC⟩ := hC
  unfold Sp S_days
  iterate 3 (refine G.st rfl rfl ?_)
  refine G.call rfl rfl (Nat.le_of_ble_eq_true rfl) (Sp.up (s6_isWithin X n 1 99 _) (Nat.le_of_ble_eq_true rfl)) ?_
  rintro _ _ ⟨rfl, rfl⟩
  by_cases hl : 1 ≤ n ∧ n ≤ 99
  case neg =>
    rw [if_neg hl]
    refine G.brt rfl (bI_0.mpr hl) ?_
    iterate 2 (refine G.st rfl rfl ?_)
    refine G.call rfl rfl (Nat.le_of_ble_eq_true rfl) (Sp.up (c6_f0 X hC) (Nat.le_of_ble_eq_true rfl)) ?_
    rintro _ _ ⟨rfl, hci⟩
    exact G.ret rfl rfl ⟨rfl, hci⟩
  rw [if_pos hl]
  refine G.brf rfl (bI_n hl) ?_
  have hw := hC.wd0
  iterate 6 (refine G.st rfl rfl ?_)
  rw [hw]
  by_cases hd : 9999 < zD s + n
  case pos =>
    rw [if_pos hd]
    refine G.brf rfl (Int32.not_le.mpr hd) ?_
    iterate 2 (refine G.st rfl rfl ?_)
    refine G.call rfl rfl (Nat.le_of_ble_eq_true rfl) (Sp.up (c6_f4 X hC) (Nat.le_of_ble_eq_true rfl)) ?_
    rintro _ _ ⟨rfl, hci⟩
    exact G.ret rfl rfl ⟨rfl, hci⟩
  rw [if_neg hd]
  refine G.brt rfl (Int32.not_lt.mp hd) ?_
  iterate 3 (refine G.st rfl rfl ?_)
  refine G.call rfl rfl (Nat.le_of_ble_eq_true rfl) (Sp.up (s4_letDaysGo X (g := zL s) (fun l hl => (hC.rep hl).1)) (Nat.le_of_ble_eq_true rfl)) ?_
  rintro _ _ ⟨rfl, rw', rfl, hr', ho'⟩
  refine G.ret rfl rfl ⟨rfl, ?_⟩
  refine CI.mk (vo := vo) (od := od) (m := m) ?_
  obtain ⟨⟨⟨a1, a2, a3, a4⟩, b1, b2, b3⟩, h2, h3⟩ := hC
  have a4 : 0 ≤ zD s ∧ zD s ≤ 9999 := a4
  refine ⟨⟨⟨fun l hl => ⟨fun x hx => ?_, ?_⟩, a2, a3, ?_⟩, fun l hl => ?_, b2, ?_⟩, ?_, h3⟩
  · obtain ⟨y, hy, rfl⟩ := List.mem_map.mp (show x ∈ (zL s l).map (dryG n) from hx)
    exact dry_K ‹1 ≤ n ∧ n ≤ 99› ((a1 l hl).1 y hy)
  · show ((zL s l).map (dryG n)).length ≤ 7
    rw [List.length_map]
    exact (a1 l hl).2
  · show 0 ≤ zD s + n ∧ zD s + n ≤ 9999
    grind
  · rw [Nat.zero_add]
    exact hr' l hl
  · rw [va_up_s, hw]
  · show match zK s with | none => ik = 0 | some k => ik = 1 ∧ CT rw' (nu 1) (va_up wd 0 ((wd 0).1, (wd 0).2 + n) 1) 4 k
    rw [va_up_n (by decide)]
    cases hk : zK s with
    | none => rw [hk] at h2; exact h2
    | some k =>
      rw [hk] at h2
      refine ⟨h2.1, h2.2.1, fun l hl => ?_, h2.2.2.2⟩
      rw [ho' _ (by omega)]
      exact h2.2.2.1 l hl
end LINES3
