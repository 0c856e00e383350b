section MOST
variable {rw : Nat → sR} {nu : Nat → Nat → Int32} {wd : Nat → Int32 × Int32} {vo : sV} {od : sO} {tp : sP} {sh : Nat → sS} {fi : Nat → Int32} {ik : Int32} {m : sM} {nm : Nat → Option Int32} {g : List Gar} {s : Sg}
def S_most (s : Sg) (line : Int32) : Int32 × Sg := if 0 ≤ line ∧ line ≤ 3 then ((mxL ((ordL (zW s) (zL s (ln line))).map (·.1))).getD 0, s) else fin 0 s
theorem p6_most (X : aX) (line : Int32) {h : aH} (hC : CI m s h) : Sp X 20 kX6_most [.ref 0, .int line] h (fun v h' => v = some (.int (S_most s line).1) ∧ CI m (S_most s line).2 h') := by
  obtain ⟨rw, nu, wd, vo, od, tp, sh, fi, ik, rfl, hC⟩ := hC
  unfold Sp S_most
  iterate 1 (refine G.st rfl rfl ?_)
  refine G.call rfl rfl (Nat.le_of_ble_eq_true rfl) (Sp.up (s6_isLine X line _) (Nat.le_of_ble_eq_true rfl)) ?_
  rintro _ _ ⟨rfl, rfl⟩
  by_cases hl : 0 ≤ line ∧ line ≤ 3
  case neg =>
    rw [if_neg hl]
    refine G.brt rfl (bI_0.mpr hl) ?_
    iterate 2 (refine G.st rfl rfl ?_)
    refine G.call rfl rfl (Nat.le_of_ble_eq_true rfl) (Sp.up (c6_f0 X hC) (Nat.le_of_ble_eq_true rfl)) ?_
    rintro _ _ ⟨rfl, hci⟩
    exact G.ret rfl rfl ⟨rfl, hci⟩
  refine G.brf rfl (bI_n hl) ?_
  rw [if_pos hl]
  obtain ⟨l, hl4, rfl⟩ := lok_n hl
  rw [ln_nI (by omega)]
  obtain ⟨hr, hgk, h7⟩ := hC.rep hl4
  iterate 6 (refine G.st rfl rfl ?_)
  refine G.aald rfl rfl (by decide) (ix_nI hl4 (by omega)) (rf4_row hl4) ?_
  iterate 2 (refine G.st rfl rfl ?_)
  refine G.call rfl rfl (Nat.le_of_ble_eq_true rfl) (Sp.up (s0_walk X hl4 hr hgk hC.num W9_0) (Nat.le_of_ble_eq_true rfl)) ?_
  rintro _ _ ⟨rfl, q', od', rfl, hq', hm', ha', hO⟩
  rw [hC.wd0] at hO
  iterate 3 (refine G.st rfl rfl ?_)
  refine G.ret rfl rfl ⟨?_, CI.mk (hC.row12 q')⟩
  obtain ⟨x, hx⟩ := mxL_ex (l := (ordC (zW s) (zL s l)).map (·.1)) (by simpa using ord_ne)
  have h3 := hO.2.2.2.2.1 x hx
  rw [mxL_eq (fun v => ord_mem)] at hx
  rw [hx]
  show some (Value.int (ogr od')) = _
  rw [h3]
  rfl
def S_least (s : Sg) (line : Int32) : Int32 × Sg := if 0 ≤ line ∧ line ≤ 3 then ((mnL ((ordL (zW s) (zL s (ln line))).map (·.1))).getD 0, s) else fin 0 s
theorem p6_least (X : aX) (line : Int32) {h : aH} (hC : CI m s h) : Sp X 20 kX6_least [.ref 0, .int line] h (fun v h' => v = some (.int (S_least s line).1) ∧ CI m (S_least s line).2 h') := by
  obtain ⟨rw, nu, wd, vo, od, tp, sh, fi, ik, rfl, hC⟩ := hC
  unfold Sp S_least
  iterate 1 (refine G.st rfl rfl ?_)
  refine G.call rfl rfl (Nat.le_of_ble_eq_true rfl) (Sp.up (s6_isLine X line _) (Nat.le_of_ble_eq_true rfl)) ?_
  rintro _ _ ⟨rfl, rfl⟩
  by_cases hl : 0 ≤ line ∧ line ≤ 3
  case neg =>
    rw [if_neg hl]
    refine G.brt rfl (bI_0.mpr hl) ?_
    iterate 2 (refine G.st rfl rfl ?_)
    refine G.call rfl rfl (Nat.le_of_ble_eq_true rfl) (Sp.up (c6_f0 X hC) (Nat.le_of_ble_eq_true rfl)) ?_
    rintro _ _ ⟨rfl, hci⟩
    exact G.ret rfl rfl ⟨rfl, hci⟩
  refine G.brf rfl (bI_n hl) ?_
  rw [if_pos hl]
  obtain ⟨l, hl4, rfl⟩ := lok_n hl
  rw [ln_nI (by omega)]
  obtain ⟨hr, hgk, h7⟩ := hC.rep hl4
  iterate 6 (refine G.st rfl rfl ?_)
  refine G.aald rfl rfl (by decide) (ix_nI hl4 (by omega)) (rf4_row hl4) ?_
  iterate 2 (refine G.st rfl rfl ?_)
  refine G.call rfl rfl (Nat.le_of_ble_eq_true rfl) (Sp.up (s0_walk X hl4 hr hgk hC.num W9_0) (Nat.le_of_ble_eq_true rfl)) ?_
  rintro _ _ ⟨rfl, q', od', rfl, hq', hm', ha', hO⟩
  rw [hC.wd0] at hO
  iterate 3 (refine G.st rfl rfl ?_)
  refine G.ret rfl rfl ⟨?_, CI.mk (hC.row12 q')⟩
  obtain ⟨x, hx⟩ := mnL_ex (l := (ordC (zW s) (zL s l)).map (·.1)) (by simpa using ord_ne)
  have h3 := hO.2.2.2.2.2.1 x hx
  rw [mnL_eq (fun v => ord_mem)] at hx
  rw [hx]
  show some (Value.int (osm od')) = _
  rw [h3]
  rfl
/-- the row comes to hang by an order -/
theorem l0_arrange (X : aX) {l : Nat} {b : List Nat} (hl : l < 4) (hg : Rep (rw 12) g) (hb : ∀ i (hi : i < b.length), onp od i = nI b[i]) (hbl : b.length = g.length) (hbn : ∀ i (hi : i < b.length), b[i] < g.length) : ∀ (c i : Nat) (rw' : Nat → sR) (u3 : Value), i + c = g.length → Rep (rw' l) ((b.take i).map (gD g)) → rw' 12 = rw 12 → G X 3 kX0_arrangeNearest 6 [.ref 59, .ref (rb l), .int (nI i), u3] [] (H rw' nu wd vo od tp sh fi ik m) (fun v h' => v = none ∧ ∃ q', h' = H (va_up rw' l q') nu wd vo od tp sh fi ik m ∧ Rep q' (b.map (gD g)))
  | 0, i, rw', u3, hi, hr, e12 => by
    have h7 := hg.2.1
    iterate 3 (refine G.st rfl rfl ?_)
    refine G.get rfl (H_row (i := 12) (by omega)).1 rfl ?_
    rw [e12, hg.1]
    refine G.brt rfl (by rw [nI_leI (by omega) (by omega)]; omega) ?_
    refine G.ret rfl rfl ⟨rfl, rw' l, by rw [va_up_id], ?_⟩
    rw [List.take_of_length_le (by omega)] at hr
    exact hr
  | c + 1, i, rw', u3, hi, hr, e12 => by
    have h7 := hg.2.1
    have hib : i < b.length := by omega
    have hx := ix_nI (show i < 7 by omega) (by omega)
    have hbi := hbn i hib
    have hy := ix_nI (show b[i] < 7 by omega) (by omega)
    obtain ⟨a1, a2, a3⟩ := hg.gD hbi
    iterate 3 (refine G.st rfl rfl ?_)
    refine G.get rfl (H_row (i := 12) (by omega)).1 rfl ?_
    rw [e12, hg.1]
    refine G.brf rfl (by rw [nI_leI (by omega) (by omega)]; omega) ?_
    iterate 3 (refine G.st rfl rfl ?_)
    refine G.iald rfl rfl hx ?_
    rw [hb i hib]
    iterate 6 (refine G.st rfl rfl ?_)
    refine G.iald rfl rfl hy ?_
    iterate 4 (refine G.st rfl rfl ?_)
    refine G.iald rfl rfl hy ?_
    iterate 4 (refine G.st rfl rfl ?_)
    refine G.iald rfl rfl hy ?_
    show G X 3 kX0_arrangeNearest 52 [.ref 59, .ref (rb l), .int (nI i), .int (nI b[i])] [.int ((rw' 12).2.2.1 b[i]), .int ((rw' 12).2.1 b[i]), .int ((rw' 12).1 b[i]), .ref (rb l)] (H rw' nu wd vo od tp sh fi ik m) _
    rw [e12, a1, a2, a3]
    have hrow := H_row (rw := rw') (nu := nu) (wd := wd) (vo := vo) (od := od) (tp := tp) (sh := sh) (fi := fi) (ik := ik) (m := m) (show l < 13 by omega)
    refine G.callv rfl rfl rfl (hrow.1) (Nat.le_of_ble_eq_true rfl) rfl (Nat.le_of_ble_eq_true rfl) (Sp.up (s1_add X hrow hr (by rw [List.length_map, List.length_take]; omega)) (Nat.le_of_ble_eq_true rfl)) ?_
    rintro _ _ ⟨rfl, q', rfl, hq'⟩
    rw [H_rset (by omega)]
    iterate 1 (refine G.st rfl rfl ?_)
    rw [nI_1]
    iterate 1 (refine G.st rfl rfl ?_)
    have hq2 : Rep (va_up rw' l q' l) ((b.take (i + 1)).map (gD g)) := by
      rw [va_up_s, List.take_succ_eq_append_getElem hib, List.map_append, List.map_singleton]
      exact hq'
    refine (l0_arrange X hl hg hb hbl hbn c (i + 1) (va_up rw' l q') _ (by omega) hq2 (by rw [va_up_n (by omega)]; exact e12)).imp ?_
    rintro _ _ ⟨rfl, q2, rfl, h2⟩
    exact ⟨rfl, q2, by rw [va_up_up], h2⟩
theorem s0_arrangeNearest (X : aX) {l : Nat} {b : List Nat} (hl : l < 4) (hg : Rep (rw 12) g) (hb : ∀ i (hi : i < b.length), onp od i = nI b[i]) (hbl : b.length = g.length) (hbn : ∀ i (hi : i < b.length), b[i] < g.length) : Sp X 4 kX0_arrangeNearest [.ref 59, .ref (rb l)] (H rw nu wd vo od tp sh fi ik m) (fun v h' => v = none ∧ ∃ q', h' = H (va_up rw l q') nu wd vo od tp sh fi ik m ∧ Rep q' (b.map (gD g))) := by
  unfold Sp
  have hrow := H_row (rw := rw) (nu := nu) (wd := wd) (vo := vo) (od := od) (tp := tp) (sh := sh) (fi := fi) (ik := ik) (m := m) (show l < 13 by omega)
  iterate 1 (refine G.st rfl rfl ?_)
  refine G.callv rfl rfl rfl (hrow.1) (Nat.le_of_ble_eq_true rfl) rfl (Nat.le_of_ble_eq_true rfl) (Sp.up (s1_clear X hrow) (Nat.le_of_ble_eq_true rfl)) ?_
  rintro _ _ ⟨rfl, rfl⟩
  rw [H_rset (by omega)]
  iterate 2 (refine G.st rfl rfl ?_)
  refine (G.up (l0_arrange X hl hg hb hbl hbn g.length 0 (va_up rw l ((rw l).1, (rw l).2.1, (rw l).2.2.1, 0)) (.double 0) (by omega) (by rw [va_up_s]; exact Rep.clear) (by rw [va_up_n (by omega)])) (by omega)).imp ?_
  rintro _ _ ⟨rfl, q2, rfl, h2⟩
  exact ⟨rfl, q2, by rw [va_up_up], h2⟩
def S_order (s : Sg) (line x : Int32) : Int32 × Sg := if (0 ≤ line ∧ line ≤ 3) ∧ -9999 ≤ x ∧ x ≤ 9999 then (match bstL x (ordL (zW s) (zL s (ln line))) with | none => (0, s) | some b => (b.1, zSL s (va_up (zL s) (ln line) (b.2.map (gD (zL s (ln line))))))) else fin 0 s
theorem p6_order (X : aX) (line x : Int32) {h : aH} (hC : CI m s h) : Sp X 20 kX6_order [.ref 0, .int line, .int x] h (fun v h' => v = some (.int (S_order s line x).1) ∧ CI m (S_order s line x).2 h') := by
  obtain ⟨rw, nu, wd, vo, od, tp, sh, fi, ik, rfl, hC⟩ := hC
  unfold Sp S_order
  have bad : G X 20 kX6_order 14 (eL kX6_order [.ref 0, .int line, .int x]) [] (H rw nu wd vo od tp sh fi ik m) (fun v h' => v = some (.int (fin 0 s).1) ∧ CI m (fin 0 s).2 h') := by
    iterate 2 (refine G.st rfl rfl ?_)
    refine G.call rfl rfl (Nat.le_of_ble_eq_true rfl) (Sp.up (c6_f0 X hC) (Nat.le_of_ble_eq_true rfl)) ?_
    rintro _ _ ⟨rfl, hci⟩
    exact G.ret rfl rfl ⟨rfl, hci⟩
  iterate 1 (refine G.st rfl rfl ?_)
  refine G.call rfl rfl (Nat.le_of_ble_eq_true rfl) (Sp.up (s6_isLine X line _) (Nat.le_of_ble_eq_true rfl)) ?_
  rintro _ _ ⟨rfl, rfl⟩
  by_cases hl : 0 ≤ line ∧ line ≤ 3
  case neg =>
    rw [if_neg (fun q => hl q.1)]
    exact G.brt rfl (bI_0.mpr hl) bad
  refine G.brf rfl (bI_n hl) ?_
  iterate 1 (refine G.st rfl rfl ?_)
  refine G.call rfl rfl (Nat.le_of_ble_eq_true rfl) (Sp.up (s6_isWorth X x _) (Nat.le_of_ble_eq_true rfl)) ?_
  rintro _ _ ⟨rfl, rfl⟩
  by_cases hm : -9999 ≤ x ∧ x ≤ 9999
  case neg =>
    rw [if_neg (fun q => hm q.2)]
    exact G.brt rfl (bI_0.mpr hm) bad
  refine G.brf rfl (bI_n hm) ?_
  rw [if_pos ⟨hl, hm⟩]
  obtain ⟨l, hl4, rfl⟩ := lok_n hl
  rw [ln_nI (by omega)]
  obtain ⟨hr, hgk, h7⟩ := hC.rep hl4
  iterate 4 (refine G.st rfl rfl ?_)
  refine G.aald rfl rfl (by decide) (ix_nI hl4 (by omega)) (rf4_row hl4) ?_
  iterate 6 (refine G.st rfl rfl ?_)
  refine G.call rfl rfl (Nat.le_of_ble_eq_true rfl) (Sp.up (s0_walk X hl4 hr hgk hC.num (show W9 x from hm)) (Nat.le_of_ble_eq_true rfl)) ?_
  rintro _ _ ⟨rfl, q', od', rfl, hq', hm', ha', hO⟩
  rw [hC.wd0] at hO
  show G X 20 kX6_order 41 [.ref 0, .int (nI l), .int x, .ref (rb l)] [] _ _
  obtain ⟨b, hb⟩ := bst_ex x (l := ordL (zW s) (zL s l)) ordL_ne
  have hb2 := hO.2.2.2.1 b (by rw [ha']; rw [ord_bst]; exact hb)
  have hbm := ordL_perm (bst_le x hb).1
  have hbl : b.2.length = (zL s l).length := by rw [hbm.length_eq, List.length_range]
  have hbn : ∀ i (hi : i < b.2.length), b.2[i] < (zL s l).length := fun i hi => List.mem_range.mp (hbm.mem_iff.mp (List.getElem_mem hi))
  rw [hb]
  iterate 3 (refine G.st rfl rfl ?_)
  refine G.call rfl rfl (Nat.le_of_ble_eq_true rfl) (Sp.up (s0_arrangeNearest X (rw := va_up rw 12 q') hl4 (by rw [va_up_s]; exact hq') hb2.2 hbl hbn) (Nat.le_of_ble_eq_true rfl)) ?_
  rintro _ _ ⟨rfl, q2, rfl, h2⟩
  iterate 3 (refine G.st rfl rfl ?_)
  refine G.ret rfl rfl ⟨?_, CI.mk ((hC.row12 q').line hl4 h2 ?_)⟩
  · show some (Value.int (one od')) = _
    rw [hb2.1]
  · intro y hy
    obtain ⟨i, hi, rfl⟩ := List.mem_map.mp hy
    exact gK_at hgk (List.mem_range.mp (hbm.mem_iff.mp hi))
end MOST
