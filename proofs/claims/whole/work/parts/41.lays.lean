section LAYS
variable {rw : Nat → sR} {nu : Nat → Nat → Int32} {wd : Nat → Int32 × Int32} {vo : sV} {od : sO} {tp : sP} {sh : Nat → sS} {fi : Nat → Int32} {ik : Int32} {m : sM} {s : Sg}
abbrev gCode (x : Int64) : Prop := 0 < x ∧ x < 60 ∧ x - x / 10 * 10 ≠ 0
/-- the garments that a sheet tells, on to a row -/
def layK (q : List Int64) : Nat → Nat → List Gar → List Gar
  | 0, _, g => g
  | k + 1, i, g => if gCode (q.getD i 0) then layK q k (i + 1) (g ++ [((q.getD i 0).toInt32 / 10, (q.getD i 0).toInt32 - (q.getD i 0).toInt32 / 10 * 10, 0)]) else g
theorem gCode_n {x : Int64} (h : gCode x) : ∃ c, 0 < c ∧ c < 60 ∧ x = (nI c).toInt64 := by
  obtain ⟨h1, h2, -⟩ := h
  have a1 := Int64.lt_iff_toInt_lt.mp h1
  have a2 := Int64.lt_iff_toInt_lt.mp h2
  rw [show (0 : Int64).toInt = 0 from rfl] at a1
  rw [show (60 : Int64).toInt = 60 from rfl] at a2
  obtain ⟨c, hc⟩ := Int.eq_ofNat_of_zero_le (Int.le_of_lt a1)
  refine ⟨c, by omega, by omega, ?_⟩
  have key : ∀ c, c < 60 → (nI c).toInt64 = Int64.ofInt (Int.ofNat c) := by decide +kernel
  rw [key c (by omega), ← Int64.ofInt_toInt x, hc]
  rfl
theorem gCode_a : ∀ c, c < 60 → (nI c).toInt64.toInt32 = nI c ∧ (nI c - nI c / 10 * 10 = 0 ∨ (1 ≤ nI c - nI c / 10 * 10 ∧ nI c - nI c / 10 * 10 ≤ 9)) := by decide +kernel
theorem gCode_g (c : Nat) (h1 : c < 60) (h0 : 0 < c) (h : gCode (nI c).toInt64) : gK ((nI c).toInt64.toInt32 / 10, (nI c).toInt64.toInt32 - (nI c).toInt64.toInt32 / 10 * 10, 0) := by
  obtain ⟨g1, g2⟩ := gcode c h1 h0
  obtain ⟨a1, a2⟩ := gCode_a c h1
  rw [a1]
  exact ⟨K6_of g2.1 g2.2, a2.resolve_left (g1.mp h), (by decide : (0 : Int32) ≤ 0), (by decide : (0 : Int32) ≤ 9)⟩
theorem gCode_K {x : Int64} (h : gCode x) : gK (x.toInt32 / 10, x.toInt32 - x.toInt32 / 10 * 10, 0) := by
  obtain ⟨c, h0, h1, rfl⟩ := gCode_n h
  exact gCode_g c h1 h0 h
theorem l6_lays (X : aX) {l c n : Nat} {u1 u2 u3 : Int32} (hl4 : l < 4) (hc4 : c < 4) : ∀ (k i : Nat) (u8 : Value) (rw : Nat → sR) (s : Sg), CR rw nu wd tp sh fi ik s → n ≤ (zS s c).2.length → n ≤ 7 → (zL s l).length = i → i + k = n → G X 10 kX6_lays 56 [.ref 0, .int u1, .int u2, .int u3, .ref (sb c), .ref (rb l), .int (nI n), .int (nI i), u8] [] (H rw nu wd vo od tp sh fi ik m) (fun v h' => v = some (.int (nI (layK (zS s c).2 k i (zL s l)).length)) ∧ CI m (zSL s (va_up (zL s) l (layK (zS s c).2 k i (zL s l)))) h') := by
  intro k
  induction k with
  | zero =>
    intro i u8 rw s hC hn h7 hli hi
    obtain ⟨hr, hgk, h7⟩ := hC.rep hl4
    iterate 2 (refine G.st rfl rfl ?_)
    refine G.brt rfl (by rw [nI_leI (by omega) (by omega)]; omega) ?_
    iterate 1 (refine G.st rfl rfl ?_)
    refine G.get rfl (H_row (by omega)).1 rfl ?_
    rw [hr.1]
    refine G.ret rfl rfl ⟨rfl, ?_⟩
    unfold layK
    rw [va_up_id]
    exact CI.mk hC
  | succ k ih =>
    intro i u8 rw s hC hn hn7 hli hi
    obtain ⟨hr, hgk, h7⟩ := hC.rep hl4
    obtain ⟨⟨o1, o2, o3⟩, ⟨c1, c2, c3⟩⟩ := hC.shk hc4
    have hiq : i < (zS s c).2.length := by omega
    have eq : (zS s c).2.getD i 0 = (zS s c).2[i] := by rw [List.getD_eq_getElem?_getD, List.getElem?_eq_getElem hiq]; rfl
    iterate 2 (refine G.st rfl rfl ?_)
    refine G.brf rfl (by rw [nI_leI (by omega) (by omega)]; omega) ?_
    iterate 1 (refine G.st rfl rfl ?_)
    refine G.get rfl (H_sh hc4).1 rfl ?_
    iterate 1 (refine G.st rfl rfl ?_)
    refine G.lald rfl (H_sh hc4).2 (ix_nI (show i < 40 by omega) (by omega)) ?_
    rw [c3 i hiq, ← eq]
    refine G.call rfl rfl (Nat.le_of_ble_eq_true rfl) (Sp.up (s6_isGarmentCode X _ _) (Nat.le_of_ble_eq_true rfl)) ?_
    rintro _ _ ⟨rfl, rfl⟩
    by_cases hg : gCode ((zS s c).2.getD i 0)
    case neg =>
      refine G.brt rfl (bI_0.mpr hg) ?_
      iterate 1 (refine G.st rfl rfl ?_)
      refine G.get rfl (H_row (by omega)).1 rfl ?_
      rw [hr.1]
      unfold layK
      rw [if_neg hg]
      refine G.ret rfl rfl ⟨rfl, ?_⟩
      rw [va_up_id]
      exact CI.mk hC
    refine G.brf rfl (bI_n hg) ?_
    iterate 1 (refine G.st rfl rfl ?_)
    refine G.get rfl (H_sh hc4).1 rfl ?_
    iterate 1 (refine G.st rfl rfl ?_)
    refine G.lald rfl (H_sh hc4).2 (ix_nI (show i < 40 by omega) (by omega)) ?_
    rw [c3 i hiq, ← eq]
    unfold layK
    rw [if_pos hg]
    have hK := gCode_K hg
    revert hK
    generalize (zS s c).2.getD i 0 = x
    intro hK
    iterate 2 (refine G.st rfl rfl ?_)
    show G X 10 kX6_lays 88 [.ref 0, .int u1, .int u2, .int u3, .ref (sb c), .ref (rb l), .int (nI n), .int (nI i), .int x.toInt32] [] _ _
    iterate 8 (refine G.st rfl rfl ?_)
    have hR0 := H_row (rw := rw) (nu := nu) (wd := wd) (vo := vo) (od := od) (tp := tp) (sh := sh) (fi := fi) (ik := ik) (m := m) (show l < 13 by omega)
    refine G.callv rfl rfl rfl (hR0.1) (Nat.le_of_ble_eq_true rfl) rfl (Nat.le_of_ble_eq_true rfl) (Sp.up (s1_add X hR0 hr (show (zL s l).length < 7 by omega)) (Nat.le_of_ble_eq_true rfl)) ?_
    rintro _ _ ⟨rfl, q', rfl, hq'⟩
    rw [H_rset (by omega)]
    iterate 1 (refine G.st rfl rfl ?_)
    rw [nI_1]
    iterate 1 (refine G.st rfl rfl ?_)
    have hg' : gKs (zL s l ++ [(x.toInt32 / 10, x.toInt32 - x.toInt32 / 10 * 10, 0)]) := by
      intro y hy
      rcases List.mem_append.mp hy with h | h
      · exact hgk y h
      · rw [List.mem_singleton.mp h]
        exact hK
    have := ih (i + 1) (.int x.toInt32) _ _ (hC.line hl4 hq' hg') hn hn7 (by rw [show zL (zSL s (va_up (zL s) l (zL s l ++ [(x.toInt32 / 10, x.toInt32 - x.toInt32 / 10 * 10, 0)]))) l = _ from va_up_s, List.length_append, hli]; rfl) (by omega)
    refine G.imp this ?_
    rintro _ _ ⟨rfl, h2⟩
    rw [show zL (zSL s (va_up (zL s) l (zL s l ++ [(x.toInt32 / 10, x.toInt32 - x.toInt32 / 10 * 10, 0)]))) = va_up (zL s) l (zL s l ++ [(x.toInt32 / 10, x.toInt32 - x.toInt32 / 10 * 10, 0)]) from rfl, va_up_up, va_up_s] at h2
    refine ⟨?_, h2⟩
    rw [show zL (zSL s (va_up (zL s) l (zL s l ++ [(x.toInt32 / 10, x.toInt32 - x.toInt32 / 10 * 10, 0)]))) l = _ from va_up_s]
def S_lays (s : Sg) (a b : Int32) : Int32 × Sg := if shlF s a b = 0 then (nI (layK (zS s (ln a)).2 (min (zS s (ln a)).2.length 7) 0 []).length, zSL s (va_up (zL s) (ln b) (layK (zS s (ln a)).2 (min (zS s (ln a)).2.length 7) 0 []))) else fin (shlK s a) s
theorem p6_lays (X : aX) (a b : Int32) {h : aH} (hC : CI m s h) : Sp X 10 kX6_lays [.ref 0, .int a, .int b] h (fun v h' => v = some (.int (S_lays s a b).1) ∧ CI m (S_lays s a b).2 h') := by
  obtain ⟨rw, nu, wd, vo, od, tp, sh, fi, ik, rfl, hC⟩ := hC
  unfold Sp S_lays
  iterate 3 (refine G.st rfl rfl ?_)
  refine G.call rfl rfl (Nat.le_of_ble_eq_true rfl) (Sp.up (s6_sheetAndLineFinding X a b hC) (Nat.le_of_ble_eq_true rfl)) ?_
  rintro _ _ ⟨rfl, rfl⟩
  iterate 2 (refine G.st rfl rfl ?_)
  by_cases h0 : shlF s a b = 0
  case neg =>
    rw [if_neg h0]
    refine G.brf rfl h0 ?_
    iterate 2 (refine G.st rfl rfl ?_)
    refine G.call rfl rfl (Nat.le_of_ble_eq_true rfl) (Sp.up (c6_shlF X a b hC h0) (Nat.le_of_ble_eq_true rfl)) ?_
    rintro _ _ ⟨rfl, hci⟩
    exact G.ret rfl rfl ⟨rfl, hci⟩
  rw [if_pos h0]
  refine G.brt rfl h0 ?_
  obtain ⟨⟨ha, hz⟩, hb⟩ := shlF_0.mp h0
  rw [h0]
  obtain ⟨c, hc4, rfl⟩ := lok_n ha
  obtain ⟨l, hl4, rfl⟩ := lok_n hb
  rw [ln_nI (by omega), ln_nI (by omega)]
  obtain ⟨⟨o1, o2, o3⟩, ⟨c1, c2, c3⟩⟩ := hC.shk hc4
  show G X 10 kX6_lays 17 [.ref 0, .int (nI c), .int (nI l), .int 0, .double 0, .double 0, .double 0, .double 0, .double 0] [] _ _
  iterate 3 (refine G.st rfl rfl ?_)
  refine G.aald rfl rfl (by decide) (ix_nI hc4 (by omega)) (rf4_sh hc4) ?_
  iterate 5 (refine G.st rfl rfl ?_)
  refine G.aald rfl rfl (by decide) (ix_nI hl4 (by omega)) (rf4_row hl4) ?_
  iterate 2 (refine G.st rfl rfl ?_)
  have hR0 := H_row (rw := rw) (nu := nu) (wd := wd) (vo := vo) (od := od) (tp := tp) (sh := sh) (fi := fi) (ik := ik) (m := m) (show l < 13 by omega)
  refine G.callv rfl rfl rfl (hR0.1) (Nat.le_of_ble_eq_true rfl) rfl (Nat.le_of_ble_eq_true rfl) (Sp.up (s1_clear X hR0) (Nat.le_of_ble_eq_true rfl)) ?_
  rintro _ _ ⟨rfl, rfl⟩
  rw [H_rset (by omega)]
  have hq : Rep ((rw l).1, (rw l).2.1, (rw l).2.2.1, 0) [] := ⟨rfl, Nat.zero_le 7, fun j hj => absurd hj (Nat.not_lt_zero j)⟩
  have hC' := hC.line hl4 hq (fun x hx => absurd hx (by simp))
  iterate 1 (refine G.st rfl rfl ?_)
  refine G.get rfl (H_sh hc4).1 rfl ?_
  rw [c2]
  iterate 2 (refine G.st rfl rfl ?_)
  rw [show (7 : Int32) = nI 7 from rfl, min_nI (by omega) (by omega)]
  iterate 3 (refine G.st rfl rfl ?_)
  have := l6_lays X (vo := vo) (od := od) (m := m) (n := min (zS s c).2.length 7) (u1 := nI c) (u2 := nI l) (u3 := 0) hl4 hc4 (min (zS s c).2.length 7) 0 (.double 0) _ _ hC' (Nat.min_le_left _ _) (by omega) (by rw [show zL (zSL s (va_up (zL s) l [])) l = _ from va_up_s]; rfl) (by omega)
  refine G.imp this ?_
  rintro _ _ ⟨rfl, h2⟩
  rw [show zL (zSL s (va_up (zL s) l [])) = va_up (zL s) l [] from rfl, va_up_up, va_up_s] at h2
  refine ⟨?_, h2⟩
  rw [show zL (zSL s (va_up (zL s) l [])) l = _ from va_up_s]
end LAYS
