section SHEET4
variable {rw : Nat → sR} {nu : Nat → Nat → Int32} {wd : Nat → Int32 × Int32} {vo : sV} {od : sO} {tp : sP} {sh : Nat → sS} {fi : Nat → Int32} {ik : Int32} {m : sM} {s : Sg}
theorem shlF_0 {a b : Int32} : shlF s a b = 0 ↔ ((0 ≤ a ∧ a ≤ 3) ∧ ¬ (zS s (ln a)).1 = 0) ∧ 0 ≤ b ∧ b ≤ 3 := by
  unfold shlF
  by_cases h0 : shF s a = 0
  · rw [if_pos h0]
    by_cases hl : 0 ≤ b ∧ b ≤ 3
    · rw [if_pos hl]
      exact ⟨fun _ => ⟨shF_0.mp h0, hl⟩, fun _ => rfl⟩
    · rw [if_neg hl]
      exact ⟨fun q => absurd q (by decide), fun q => absurd q.2 hl⟩
  · rw [if_neg h0]
    exact ⟨fun q => absurd q h0, fun q => absurd (shF_0.mpr q.1) h0⟩
def shlK (s : Sg) (a : Int32) : Nat := if shF s a = 0 then 0 else if 0 ≤ a ∧ a ≤ 3 then 5 else 0
theorem c6_shlF (X : aX) (a b : Int32) (hC : CR rw nu wd tp sh fi ik s) (h0 : shlF s a b ≠ 0) : Sp X 1 kX6_finding [.ref 0, .int (shlF s a b)] (H rw nu wd vo od tp sh fi ik m) (fun v h' => v = some (.int (fin (shlK s a) s).1) ∧ CI m (fin (shlK s a) s).2 h') := by
  unfold shlF at h0 ⊢
  unfold shlK
  by_cases h1 : shF s a = 0
  · rw [if_pos h1] at h0 ⊢
    rw [if_pos h1]
    by_cases hl : 0 ≤ b ∧ b ≤ 3
    · rw [if_pos hl] at h0
      exact absurd rfl h0
    · rw [if_neg hl]
      exact c6_f0 X hC
  · rw [if_neg h1, if_neg h1]
    exact c6_shF X a hC h1
/-- where a sheet and a line part -/
def chkN (w : Int32) (q : List Int64) (g : List Gar) (n : Nat) : Nat → Nat → Nat
  | 0, _ => if q.length = g.length then 0 else 1 + n
  | k + 1, i => if q.getD i 0 = (wlst w (g.take (i + 1))).toInt64 then chkN w q g n k (i + 1) else 1 + i
def S_check (s : Sg) (a b : Int32) : Int32 × Sg := if shlF s a b = 0 then (nI (chkN (zW s) (zS s (ln a)).2 (zL s (ln b)) (min (zS s (ln a)).2.length (zL s (ln b)).length) (min (zS s (ln a)).2.length (zL s (ln b)).length) 0), s) else fin (shlK s a) s
theorem lg_cmp0 {x y : Int64} : lg_cmp x y = 0 ↔ x = y := by
  unfold lg_cmp
  constructor
  · intro h
    grind
  · rintro rfl
    grind
theorem l6_check (X : aX) {l c n : Nat} {u1 u2 u3 : Int32} (hl4 : l < 4) (hc4 : c < 4) (hC : CR rw nu wd tp sh fi ik s) (hn : n = min (zS s c).2.length (zL s l).length) : ∀ (k i : Nat) (vo : sV), i + k = n → G X 10 kX6_check 54 [.ref 0, .int u1, .int u2, .int u3, .ref (sb c), .ref (rb l), .int (nI n), .int (nI i)] [] (H rw nu wd vo od tp sh fi ik m) (fun v h' => v = some (.int (nI (chkN (zW s) (zS s c).2 (zL s l) n k i))) ∧ CI m s h') := by
  obtain ⟨hr, hgk, h7⟩ := hC.rep hl4
  obtain ⟨⟨o1, o2, o3⟩, ⟨c1, c2, c3⟩⟩ := hC.shk hc4
  have hw := hC.wd0
  intro k
  induction k with
  | zero =>
    intro i vo hi
    iterate 2 (refine G.st rfl rfl ?_)
    refine G.brt rfl (by rw [nI_leI (by omega) (by omega)]; omega) ?_
    iterate 1 (refine G.st rfl rfl ?_)
    refine G.get rfl (H_sh hc4).1 rfl ?_
    iterate 1 (refine G.st rfl rfl ?_)
    refine G.get rfl (H_row (by omega)).1 rfl ?_
    rw [c2, hr.1]
    unfold chkN
    by_cases e : (zS s c).2.length = (zL s l).length
    · rw [if_pos e]
      refine G.brt rfl (by rw [e]) ?_
      iterate 2 (refine G.st rfl rfl ?_)
      exact G.ret rfl rfl ⟨rfl, CI.mk hC⟩
    · rw [if_neg e]
      refine G.brf rfl (fun q => e (by have := congrArg ln q; rw [ln_nI (by omega), ln_nI (by omega)] at this; exact this)) ?_
      iterate 3 (refine G.st rfl rfl ?_)
      refine G.ret rfl rfl ⟨?_, CI.mk hC⟩
      rw [Nat.add_comm, ← nI_1, Int32.add_comm]
  | succ k ih =>
    intro i vo hi
    have hiq : i < (zS s c).2.length := by omega
    iterate 2 (refine G.st rfl rfl ?_)
    refine G.brf rfl (by rw [nI_leI (by omega) (by omega)]; omega) ?_
    iterate 1 (refine G.st rfl rfl ?_)
    refine G.get rfl (H_sh hc4).1 rfl ?_
    iterate 1 (refine G.st rfl rfl ?_)
    refine G.lald rfl (H_sh hc4).2 (ix_nI (show i < 40 by omega) (by omega)) ?_
    iterate 3 (refine G.st rfl rfl ?_)
    refine G.call rfl rfl (Nat.le_of_ble_eq_true rfl) (Sp.up (s6_worthBehind X (show l < 13 by omega) hr hgk (show i < (zL s l).length by omega)) (Nat.le_of_ble_eq_true rfl)) ?_
    rintro _ _ ⟨rfl, vo1, rfl⟩
    rw [hw, c3 i hiq]
    unfold chkN
    rw [List.getD_eq_getElem?_getD, List.getElem?_eq_getElem hiq]
    iterate 2 (refine G.st rfl rfl ?_)
    refine G.br rfl (fun hc => ?_) (fun hc => ?_)
    · rw [if_pos (show (some (zS s c).2[i]).getD 0 = (wlst (zW s) (List.take (i + 1) (zL s l))).toInt64 from lg_cmp0.mp hc)]
      iterate 1 (refine G.st rfl rfl ?_)
      rw [nI_1]
      iterate 1 (refine G.st rfl rfl ?_)
      exact ih (i + 1) vo1 (by omega)
    · rw [if_neg (fun q : (some (zS s c).2[i]).getD 0 = (wlst (zW s) (List.take (i + 1) (zL s l))).toInt64 => hc (lg_cmp0.mpr q))]
      iterate 3 (refine G.st rfl rfl ?_)
      refine G.ret rfl rfl ⟨?_, CI.mk hC⟩
      rw [Nat.add_comm, ← nI_1, Int32.add_comm]
theorem min_nI {a b : Nat} (ha : a < 2 ^ 31) (hb : b < 2 ^ 31) : (if nI b < nI a then nI b else nI a) = nI (min a b) := by
  by_cases h : b < a
  · rw [if_pos ((nI_ltI hb ha).mpr h), Nat.min_eq_right (by omega)]
  · rw [if_neg (fun q => h ((nI_ltI hb ha).mp q)), Nat.min_eq_left (by omega)]
theorem p6_check (X : aX) (a b : Int32) {h : aH} (hC : CI m s h) : Sp X 10 kX6_check [.ref 0, .int a, .int b] h (fun v h' => v = some (.int (S_check s a b).1) ∧ CI m (S_check s a b).2 h') := by
  obtain ⟨rw, nu, wd, vo, od, tp, sh, fi, ik, rfl, hC⟩ := hC
  unfold Sp S_check
  iterate 3 (refine G.st rfl rfl ?_)
  refine G.call rfl rfl (Nat.le_of_ble_eq_true rfl) (Sp.up (s6_sheetAndLineFinding X a b hC) (Nat.le_of_ble_eq_true rfl)) ?_
  rintro _ _ ⟨rfl, rfl⟩
  iterate 2 (refine G.st rfl rfl ?_)
  by_cases h0 : shlF s a b = 0
  case neg =>
    rw [if_neg h0]
    refine G.brf rfl h0 ?_
    iterate 2 (refine G.st rfl rfl ?_)
    refine G.call rfl rfl (Nat.le_of_ble_eq_true rfl) (Sp.up (c6_shlF X a b hC h0) (Nat.le_of_ble_eq_true rfl)) ?_
    rintro _ _ ⟨rfl, hci⟩
    exact G.ret rfl rfl ⟨rfl, hci⟩
  rw [if_pos h0]
  refine G.brt rfl h0 ?_
  obtain ⟨⟨ha, hz⟩, hb⟩ := shlF_0.mp h0
  rw [h0]
  obtain ⟨c, hc4, rfl⟩ := lok_n ha
  obtain ⟨l, hl4, rfl⟩ := lok_n hb
  rw [ln_nI (by omega), ln_nI (by omega)]
  obtain ⟨hr, hgk, h7⟩ := hC.rep hl4
  obtain ⟨⟨o1, o2, o3⟩, ⟨c1, c2, c3⟩⟩ := hC.shk hc4
  show G X 10 kX6_check 17 [.ref 0, .int (nI c), .int (nI l), .int 0, .double 0, .double 0, .double 0, .double 0] [] _ _
  iterate 3 (refine G.st rfl rfl ?_)
  refine G.aald rfl rfl (by decide) (ix_nI hc4 (by omega)) (rf4_sh hc4) ?_
  iterate 5 (refine G.st rfl rfl ?_)
  refine G.aald rfl rfl (by decide) (ix_nI hl4 (by omega)) (rf4_row hl4) ?_
  iterate 2 (refine G.st rfl rfl ?_)
  refine G.get rfl (H_sh hc4).1 rfl ?_
  iterate 1 (refine G.st rfl rfl ?_)
  refine G.get rfl (H_row (by omega)).1 rfl ?_
  rw [c2, hr.1]
  iterate 1 (refine G.st rfl rfl ?_)
  rw [min_nI (by omega) (by omega)]
  iterate 3 (refine G.st rfl rfl ?_)
  exact l6_check X hl4 hc4 hC rfl _ 0 vo (by omega)
end SHEET4
