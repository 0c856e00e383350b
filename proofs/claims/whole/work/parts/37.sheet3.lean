section SHEET3
variable {rw : Nat → sR} {nu : Nat → Nat → Int32} {wd : Nat → Int32 × Int32} {vo : sV} {od : sO} {tp : sP} {sh : Nat → sS} {fi : Nat → Int32} {ik : Int32} {m : sM} {s : Sg}
def shNew (b n : Int32) : Int32 × List Int64 := (b, if b = 0 then [] else List.replicate (ln n) 0)
def S_sheet (s : Sg) (a b n : Int32) : Int32 × Sg := if (0 ≤ a ∧ a ≤ 3) ∧ (b = 0 ∨ b = 8 ∨ b = 16 ∨ b = 64) then (if n < 0 then fin 6 s else if n ≤ 40 then (nI (shNew b n).2.length, zSS s (va_up (zS s) (ln a) (shNew b n))) else fin 0 s) else fin 0 s
theorem p6_sheet (X : aX) (a b n : Int32) {h : aH} (hC : CI m s h) : Sp X 10 kX6_sheet [.ref 0, .int a, .int b, .int n] h (fun v h' => v = some (.int (S_sheet s a b n).1) ∧ CI m (S_sheet s a b n).2 h') := by
  obtain ⟨rw, nu, wd, vo, od, tp, sh, fi, ik, rfl, hC⟩ := hC
  unfold Sp S_sheet
  have bad : G X 10 kX6_sheet 14 (eL kX6_sheet [.ref 0, .int a, .int b, .int n]) [] (H rw nu wd vo od tp sh fi ik m) (fun v h' => v = some (.int (fin 0 s).1) ∧ CI m (fin 0 s).2 h') := by
    iterate 2 (refine G.st rfl rfl ?_)
    refine G.call rfl rfl (Nat.le_of_ble_eq_true rfl) (Sp.up (c6_f0 X hC) (Nat.le_of_ble_eq_true rfl)) ?_
    rintro _ _ ⟨rfl, hci⟩
    exact G.ret rfl rfl ⟨rfl, hci⟩
  iterate 1 (refine G.st rfl rfl ?_)
  refine G.call rfl rfl (Nat.le_of_ble_eq_true rfl) (Sp.up (s6_isSheet X a _) (Nat.le_of_ble_eq_true rfl)) ?_
  rintro _ _ ⟨rfl, rfl⟩
  by_cases hl : 0 ≤ a ∧ a ≤ 3
  case neg =>
    rw [if_neg (fun q => hl q.1)]
    exact G.brt rfl (bI_0.mpr hl) bad
  refine G.brf rfl (bI_n hl) ?_
  iterate 1 (refine G.st rfl rfl ?_)
  refine G.call rfl rfl (Nat.le_of_ble_eq_true rfl) (Sp.up (s6_isBits X b _) (Nat.le_of_ble_eq_true rfl)) ?_
  rintro _ _ ⟨rfl, rfl⟩
  by_cases hb : b = 0 ∨ b = 8 ∨ b = 16 ∨ b = 64
  case neg =>
    rw [if_neg (fun q => hb q.2)]
    exact G.brt rfl (bI_0.mpr hb) bad
  refine G.brf rfl (bI_n hb) ?_
  rw [if_pos ⟨hl, hb⟩]
  iterate 1 (refine G.st rfl rfl ?_)
  by_cases h0 : n < 0
  · rw [if_pos h0]
    refine G.brf rfl (Int32.not_le.mpr h0) ?_
    iterate 2 (refine G.st rfl rfl ?_)
    refine G.call rfl rfl (Nat.le_of_ble_eq_true rfl) (Sp.up (c6_f6 X hC) (Nat.le_of_ble_eq_true rfl)) ?_
    rintro _ _ ⟨rfl, hci⟩
    exact G.ret rfl rfl ⟨rfl, hci⟩
  rw [if_neg h0]
  refine G.brt rfl (Int32.not_lt.mp h0) ?_
  iterate 2 (refine G.st rfl rfl ?_)
  by_cases h40 : n ≤ 40
  case neg =>
    rw [if_neg h40]
    refine G.brf rfl h40 ?_
    iterate 2 (refine G.st rfl rfl ?_)
    refine G.call rfl rfl (Nat.le_of_ble_eq_true rfl) (Sp.up (c6_f0 X hC) (Nat.le_of_ble_eq_true rfl)) ?_
    rintro _ _ ⟨rfl, hci⟩
    exact G.ret rfl rfl ⟨rfl, hci⟩
  rw [if_pos h40]
  refine G.brt rfl h40 ?_
  obtain ⟨k, hk, rfl⟩ := lok_n hl
  obtain ⟨c, hc, rfl⟩ := nI_arg (k := 40) rfl (by omega) (Int32.not_lt.mp h0) h40
  unfold shNew
  rw [ln_nI (by omega), ln_nI (by omega)]
  iterate 3 (refine G.st rfl rfl ?_)
  refine G.aald rfl rfl (by decide) (ix_nI hk (by omega)) (rf4_sh hk) ?_
  iterate 2 (refine G.st rfl rfl ?_)
  have hsh := H_sh (rw := rw) (nu := nu) (wd := wd) (vo := vo) (od := od) (tp := tp) (sh := sh) (fi := fi) (ik := ik) (m := m) hk
  refine G.callv rfl rfl rfl (hsh.1) (Nat.le_of_ble_eq_true rfl) rfl (Nat.le_of_ble_eq_true rfl) (Sp.up (s2_begin X (n := c) hsh) (Nat.le_of_ble_eq_true rfl)) ?_
  rintro _ _ ⟨rfl, f, rfl, hf⟩
  rw [H_sset hk]
  iterate 3 (refine G.st rfl rfl ?_)
  refine G.aald rfl rfl (by decide) (ix_nI hk (by omega)) (rf4_sh hk) ?_
  refine G.get rfl (H_sh hk).1 rfl ?_
  rw [va_up_s]
  have e : (if b = 0 then ([] : List Int64) else List.replicate c 0).length = if b = 0 then 0 else c := by
    split
    · rfl
    · rw [List.length_replicate]
  refine G.ret rfl rfl ⟨by rw [e], ?_⟩
  refine CI.mk (hC.sset hk ⟨?_, hb, fun q => if_pos q⟩ ⟨rfl, e.symm, fun j hj => ?_⟩)
  · show (if b = 0 then ([] : List Int64) else List.replicate c 0).length ≤ 40
    rw [e]
    split <;> omega
  · have hj2 : j < (if b = 0 then ([] : List Int64) else List.replicate c 0).length := hj
    rw [e] at hj2
    have hb0 : ¬ b = 0 := fun q => by rw [if_pos q] at hj2; omega
    rw [if_neg hb0] at hj2
    refine (show f j = 0 from hf j (by omega)).trans ?_
    simp only [if_neg hb0, List.getElem_replicate]
/-- a finding told by its number -/
theorem c6_shF (X : aX) (a : Int32) (hC : CR rw nu wd tp sh fi ik s) (h0 : shF s a ≠ 0) : Sp X 1 kX6_finding [.ref 0, .int (shF s a)] (H rw nu wd vo od tp sh fi ik m) (fun v h' => v = some (.int (fin (if 0 ≤ a ∧ a ≤ 3 then 5 else 0) s).1) ∧ CI m (fin (if 0 ≤ a ∧ a ≤ 3 then 5 else 0) s).2 h') := by
  unfold shF at h0 ⊢
  by_cases hl : 0 ≤ a ∧ a ≤ 3
  · rw [if_pos hl] at h0 ⊢
    by_cases hb : (zS s (ln a)).1 = 0
    · rw [if_pos hb, if_pos hl]
      exact c6_f5 X hC
    · rw [if_neg hb] at h0
      exact absurd rfl h0
  · rw [if_neg hl, if_neg hl]
    exact c6_f0 X hC
theorem shF_0 {a : Int32} : shF s a = 0 ↔ (0 ≤ a ∧ a ≤ 3) ∧ ¬ (zS s (ln a)).1 = 0 := by
  unfold shF
  by_cases hl : 0 ≤ a ∧ a ≤ 3
  · rw [if_pos hl]
    by_cases hb : (zS s (ln a)).1 = 0
    · rw [if_pos hb]
      exact ⟨fun q => absurd q (by decide), fun q => absurd hb q.2⟩
    · rw [if_neg hb]
      exact ⟨fun _ => ⟨hl, hb⟩, fun _ => rfl⟩
  · rw [if_neg hl]
    exact ⟨fun q => absurd q (by decide), fun q => absurd q.1 hl⟩
theorem idx_lt {p : Int32} {n : Nat} (hn : n ≤ 40) (hp : 0 ≤ p ∧ p ≤ nI n - 1) : ∃ j, j < n ∧ p = nI j := by
  obtain ⟨j, hj, rfl⟩ := nI_of (Int32.not_lt.mpr hp.1)
  refine ⟨j, ?_, rfl⟩
  by_cases h00 : n = 0
  · rw [h00] at hp
    exact absurd (Int32.le_trans hp.1 hp.2) (by decide)
  · have e : nI n - 1 = nI (n - 1) := by
      have := nI_1 (a := n - 1)
      rw [show n - 1 + 1 = n by omega] at this
      rw [← this]
      grind
    rw [e, nI_leI hj (by omega)] at hp
    omega
def i2 (p : Int32 × Sg) : Int64 × Sg := (p.1.toInt64, p.2)
theorem i2_1 (p : Int32 × Sg) : (i2 p).1 = p.1.toInt64 := rfl
theorem i2_2 (p : Int32 × Sg) : (i2 p).2 = p.2 := rfl
def S_write (s : Sg) (a p : Int32) (v : Int64) : Int64 × Sg := if shF s a = 0 then (if 0 ≤ p ∧ p ≤ nI (zS s (ln a)).2.length - 1 then ((zS s (ln a)).2.getD (ln p) 0, zSS s (va_up (zS s) (ln a) ((zS s (ln a)).1, (zS s (ln a)).2.set (ln p) (narI (zS s (ln a)).1 v)))) else i2 (fin 0 s)) else i2 (fin (if 0 ≤ a ∧ a ≤ 3 then 5 else 0) s)
theorem w_end18 (X : aX) (lo : List Value) (w : Int32 × Sg) {h : aH} (hci : CI m w.2 h) : G X 10 kX6_write 18 lo [.int w.1] h (fun r h' => r = some (.long (i2 w).1) ∧ CI m (i2 w).2 h') := by
  iterate 1 (refine G.st rfl rfl ?_)
  exact G.ret rfl rfl ⟨rfl, hci⟩
theorem w_end49 (X : aX) (lo : List Value) (w : Int32 × Sg) {h : aH} (hci : CI m w.2 h) : G X 10 kX6_write 49 lo [.int w.1] h (fun r h' => r = some (.long (i2 w).1) ∧ CI m (i2 w).2 h') := by
  iterate 1 (refine G.st rfl rfl ?_)
  exact G.ret rfl rfl ⟨rfl, hci⟩
theorem p6_write (X : aX) (a p : Int32) (v : Int64) {h : aH} (hC : CI m s h) : Sp X 10 kX6_write [.ref 0, .int a, .int p, .long v] h (fun r h' => r = some (.long (S_write s a p v).1) ∧ CI m (S_write s a p v).2 h') := by
  obtain ⟨rw, nu, wd, vo, od, tp, sh, fi, ik, rfl, hC⟩ := hC
  unfold Sp S_write
  iterate 2 (refine G.st rfl rfl ?_)
  refine G.call rfl rfl (Nat.le_of_ble_eq_true rfl) (Sp.up (s6_sheetFinding X a hC) (Nat.le_of_ble_eq_true rfl)) ?_
  rintro _ _ ⟨rfl, rfl⟩
  iterate 2 (refine G.st rfl rfl ?_)
  by_cases h0 : shF s a = 0
  case neg =>
    rw [if_neg h0]
    refine G.brf rfl h0 ?_
    iterate 2 (refine G.st rfl rfl ?_)
    refine G.call rfl rfl (Nat.le_of_ble_eq_true rfl) (Sp.up (c6_shF X a hC h0) (Nat.le_of_ble_eq_true rfl)) ?_
    rintro _ _ ⟨rfl, hci⟩
    exact w_end18 X _ _ hci
  rw [if_pos h0]
  refine G.brt rfl h0 ?_
  obtain ⟨hl, hb⟩ := shF_0.mp h0
  obtain ⟨k, hk, rfl⟩ := lok_n hl
  rw [ln_nI (by omega)] at hb ⊢
  obtain ⟨⟨o1, o2, o3⟩, ⟨c1, c2, c3⟩⟩ := hC.shk hk
  rw [h0]
  show G X 10 kX6_write 20 [.ref 0, .int (nI k), .int p, .long v, .double 0, .int 0, .double 0, .double 0, .double 0] [] _ _
  iterate 3 (refine G.st rfl rfl ?_)
  refine G.aald rfl rfl (by decide) (ix_nI hk (by omega)) (rf4_sh hk) ?_
  iterate 4 (refine G.st rfl rfl ?_)
  refine G.get rfl (H_sh hk).1 rfl ?_
  iterate 2 (refine G.st rfl rfl ?_)
  rw [c2]
  generalize hu : nI (zS s k).2.length - 1 = u
  refine G.call rfl rfl (Nat.le_of_ble_eq_true rfl) (Sp.up (s6_isWithin X p 0 u _) (Nat.le_of_ble_eq_true rfl)) ?_
  rintro _ _ ⟨rfl, rfl⟩
  by_cases hp : 0 ≤ p ∧ p ≤ u
  case neg =>
    rw [if_neg hp]
    refine G.brt rfl (bI_0.mpr hp) ?_
    iterate 2 (refine G.st rfl rfl ?_)
    refine G.call rfl rfl (Nat.le_of_ble_eq_true rfl) (Sp.up (c6_f0 X hC) (Nat.le_of_ble_eq_true rfl)) ?_
    rintro _ _ ⟨rfl, hci⟩
    exact w_end49 X _ _ hci
  rw [if_pos hp]
  refine G.brf rfl (bI_n hp) ?_
  obtain ⟨j, hj, rfl⟩ : ∃ j, j < (zS s k).2.length ∧ p = nI j := by
    exact idx_lt o1 (hu.symm ▸ hp)
  rw [ln_nI (by omega)]
  show G X 10 kX6_write 51 [.ref 0, .int (nI k), .int (nI j), .long v, .double 0, .int 0, .ref (sb k), .double 0, .double 0] [] _ _
  iterate 1 (refine G.st rfl rfl ?_)
  refine G.get rfl (H_sh hk).1 rfl ?_
  iterate 1 (refine G.st rfl rfl ?_)
  refine G.lald rfl (H_sh hk).2 (ix_nI (show j < 40 by omega) (by omega)) ?_
  iterate 4 (refine G.st rfl rfl ?_)
  have hsh := H_sh (rw := rw) (nu := nu) (wd := wd) (vo := vo) (od := od) (tp := tp) (sh := sh) (fi := fi) (ik := ik) (m := m) hk
  refine G.callv rfl rfl rfl (hsh.1) (Nat.le_of_ble_eq_true rfl) rfl (Nat.le_of_ble_eq_true rfl) (Sp.up (s2_put X hsh (by rw [c1]; exact o2.resolve_left hb) (show j < 40 by omega)) (Nat.le_of_ble_eq_true rfl)) ?_
  rintro _ _ ⟨rfl, rfl⟩
  rw [H_sset hk]
  iterate 1 (refine G.st rfl rfl ?_)
  refine G.ret rfl rfl ⟨?_, ?_⟩
  · rw [c3 j hj, List.getD_eq_getElem?_getD, List.getElem?_eq_getElem hj]
    rfl
  · refine CI.mk (hC.sset hk ⟨?_, o2, fun q => absurd q hb⟩ ⟨c1, ?_, fun i hi => ?_⟩)
    · rw [List.length_set]
      exact o1
    · rw [List.length_set]
      exact c2
    · have hi2 : i < (zS s k).2.length := by rw [List.length_set] at hi; exact hi
      rw [List.getElem_set]
      by_cases e : j = i
      · subst e
        rw [if_pos rfl, c1]
        exact pk_uLs
      · rw [if_neg e, ← c3 i hi2]
        exact pk_uLn (Ne.symm e)
end SHEET3
