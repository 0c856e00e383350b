theorem rset_1 {h : aH} {r : Nat} {q : sR} (hr : RowAt h r q) (a : Nat → Int32) : h.set (r + 1) (iA 7 a) = rset h r (a, q.2.1, q.2.2.1, q.2.2.2) := by
  rw [← rset3 hr, set_same (i := r + 2) (by rw [List.getElem?_set_ne (by omega)]; exact hr.2.2.1), set_same (i := r + 3) (by rw [List.getElem?_set_ne (by omega)]; exact hr.2.2.2)]
theorem rset_2 {h : aH} {r : Nat} {q : sR} (hr : RowAt h r q) (a : Nat → Int32) : h.set (r + 2) (iA 7 a) = rset h r (q.1, a, q.2.2.1, q.2.2.2) := by
  rw [← rset3 hr, set_same hr.2.1, set_same (i := r + 3) (by rw [List.getElem?_set_ne (by omega)]; exact hr.2.2.2)]
theorem rset_3 {h : aH} {r : Nat} {q : sR} (hr : RowAt h r q) (a : Nat → Int32) : h.set (r + 3) (iA 7 a) = rset h r (q.1, q.2.1, a, q.2.2.2) := by
  rw [← rset3 hr, set_same hr.2.1, set_same hr.2.2.1]
theorem tsw_out {pc : Nat} {d lo hi : Int} {os : Array Int} {x : Int32} (h : x.toInt < lo ∨ hi < x.toInt) : tsw pc d lo hi os x = ((pc : Int) + d).toNat := by
  unfold tsw
  rw [if_pos h]
theorem G.tsw {X : aX} {d : Nat} {mi : aM} {pc : Nat} {lo : List Value} {h : aH} {Q : Option Value → aH → Prop} {dd l u : Int} {os : Array Int} {nx a b t : Nat} {v : Value} {x : Int32} {r : List Value} (he : ent mi pc = some (.tableswitch dd l u os, nx, a, b, v)) (ht : tsw pc dd l u os x = t) (k : G X d mi t lo r h Q) : G X d mi pc lo (.int x :: r) h Q := by
  refine G.go ?_ k
  simp only [sA, he, stp, ht]
/-- a garment of a list is another one -/
theorem Rep.set {q : sR} {g : List Gar} {j : Nat} {x : Gar} (h : Rep q g) (hj : j < g.length) : Rep (rput q j x) (g.set j x) := by
  refine ⟨by rw [List.length_set]; exact h.1, by rw [List.length_set]; exact h.2.1, fun i hi => ?_⟩
  rw [List.length_set] at hi
  rw [rput_at, List.getElem_set]
  by_cases e : i = j
  · rw [if_pos e, if_pos e.symm]
  · rw [if_neg e, if_neg (Ne.symm e)]
    exact h.2.2 i hi
theorem gKs_set {g : List Gar} {j : Nat} {x : Gar} (h : gKs g) (hx : gK x) : gKs (g.set j x) := by
  intro y hy
  rcases List.mem_or_eq_of_mem_set hy with h1 | h1
  · exact h y h1
  · rw [h1]; exact hx
theorem gK_at {g : List Gar} {j : Nat} (h : gKs g) (hj : j < g.length) : gK (gD g j) := by
  rw [gD_at hj]
  exact h _ (List.getElem_mem hj)
theorem gKs_erase {g : List Gar} {j : Nat} (h : gKs g) : gKs (g.eraseIdx j) := fun y hy => h y (List.mem_of_mem_eraseIdx hy)
section LINES2
variable {rw : Nat → sR} {nu : Nat → Nat → Int32} {wd : Nat → Int32 × Int32} {vo : sV} {od : sO} {tp : sP} {sh : Nat → sS} {fi : Nat → Int32} {ik : Int32} {m : sM} {s : Sg}
def S_off (s : Sg) (line peg : Int32) : Int32 × Sg := if pegOk s line peg then ((gD (zL s (ln line)) (ln peg)).2.1, zSL s (va_up (zL s) (ln line) ((zL s (ln line)).eraseIdx (ln peg)))) else fin 0 s
theorem p6_off (X : aX) (line peg : Int32) {h : aH} (hC : CI m s h) : Sp X 10 kX6_off [.ref 0, .int line, .int peg] h (fun v h' => v = some (.int (S_off s line peg).1) ∧ CI m (S_off s line peg).2 h') := by
  obtain ⟨rw, nu, wd, vo, od, tp, sh, fi, ik, rfl, hC⟩ := hC
  unfold Sp S_off
  iterate 3 (refine G.st rfl rfl ?_)
  refine G.call rfl rfl (Nat.le_of_ble_eq_true rfl) (Sp.up (s6_isGarment X hC) (Nat.le_of_ble_eq_true rfl)) ?_
  rintro _ _ ⟨⟨b, rfl, -, hb⟩, rfl⟩
  by_cases hp : pegOk s line peg
  case neg =>
    rw [if_neg hp]
    refine G.brt rfl (hb.mpr hp) ?_
    iterate 2 (refine G.st rfl rfl ?_)
    refine G.call rfl rfl (Nat.le_of_ble_eq_true rfl) (Sp.up (c6_f0 X hC) (Nat.le_of_ble_eq_true rfl)) ?_
    rintro _ _ ⟨rfl, hci⟩
    exact G.ret rfl rfl ⟨rfl, hci⟩
  rw [if_pos hp]
  refine G.brf rfl (fun q => hb.mp q hp) ?_
  obtain ⟨l, j, hl4, rfl, hj, rfl⟩ := pegOk_n hC hp
  obtain ⟨hr, hgk, h7⟩ := hC.rep hl4
  rw [ln_nI (by omega), ln_nI (by omega)]
  have hR0 : RowAt (H rw nu wd vo od tp sh fi ik m) (rb l) (rw l) := H_row (by omega)
  iterate 4 (refine G.st rfl rfl ?_)
  refine G.aald rfl rfl (by decide) (ix_nI hl4 (by omega)) (rf4_row hl4) ?_
  iterate 2 (refine G.st rfl rfl ?_)
  refine G.get rfl hR0.1 rfl ?_
  iterate 1 (refine G.st rfl rfl ?_)
  refine G.iald rfl hR0.2.2.1 (ix_nI (show j < 7 by omega) (by omega)) ?_
  rw [(hr.gD hj).2.1]
  iterate 3 (refine G.st rfl rfl ?_)
  refine G.callv rfl rfl rfl (hR0.1) (Nat.le_of_ble_eq_true rfl) rfl (Nat.le_of_ble_eq_true rfl) (Sp.up (s1_remove X hR0 hr hj) (Nat.le_of_ble_eq_true rfl)) ?_
  rintro _ _ ⟨rfl, q', rfl, hq'⟩
  rw [H_rset (by omega)]
  iterate 1 (refine G.st rfl rfl ?_)
  exact G.ret rfl rfl ⟨rfl, CI.mk (hC.line hl4 hq' (gKs_erase hgk))⟩
def S_of (s : Sg) (line peg what : Int32) : Int32 × Sg := if pegOk s line peg then (if what = 0 then ((gD (zL s (ln line)) (ln peg)).1, s) else if what = 1 then ((gD (zL s (ln line)) (ln peg)).2.1, s) else if what = 2 then ((gD (zL s (ln line)) (ln peg)).2.2, s) else if what = 3 then (bI (seenB (zW s) (gD (zL s (ln line)) (ln peg)).1 (gD (zL s (ln line)) (ln peg)).2.1 (gD (zL s (ln line)) (ln peg)).2.2 = true), s) else if what = 4 then (wlst (zW s) ((zL s (ln line)).take (ln peg + 1)), s) else fin 0 s) else fin 0 s
theorem p6_of (X : aX) (line peg what : Int32) {h : aH} (hC : CI m s h) : Sp X 10 kX6_of [.ref 0, .int line, .int peg, .int what] h (fun v h' => v = some (.int (S_of s line peg what).1) ∧ CI m (S_of s line peg what).2 h') := by
  obtain ⟨rw, nu, wd, vo, od, tp, sh, fi, ik, rfl, hC⟩ := hC
  unfold Sp S_of
  iterate 3 (refine G.st rfl rfl ?_)
  refine G.call rfl rfl (Nat.le_of_ble_eq_true rfl) (Sp.up (s6_isGarment X hC) (Nat.le_of_ble_eq_true rfl)) ?_
  rintro _ _ ⟨⟨b, rfl, -, hb⟩, rfl⟩
  by_cases hp : pegOk s line peg
  case neg =>
    rw [if_neg hp]
    refine G.brt rfl (hb.mpr hp) ?_
    iterate 2 (refine G.st rfl rfl ?_)
    refine G.call rfl rfl (Nat.le_of_ble_eq_true rfl) (Sp.up (c6_f0 X hC) (Nat.le_of_ble_eq_true rfl)) ?_
    rintro _ _ ⟨rfl, hci⟩
    exact G.ret rfl rfl ⟨rfl, hci⟩
  rw [if_pos hp]
  refine G.brf rfl (fun q => hb.mp q hp) ?_
  obtain ⟨l, j, hl4, rfl, hj, rfl⟩ := pegOk_n hC hp
  obtain ⟨hr, hgk, h7⟩ := hC.rep hl4
  rw [ln_nI (by omega), ln_nI (by omega)]
  have hR0 : RowAt (H rw nu wd vo od tp sh fi ik m) (rb l) (rw l) := H_row (by omega)
  have hx := ix_nI (show j < 7 by omega) (by omega)
  obtain ⟨a1, a2, a3⟩ := hr.gD hj
  have hw := hC.wd0
  iterate 4 (refine G.st rfl rfl ?_)
  refine G.aald rfl rfl (by decide) (ix_nI hl4 (by omega)) (rf4_row hl4) ?_
  iterate 2 (refine G.st rfl rfl ?_)
  by_cases w0 : what = 0
  · subst w0
    refine G.tsw rfl (t := 64) (by decide) ?_
    iterate 1 (refine G.st rfl rfl ?_)
    refine G.get rfl hR0.1 rfl ?_
    iterate 1 (refine G.st rfl rfl ?_)
    refine G.iald rfl hR0.2.1 hx ?_
    refine G.ret rfl rfl ⟨?_, CI.mk hC⟩
    rw [a1]
    rfl
  rw [if_neg w0]
  by_cases w1 : what = 1
  · subst w1
    refine G.tsw rfl (t := 72) (by decide) ?_
    iterate 1 (refine G.st rfl rfl ?_)
    refine G.get rfl hR0.1 rfl ?_
    iterate 1 (refine G.st rfl rfl ?_)
    refine G.iald rfl hR0.2.2.1 hx ?_
    refine G.ret rfl rfl ⟨?_, CI.mk hC⟩
    rw [a2]
    rfl
  rw [if_neg w1]
  by_cases w2 : what = 2
  · subst w2
    refine G.tsw rfl (t := 80) (by decide) ?_
    iterate 1 (refine G.st rfl rfl ?_)
    refine G.get rfl hR0.1 rfl ?_
    iterate 1 (refine G.st rfl rfl ?_)
    refine G.iald rfl hR0.2.2.2 hx ?_
    refine G.ret rfl rfl ⟨?_, CI.mk hC⟩
    rw [a3]
    rfl
  rw [if_neg w2]
  by_cases w3 : what = 3
  · subst w3
    rw [if_pos rfl]
    refine G.tsw rfl (t := 88) (by decide) ?_
    iterate 5 (refine G.st rfl rfl ?_)
    have hk6 : K6 ((rw l).1 j) := by rw [a1]; exact (gK_at hgk hj).1
    refine G.callv rfl rfl rfl (hR0.1) (Nat.le_of_ble_eq_true rfl) rfl (Nat.le_of_ble_eq_true rfl) (Sp.up (s1_isSeenAt X hR0 (show j < 7 by omega) hk6) (Nat.le_of_ble_eq_true rfl)) ?_
    rintro _ _ ⟨rfl, rfl⟩
    rw [a1, a2, a3, hw]
    by_cases hs : seenB (zW s) (gD (zL s l) j).1 (gD (zL s l) j).2.1 (gD (zL s l) j).2.2 = true
    · refine G.brf rfl (bI_n hs) ?_
      iterate 2 (refine G.st rfl rfl ?_)
      refine G.ret rfl rfl ⟨?_, CI.mk hC⟩
      rw [bI_t hs]
    · refine G.brt rfl (bI_0.mpr hs) ?_
      iterate 1 (refine G.st rfl rfl ?_)
      refine G.ret rfl rfl ⟨?_, CI.mk hC⟩
      rw [bI_f hs]
  rw [if_neg w3]
  by_cases w4 : what = 4
  · subst w4
    rw [if_pos rfl]
    refine G.tsw rfl (t := 110) (by decide) ?_
    iterate 3 (refine G.st rfl rfl ?_)
    refine G.call rfl rfl (Nat.le_of_ble_eq_true rfl) (Sp.up (s6_worthBehind X (show l < 13 by omega) hr hgk hj) (Nat.le_of_ble_eq_true rfl)) ?_
    rintro _ _ ⟨rfl, vo1, rfl⟩
    refine G.ret rfl rfl ⟨?_, CI.mk hC⟩
    rw [hw]
  rw [if_neg w4]
  refine G.tsw rfl (t := 118) (tsw_out ?_) ?_
  · have : ∀ k : Nat, k ≤ 4 → what ≠ nI k := by
      intro k hk e
      rcases (show k = 0 ∨ k = 1 ∨ k = 2 ∨ k = 3 ∨ k = 4 by omega) with rfl | rfl | rfl | rfl | rfl
      · exact w0 e
      · exact w1 e
      · exact w2 e
      · exact w3 e
      · exact w4 e
    by_cases h0 : what < 0
    · exact Or.inl (by have := Int32.lt_iff_toInt_lt.mp h0; simpa using this)
    · obtain ⟨k, hk, rfl⟩ := nI_of h0
      right
      rw [nI_toInt hk]
      by_cases h4 : k ≤ 4
      · exact absurd rfl (this k h4)
      · omega
  iterate 2 (refine G.st rfl rfl ?_)
  refine G.call rfl rfl (Nat.le_of_ble_eq_true rfl) (Sp.up (c6_f0 X hC) (Nat.le_of_ble_eq_true rfl)) ?_
  rintro _ _ ⟨rfl, hci⟩
  exact G.ret rfl rfl ⟨rfl, hci⟩
def S_set (s : Sg) (line peg what v : Int32) : Int32 × Sg := if pegOk s line peg then (if what = 1 ∧ 1 ≤ v ∧ v ≤ 9 then ((gD (zL s (ln line)) (ln peg)).2.1, zSL s (va_up (zL s) (ln line) ((zL s (ln line)).set (ln peg) ((gD (zL s (ln line)) (ln peg)).1, v, (gD (zL s (ln line)) (ln peg)).2.2)))) else if what = 2 ∧ 0 ≤ v ∧ v ≤ 9 then ((gD (zL s (ln line)) (ln peg)).2.2, zSL s (va_up (zL s) (ln line) ((zL s (ln line)).set (ln peg) ((gD (zL s (ln line)) (ln peg)).1, (gD (zL s (ln line)) (ln peg)).2.1, v)))) else fin 0 s) else fin 0 s
theorem p6_set (X : aX) (line peg what v : Int32) {h : aH} (hC : CI m s h) : Sp X 10 kX6_set [.ref 0, .int line, .int peg, .int what, .int v] h (fun r h' => r = some (.int (S_set s line peg what v).1) ∧ CI m (S_set s line peg what v).2 h') := by
  obtain ⟨rw, nu, wd, vo, od, tp, sh, fi, ik, rfl, hC⟩ := hC
  unfold Sp S_set
  iterate 3 (refine G.st rfl rfl ?_)
  refine G.call rfl rfl (Nat.le_of_ble_eq_true rfl) (Sp.up (s6_isGarment X hC) (Nat.le_of_ble_eq_true rfl)) ?_
  rintro _ _ ⟨⟨b, rfl, -, hb⟩, rfl⟩
  by_cases hp : pegOk s line peg
  case neg =>
    rw [if_neg hp]
    refine G.brt rfl (hb.mpr hp) ?_
    iterate 2 (refine G.st rfl rfl ?_)
    refine G.call rfl rfl (Nat.le_of_ble_eq_true rfl) (Sp.up (c6_f0 X hC) (Nat.le_of_ble_eq_true rfl)) ?_
    rintro _ _ ⟨rfl, hci⟩
    exact G.ret rfl rfl ⟨rfl, hci⟩
  rw [if_pos hp]
  refine G.brf rfl (fun q => hb.mp q hp) ?_
  obtain ⟨l, j, hl4, rfl, hj, rfl⟩ := pegOk_n hC hp
  obtain ⟨hr, hgk, h7⟩ := hC.rep hl4
  rw [ln_nI (by omega), ln_nI (by omega)]
  have hR0 : RowAt (H rw nu wd vo od tp sh fi ik m) (rb l) (rw l) := H_row (by omega)
  have hx := ix_nI (show j < 7 by omega) (by omega)
  obtain ⟨a1, a2, a3⟩ := hr.gD hj
  have hgj := gK_at hgk hj
  iterate 4 (refine G.st rfl rfl ?_)
  refine G.aald rfl rfl (by decide) (ix_nI hl4 (by omega)) (rf4_row hl4) ?_
  iterate 1 (refine G.st rfl rfl ?_)
  show G X 10 kX6_set 27 [.ref 0, .int (nI l), .int (nI j), .int what, .int v, .ref (rb l), .double 0] [] _ _
  have bad : G X 10 kX6_set 98 [.ref 0, .int (nI l), .int (nI j), .int what, .int v, .ref (rb l), .double 0] [] (H rw nu wd vo od tp sh fi ik m) (fun v h' => v = some (.int (fin 0 s).1) ∧ CI m (fin 0 s).2 h') := by
    iterate 2 (refine G.st rfl rfl ?_)
    refine G.call rfl rfl (Nat.le_of_ble_eq_true rfl) (Sp.up (c6_f0 X hC) (Nat.le_of_ble_eq_true rfl)) ?_
    rintro _ _ ⟨rfl, hci⟩
    exact G.ret rfl rfl ⟨rfl, hci⟩
  by_cases w1 : what = 1 ∧ 1 ≤ v ∧ v ≤ 9
  · obtain ⟨rfl, hv⟩ := w1
    rw [if_pos ⟨rfl, hv⟩]
    iterate 2 (refine G.st rfl rfl ?_)
    refine G.brt rfl rfl ?_
    iterate 1 (refine G.st rfl rfl ?_)
    refine G.call rfl rfl (Nat.le_of_ble_eq_true rfl) (Sp.up (s6_isSize X v _) (Nat.le_of_ble_eq_true rfl)) ?_
    rintro _ _ ⟨rfl, rfl⟩
    refine G.brf rfl (bI_n hv) ?_
    iterate 1 (refine G.st rfl rfl ?_)
    refine G.get rfl hR0.1 rfl ?_
    iterate 1 (refine G.st rfl rfl ?_)
    refine G.iald rfl hR0.2.2.1 hx ?_
    iterate 2 (refine G.st rfl rfl ?_)
    refine G.get rfl hR0.1 rfl ?_
    iterate 2 (refine G.st rfl rfl ?_)
    refine G.iast rfl hR0.2.2.1 hx ?_
    rw [rset_2 hR0, H_rset (by omega)]
    iterate 1 (refine G.st rfl rfl ?_)
    refine G.ret rfl rfl ⟨by rw [a2], CI.mk (hC.line hl4 ?_ (gKs_set hgk ⟨hgj.1, hv, hgj.2.2⟩))⟩
    have := hr.set (x := ((gD (zL s l) j).1, v, (gD (zL s l) j).2.2)) hj
    unfold rput at this
    simp only at this
    rw [← a1, ← a3, upd_id, upd_id] at this
    rw [← a1, ← a3]
    exact this
  · rw [if_neg w1]
    have to61 : G X 10 kX6_set 61 [.ref 0, .int (nI l), .int (nI j), .int what, .int v, .ref (rb l), .double 0] [] (H rw nu wd vo od tp sh fi ik m) (fun r h' => r = some (.int (if what = 2 ∧ 0 ≤ v ∧ v ≤ 9 then ((gD (zL s l) j).2.2, zSL s (va_up (zL s) l ((zL s l).set j ((gD (zL s l) j).1, (gD (zL s l) j).2.1, v)))) else fin 0 s).1) ∧ CI m (if what = 2 ∧ 0 ≤ v ∧ v ≤ 9 then ((gD (zL s l) j).2.2, zSL s (va_up (zL s) l ((zL s l).set j ((gD (zL s l) j).1, (gD (zL s l) j).2.1, v)))) else fin 0 s).2 h') := by
      iterate 2 (refine G.st rfl rfl ?_)
      by_cases w2 : what = 2
      · subst w2
        refine G.brt rfl rfl ?_
        iterate 3 (refine G.st rfl rfl ?_)
        refine G.call rfl rfl (Nat.le_of_ble_eq_true rfl) (Sp.up (s6_isWithin X v 0 9 _) (Nat.le_of_ble_eq_true rfl)) ?_
        rintro _ _ ⟨rfl, rfl⟩
        by_cases hv : 0 ≤ v ∧ v ≤ 9
        · rw [if_pos ⟨rfl, hv⟩]
          refine G.brf rfl (bI_n hv) ?_
          iterate 1 (refine G.st rfl rfl ?_)
          refine G.get rfl hR0.1 rfl ?_
          iterate 1 (refine G.st rfl rfl ?_)
          refine G.iald rfl hR0.2.2.2 hx ?_
          iterate 2 (refine G.st rfl rfl ?_)
          refine G.get rfl hR0.1 rfl ?_
          iterate 2 (refine G.st rfl rfl ?_)
          refine G.iast rfl hR0.2.2.2 hx ?_
          rw [rset_3 hR0, H_rset (by omega)]
          iterate 1 (refine G.st rfl rfl ?_)
          refine G.ret rfl rfl ⟨by rw [a3], CI.mk (hC.line hl4 ?_ (gKs_set hgk ⟨hgj.1, hgj.2.1, hv⟩))⟩
          have := hr.set (x := ((gD (zL s l) j).1, (gD (zL s l) j).2.1, v)) hj
          unfold rput at this
          simp only at this
          rw [← a1, ← a2, upd_id, upd_id] at this
          rw [← a1, ← a2]
          exact this
        · rw [if_neg (fun q => hv q.2)]
          refine G.brt rfl (bI_0.mpr hv) ?_
          exact bad
      · rw [if_neg (fun q => w2 q.1)]
        refine G.brf rfl w2 ?_
        exact bad
    iterate 2 (refine G.st rfl rfl ?_)
    by_cases w0 : what = 1
    · subst w0
      refine G.brt rfl rfl ?_
      iterate 1 (refine G.st rfl rfl ?_)
      refine G.call rfl rfl (Nat.le_of_ble_eq_true rfl) (Sp.up (s6_isSize X v _) (Nat.le_of_ble_eq_true rfl)) ?_
      rintro _ _ ⟨rfl, rfl⟩
      refine G.brt rfl (bI_0.mpr (fun q => w1 ⟨rfl, q⟩)) ?_
      exact to61
    · refine G.brf rfl w0 ?_
      exact to61
end LINES2
