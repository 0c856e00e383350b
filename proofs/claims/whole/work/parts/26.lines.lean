/-! ===== promises 2 to 12, the class ===== -/
def ln (x : Int32) : Nat := x.toNatClampNeg
theorem ln_nI {l : Nat} (h : l < 2 ^ 31) : ln (nI l) = l := nI_clamp h
theorem bI_n {c : Prop} [Decidable c] (h : c) : ¬ bI c = 0 := fun q => bI_0.mp q h
theorem rf4_row {l : Nat} (hl : l < 4) : rf4 4 8 12 16 l = some (rb l) := by
  rcases (show l = 0 ∨ l = 1 ∨ l = 2 ∨ l = 3 by omega) with rfl | rfl | rfl | rfl <;> rfl
abbrev lok (x : Int32) : Prop := 0 ≤ x ∧ x ≤ 3
abbrev kok (x : Int32) : Prop := 0 ≤ x ∧ x ≤ 5
abbrev sok (x : Int32) : Prop := 1 ≤ x ∧ x ≤ 9
theorem lok_n {x : Int32} (h : lok x) : ∃ l, l < 4 ∧ x = nI l := by
  obtain ⟨l, h1, h2⟩ := nI_arg (k := 3) rfl (by omega) h.1 h.2
  exact ⟨l, by omega, h2⟩
/-- a garment is there -/
abbrev pegOk (s : Sg) (line peg : Int32) : Prop := lok line ∧ 0 ≤ peg ∧ peg < nI (zL s (ln line)).length
section LINES
variable {rw : Nat → sR} {nu : Nat → Nat → Int32} {wd : Nat → Int32 × Int32} {vo : sV} {od : sO} {tp : sP} {sh : Nat → sS} {fi : Nat → Int32} {ik : Int32} {m : sM} {s : Sg}
theorem CR.rep (h : CR rw nu wd tp sh fi ik s) {l : Nat} (hl : l < 4) : Rep (rw l) (zL s l) ∧ gKs (zL s l) ∧ (zL s l).length ≤ 7 := by
  have h2 := h.1.2.1 l hl
  rw [Nat.zero_add] at h2
  exact ⟨h2, (h.1.1.1 l hl).1, (h.1.1.1 l hl).2⟩
theorem CR.num (h : CR rw nu wd tp sh fi ik s) : NumR (nu 0) (zN s) := h.1.2.2.1
theorem CR.wd0 (h : CR rw nu wd tp sh fi ik s) : wd 0 = (zW s, zD s) := h.1.2.2.2
theorem CT.line {b : Nat} {nu0 : Nat → Int32} {wd0 : Int32 × Int32} {t : Twn} (h : CT rw nu0 wd0 b t) {i : Nat} {q : sR} (hi : i < b ∨ b + 4 ≤ i) : CT (va_up rw i q) nu0 wd0 b t := ⟨h.1, fun k hk => by rw [va_up_n (by omega)]; exact h.2.1 k hk, h.2.2⟩
theorem CR.line (h : CR rw nu wd tp sh fi ik s) {l : Nat} (hl : l < 4) {q : sR} {g : List Gar} (hq : Rep q g) (hg : gKs g) : CR (va_up rw l q) nu wd tp sh fi ik (zSL s (va_up (zL s) l g)) := by
  obtain ⟨⟨⟨a1, a2, a3⟩, b1, b2⟩, h2, h3⟩ := h
  refine ⟨⟨⟨fun k hk => ?_, a2, a3⟩, fun k hk => ?_, b2⟩, ?_, h3⟩
  · show gKs (va_up (zL s) l g k) ∧ (va_up (zL s) l g k).length ≤ 7
    by_cases e : k = l
    · subst e
      rw [va_up_s]
      exact ⟨hg, hq.2.1⟩
    · rw [va_up_n e]
      exact a1 k hk
  · rw [Nat.zero_add]
    show Rep (va_up rw l q k) (va_up (zL s) l g k)
    by_cases e : k = l
    · subst e
      rw [va_up_s, va_up_s]
      exact hq
    · have := b1 k hk
      rw [Nat.zero_add] at this
      rw [va_up_n e, va_up_n e]
      exact this
  · show match zK s with | none => ik = 0 | some k => ik = 1 ∧ CT (va_up rw l q) (nu 1) (wd 1) 4 k
    cases hk : zK s with
    | none => rw [hk] at h2; exact h2
    | some k => rw [hk] at h2; exact ⟨h2.1, h2.2.line (by omega)⟩
theorem CI.mk (h : CR rw nu wd tp sh fi ik s) : CI m s (H rw nu wd vo od tp sh fi ik m) := ⟨_, _, _, _, _, _, _, _, _, rfl, h⟩
theorem c6_f0 (X : aX) (h : CR rw nu wd tp sh fi ik s) : Sp X 1 kX6_finding [.ref 0, .int (-1000000001)] (H rw nu wd vo od tp sh fi ik m) (fun v h' => v = some (.int (fin 0 s).1) ∧ CI m (fin 0 s).2 h') := by
  have := c6_fin X (k := 0) (by omega) h (vo := vo) (od := od) (m := m)
  rw [show fcd 0 = -1000000001 by decide] at this
  exact this
theorem c6_f1 (X : aX) (h : CR rw nu wd tp sh fi ik s) : Sp X 1 kX6_finding [.ref 0, .int (-1000000002)] (H rw nu wd vo od tp sh fi ik m) (fun v h' => v = some (.int (fin 1 s).1) ∧ CI m (fin 1 s).2 h') := by
  have := c6_fin X (k := 1) (by omega) h (vo := vo) (od := od) (m := m)
  rw [show fcd 1 = -1000000002 by decide] at this
  exact this
theorem c6_f2 (X : aX) (h : CR rw nu wd tp sh fi ik s) : Sp X 1 kX6_finding [.ref 0, .int (-1000000003)] (H rw nu wd vo od tp sh fi ik m) (fun v h' => v = some (.int (fin 2 s).1) ∧ CI m (fin 2 s).2 h') := by
  have := c6_fin X (k := 2) (by omega) h (vo := vo) (od := od) (m := m)
  rw [show fcd 2 = -1000000003 by decide] at this
  exact this
theorem c6_f3 (X : aX) (h : CR rw nu wd tp sh fi ik s) : Sp X 1 kX6_finding [.ref 0, .int (-1000000004)] (H rw nu wd vo od tp sh fi ik m) (fun v h' => v = some (.int (fin 3 s).1) ∧ CI m (fin 3 s).2 h') := by
  have := c6_fin X (k := 3) (by omega) h (vo := vo) (od := od) (m := m)
  rw [show fcd 3 = -1000000004 by decide] at this
  exact this
theorem c6_f4 (X : aX) (h : CR rw nu wd tp sh fi ik s) : Sp X 1 kX6_finding [.ref 0, .int (-1000000005)] (H rw nu wd vo od tp sh fi ik m) (fun v h' => v = some (.int (fin 4 s).1) ∧ CI m (fin 4 s).2 h') := by
  have := c6_fin X (k := 4) (by omega) h (vo := vo) (od := od) (m := m)
  rw [show fcd 4 = -1000000005 by decide] at this
  exact this
theorem c6_f5 (X : aX) (h : CR rw nu wd tp sh fi ik s) : Sp X 1 kX6_finding [.ref 0, .int (-1000000006)] (H rw nu wd vo od tp sh fi ik m) (fun v h' => v = some (.int (fin 5 s).1) ∧ CI m (fin 5 s).2 h') := by
  have := c6_fin X (k := 5) (by omega) h (vo := vo) (od := od) (m := m)
  rw [show fcd 5 = -1000000006 by decide] at this
  exact this
theorem c6_f6 (X : aX) (h : CR rw nu wd tp sh fi ik s) : Sp X 1 kX6_finding [.ref 0, .int (-1000000007)] (H rw nu wd vo od tp sh fi ik m) (fun v h' => v = some (.int (fin 6 s).1) ∧ CI m (fin 6 s).2 h') := by
  have := c6_fin X (k := 6) (by omega) h (vo := vo) (od := od) (m := m)
  rw [show fcd 6 = -1000000007 by decide] at this
  exact this
theorem s6_isGarment (X : aX) (h : CR rw nu wd tp sh fi ik s) {line peg : Int32} : Sp X 2 kX6_isGarment [.ref 0, .int line, .int peg] (H rw nu wd vo od tp sh fi ik m) (fun v h' => (∃ b, v = some (.int b) ∧ (b = 0 ∨ b = 1) ∧ (b = 0 ↔ ¬ pegOk s line peg)) ∧ h' = H rw nu wd vo od tp sh fi ik m) := by
  unfold Sp
  iterate 1 (refine G.st rfl rfl ?_)
  refine G.call rfl rfl (Nat.le_of_ble_eq_true rfl) (Sp.up (s6_isLine X line _) (Nat.le_of_ble_eq_true rfl)) ?_
  rintro _ _ ⟨rfl, rfl⟩
  by_cases hl : lok line
  · obtain ⟨l, hl4, rfl⟩ := lok_n hl
    obtain ⟨hr, hgk, h7⟩ := h.rep hl4
    refine G.brf rfl (bI_n hl) ?_
    iterate 6 (refine G.st rfl rfl ?_)
    refine G.aald rfl rfl (by decide) (ix_nI hl4 (by omega)) (rf4_row hl4) ?_
    refine G.get rfl (H_row (by omega)).1 rfl ?_
    rw [hr.1]
    iterate 2 (refine G.st rfl rfl ?_)
    refine G.call rfl rfl (Nat.le_of_ble_eq_true rfl) (Sp.up (s6_isWithin X _ _ _ _) (Nat.le_of_ble_eq_true rfl)) ?_
    rintro _ _ ⟨rfl, rfl⟩
    have key : (0 ≤ peg ∧ peg ≤ nI (zL s l).length - 1) ↔ pegOk s (nI l) peg := by
      unfold pegOk
      rw [ln_nI (by omega)]
      have h1 := nI_toInt (n := (zL s l).length) (by omega)
      have h2 : nI (zL s l).length ≤ 7 := by show _ ≤ nI 7; rw [nI_leI (by omega) (by omega)]; exact h7
      have h3 : 0 ≤ nI (zL s l).length := nI_pos' (by omega)
      generalize nI (zL s l).length = n at *
      constructor
      · intro q; exact ⟨hl, q.1, by grind⟩
      · intro q; exact ⟨q.2.1, by grind⟩
    by_cases hp : pegOk s (nI l) peg
    · refine G.brf rfl (bI_n (key.mpr hp)) ?_
      iterate 2 (refine G.st rfl rfl ?_)
      exact G.ret rfl rfl ⟨⟨1, rfl, Or.inr rfl, by simp [hp]⟩, rfl⟩
    · refine G.brt rfl (bI_0.mpr (fun q => hp (key.mp q))) ?_
      iterate 1 (refine G.st rfl rfl ?_)
      exact G.ret rfl rfl ⟨⟨0, rfl, Or.inl rfl, by simp [hp]⟩, rfl⟩
  · refine G.brt rfl (bI_0.mpr hl) ?_
    iterate 1 (refine G.st rfl rfl ?_)
    exact G.ret rfl rfl ⟨⟨0, rfl, Or.inl rfl, by simp [pegOk, hl]⟩, rfl⟩
theorem pegOk_n {line peg : Int32} (h : CR rw nu wd tp sh fi ik s) (hp : pegOk s line peg) : ∃ l j, l < 4 ∧ line = nI l ∧ j < (zL s l).length ∧ peg = nI j := by
  obtain ⟨hl, hp0, hp1⟩ := hp
  obtain ⟨l, hl4, rfl⟩ := lok_n hl
  rw [ln_nI (by omega)] at hp1
  have h7 := (h.rep hl4).2.2
  obtain ⟨j, hj, rfl⟩ := nI_of (Int32.not_lt.mpr hp0)
  rw [nI_ltI hj (by omega)] at hp1
  exact ⟨l, j, hl4, rfl, hp1, rfl⟩
theorem gK_new {k z : Int32} (hk : 0 ≤ k ∧ k ≤ 5) (hz : 1 ≤ z ∧ z ≤ 9) : gK (k, z, 0) := ⟨K6_of hk.1 hk.2, hz, (by decide : (0 : Int32) ≤ 0), (by decide : (0 : Int32) ≤ 9)⟩
def S_hang (s : Sg) (line kind size : Int32) : Int32 × Sg := if (0 ≤ line ∧ line ≤ 3) ∧ (0 ≤ kind ∧ kind ≤ 5) ∧ 1 ≤ size ∧ size ≤ 9 then (if (zL s (ln line)).length < 7 then (nI (zL s (ln line)).length, zSL s (va_up (zL s) (ln line) (zL s (ln line) ++ [(kind, size, 0)]))) else fin 1 s) else fin 0 s
theorem gKs_app {g : List Gar} {x : Gar} (h : gKs g) (hx : gK x) : gKs (g ++ [x]) := by
  intro y hy
  rcases List.mem_append.mp hy with h1 | h1
  · exact h y h1
  · rw [List.mem_singleton.mp h1]
    exact hx
theorem p6_hang (X : aX) (line kind size : Int32) {h : aH} (hC : CI m s h) : Sp X 10 kX6_hang [.ref 0, .int line, .int kind, .int size] h (fun v h' => v = some (.int (S_hang s line kind size).1) ∧ CI m (S_hang s line kind size).2 h') := by
  obtain ⟨rw, nu, wd, vo, od, tp, sh, fi, ik, rfl, hC⟩ := hC
  unfold Sp S_hang
  have bad : G X 10 kX6_hang 21 (eL kX6_hang [.ref 0, .int line, .int kind, .int size]) [] (H rw nu wd vo od tp sh fi ik m) (fun v h' => v = some (.int (fin 0 s).1) ∧ CI m (fin 0 s).2 h') := by
    iterate 2 (refine G.st rfl rfl ?_)
    refine G.call rfl rfl (Nat.le_of_ble_eq_true rfl) (Sp.up (c6_f0 X hC) (Nat.le_of_ble_eq_true rfl)) ?_
    rintro _ _ ⟨rfl, hci⟩
    exact G.ret rfl rfl ⟨rfl, hci⟩
  iterate 1 (refine G.st rfl rfl ?_)
  refine G.call rfl rfl (Nat.le_of_ble_eq_true rfl) (Sp.up (s6_isLine X line _) (Nat.le_of_ble_eq_true rfl)) ?_
  rintro _ _ ⟨rfl, rfl⟩
  by_cases hl : 0 ≤ line ∧ line ≤ 3
  case neg =>
    rw [if_neg (fun q => hl q.1)]
    exact G.brt rfl (bI_0.mpr hl) bad
  refine G.brf rfl (bI_n hl) ?_
  iterate 1 (refine G.st rfl rfl ?_)
  refine G.call rfl rfl (Nat.le_of_ble_eq_true rfl) (Sp.up (s6_isKind X kind _) (Nat.le_of_ble_eq_true rfl)) ?_
  rintro _ _ ⟨rfl, rfl⟩
  by_cases hk : 0 ≤ kind ∧ kind ≤ 5
  case neg =>
    rw [if_neg (fun q => hk q.2.1)]
    exact G.brt rfl (bI_0.mpr hk) bad
  refine G.brf rfl (bI_n hk) ?_
  iterate 1 (refine G.st rfl rfl ?_)
  refine G.call rfl rfl (Nat.le_of_ble_eq_true rfl) (Sp.up (s6_isSize X size _) (Nat.le_of_ble_eq_true rfl)) ?_
  rintro _ _ ⟨rfl, rfl⟩
  by_cases hz : 1 ≤ size ∧ size ≤ 9
  case neg =>
    rw [if_neg (fun q => hz q.2.2)]
    exact G.brt rfl (bI_0.mpr hz) bad
  refine G.brf rfl (bI_n hz) ?_
  rw [if_pos ⟨hl, hk, hz⟩]
  obtain ⟨l, hl4, rfl⟩ := lok_n hl
  obtain ⟨hr, hgk, h7⟩ := hC.rep hl4
  rw [ln_nI (by omega)]
  iterate 4 (refine G.st rfl rfl ?_)
  refine G.aald rfl rfl (by decide) (ix_nI hl4 (by omega)) (rf4_row hl4) ?_
  iterate 2 (refine G.st rfl rfl ?_)
  refine G.get rfl (H_row (by omega)).1 rfl ?_
  rw [hr.1]
  iterate 1 (refine G.st rfl rfl ?_)
  by_cases h6 : (zL s l).length < 7
  case neg =>
    rw [if_neg h6]
    refine G.brf rfl (by show ¬ nI (zL s l).length < nI 7; rw [nI_ltI (by omega) (by omega)]; exact h6) ?_
    iterate 2 (refine G.st rfl rfl ?_)
    refine G.call rfl rfl (Nat.le_of_ble_eq_true rfl) (Sp.up (c6_f1 X hC) (Nat.le_of_ble_eq_true rfl)) ?_
    rintro _ _ ⟨rfl, hci⟩
    exact G.ret rfl rfl ⟨rfl, hci⟩
  rw [if_pos h6]
  refine G.brt rfl (by show nI (zL s l).length < nI 7; rw [nI_ltI (by omega) (by omega)]; exact h6) ?_
  iterate 4 (refine G.st rfl rfl ?_)
  have hR0 : RowAt (H rw nu wd vo od tp sh fi ik m) (rb l) (rw l) := H_row (by omega)
  refine G.callv rfl rfl rfl (hR0.1) (Nat.le_of_ble_eq_true rfl) rfl (Nat.le_of_ble_eq_true rfl) (Sp.up (s1_add X hR0 hr h6) (Nat.le_of_ble_eq_true rfl)) ?_
  rintro _ _ ⟨rfl, q', rfl, hq'⟩
  rw [H_rset (by omega)]
  iterate 1 (refine G.st rfl rfl ?_)
  refine G.get rfl (H_row (by omega)).1 rfl ?_
  rw [va_up_s, hq'.1, List.length_append, List.length_singleton]
  iterate 2 (refine G.st rfl rfl ?_)
  refine G.ret rfl rfl ⟨?_, CI.mk (hC.line hl4 hq' (gKs_app hgk (gK_new hk hz)))⟩
  rw [nI_pred]
end LINES
