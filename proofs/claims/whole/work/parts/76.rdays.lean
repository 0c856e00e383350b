/-! ===== the reference: days ===== -/
def dmix (d : Int32) (g : List Gar) (p : Nat) : List Gar := (g.take p).map (dryG d) ++ g.drop p
theorem dmix_len {d : Int32} {g : List Gar} {p : Nat} (hp : p ≤ g.length) : (dmix d g p).length = g.length := by
  unfold dmix
  rw [List.length_append, List.length_map, List.length_take, List.length_drop]
  omega
theorem dmix_at {d : Int32} {g : List Gar} {p : Nat} (hp : p < g.length) : gD (dmix d g p) p = gD g p := by
  unfold gD dmix
  rw [List.getD_eq_getElem?_getD, List.getD_eq_getElem?_getD, List.getElem?_append_right (by rw [List.length_map, List.length_take]; omega), List.length_map, List.length_take, List.getElem?_drop]
  rw [show p + (p - min p g.length) = p by omega]
theorem dmix_s {d : Int32} {g : List Gar} {p : Nat} (hp : p < g.length) : (dmix d g p).set p (dryG d (gD g p)) = dmix d g (p + 1) := by
  unfold dmix
  rw [List.take_succ_eq_append_getElem hp, List.map_append, List.append_assoc, List.drop_eq_getElem_cons hp, List.set_append_right _ _ (by rw [List.length_map, List.length_take]; omega), List.length_map, List.length_take, show p - min p g.length = 0 by omega, gD_at hp]
  rfl
theorem dmix_0 {d : Int32} {g : List Gar} : dmix d g 0 = g := by
  unfold dmix
  simp
theorem dmix_e {d : Int32} {g : List Gar} : dmix d g g.length = g.map (dryG d) := by
  unfold dmix
  simp
theorem dmix_K {d : Int32} {g : List Gar} {p : Nat} (hd : 1 ≤ d ∧ d ≤ 99) (hg : gKs g) : gKs (dmix d g p) := by
  intro y hy
  rcases List.mem_append.mp hy with h | h
  · obtain ⟨x, hx, rfl⟩ := List.mem_map.mp h
    exact dry_K hd (hg x (List.mem_of_mem_take hx))
  · exact hg y (List.mem_of_mem_drop h)
theorem dry_eq {d w : Int32} (hd : 1 ≤ d ∧ d ≤ 99) (hw : 0 ≤ w ∧ w ≤ 9) : (if 0 < w - d then w - d else 0) = if d ≤ w then w - d else 0 := by
  grind
section RDAYS
variable {c : Nat → aC} {m : sM} {s : Sg} {n : Nat}
theorem l7_dry (X : aX) {l B : Nat} {d : Int32} {Q : Option Value → aH → Prop} (hS : SOk s) (hd : 1 ≤ d ∧ d ≤ 99) (hl : l < 4) (hq : ∀ (m' : sM) (x : Int32) (u : Value), MR n m' (zSL s (va_up (zL s) l ((zL s l).map (dryG d)))) → G X 10 kX7_days 130 [.ref 81, .int d, .int (nI (B + dryN d (zL s l) (zL s l).length)), .int (nI l), .int x, u] [] (HR c m') Q) : ∀ (k p : Nat) (m : sM) (u5 : Value), p + k = (zL s l).length → MR n m (zSL s (va_up (zL s) l (dmix d (zL s l) p))) → G X 10 kX7_days 52 [.ref 81, .int d, .int (nI (B + dryN d (zL s l) p)), .int (nI l), .int (nI p), u5] [] (HR c m) Q := by
  have h7 := hS.len hl
  intro k
  induction k with
  | zero =>
    intro p m u5 hp hM
    have hlen := hM.len hl
    rw [show zL (zSL s (va_up (zL s) l (dmix d (zL s l) p))) l = dmix d (zL s l) p from va_up_s, dmix_len (by omega)] at hlen
    iterate 6 (refine G.st rfl rfl ?_)
    refine G.iald rfl rfl (ix0 (show l < 110 by omega) (by omega)) ?_
    rw [hlen]
    refine G.brt rfl (by rw [nI_leI (by omega) (by omega)]; omega) ?_
    obtain rfl : p = (zL s l).length := by omega
    rw [dmix_e] at hM
    exact hq m _ u5 hM
  | succ k ih =>
    intro p m u5 hp hM
    have hpl := pl_lt hl (show p < 7 by omega)
    have hzl : zL (zSL s (va_up (zL s) l (dmix d (zL s l) p))) l = dmix d (zL s l) p := va_up_s
    have hlen := hM.len hl
    have hS' : SOk (zSL s (va_up (zL s) l (dmix d (zL s l) p))) := hS.line (dmix_K hd (hS.gk hl)) (by rw [dmix_len (by omega)]; exact h7)
    have hpd : p < (zL (zSL s (va_up (zL s) l (dmix d (zL s l) p))) l).length := by rw [hzl, dmix_len (by omega)]; omega
    obtain ⟨g1, g2, g3⟩ := hM.gar hl hpd
    rw [hzl, dmix_len (by omega)] at hlen
    rw [hzl, dmix_at (by omega)] at g3
    have hgk := gK_at (hS.gk hl) (show p < (zL s l).length by omega)
    have hnew := hM.put hS' (l := l) (j := p) (q := 2) (v := (dryG d (gD (zL s l) p)).2.2) (x := dryG d (gD (zL s l) p)) hl hpd (by omega) (by rw [hzl, dmix_at (by omega)]; rfl)
    rw [hzl, dmix_s (by omega)] at hnew
    rw [show zSL (zSL s (va_up (zL s) l (dmix d (zL s l) p))) (va_up (zL (zSL s (va_up (zL s) l (dmix d (zL s l) p)))) l (dmix d (zL s l) (p + 1))) = zSL s (va_up (va_up (zL s) l (dmix d (zL s l) p)) l (dmix d (zL s l) (p + 1))) from rfl, va_up_up] at hnew
    have hx := ix_nI (show pl l p + 2 < 110 by omega) (by omega)
    have hw2 : (dryG d (gD (zL s l) p)).2.2 = if d ≤ (gD (zL s l) p).2.2 then (gD (zL s l) p).2.2 - d else 0 := dry_eq hd hgk.2.2
    iterate 6 (refine G.st rfl rfl ?_)
    refine G.iald rfl rfl (ix0 (show l < 110 by omega) (by omega)) ?_
    rw [hlen]
    refine G.brf rfl (by rw [nI_leI (by omega) (by omega)]; omega) ?_
    iterate 2 (refine G.st rfl rfl ?_)
    refine G.call rfl rfl (Nat.le_of_ble_eq_true rfl) (Sp.up (s7_pl X l p _) (Nat.le_of_ble_eq_true rfl)) ?_
    rintro _ _ ⟨rfl, rfl⟩
    iterate 2 (refine G.st rfl rfl ?_)
    rw [show (2 : Int32) = nI 2 from rfl, nI_add]
    iterate 1 (refine G.st rfl rfl ?_)
    show G X 10 kX7_days 75 [.ref 81, .int d, .int (nI (B + dryN d (zL s l) p)), .int (nI l), .int (nI p), .int (nI (pl l p + 2))] [] (HR c m) _
    have after : G X 10 kX7_days 106 [.ref 81, .int d, .int (nI (B + dryN d (zL s l) p)), .int (nI l), .int (nI p), .int (nI (pl l p + 2))] [] (HR c (mSs m (upd (ms m) (pl l p + 2) (dryG d (gD (zL s l) p)).2.2))) Q := by
      iterate 4 (refine G.st rfl rfl ?_)
      refine G.iald rfl rfl hx ?_
      show G X 10 kX7_days 114 [.ref 81, .int d, .int (nI (B + dryN d (zL s l) p)), .int (nI l), .int (nI p), .int (nI (pl l p + 2))] [.int (upd (ms m) (pl l p + 2) (dryG d (gD (zL s l) p)).2.2 (pl l p + 2)), .int (nI (B + dryN d (zL s l) p))] (HR c (mSs m (upd (ms m) (pl l p + 2) (dryG d (gD (zL s l) p)).2.2))) Q
      rw [upd_s]
      have e : dryN d (zL s l) (p + 1) = dryN d (zL s l) p + (if (dryG d (gD (zL s l) p)).2.2 = 0 then 1 else 0) := rfl
      have := ih (p + 1) _ (.int (nI (pl l p + 2))) (by omega) hnew
      rw [e] at this
      by_cases hz : (dryG d (gD (zL s l) p)).2.2 = 0
      · rw [if_pos hz, ← Nat.add_assoc] at this
        refine G.brt rfl hz ?_
        iterate 3 (refine G.st rfl rfl ?_)
        rw [nI_1]
        iterate 2 (refine G.st rfl rfl ?_)
        rw [nI_1]
        iterate 1 (refine G.st rfl rfl ?_)
        exact this
      · rw [if_neg hz, Nat.add_zero] at this
        refine G.brf rfl hz ?_
        iterate 2 (refine G.st rfl rfl ?_)
        rw [Int32.add_zero]
        iterate 2 (refine G.st rfl rfl ?_)
        rw [nI_1]
        iterate 1 (refine G.st rfl rfl ?_)
        exact this
    iterate 6 (refine G.st rfl rfl ?_)
    refine G.iald rfl rfl hx ?_
    rw [g3]
    iterate 1 (refine G.st rfl rfl ?_)
    by_cases hc : d ≤ (gD (zL s l) p).2.2
    · rw [if_pos hc] at hw2
      refine G.brt rfl hc ?_
      iterate 3 (refine G.st rfl rfl ?_)
      refine G.iald rfl rfl hx ?_
      rw [g3]
      iterate 2 (refine G.st rfl rfl ?_)
      refine G.sst rfl hx ?_
      rw [← hw2]
      exact after
    · rw [if_neg hc] at hw2
      refine G.brf rfl hc ?_
      iterate 2 (refine G.st rfl rfl ?_)
      refine G.sst rfl hx ?_
      rw [← hw2]
      exact after
def dls (d : Int32) (L : Nat → List Gar) (l : Nat) : Nat → List Gar := fun k => if k < l then (L k).map (dryG d) else L k
def dsm (d : Int32) (L : Nat → List Gar) : Nat → Nat
  | 0 => 0
  | l + 1 => dsm d L l + dryN d (L l) (L l).length
theorem dls_s {d : Int32} {L : Nat → List Gar} {l : Nat} : va_up (dls d L l) l ((L l).map (dryG d)) = dls d L (l + 1) := by
  funext k
  unfold dls
  by_cases e : k = l
  · subst e
    rw [va_up_s, if_pos (by omega)]
  · rw [va_up_n e]
    by_cases h : k < l
    · rw [if_pos h, if_pos (by omega)]
    · rw [if_neg h, if_neg (by omega)]
theorem MR.lines {L L' : Nat → List Gar} (h : MR n m (zSL s L)) (e : ∀ l, l < 4 → L' l = L l) : MR n m (zSL s L') := by
  obtain ⟨⟨h1, h2⟩, h3⟩ := h
  refine ⟨⟨fun l hl => ?_, h2⟩, h3⟩
  show ms m l = nI (L' l).length ∧ ∀ p, p < (L' l).length → G3 (ms m) (pl l p) = gD (L' l) p
  rw [e l hl]
  exact h1 l hl
theorem l7_days (X : aX) {d : Int32} (hS : SOk s) (hd : 1 ≤ d ∧ d ≤ 99) : ∀ (k l : Nat) (m : sM) (u4 u5 : Value), l + k = 4 → MR n m (zSL s (dls d (zL s) l)) → G X 10 kX7_days 44 [.ref 81, .int d, .int (nI (dsm d (zL s) l)), .int (nI l), u4, u5] [] (HR c m) (MP c n (nI (dsm d (zL s) 4), zSD (zSL s (dls d (zL s) 4)) (zD s + d))) := by
  intro k
  induction k with
  | zero =>
    intro l m u4 u5 hl hM
    obtain rfl : l = 4 := by omega
    iterate 2 (refine G.st rfl rfl ?_)
    refine G.brt rfl (by decide) ?_
    iterate 4 (refine G.st rfl rfl ?_)
    refine G.iald rfl rfl (j := 5) ⟨by decide, rfl, by decide⟩ ?_
    rw [hM.1.2.2.1]
    iterate 2 (refine G.st rfl rfl ?_)
    refine G.sst rfl (j := 5) ⟨by decide, rfl, by decide⟩ ?_
    iterate 1 (refine G.st rfl rfl ?_)
    refine G.ret rfl rfl ⟨rfl, _, rfl, ?_, hM.2⟩
    refine hM.1.low (fun i hi => upd_n (by omega)) ?_ upd_s (fun j hj => ?_)
    · rw [upd_n (by omega)]; exact hM.1.2.1
    · rw [upd_n (by omega), upd_n (by omega)]; exact hM.1.2.2.2 j hj
  | succ k ih =>
    intro l m u4 u5 hl hM
    iterate 2 (refine G.st rfl rfl ?_)
    refine G.brf rfl (by show ¬ nI 4 ≤ nI l; rw [nI_leI (by omega) (by omega)]; omega) ?_
    iterate 2 (refine G.st rfl rfl ?_)
    have hll : zL (zSL s (dls d (zL s) l)) l = zL s l := if_neg (by omega)
    have hS' : SOk (zSL s (dls d (zL s) l)) := by
      obtain ⟨⟨a1, a2⟩, h2, h3⟩ := hS
      refine ⟨⟨fun k hk => ?_, a2⟩, h2, h3⟩
      show gKs (dls d (zL s) l k) ∧ (dls d (zL s) l k).length ≤ 7
      unfold dls
      split
      · refine ⟨fun y hy => ?_, by rw [List.length_map]; exact (a1 k hk).2⟩
        obtain ⟨x, hx, rfl⟩ := List.mem_map.mp hy
        exact dry_K hd ((a1 k hk).1 x hx)
      · exact a1 k hk
    have := l7_dry X (c := c) (n := n) (s := zSL s (dls d (zL s) l)) (l := l) (B := dsm d (zL s) l) (d := d) (Q := MP c n (nI (dsm d (zL s) 4), zSD (zSL s (dls d (zL s) 4)) (zD s + d))) hS' hd (by omega) ?_ (zL s l).length 0 m u5 (by rw [hll]; omega) ?_
    · exact this
    · intro m' x u hM'
      rw [hll] at hM' ⊢
      iterate 1 (refine G.st rfl rfl ?_)
      rw [nI_1]
      iterate 1 (refine G.st rfl rfl ?_)
      refine ih (l + 1) m' (.int x) u (by omega) ?_
      rw [← dls_s]
      exact hM'
    · rw [dmix_0, va_up_id]
      exact hM
theorem p7_days (X : aX) (d : Int32) (hS : SOk s) (hM : MR n m s) : Sp X 10 kX7_days [.ref 81, .int d] (HR c m) (MP c n (S_days s d)) := by
  unfold Sp S_days
  show G X 10 kX7_days 0 [.ref 81, .int d, .double 0, .double 0, .double 0, .double 0] [] _ _
  iterate 4 (refine G.st rfl rfl ?_)
  refine G.call rfl rfl (Nat.le_of_ble_eq_true rfl) (Sp.up (s7_isInI X d 1 99 _) (Nat.le_of_ble_eq_true rfl)) ?_
  rintro _ _ ⟨rfl, rfl⟩
  by_cases hd : 1 ≤ d ∧ d ≤ 99
  case neg =>
    rw [if_neg hd]
    refine G.brt rfl (bI_0.mpr hd) ?_
    iterate 2 (refine G.st rfl rfl ?_)
    refine G.call rfl rfl (Nat.le_of_ble_eq_true rfl) (Sp.up (c7_f0 X hM) (Nat.le_of_ble_eq_true rfl)) ?_
    rintro _ _ ⟨rfl, hci⟩
    exact G.ret rfl rfl ⟨rfl, hci⟩
  rw [if_pos hd]
  refine G.brf rfl (bI_n hd) ?_
  iterate 3 (refine G.st rfl rfl ?_)
  refine G.iald rfl rfl (j := 5) ⟨by decide, rfl, by decide⟩ ?_
  rw [hM.1.2.2.1]
  iterate 3 (refine G.st rfl rfl ?_)
  by_cases h9 : 9999 < zD s + d
  · rw [if_pos h9]
    refine G.brf rfl (Int32.not_le.mpr h9) ?_
    iterate 2 (refine G.st rfl rfl ?_)
    refine G.call rfl rfl (Nat.le_of_ble_eq_true rfl) (Sp.up (c7_f4 X hM) (Nat.le_of_ble_eq_true rfl)) ?_
    rintro _ _ ⟨rfl, hci⟩
    exact G.ret rfl rfl ⟨rfl, hci⟩
  rw [if_neg h9]
  refine G.brt rfl (Int32.not_lt.mp h9) ?_
  iterate 4 (refine G.st rfl rfl ?_)
  refine (l7_days X (c := c) (n := n) hS hd 4 0 m (.double 0) (.double 0) (by omega) ?_).imp ?_
  · exact MR.lines (L := zL s) hM (fun l hl => if_neg (by omega))
  · rintro _ _ ⟨rfl, m', rfl, hM'⟩
    refine ⟨?_, m', rfl, ?_⟩
    · show some (Value.int (nI (0 + _ + _ + _ + _))) = _
      rw [Nat.zero_add]
      rfl
    · exact MR.lines (s := zSD s (zD s + d)) (L := dls d (zL s) 4) hM' (fun l hl => (if_pos hl).symm)
end RDAYS
