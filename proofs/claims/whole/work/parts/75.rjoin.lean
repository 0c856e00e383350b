/-! ===== the reference: join ===== -/
section RJOIN
variable {c : Nat → aC} {m : sM} {s : Sg} {n : Nat}
theorem g7_jcell (X : aX) {a p q L : Nat} {w0 w1 w2 w3 : Int32} {f : Nat → Int32} {R : Option Value → aH → Prop} (hq : q < 3) (hL : L ≤ 14) (ha : a < 4) (hp : p < 7) (hr : mrn m = nI L) (hR : G X 10 kX7_join 111 [.ref 81, .int (nI a), .int w0, .int w1, .int w2, .int w3, .int (nI p), .int (nI (q + 1))] [] (HR c (mSrw m (upd f (3 * L + q) (ms m (pl a p + q))))) R) : G X 10 kX7_join 74 [.ref 81, .int (nI a), .int w0, .int w1, .int w2, .int w3, .int (nI p), .int (nI q)] [] (HR c (mSrw m f)) R := by
  have hpl := pl_lt ha hp
  iterate 2 (refine G.st rfl rfl ?_)
  refine G.brf rfl (by show ¬ nI 3 ≤ nI q; rw [nI_leI (by omega) (by omega)]; omega) ?_
  iterate 5 (refine G.st rfl rfl ?_)
  show G X 10 kX7_join 89 [.ref 81, .int (nI a), .int w0, .int w1, .int w2, .int w3, .int (nI p), .int (nI q)] [.int (mrn m), .int 3, .ref 90] (HR c (mSrw m f)) _
  rw [hr]
  iterate 7 (refine G.st rfl rfl ?_)
  refine G.call rfl rfl (Nat.le_of_ble_eq_true rfl) (Sp.up (s7_pl X a p _) (Nat.le_of_ble_eq_true rfl)) ?_
  rintro _ _ ⟨rfl, rfl⟩
  iterate 2 (refine G.st rfl rfl ?_)
  rw [nI_add]
  refine G.iald rfl rfl (ix_nI (show pl a p + q < 110 by omega) (by omega)) ?_
  refine G.rst rfl (ix3a (k := q) rfl (show 3 * L + q < 45 by omega) (by omega)) ?_
  iterate 1 (refine G.st rfl rfl ?_)
  rw [nI_1]
  exact hR
theorem g7_j0 (X : aX) {lo : List Value} {R : Option Value → aH → Prop} {v0 v1 v2 v3 v4 v5 v6 : Value} (h : aH) (hlo : lo = [v0, v1, v2, v3, v4, v5, v6, .int (nI 3)]) (hR : G X 10 kX7_join 114 lo [] h R) : G X 10 kX7_join 111 lo [] h R := by
  subst hlo
  iterate 3 (refine G.st rfl rfl ?_)
  exact G.brt rfl (by decide) hR
theorem g7_j1 (X : aX) {p L : Nat} {w0 w1 w2 w3 w4 w5 : Int32} {R : Option Value → aH → Prop} (hr : mrn m = nI L) (hR : G X 10 kX7_join 58 [.ref 81, .int w0, .int w1, .int w2, .int w3, .int w4, .int (nI (p + 1)), .int w5] [] (HR c (mSrn m (nI (L + 1)))) R) : G X 10 kX7_join 114 [.ref 81, .int w0, .int w1, .int w2, .int w3, .int w4, .int (nI p), .int w5] [] (HR c m) R := by
  iterate 4 (refine G.st rfl rfl ?_)
  show G X 10 kX7_join 120 [.ref 81, .int w0, .int w1, .int w2, .int w3, .int w4, .int (nI p), .int w5] [.int 1, .int (mrn m), .ref 81] (HR c m) _
  rw [hr]
  iterate 1 (refine G.st rfl rfl ?_)
  rw [nI_1]
  iterate 2 (refine G.st rfl rfl ?_)
  rw [nI_1]
  iterate 1 (refine G.st rfl rfl ?_)
  exact hR
theorem g7_jkeep (X : aX) {a p L : Nat} {w0 w1 w2 w3 : Int32} {u7 : Value} {R : Option Value → aH → Prop} (hL : L ≤ 14) (ha : a < 4) (hp : p < 7) (hr : mrn m = nI L) (hR : G X 10 kX7_join 58 [.ref 81, .int (nI a), .int w0, .int w1, .int w2, .int w3, .int (nI (p + 1)), .int (nI 3)] [] (HR c (mSrn (mSrw m (upd (upd (upd (mrw m) (3 * L) (ms m (pl a p))) (3 * L + 1) (ms m (pl a p + 1))) (3 * L + 2) (ms m (pl a p + 2)))) (nI (L + 1)))) R) : G X 10 kX7_join 71 [.ref 81, .int (nI a), .int w0, .int w1, .int w2, .int w3, .int (nI p), u7] [] (HR c m) R := by
  iterate 2 (refine G.st rfl rfl ?_)
  show G X 10 kX7_join 74 [.ref 81, .int (nI a), .int w0, .int w1, .int w2, .int w3, .int (nI p), .int (nI 0)] [] (HR c (mSrw m (mrw m))) _
  refine g7_jcell X (q := 0) (L := L) (by omega) hL ha hp hr ?_
  iterate 1 (refine G.st rfl rfl ?_)
  refine g7_jcell X (q := 1) (L := L) (by omega) hL ha hp hr ?_
  iterate 1 (refine G.st rfl rfl ?_)
  refine g7_jcell X (q := 2) (L := L) (by omega) hL ha hp hr ?_
  refine g7_j0 X _ rfl ?_
  exact g7_j1 X (m := mSrw m (upd (upd (upd (mrw m) (3 * L) (ms m (pl a p))) (3 * L + 1) (ms m (pl a p + 1))) (3 * L + 2) (ms m (pl a p + 2)))) hr hR
theorem l7_jrow (X : aX) {a : Nat} {w0 w1 w2 w3 : Int32} {Q : Option Value → aH → Prop} (hS : SOk s) (ha : a < 4) : ∀ (k p : Nat) (m1 : sM) (F : List Gar) (u7 : Value), p + k = (zL s a).length → MR n m1 s → mrn m1 = nI F.length → RW m1 F → F.length + k ≤ 14 → (∀ (m2 : sM) (x : Int32) (u : Value), MR n m2 s → mrn m2 = nI (F ++ (zL s a).drop p).length → RW m2 (F ++ (zL s a).drop p) → G X 10 kX7_join 130 [.ref 81, .int (nI a), .int w0, .int w1, .int w2, .int w3, .int x, u] [] (HR c m2) Q) → G X 10 kX7_join 58 [.ref 81, .int (nI a), .int w0, .int w1, .int w2, .int w3, .int (nI p), u7] [] (HR c m1) Q := by
  have h7 := hS.len ha
  intro k
  induction k with
  | zero =>
    intro p m1 F u7 hp hM hrn hrw hF hq
    iterate 6 (refine G.st rfl rfl ?_)
    refine G.iald rfl rfl (ix0 (show a < 110 by omega) (by omega)) ?_
    rw [hM.len ha]
    refine G.brt rfl (by rw [nI_leI (by omega) (by omega)]; omega) ?_
    have e : F ++ (zL s a).drop p = F := by rw [List.drop_of_length_le (by omega), List.append_nil]
    rw [e] at hq
    exact hq m1 (nI p) u7 hM hrn hrw
  | succ k ih =>
    intro p m1 F u7 hp hM hrn hrw hF hq
    obtain ⟨g1, g2, g3⟩ := hM.gar ha (show p < (zL s a).length by omega)
    iterate 6 (refine G.st rfl rfl ?_)
    refine G.iald rfl rfl (ix0 (show a < 110 by omega) (by omega)) ?_
    rw [hM.len ha]
    refine G.brf rfl (by rw [nI_leI (by omega) (by omega)]; omega) ?_
    refine g7_jkeep X (L := F.length) (by omega) ha (by omega) hrn ?_
    have e : F ++ (zL s a).drop p = (F ++ [gD (zL s a) p]) ++ (zL s a).drop (p + 1) := by
      rw [List.drop_eq_getElem_cons (show p < (zL s a).length by omega), gD_at (by omega), List.append_assoc]
      rfl
    rw [e] at hq
    rw [g1, g2, g3]
    refine ih (p + 1) _ (F ++ [gD (zL s a) p]) _ (by omega) hM ?_ ?_ (by rw [List.length_append, List.length_singleton]; omega) hq
    · rw [List.length_append, List.length_singleton]
    · exact RW.app (x := (gD (zL s a) p).1) (y := (gD (zL s a) p).2.1) (z := (gD (zL s a) p).2.2) hrw
def jst (w : Int32) (a b : List Gar) : Nat → Nat × Int32
  | 0 => (0, -10000)
  | j + 1 => joinN w a b j
theorem jst_s (w : Int32) (a b : List Gar) (j : Nat) : jst w a b (j + 1) = if wlst w (a ++ b.drop j) ≤ (jst w a b j).2 then jst w a b j else (j, wlst w (a ++ b.drop j)) := by
  cases j with
  | zero =>
    rw [if_neg]
    · show joinN w a b 0 = _
      rw [List.drop_zero]
      rfl
    · have := (wlst_9 w (a ++ b.drop 0)).1
      intro q
      have q2 : wlst w (a ++ b.drop 0) ≤ -10000 := q
      grind
  | succ j => rfl
theorem gKs_join {g g2 : List Gar} {j : Nat} (h : gKs g) (h2 : gKs g2) : gKs (g ++ g2.drop j) := by
  intro y hy
  rcases List.mem_append.mp hy with h1 | h1
  · exact h y h1
  · exact h2 y (List.mem_of_mem_drop h1)
theorem l7_join (X : aX) {a b : Nat} (hS : SOk s) (ha : a < 4) (hb : b < 4) : ∀ (k j : Nat) (m : sM) (u6 u7 : Value), j + k = (zL s a).length + 1 → MR n m s → G X 10 kX7_join 36 [.ref 81, .int (nI a), .int (nI b), .int (nI (jst (zW s) (zL s b) (zL s a) j).1), .int (jst (zW s) (zL s b) (zL s a) j).2, .int (nI j), u6, u7] [] (HR c m) (MP c n (nI (joinN (zW s) (zL s b) (zL s a) (zL s a).length).1, s)) := by
  have h7 := hS.len ha
  have h8 := hS.len hb
  intro k
  induction k with
  | zero =>
    intro j m u6 u7 hj hM
    iterate 6 (refine G.st rfl rfl ?_)
    refine G.iald rfl rfl (ix0 (show a < 110 by omega) (by omega)) ?_
    rw [hM.len ha]
    refine G.brt rfl (by rw [nI_ltI (by omega) (by omega)]; omega) ?_
    iterate 1 (refine G.st rfl rfl ?_)
    obtain rfl : j = (zL s a).length + 1 := by omega
    exact G.ret rfl rfl ⟨rfl, m, rfl, hM⟩
  | succ k ih =>
    intro j m u6 u7 hj hM
    iterate 6 (refine G.st rfl rfl ?_)
    refine G.iald rfl rfl (ix0 (show a < 110 by omega) (by omega)) ?_
    rw [hM.len ha]
    refine G.brf rfl (by rw [nI_ltI (by omega) (by omega)]; omega) ?_
    iterate 2 (refine G.st rfl rfl ?_)
    refine G.call rfl rfl (Nat.le_of_ble_eq_true rfl) (Sp.up (s7_lays X hS hM hb) (Nat.le_of_ble_eq_true rfl)) ?_
    rintro _ _ ⟨rfl, m', rfl, hra, hrw, hrn⟩
    iterate 2 (refine G.st rfl rfl ?_)
    refine l7_jrow X hS ha ((zL s a).length - j) j m' (zL s b) u7 (by omega) (hra.MR hM) hrn hrw (by omega) ?_
    intro m2 x u hM2 hrn2 hrw2
    have hlen : (zL s b ++ (zL s a).drop j).length ≤ 15 := by rw [List.length_append, List.length_drop]; omega
    iterate 1 (refine G.st rfl rfl ?_)
    refine G.call rfl rfl (Nat.le_of_ble_eq_true rfl) (Sp.up (s7_worthAside X hM2 hrw2 hrn2 (gKs_join (hS.gk hb) (hS.gk ha)) hlen) (Nat.le_of_ble_eq_true rfl)) ?_
    rintro _ _ ⟨rfl, rfl⟩
    have := ih (j + 1) m2 (.int (wlst (zW s) (zL s b ++ (zL s a).drop j))) u (by omega) hM2
    rw [jst_s] at this
    iterate 3 (refine G.st rfl rfl ?_)
    by_cases hc : wlst (zW s) (zL s b ++ (zL s a).drop j) ≤ (jst (zW s) (zL s b) (zL s a) j).2
    · rw [if_pos hc] at this
      refine G.brt rfl hc ?_
      iterate 4 (refine G.st rfl rfl ?_)
      refine G.brt rfl hc ?_
      iterate 3 (refine G.st rfl rfl ?_)
      rw [nI_1]
      iterate 1 (refine G.st rfl rfl ?_)
      exact this
    · rw [if_neg hc] at this
      refine G.brf rfl hc ?_
      iterate 5 (refine G.st rfl rfl ?_)
      refine G.brf rfl hc ?_
      iterate 4 (refine G.st rfl rfl ?_)
      rw [nI_1]
      iterate 1 (refine G.st rfl rfl ?_)
      exact this
theorem p7_join (X : aX) (a b : Int32) (hS : SOk s) (hM : MR n m s) : Sp X 10 kX7_join [.ref 81, .int a, .int b] (HR c m) (MP c n (S_join s a b)) := by
  unfold Sp S_join
  show G X 10 kX7_join 0 [.ref 81, .int a, .int b, .double 0, .double 0, .double 0, .double 0, .double 0] [] _ _
  have bad : G X 10 kX7_join 19 [.ref 81, .int a, .int b, .double 0, .double 0, .double 0, .double 0, .double 0] [] (HR c m) (MP c n (fin 0 s)) := by
    iterate 2 (refine G.st rfl rfl ?_)
    refine G.call rfl rfl (Nat.le_of_ble_eq_true rfl) (Sp.up (c7_f0 X hM) (Nat.le_of_ble_eq_true rfl)) ?_
    rintro _ _ ⟨rfl, hci⟩
    exact G.ret rfl rfl ⟨rfl, hci⟩
  iterate 1 (refine G.st rfl rfl ?_)
  refine G.call rfl rfl (Nat.le_of_ble_eq_true rfl) (Sp.up (s7_isLine X a _) (Nat.le_of_ble_eq_true rfl)) ?_
  rintro _ _ ⟨rfl, rfl⟩
  by_cases hl : 0 ≤ a ∧ a ≤ 3
  case neg =>
    rw [if_neg (fun q => hl q.1)]
    exact G.brt rfl (bI_0.mpr hl) bad
  refine G.brf rfl (bI_n hl) ?_
  iterate 1 (refine G.st rfl rfl ?_)
  refine G.call rfl rfl (Nat.le_of_ble_eq_true rfl) (Sp.up (s7_isLine X b _) (Nat.le_of_ble_eq_true rfl)) ?_
  rintro _ _ ⟨rfl, rfl⟩
  by_cases hm : 0 ≤ b ∧ b ≤ 3
  case neg =>
    rw [if_neg (fun q => hm q.2.1)]
    exact G.brt rfl (bI_0.mpr hm) bad
  refine G.brf rfl (bI_n hm) ?_
  iterate 2 (refine G.st rfl rfl ?_)
  by_cases he : a = b
  · rw [if_neg (fun q => q.2.2 he)]
    exact G.brt rfl he bad
  rw [if_pos ⟨hl, hm, he⟩]
  refine G.brf rfl he ?_
  obtain ⟨l, hl4, rfl⟩ := lok_n hl
  obtain ⟨l2, hl42, rfl⟩ := lok_n hm
  rw [ln_nI (by omega), ln_nI (by omega)]
  iterate 6 (refine G.st rfl rfl ?_)
  exact l7_join X hS hl4 hl42 ((zL s l).length + 1) 0 m (.double 0) (.double 0) (by omega) hM
end RJOIN
