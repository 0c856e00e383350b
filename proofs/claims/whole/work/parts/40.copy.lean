section COPY
variable {rw : Nat → sR} {nu : Nat → Nat → Int32} {wd : Nat → Int32 × Int32} {vo : sV} {od : sO} {tp : sP} {sh : Nat → sS} {fi : Nat → Int32} {ik : Int32} {m : sM} {s : Sg}
theorem G.cpL {X : aX} {d : Nat} {mi : aM} {pc : Nat} {lo : List Value} {h h' : aH} {Q : Option Value → aH → Prop} {i nx b : Nat} {v : Value} {x0 x1 : Nat} {sp dp n : Int32} {r : List Value} (he : ent mi pc = some (.invokestatic i, nx, 901, b, v)) (h8 : (r.map Value.category).sum ≤ 8) (hc : cpy h x0 sp x1 dp n = some h') (k : G X d mi nx lo r h' Q) : G X d mi pc lo (.int n :: .int dp :: .ref x1 :: .int sp :: .ref x0 :: r) h Q := by
  refine G.go ?_ k
  simp only [sA, he, stp, hc, if_pos h8, if_pos]
theorem cpy_L {h : aH} {x0 x1 n0 n1 a b n : Nat} {f g : Nat → Int64} (h0 : h[x0]? = some (.inr (.inr (.inl (n0, f))))) (h1 : h[x1]? = some (.inr (.inr (.inl (n1, g))))) (ha : a + n ≤ n0) (hb : b + n ≤ n1) (hn0 : n0 < 2 ^ 30) (hn1 : n1 < 2 ^ 30) : cpy h x0 (nI a) x1 (nI b) (nI n) = some (h.set x1 (.inr (.inr (.inl (n1, va_cpy f g a b n))))) := by
  unfold cpy
  have e : ∀ k, k < 2 ^ 30 → ¬ nI k < 0 := fun k hk => Int32.not_lt.mpr (nI_pos' (by omega))
  rw [if_neg (fun q => by rcases q with q | q | q; exact e a (by omega) q; exact e b (by omega) q; exact e n (by omega) q), h0, h1]
  simp only [nI_clamp (show a < 2 ^ 31 by omega), nI_clamp (show b < 2 ^ 31 by omega), nI_clamp (show n < 2 ^ 31 by omega)]
  rw [if_pos ⟨ha, hb⟩]
/-- n numbers of one list, from p on, to another, from q on -/
def cpyL (f g : List Int64) (p q n : Nat) : List Int64 := (List.range g.length).map (fun j => if q ≤ j ∧ j < q + n then f.getD (p + (j - q)) 0 else g.getD j 0)
abbrev rngOk (q : Int32 × List Int64) (p n : Int32) : Prop := 0 ≤ p ∧ 0 ≤ n ∧ n ≤ nI q.2.length ∧ p ≤ nI q.2.length - n
theorem rng_n {len : Nat} {p n : Int32} (hl : len ≤ 40) (h : 0 ≤ p ∧ 0 ≤ n ∧ n ≤ nI len ∧ p ≤ nI len - n) : ∃ a b, p = nI a ∧ n = nI b ∧ a + b ≤ len := by
  obtain ⟨h1, h2, h3, h4⟩ := h
  obtain ⟨b, hb, rfl⟩ := nI_arg (k := len) rfl (by omega) h2 h3
  have e : nI len - nI b = nI (len - b) := by
    have := nI_add (a := len - b) (b := b)
    rw [show len - b + b = len by omega] at this
    rw [← this]
    grind
  rw [e] at h4
  obtain ⟨a, ha, rfl⟩ := nI_arg (k := len - b) rfl (by omega) h1 h4
  exact ⟨a, b, rfl, rfl, by omega⟩
def S_copy (s : Sg) (a p b q n : Int32) : Int32 × Sg := if (0 ≤ a ∧ a ≤ 3) ∧ 0 ≤ b ∧ b ≤ 3 then (if (zS s (ln a)).1 = 0 ∨ (zS s (ln b)).1 = 0 then fin 5 s else if (zS s (ln a)).1 = (zS s (ln b)).1 then (if rngOk (zS s (ln a)) p n ∧ rngOk (zS s (ln b)) q n then (n, zSS s (va_up (zS s) (ln b) ((zS s (ln b)).1, cpyL (zS s (ln a)).2 (zS s (ln b)).2 (ln p) (ln q) (ln n)))) else fin 0 s) else fin 2 s) else fin 0 s
theorem p6_copy (X : aX) (a p b q n : Int32) {h : aH} (hC : CI m s h) : Sp X 10 kX6_copy [.ref 0, .int a, .int p, .int b, .int q, .int n] h (fun v h' => v = some (.int (S_copy s a p b q n).1) ∧ CI m (S_copy s a p b q n).2 h') := by
  obtain ⟨rw, nu, wd, vo, od, tp, sh, fi, ik, rfl, hC⟩ := hC
  unfold Sp S_copy
  have bad : G X 10 kX6_copy 14 (eL kX6_copy [.ref 0, .int a, .int p, .int b, .int q, .int n]) [] (H rw nu wd vo od tp sh fi ik m) (fun v h' => v = some (.int (fin 0 s).1) ∧ CI m (fin 0 s).2 h') := by
    iterate 2 (refine G.st rfl rfl ?_)
    refine G.call rfl rfl (Nat.le_of_ble_eq_true rfl) (Sp.up (c6_f0 X hC) (Nat.le_of_ble_eq_true rfl)) ?_
    rintro _ _ ⟨rfl, hci⟩
    exact G.ret rfl rfl ⟨rfl, hci⟩
  iterate 1 (refine G.st rfl rfl ?_)
  refine G.call rfl rfl (Nat.le_of_ble_eq_true rfl) (Sp.up (s6_isSheet X a _) (Nat.le_of_ble_eq_true rfl)) ?_
  rintro _ _ ⟨rfl, rfl⟩
  by_cases hl : 0 ≤ a ∧ a ≤ 3
  case neg =>
    rw [if_neg (fun q => hl q.1)]
    exact G.brt rfl (bI_0.mpr hl) bad
  refine G.brf rfl (bI_n hl) ?_
  iterate 1 (refine G.st rfl rfl ?_)
  refine G.call rfl rfl (Nat.le_of_ble_eq_true rfl) (Sp.up (s6_isSheet X b _) (Nat.le_of_ble_eq_true rfl)) ?_
  rintro _ _ ⟨rfl, rfl⟩
  by_cases hm : 0 ≤ b ∧ b ≤ 3
  case neg =>
    rw [if_neg (fun q => hm q.2)]
    exact G.brt rfl (bI_0.mpr hm) bad
  refine G.brf rfl (bI_n hm) ?_
  rw [if_pos ⟨hl, hm⟩]
  obtain ⟨c, hc4, rfl⟩ := lok_n hl
  obtain ⟨e, he4, rfl⟩ := lok_n hm
  rw [ln_nI (by omega), ln_nI (by omega)]
  obtain ⟨⟨o1, o2, o3⟩, ⟨c1, c2, c3⟩⟩ := hC.shk hc4
  obtain ⟨⟨r1, r2, r3⟩, ⟨d1, d2, d3⟩⟩ := hC.shk he4
  iterate 3 (refine G.st rfl rfl ?_)
  refine G.aald rfl rfl (by decide) (ix_nI hc4 (by omega)) (rf4_sh hc4) ?_
  iterate 4 (refine G.st rfl rfl ?_)
  refine G.aald rfl rfl (by decide) (ix_nI he4 (by omega)) (rf4_sh he4) ?_
  iterate 1 (refine G.st rfl rfl ?_)
  show G X 10 kX6_copy 37 [.ref 0, .int (nI c), .int p, .int (nI e), .int q, .int n, .ref (sb c), .ref (sb e)] [] _ _
  have miss : G X 10 kX6_copy 53 [.ref 0, .int (nI c), .int p, .int (nI e), .int q, .int n, .ref (sb c), .ref (sb e)] [] (H rw nu wd vo od tp sh fi ik m) (fun v h' => v = some (.int (fin 5 s).1) ∧ CI m (fin 5 s).2 h') := by
    iterate 2 (refine G.st rfl rfl ?_)
    refine G.call rfl rfl (Nat.le_of_ble_eq_true rfl) (Sp.up (c6_f5 X hC) (Nat.le_of_ble_eq_true rfl)) ?_
    rintro _ _ ⟨rfl, hci⟩
    exact G.ret rfl rfl ⟨rfl, hci⟩
  have out : G X 10 kX6_copy 104 [.ref 0, .int (nI c), .int p, .int (nI e), .int q, .int n, .ref (sb c), .ref (sb e)] [] (H rw nu wd vo od tp sh fi ik m) (fun v h' => v = some (.int (fin 0 s).1) ∧ CI m (fin 0 s).2 h') := by
    iterate 2 (refine G.st rfl rfl ?_)
    refine G.call rfl rfl (Nat.le_of_ble_eq_true rfl) (Sp.up (c6_f0 X hC) (Nat.le_of_ble_eq_true rfl)) ?_
    rintro _ _ ⟨rfl, hci⟩
    exact G.ret rfl rfl ⟨rfl, hci⟩
  iterate 1 (refine G.st rfl rfl ?_)
  refine G.get rfl (H_sh hc4).1 rfl ?_
  rw [c1]
  by_cases z1 : (zS s c).1 = 0
  · rw [if_pos (Or.inl z1)]
    exact G.brt rfl z1 miss
  refine G.brf rfl z1 ?_
  iterate 1 (refine G.st rfl rfl ?_)
  refine G.get rfl (H_sh he4).1 rfl ?_
  rw [d1]
  by_cases z2 : (zS s e).1 = 0
  · rw [if_pos (Or.inr z2)]
    exact G.brt rfl z2 miss
  refine G.brf rfl z2 ?_
  rw [if_neg (fun q => q.elim z1 z2)]
  iterate 1 (refine G.st rfl rfl ?_)
  refine G.get rfl (H_sh hc4).1 rfl ?_
  iterate 1 (refine G.st rfl rfl ?_)
  refine G.get rfl (H_sh he4).1 rfl ?_
  rw [c1, d1]
  by_cases z3 : (zS s c).1 = (zS s e).1
  case neg =>
    rw [if_neg z3]
    refine G.brf rfl z3 ?_
    iterate 2 (refine G.st rfl rfl ?_)
    refine G.call rfl rfl (Nat.le_of_ble_eq_true rfl) (Sp.up (c6_f2 X hC) (Nat.le_of_ble_eq_true rfl)) ?_
    rintro _ _ ⟨rfl, hci⟩
    exact G.ret rfl rfl ⟨rfl, hci⟩
  rw [if_pos z3]
  refine G.brt rfl z3 ?_
  have h1 := H_sh (rw := rw) (nu := nu) (wd := wd) (vo := vo) (od := od) (tp := tp) (sh := sh) (fi := fi) (ik := ik) (m := m) hc4
  have h2 := H_sh (rw := rw) (nu := nu) (wd := wd) (vo := vo) (od := od) (tp := tp) (sh := sh) (fi := fi) (ik := ik) (m := m) he4
  iterate 3 (refine G.st rfl rfl ?_)
  refine G.callv rfl rfl rfl (h1.1) (Nat.le_of_ble_eq_true rfl) rfl (Nat.le_of_ble_eq_true rfl) (Sp.up (s2_hasRange X h1) (Nat.le_of_ble_eq_true rfl)) ?_
  rintro _ _ ⟨rfl, rfl⟩
  rw [c2]
  by_cases k1 : rngOk (zS s c) p n
  case neg =>
    rw [if_neg (fun q => k1 q.1)]
    exact G.brt rfl (bI_0.mpr k1) out
  refine G.brf rfl (bI_n k1) ?_
  iterate 3 (refine G.st rfl rfl ?_)
  refine G.callv rfl rfl rfl (h2.1) (Nat.le_of_ble_eq_true rfl) rfl (Nat.le_of_ble_eq_true rfl) (Sp.up (s2_hasRange X h2) (Nat.le_of_ble_eq_true rfl)) ?_
  rintro _ _ ⟨rfl, rfl⟩
  rw [d2]
  by_cases k2 : rngOk (zS s e) q n
  case neg =>
    rw [if_neg (fun q => k2 q.2)]
    exact G.brt rfl (bI_0.mpr k2) out
  refine G.brf rfl (bI_n k2) ?_
  rw [if_pos ⟨k1, k2⟩]
  obtain ⟨pa, nb, rfl, rfl, hpn⟩ := rng_n o1 k1
  obtain ⟨qa, nb', rfl, hnb, hqn⟩ := rng_n r1 k2
  have hnb2 : nb = nb' := by
    have := congrArg ln hnb
    rw [ln_nI (by omega), ln_nI (by omega)] at this
    exact this
  subst hnb2
  rw [ln_nI (by omega), ln_nI (by omega), ln_nI (by omega)]
  iterate 1 (refine G.st rfl rfl ?_)
  refine G.get rfl h1.1 rfl ?_
  iterate 2 (refine G.st rfl rfl ?_)
  refine G.get rfl h2.1 rfl ?_
  iterate 2 (refine G.st rfl rfl ?_)
  refine G.cpL rfl (Nat.le_of_ble_eq_true rfl) (cpy_L h1.2 h2.2 (a := pa) (b := qa) (n := nb) (by omega) (by omega) (by omega) (by omega)) ?_
  rw [show (H rw nu wd vo od tp sh fi ik m).set (sb e + 1) (.inr (.inr (.inl (40, va_cpy (sh c).1 (sh e).1 pa qa nb)))) = _ from sset_c h2 _, H_sset he4]
  iterate 1 (refine G.st rfl rfl ?_)
  have el : (cpyL (zS s c).2 (zS s e).2 pa qa nb).length = (zS s e).2.length := by
    unfold cpyL
    rw [List.length_map, List.length_range]
  refine G.ret rfl rfl ⟨rfl, CI.mk (hC.sset he4 ⟨?_, r2, fun q => absurd q z2⟩ ⟨d1, ?_, fun j hj => ?_⟩)⟩
  · show (cpyL (zS s c).2 (zS s e).2 pa qa nb).length ≤ 40
    rw [el]
    exact r1
  · show (sh e).2.2 = (cpyL (zS s c).2 (zS s e).2 pa qa nb).length
    rw [el]
    exact d2
  · have hj2 : j < (zS s e).2.length := by rw [← el]; exact hj
    show va_cpy (sh c).1 (sh e).1 pa qa nb j = (cpyL (zS s c).2 (zS s e).2 pa qa nb)[j]'(by rw [el]; exact hj2)
    simp only [cpyL, List.getElem_map, List.getElem_range, va_cpy]
    by_cases hr : qa ≤ j ∧ j < qa + nb
    · rw [if_pos hr, if_pos hr, c3 _ (by omega), List.getD_eq_getElem?_getD, List.getElem?_eq_getElem (by omega)]
      rfl
    · rw [if_neg hr, if_neg hr, d3 j hj2, List.getD_eq_getElem?_getD, List.getElem?_eq_getElem hj2]
      rfl
end COPY
