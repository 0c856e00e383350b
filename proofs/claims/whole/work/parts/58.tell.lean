/-! ===== the text: all of it ===== -/
noncomputable def itS (t : List Int32) (k n : Nat) (r : PR Twn) : Nat ⊕ (Nat × Twn) := match r with
  | .inl p => .inl p
  | .inr q => if q.2.2.2 = 0 then .inr (n, q.1) else if q.2.2.2 = 3 then itemsT t k (n + 1) (tok t q.2.2.1) q.1 else .inl q.2.1
theorem itemsT_s (t : List Int32) (k n : Nat) (tk : Tk) (d : Twn) : itemsT t (k + 1) n tk d = itS t k n (itemT t tk d) := rfl
section TELL
variable {rw : Nat → sR} {nu : Nat → Nat → Int32} {wd : Nat → Int32 × Int32} {vo : sV} {od : sO} {sh : Nat → sS} {fi : Nat → Int32} {ik : Int32} {m : sM} {t : List Int32} {tp : sP} {tk : Tk} {d : Twn} {s : Sg}
def TP (rw : Nat → sR) (nu : Nat → Nat → Int32) (wd : Nat → Int32 × Int32) (vo : sV) (od : sO) (sh : Nat → sS) (fi : Nat → Int32) (ik : Int32) (m : sM) (t : List Int32) (r : Nat ⊕ (Nat × Twn)) : Option Value → aH → Prop := fun v h' => ∃ rw' nu' wd' tp', h' = H rw' nu' wd' vo od tp' sh fi ik m ∧ FR rw nu wd rw' nu' wd' ∧ TpR tp' t ∧ (match r with
  | .inl p => v = some (.int (-1 - nI p)) ∧ p ≤ 120
  | .inr q => v = some (.int (nI q.1)) ∧ q.1 ≤ 121 ∧ CT rw' (nu' 2) (wd' 2) 8 q.2)
theorem l3_tell (X : aX) : ∀ (k n : Nat) (rw : Nat → sR) (nu : Nat → Nat → Int32) (wd : Nat → Int32 × Int32) (tp : sP) (tk : Tk) (d : Twn) (u3 : Value), n + k = 121 → TK tp t tk → CT rw (nu 2) (wd 2) 8 d → G X 9 kX3_tell 11 [.ref 69, .ref 39, .int (nI n), u3] [] (H rw nu wd vo od tp sh fi ik m) (TP rw nu wd vo od sh fi ik m t (itemsT t k n tk d))
  | 0, n, rw, nu, wd, tp, tk, d, u3, hn, hT, hD => by
    obtain ⟨o1, o2, o3⟩ := hT.ok
    iterate 2 (refine G.st rfl rfl ?_)
    refine G.brt rfl (by show nI 120 < nI n; rw [nI_ltI (by omega) (by omega)]; omega) ?_
    iterate 4 (refine G.st rfl rfl ?_)
    refine G.ret rfl rfl ⟨rw, nu, wd, tp, rfl, FR.refl _ _ _, hT.1, ?_⟩
    refine ⟨?_, by omega⟩
    show some (Value.int (-1 - pst tp)) = _
    rw [hT.2.2.1]
  | k + 1, n, rw, nu, wd, tp, tk, d, u3, hn, hT, hD => by
    have after : ∀ (r : PR Twn) (v : Option Value) (rw1 : Nat → sR) (nu1 : Nat → Nat → Int32) (wd1 : Nat → Int32 × Int32) (tp1 : sP), FR rw nu wd rw1 nu1 wd1 → PP t r v tp1 (fun d' => CT rw1 (nu1 2) (wd1 2) 8 d') → ∃ b, v = some (.int b) ∧ G X 9 kX3_tell 88 [.ref 69, .ref 39, .int (nI n), .int b] [] (H rw1 nu1 wd1 vo od tp1 sh fi ik m) (TP rw nu wd vo od sh fi ik m t (itS t k n r)) := by
      intro r v rw1 nu1 wd1 tp1 hF hp
      cases r with
      | inl p =>
        obtain ⟨rfl, tkf, hf, rfl⟩ := hp
        obtain ⟨o1, o2, o3⟩ := hf.ok
        refine ⟨0, rfl, ?_⟩
        iterate 1 (refine G.st rfl rfl ?_)
        refine G.brt rfl rfl ?_
        iterate 1 (refine G.st rfl rfl ?_)
        refine G.brt rfl rfl ?_
        iterate 4 (refine G.st rfl rfl ?_)
        refine G.ret rfl rfl ⟨rw1, nu1, wd1, tp1, rfl, hF, hf.1, ?_, by omega⟩
        show some (Value.int (-1 - pst tp1)) = _
        rw [hf.2.2.1]
      | inr q =>
        obtain ⟨rfl, hT1, hD1⟩ := hp
        obtain ⟨o1, o2, o3⟩ := hT1.ok
        refine ⟨1, rfl, ?_⟩
        have hso := hT1.2.2.2.2
        iterate 1 (refine G.st rfl rfl ?_)
        refine G.brf rfl (by decide) ?_
        iterate 2 (refine G.st rfl rfl ?_)
        show G X 9 kX3_tell 96 [.ref 69, .ref 39, .int (nI n), .int 1] [.int (pso tp1)] (H rw1 nu1 wd1 vo od tp1 sh fi ik m) _
        rw [hso]
        show G X 9 kX3_tell 96 [.ref 69, .ref 39, .int (nI n), .int 1] [.int q.2.2.2] (H rw1 nu1 wd1 vo od tp1 sh fi ik m) (TP rw nu wd vo od sh fi ik m t (if q.2.2.2 = 0 then .inr (n, q.1) else if q.2.2.2 = 3 then itemsT t k (n + 1) (tok t q.2.2.1) q.1 else .inl q.2.1))
        by_cases h0 : q.2.2.2 = 0
        · rw [if_pos h0]
          refine G.brt rfl h0 ?_
          iterate 1 (refine G.st rfl rfl ?_)
          exact G.ret rfl rfl ⟨rw1, nu1, wd1, tp1, rfl, hF, hT1.1, rfl, by omega, hD1⟩
        rw [if_neg h0]
        refine G.brf rfl h0 ?_
        iterate 1 (refine G.st rfl rfl ?_)
        refine G.brf rfl (by decide) ?_
        iterate 3 (refine G.st rfl rfl ?_)
        show G X 9 kX3_tell 110 [.ref 69, .ref 39, .int (nI n), .int 1] [.int 3, .int (pso tp1)] (H rw1 nu1 wd1 vo od tp1 sh fi ik m) _
        rw [hso]
        by_cases h3 : q.2.2.2 = 3
        · rw [if_pos h3]
          refine G.brt rfl h3 ?_
          iterate 1 (refine G.st rfl rfl ?_)
          refine G.call rfl rfl (Nat.le_of_ble_eq_true rfl) (Sp.up (s3_stepT X hT1) (Nat.le_of_ble_eq_true rfl)) ?_
          rintro _ _ ⟨rfl, tp2, rfl, hT2, -⟩
          iterate 1 (refine G.st rfl rfl ?_)
          rw [nI_1]
          iterate 1 (refine G.st rfl rfl ?_)
          refine (l3_tell X k (n + 1) rw1 nu1 wd1 tp2 _ q.1 (.int 1) (by omega) hT2 hD1).imp ?_
          rintro v _ ⟨rw2, nu2, wd2, tp3, rfl, hF2, hR⟩
          exact ⟨rw2, nu2, wd2, tp3, rfl, hF.tr hF2, hR⟩
        · rw [if_neg h3]
          refine G.brf rfl h3 ?_
          iterate 4 (refine G.st rfl rfl ?_)
          refine G.ret rfl rfl ⟨rw1, nu1, wd1, tp1, rfl, hF, hT1.1, ?_, by omega⟩
          show some (Value.int (-1 - pst tp1)) = _
          rw [hT1.2.2.1]
    rw [itemsT_s]
    unfold itemT
    iterate 2 (refine G.st rfl rfl ?_)
    refine G.brf rfl (by show ¬ nI 120 < nI n; rw [nI_ltI (by omega) (by omega)]; omega) ?_
    iterate 4 (refine G.st rfl rfl ?_)
    show G X 9 kX3_tell 22 [.ref 69, .ref 39, .int (nI n), .int 0] [.retAddr (10 + 0), .ref 69] (H rw nu wd vo od tp sh fi ik m) _
    refine G.call rfl rfl (Nat.le_of_ble_eq_true rfl) (Sp.up (s3_isWord X (i := 0) (by omega) hT) (Nat.le_of_ble_eq_true rfl)) ?_
    rintro _ _ ⟨rfl, rfl⟩
    by_cases w0 : wB t tk 0 = true
    · rw [if_pos w0]
      refine G.brf rfl (bI_n w0) ?_
      iterate 2 (refine G.st rfl rfl ?_)
      refine G.call rfl rfl (Nat.le_of_ble_eq_true rfl) (Sp.up (s3_lineItem X hT hD) (Nat.le_of_ble_eq_true rfl)) ?_
      rintro v _ ⟨rw1, nu1, wd1, tp1, rfl, hF, hp⟩
      obtain ⟨b, rfl, hG⟩ := after _ _ rw1 nu1 wd1 tp1 hF hp
      iterate 2 (refine G.st rfl rfl ?_)
      exact hG
    rw [if_neg w0]
    refine G.brt rfl (bI_0.mpr w0) ?_
    iterate 2 (refine G.st rfl rfl ?_)
    show G X 9 kX3_tell 40 [.ref 69, .ref 39, .int (nI n), .int 0] [.retAddr (10 + 8), .ref 69] (H rw nu wd vo od tp sh fi ik m) _
    refine G.call rfl rfl (Nat.le_of_ble_eq_true rfl) (Sp.up (s3_isWord X (i := 8) (by omega) hT) (Nat.le_of_ble_eq_true rfl)) ?_
    rintro _ _ ⟨rfl, rfl⟩
    by_cases w8 : wB t tk 8 = true
    · rw [if_pos w8]
      refine G.brf rfl (bI_n w8) ?_
      iterate 2 (refine G.st rfl rfl ?_)
      refine G.call rfl rfl (Nat.le_of_ble_eq_true rfl) (Sp.up (s3_windItem X hT hD) (Nat.le_of_ble_eq_true rfl)) ?_
      rintro v _ ⟨rw1, nu1, wd1, tp1, rfl, hF, hp⟩
      obtain ⟨b, rfl, hG⟩ := after _ _ rw1 nu1 wd1 tp1 hF hp
      iterate 2 (refine G.st rfl rfl ?_)
      exact hG
    rw [if_neg w8]
    refine G.brt rfl (bI_0.mpr w8) ?_
    iterate 2 (refine G.st rfl rfl ?_)
    show G X 9 kX3_tell 58 [.ref 69, .ref 39, .int (nI n), .int 0] [.retAddr (10 + 9), .ref 69] (H rw nu wd vo od tp sh fi ik m) _
    refine G.call rfl rfl (Nat.le_of_ble_eq_true rfl) (Sp.up (s3_isWord X (i := 9) (by omega) hT) (Nat.le_of_ble_eq_true rfl)) ?_
    rintro _ _ ⟨rfl, rfl⟩
    by_cases w9 : wB t tk 9 = true
    · rw [if_pos w9]
      refine G.brf rfl (bI_n w9) ?_
      iterate 2 (refine G.st rfl rfl ?_)
      refine G.call rfl rfl (Nat.le_of_ble_eq_true rfl) (Sp.up (s3_meaningItem X hT hD) (Nat.le_of_ble_eq_true rfl)) ?_
      rintro v _ ⟨rw1, nu1, wd1, tp1, rfl, hF, hp⟩
      obtain ⟨b, rfl, hG⟩ := after _ _ rw1 nu1 wd1 tp1 hF hp
      iterate 2 (refine G.st rfl rfl ?_)
      exact hG
    rw [if_neg w9]
    refine G.brt rfl (bI_0.mpr w9) ?_
    iterate 2 (refine G.st rfl rfl ?_)
    show G X 9 kX3_tell 76 [.ref 69, .ref 39, .int (nI n), .int 0] [.retAddr (10 + 10), .ref 69] (H rw nu wd vo od tp sh fi ik m) _
    refine G.call rfl rfl (Nat.le_of_ble_eq_true rfl) (Sp.up (s3_isWord X (i := 10) (by omega) hT) (Nat.le_of_ble_eq_true rfl)) ?_
    rintro _ _ ⟨rfl, rfl⟩
    by_cases w10 : wB t tk 10 = true
    · rw [if_pos w10]
      refine G.brf rfl (bI_n w10) ?_
      iterate 2 (refine G.st rfl rfl ?_)
      refine G.call rfl rfl (Nat.le_of_ble_eq_true rfl) (Sp.up (s3_forgetItem X hT hD) (Nat.le_of_ble_eq_true rfl)) ?_
      rintro v _ ⟨rw1, nu1, wd1, tp1, rfl, hF, hp⟩
      obtain ⟨b, rfl, hG⟩ := after _ _ rw1 nu1 wd1 tp1 hF hp
      iterate 1 (refine G.st rfl rfl ?_)
      exact hG
    rw [if_neg w10]
    refine G.brt rfl (bI_0.mpr w10) ?_
    obtain ⟨b, hb, hG⟩ := after (.inl tk.1) (some (.int 0)) rw nu wd tp (FR.refl _ _ _) ⟨rfl, tk, hT, rfl⟩
    cases hb
    exact hG
theorem s3_tell (X : aX) (hT : TpR tp t) (hD : CT rw (nu 2) (wd 2) 8 d) : Sp X 9 kX3_tell [.ref 69, .ref 39] (H rw nu wd vo od tp sh fi ik m) (TP rw nu wd vo od sh fi ik m t (telT t d)) := by
  unfold Sp telT
  iterate 4 (refine G.st rfl rfl ?_)
  show G X 9 kX3_tell 6 [.ref 69, .ref 39, .double 0, .double 0] [.ref 69] (H rw nu wd vo od (pSen tp 0) sh fi ik m) _
  refine G.call rfl rfl (Nat.le_of_ble_eq_true rfl) (Sp.up (s3_step X (tp := pSen tp 0) (e := 0) (show TpR (pSen tp 0) t from hT) rfl (Nat.zero_le _)) (Nat.le_of_ble_eq_true rfl)) ?_
  rintro _ _ ⟨rfl, rfl⟩
  iterate 2 (refine G.st rfl rfl ?_)
  exact l3_tell X 120 1 rw nu wd _ _ d (.double 0) (by omega) ⟨hT, (tok_ok (Nat.zero_le _)).1, rfl, rfl, rfl⟩ hD
noncomputable def S_town (s : Sg) : Int32 × Sg := match telT (zT s) (zt s) with
  | .inl p => (-1 - nI p, zST s [])
  | .inr q => (nI q.1, (q.2.1, q.2.2.1, q.2.2.2.1, q.2.2.2.2, zK s, [], zS s, zF s))
theorem neg_p {p : Nat} (h : p ≤ 120) : -1 - nI p < 0 := by
  have h1 : 0 ≤ nI p := nI_pos' (by omega)
  have h2 : nI p ≤ 120 := by show nI p ≤ nI 120; rw [nI_leI (by omega) (by omega)]; exact h
  grind
theorem p6_town (X : aX) {h : aH} (hC : CI m s h) : Sp X 12 kX6_town [.ref 0] h (fun v h' => v = some (.int (S_town s).1) ∧ CI m (S_town s).2 h') := by
  obtain ⟨rw, nu, wd, vo, od, tp, sh, fi, ik, rfl, hC⟩ := hC
  unfold Sp S_town
  obtain ⟨⟨a1, a2, a3, a4⟩, h2, ⟨t1, ⟨t2, t3⟩, t4⟩, h4, h5⟩ := hC
  iterate 4 (refine G.st rfl rfl ?_)
  refine G.call rfl rfl (Nat.le_of_ble_eq_true rfl) (Sp.up (s4_become X 2 0 (by omega) (by omega) (by omega) (g := zL s) (fun l hl => a2 l hl)) (Nat.le_of_ble_eq_true rfl)) ?_
  rintro _ _ ⟨rfl, rw1, f, rfl, hf, hg, ho⟩
  have hT : TpR tp (zT s) := ⟨t1, t2, fun j hj => by rw [t4 j hj]; unfold bt; rw [List.getD_eq_getElem?_getD, List.getElem?_eq_getElem hj]; rfl⟩
  have hD : CT rw1 (va_up nu 2 f 2) (va_up wd 2 (wd 0) 2) 8 (zt s) := ⟨a1, fun l hl => hg l hl, by rw [va_up_s]; exact a3.eq hf, by rw [va_up_s]; exact a4⟩
  iterate 4 (refine G.st rfl rfl ?_)
  refine G.call rfl rfl (Nat.le_of_ble_eq_true rfl) (Sp.up (s3_tell X hT hD) (Nat.le_of_ble_eq_true rfl)) ?_
  rintro v _ ⟨rw2, nu2, wd2, tp2, rfl, ⟨f1, f2, f3⟩, hT2, hr⟩
  have rows : ∀ j, j < 8 → rw2 j = rw j := fun j hj => (f1 j (by omega)).trans (ho j (by omega))
  have nums : ∀ j, j < 2 → nu2 j = nu j := fun j hj => (f2 j (by omega)).trans (va_up_n (by omega))
  have wds : ∀ j, j < 2 → wd2 j = wd j := fun j hj => (f3 j (by omega)).trans (va_up_n (by omega))
  have hk2 : match zK s with | none => ik = 0 | some k => ik = 1 ∧ CT rw2 (nu2 1) (wd2 1) 4 k := by
    cases hk : zK s with
    | none => rw [hk] at h2; exact h2
    | some k =>
      rw [hk] at h2
      obtain ⟨i1, i2, i3, i4, i5⟩ := h2
      exact ⟨i1, i2, fun l hl => by rw [rows _ (by omega)]; exact i3 l hl, by rw [nums _ (by omega)]; exact i4, by rw [wds _ (by omega)]; exact i5⟩
  cases hq : telT (zT s) (zt s) with
  | inl p =>
    rw [hq] at hr
    obtain ⟨rfl, hp⟩ := hr
    iterate 6 (refine G.st rfl rfl ?_)
    refine G.brt rfl (neg_p hp) ?_
    iterate 1 (refine G.st rfl rfl ?_)
    refine G.ret rfl rfl ⟨rfl, ?_⟩
    refine CI.mk (rw := rw2) (nu := nu2) (wd := wd2) (vo := vo) (od := od) (tp := pSln tp2 0) (sh := sh) (fi := fi) (ik := ik) (m := m) ?_
    refine ⟨⟨a1, fun l hl => ?_, ?_, ?_⟩, hk2, ⟨rfl, ⟨Nat.zero_le _, fun x hx => absurd (show x ∈ ([] : List Int32) from hx) (by simp)⟩, fun j hj => absurd hj (Nat.not_lt_zero j)⟩, h4, h5⟩
    · rw [rows _ (by omega)]; exact a2 l hl
    · rw [nums _ (by omega)]; exact a3
    · rw [wds _ (by omega)]; exact a4
  | inr q =>
    rw [hq] at hr
    obtain ⟨rfl, hq1, d1, d2, d3, d4⟩ := hr
    iterate 6 (refine G.st rfl rfl ?_)
    refine G.brf rfl (nI_pos (show q.1 < 2 ^ 31 by omega)) ?_
    iterate 4 (refine G.st rfl rfl ?_)
    show G X 12 kX6_town 43 [.ref 0, .int (nI q.1)] [.ref 39, .ref 1] (H rw2 nu2 wd2 vo od (pSln tp2 0) sh fi ik m) _
    refine G.call rfl rfl (Nat.le_of_ble_eq_true rfl) (Sp.up (s4_become X 0 2 (by omega) (by omega) (by omega) (g := q.2.1) (fun l hl => d2 l hl)) (Nat.le_of_ble_eq_true rfl)) ?_
    rintro _ _ ⟨rfl, rw3, f3', rfl, hf3, hg3, ho3⟩
    iterate 1 (refine G.st rfl rfl ?_)
    refine G.ret rfl rfl ⟨rfl, ?_⟩
    refine CI.mk (rw := rw3) (nu := va_up nu2 0 f3') (wd := va_up wd2 0 (wd2 2)) (vo := vo) (od := od) (tp := pSln tp2 0) (sh := sh) (fi := fi) (ik := ik) (m := m) ?_
    refine ⟨⟨d1, fun l hl => hg3 l hl, ?_, ?_⟩, ?_, ⟨rfl, ⟨Nat.zero_le _, fun x hx => absurd (show x ∈ ([] : List Int32) from hx) (by simp)⟩, fun j hj => absurd hj (Nat.not_lt_zero j)⟩, h4, h5⟩
    · rw [va_up_s]; exact d3.eq hf3
    · rw [va_up_s]; exact d4
    · show match zK s with | none => ik = 0 | some k => ik = 1 ∧ CT rw3 (va_up nu2 0 f3' 1) (va_up wd2 0 (wd2 2) 1) 4 k
      rw [va_up_n (by decide), va_up_n (by decide)]
      cases hk : zK s with
      | none => rw [hk] at hk2; exact hk2
      | some k =>
        rw [hk] at hk2
        obtain ⟨i1, i2, i3, i4⟩ := hk2
        exact ⟨i1, i2, fun l hl => by rw [ho3 _ (by omega)]; exact i3 l hl, i4⟩
end TELL
