/-! ===== the text: the town ===== -/
noncomputable def garsT (t : List Int32) : Nat → Tk → List Gar → PR (List Gar)
  | 0, tk, g => .inr (g, tk)
  | k + 1, tk, g => match kdT t tk with
    | none => .inr (g, tk)
    | some _ => match garT t tk g with
      | .inl p => .inl p
      | .inr q => garsT t k q.2 q.1
noncomputable def lineT (t : List Int32) (tk : Tk) (d : Twn) : PR Twn := match takeN t (tok t tk.2.1) 0 3 with
  | .inl p => .inl p
  | .inr l => match garT t l.2 [] with
    | .inl p => .inl p
    | .inr q => match garsT t 7 q.2 q.1 with
      | .inl p => .inl p
      | .inr r => .inr ((va_up d.1 (ln l.1) r.1, d.2), r.2)
def windT (t : List Int32) (tk : Tk) (d : Twn) : PR Twn := match takeN t (tok t tk.2.1) 0 20 with
  | .inl p => .inl p
  | .inr q => .inr ((d.1, d.2.1, q.1, d.2.2.2), q.2)
def meanT2 (t : List Int32) (tk : Tk) (d : Twn) (mn : Int32) (b : Prop) [Decidable b] : PR Twn := match takeN t tk 0 (if b then 999 else 9999) with
  | .inl p => .inl p
  | .inr r => .inr ((d.1, va_up d.2.1 (ln mn) (some (if b then -r.1 else r.1)), d.2.2), r.2)
def meanT (t : List Int32) (tk : Tk) (d : Twn) : PR Twn := match takeN t (tok t tk.2.1) 0 9 with
  | .inl p => .inl p
  | .inr q => if q.2.2.2 = 4 then meanT2 t (tok t q.2.2.1) d q.1 True else meanT2 t q.2 d q.1 False
def forgT (t : List Int32) (tk : Tk) (d : Twn) : PR Twn := match takeN t (tok t tk.2.1) 0 9 with
  | .inl p => .inl p
  | .inr q => .inr ((d.1, va_up d.2.1 (ln q.1) none, d.2.2), q.2)
noncomputable def itemT (t : List Int32) (tk : Tk) (d : Twn) : PR Twn := if wB t tk 0 = true then lineT t tk d else if wB t tk 8 = true then windT t tk d else if wB t tk 9 = true then meanT t tk d else if wB t tk 10 = true then forgT t tk d else .inl tk.1
noncomputable def itemsT (t : List Int32) : Nat → Nat → Tk → Twn → Nat ⊕ (Nat × Twn)
  | 0, _, tk, _ => .inl tk.1
  | k + 1, n, tk, d => match itemT t tk d with
    | .inl p => .inl p
    | .inr q => if q.2.2.2 = 0 then .inr (n, q.1) else if q.2.2.2 = 3 then itemsT t k (n + 1) (tok t q.2.2.1) q.1 else .inl q.2.1
noncomputable def telT (t : List Int32) (d : Twn) : Nat ⊕ (Nat × Twn) := itemsT t 120 1 (tok t 0) d
theorem garT_K {t : List Int32} {tk : Tk} {g : List Gar} {q : List Gar × Tk} (h : garT t tk g = .inr q) (hg : gKs g) : gKs q.1 := by
  unfold garT at h
  cases hk : kdT t tk with
  | none => rw [hk] at h; cases h
  | some k =>
    rw [hk] at h
    dsimp only at h
    have hk6 := kdT_lt hk
    have hkk : K6 (nI k) := by
      rcases (show k = 0 ∨ k = 1 ∨ k = 2 ∨ k = 3 ∨ k = 4 ∨ k = 5 by omega) with rfl | rfl | rfl | rfl | rfl | rfl <;> (unfold K6; decide)
    split at h
    · cases hq : takeN t (tok t tk.2.1) 1 9 with
      | inl p => rw [hq] at h; cases h
      | inr z =>
        rw [hq] at h
        dsimp only at h
        have hz := (takeN_b hq).1
        split at h
        · cases hr : takeN t (tok t z.2.2.1) 0 9 with
          | inl p => rw [hr] at h; cases h
          | inr r =>
            rw [hr] at h
            cases h
            exact gKs_app hg ⟨hkk, hz, (takeN_b hr).1⟩
        · cases h
          exact gKs_app hg ⟨hkk, hz, (by decide : (0 : Int32) ≤ 0), (by decide : (0 : Int32) ≤ 9)⟩
    · cases h
theorem garsT_K {t : List Int32} : ∀ (k : Nat) (tk : Tk) (g : List Gar) (q : List Gar × Tk), garsT t k tk g = .inr q → gKs g → gKs q.1
  | 0, tk, g, q, h, hg => by cases h; exact hg
  | k + 1, tk, g, q, h, hg => by
    unfold garsT at h
    cases hk : kdT t tk with
    | none => rw [hk] at h; cases h; exact hg
    | some b =>
      rw [hk] at h
      dsimp only at h
      cases hr : garT t tk g with
      | inl p => rw [hr] at h; cases h
      | inr r =>
        rw [hr] at h
        exact garsT_K k r.2 r.1 q h (garT_K hr hg)
theorem rf4_row8 {l : Nat} (hl : l < 4) : rf4 42 46 50 54 l = some (rb (8 + l)) := by
  rcases (show l = 0 ∨ l = 1 ∨ l = 2 ∨ l = 3 by omega) with rfl | rfl | rfl | rfl <;> rfl
/-- nothing but the draft has changed -/
def FR (rw : Nat → sR) (nu : Nat → Nat → Int32) (wd : Nat → Int32 × Int32) (rw' : Nat → sR) (nu' : Nat → Nat → Int32) (wd' : Nat → Int32 × Int32) : Prop := (∀ j, j < 8 ∨ 12 ≤ j → rw' j = rw j) ∧ (∀ j, j ≠ 2 → nu' j = nu j) ∧ ∀ j, j ≠ 2 → wd' j = wd j
theorem FR.refl (rw : Nat → sR) (nu : Nat → Nat → Int32) (wd : Nat → Int32 × Int32) : FR rw nu wd rw nu wd := ⟨fun _ _ => rfl, fun _ _ => rfl, fun _ _ => rfl⟩
theorem FR.tr {rw rw1 rw2 : Nat → sR} {nu nu1 nu2 : Nat → Nat → Int32} {wd wd1 wd2 : Nat → Int32 × Int32} (h : FR rw nu wd rw1 nu1 wd1) (h2 : FR rw1 nu1 wd1 rw2 nu2 wd2) : FR rw nu wd rw2 nu2 wd2 := ⟨fun j hj => (h2.1 j hj).trans (h.1 j hj), fun j hj => (h2.2.1 j hj).trans (h.2.1 j hj), fun j hj => (h2.2.2 j hj).trans (h.2.2 j hj)⟩
theorem FR.row {rw : Nat → sR} {nu : Nat → Nat → Int32} {wd : Nat → Int32 × Int32} {l : Nat} (hl : l < 4) (q : sR) : FR rw nu wd (va_up rw (8 + l) q) nu wd := ⟨fun j hj => va_up_n (by omega), fun _ _ => rfl, fun _ _ => rfl⟩
section TOWN3
variable {rw : Nat → sR} {nu : Nat → Nat → Int32} {wd : Nat → Int32 × Int32} {vo : sV} {od : sO} {sh : Nat → sS} {fi : Nat → Int32} {ik : Int32} {m : sM} {t : List Int32} {tp : sP} {tk : Tk} {g : List Gar} {d : Twn}
/-- an item's end -/
abbrev IP (rw : Nat → sR) (nu : Nat → Nat → Int32) (wd : Nat → Int32 × Int32) (vo : sV) (od : sO) (sh : Nat → sS) (fi : Nat → Int32) (ik : Int32) (m : sM) (t : List Int32) (r : PR Twn) : Option Value → aH → Prop := fun v h' => ∃ rw' nu' wd' tp', h' = H rw' nu' wd' vo od tp' sh fi ik m ∧ FR rw nu wd rw' nu' wd' ∧ PP t r v tp' (fun d' => CT rw' (nu' 2) (wd' 2) 8 d')
theorem l3_lines (X : aX) {l : Nat} {u : Value} (hl : l < 4) : ∀ (k i : Nat) (rw' : Nat → sR) (tp' : sP) (tk' : Tk) (g : List Gar), i + k = 8 → TK tp' t tk' → Rep (rw' (8 + l)) g → gKs g → G X 7 kX3_lineItem 41 [.ref 69, u, .ref (rb (8 + l)), .int (nI i)] [] (H rw' nu wd vo od tp' sh fi ik m) (fun v h' => ∃ tp2 q', h' = H (va_up rw' (8 + l) q') nu wd vo od tp2 sh fi ik m ∧ PP t (garsT t k tk' g) v tp2 (fun g' => Rep q' g'))
  | 0, i, rw', tp', tk', g, hi, hT, hg, hgk => by
    iterate 2 (refine G.st rfl rfl ?_)
    refine G.brt rfl (by show nI 7 < nI i; rw [nI_ltI (by omega) (by omega)]; omega) ?_
    iterate 1 (refine G.st rfl rfl ?_)
    exact G.ret rfl rfl ⟨tp', rw' (8 + l), by rw [va_up_id], rfl, hT, hg⟩
  | k + 1, i, rw', tp', tk', g, hi, hT, hg, hgk => by
    iterate 2 (refine G.st rfl rfl ?_)
    refine G.brf rfl (by show ¬ nI 7 < nI i; rw [nI_ltI (by omega) (by omega)]; omega) ?_
    iterate 1 (refine G.st rfl rfl ?_)
    refine G.call rfl rfl (Nat.le_of_ble_eq_true rfl) (Sp.up (s3_kindTold X hT) (Nat.le_of_ble_eq_true rfl)) ?_
    rintro _ _ ⟨rfl, rfl⟩
    unfold garsT
    cases hk : kdT t tk' with
    | none =>
      refine G.brt rfl (by decide) ?_
      iterate 1 (refine G.st rfl rfl ?_)
      exact G.ret rfl rfl ⟨tp', rw' (8 + l), by rw [va_up_id], rfl, hT, hg⟩
    | some b =>
      have := kdT_lt hk
      refine G.brf rfl (nI_pos (show b < 2 ^ 31 by omega)) ?_
      dsimp only
      iterate 2 (refine G.st rfl rfl ?_)
      refine G.call rfl rfl (Nat.le_of_ble_eq_true rfl) (Sp.up (s3_garment X (show 8 + l < 13 by omega) hT hg) (Nat.le_of_ble_eq_true rfl)) ?_
      rintro _ _ ⟨tp2, q', rfl, hp⟩
      cases hr : garT t tk' g with
      | inl p =>
        rw [hr] at hp
        obtain ⟨rfl, tkf, hf, rfl⟩ := hp
        refine G.brt rfl rfl ?_
        iterate 1 (refine G.st rfl rfl ?_)
        exact G.ret rfl rfl ⟨tp2, q', rfl, rfl, tkf, hf, rfl⟩
      | inr r =>
        rw [hr] at hp
        obtain ⟨rfl, hT2, hg2⟩ := hp
        refine G.brf rfl (by decide) ?_
        iterate 1 (refine G.st rfl rfl ?_)
        rw [nI_1]
        iterate 1 (refine G.st rfl rfl ?_)
        refine (l3_lines X hl k (i + 1) (va_up rw' (8 + l) q') tp2 r.2 r.1 (by omega) hT2 (by rw [va_up_s]; exact hg2) (garT_K hr hgk)).imp ?_
        rintro v _ ⟨tp3, q3, rfl, hp3⟩
        exact ⟨tp3, q3, by rw [va_up_up], hp3⟩
theorem CT.row8 {l : Nat} (h : CT rw (nu 2) (wd 2) 8 d) (hl : l < 4) {q : sR} {g : List Gar} (hq : Rep q g) (hg : gKs g) : CT (va_up rw (8 + l) q) (nu 2) (wd 2) 8 (va_up d.1 l g, d.2) := by
  obtain ⟨⟨a1, a2, a3⟩, b1, b2⟩ := h
  refine ⟨⟨fun k hk => ?_, a2, a3⟩, fun k hk => ?_, b2⟩
  · show gKs (va_up d.1 l g k) ∧ (va_up d.1 l g k).length ≤ 7
    by_cases e : k = l
    · subst e
      rw [va_up_s]
      exact ⟨hg, hq.2.1⟩
    · rw [va_up_n e]
      exact a1 k hk
  · show Rep (va_up rw (8 + l) q (8 + k)) (va_up d.1 l g k)
    by_cases e : k = l
    · subst e
      rw [va_up_s, va_up_s]
      exact hq
    · rw [va_up_n e, va_up_n (by omega)]
      exact b1 k hk
theorem s3_lineItem (X : aX) (hT : TK tp t tk) (hD : CT rw (nu 2) (wd 2) 8 d) : Sp X 8 kX3_lineItem [.ref 69, .ref 39] (H rw nu wd vo od tp sh fi ik m) (IP rw nu wd vo od sh fi ik m t (lineT t tk d)) := by
  unfold Sp lineT
  iterate 1 (refine G.st rfl rfl ?_)
  refine G.call rfl rfl (Nat.le_of_ble_eq_true rfl) (Sp.up (s3_stepT X hT) (Nat.le_of_ble_eq_true rfl)) ?_
  rintro _ _ ⟨rfl, tp1, rfl, hT1, -⟩
  iterate 3 (refine G.st rfl rfl ?_)
  refine G.call rfl rfl (Nat.le_of_ble_eq_true rfl) (Sp.up (s3_takeNumber X (lo := 0) (hi := 3) (by decide) hT1) (Nat.le_of_ble_eq_true rfl)) ?_
  rintro _ _ ⟨tp2, rfl, hp⟩
  cases hq : takeN t (tok t tk.2.1) 0 3 with
  | inl p =>
    rw [hq] at hp
    obtain ⟨rfl, tkf, hf, rfl⟩ := hp
    refine G.brt rfl rfl ?_
    iterate 1 (refine G.st rfl rfl ?_)
    exact G.ret rfl rfl ⟨rw, nu, wd, tp2, rfl, FR.refl _ _ _, rfl, tkf, hf, rfl⟩
  | inr x =>
    rw [hq] at hp
    obtain ⟨rfl, hT2, htl⟩ := hp
    obtain ⟨l, hl4, hl⟩ := lok_n (takeN_b hq).1
    refine G.brf rfl (by decide) ?_
    iterate 4 (refine G.st rfl rfl ?_)
    show G X 8 kX3_lineItem 23 [.ref 69, .ref 39, .double 0, .double 0] [.int (ptl tp2), .ref 40] (H rw nu wd vo od tp2 sh fi ik m) _
    rw [htl, hl]
    refine G.aald rfl rfl (by decide) (ix_nI hl4 (by omega)) (rf4_row8 hl4) ?_
    dsimp only
    rw [show ln x.1 = l by rw [hl, ln_nI (by omega)]]
    iterate 2 (refine G.st rfl rfl ?_)
    have hrow := H_row (rw := rw) (nu := nu) (wd := wd) (vo := vo) (od := od) (tp := tp2) (sh := sh) (fi := fi) (ik := ik) (m := m) (show 8 + l < 13 by omega)
    refine G.callv rfl rfl rfl (hrow.1) (Nat.le_of_ble_eq_true rfl) rfl (Nat.le_of_ble_eq_true rfl) (Sp.up (s1_clear X hrow) (Nat.le_of_ble_eq_true rfl)) ?_
    rintro _ _ ⟨rfl, rfl⟩
    rw [H_rset (show 8 + l < 13 by omega)]
    show G X 8 kX3_lineItem 29 [.ref 69, .ref 39, .ref (rb (8 + l)), .double 0] [] _ _
    generalize hrw1 : va_up rw (8 + l) ((rw (8 + l)).1, (rw (8 + l)).2.1, (rw (8 + l)).2.2.1, 0) = rw1
    have hg1 : Rep (rw1 (8 + l)) [] := by rw [← hrw1, va_up_s]; exact Rep.clear
    have hF1 : FR rw nu wd rw1 nu wd := by rw [← hrw1]; exact FR.row hl4 _
    have hgk0 : gKs [] := fun y hy => by cases hy
    have hD1 : ∀ q2 g2, Rep q2 g2 → gKs g2 → CT (va_up rw1 (8 + l) q2) (nu 2) (wd 2) 8 (va_up d.1 l g2, d.2) := by
      intro q2 g2 h1 h2
      rw [← hrw1, va_up_up]
      exact hD.row8 hl4 h1 h2
    iterate 2 (refine G.st rfl rfl ?_)
    refine G.call rfl rfl (Nat.le_of_ble_eq_true rfl) (Sp.up (s3_garment X (show 8 + l < 13 by omega) hT2 hg1) (Nat.le_of_ble_eq_true rfl)) ?_
    rintro _ _ ⟨tp3, q', rfl, hp⟩
    cases hr : garT t x.2 [] with
    | inl p =>
      rw [hr] at hp
      obtain ⟨rfl, tkf, hf, rfl⟩ := hp
      refine G.brt rfl rfl ?_
      iterate 1 (refine G.st rfl rfl ?_)
      exact G.ret rfl rfl ⟨_, nu, wd, tp3, rfl, hF1.tr (FR.row hl4 _), rfl, tkf, hf, rfl⟩
    | inr r =>
      rw [hr] at hp
      obtain ⟨rfl, hT3, hg3⟩ := hp
      refine G.brf rfl (by decide) ?_
      iterate 2 (refine G.st rfl rfl ?_)
      refine (G.up (l3_lines X hl4 7 1 (va_up rw1 (8 + l) q') tp3 r.2 r.1 (by omega) hT3 (by rw [va_up_s]; exact hg3) (garT_K hr hgk0)) (by omega)).imp ?_
      rintro v _ ⟨tp4, q4, rfl, hp4⟩
      rw [va_up_up]
      refine ⟨_, nu, wd, tp4, rfl, hF1.tr (FR.row hl4 _), ?_⟩
      dsimp only
      cases hs : garsT t 7 r.2 r.1 with
      | inl p =>
        rw [hs] at hp4
        exact hp4
      | inr y =>
        rw [hs] at hp4
        obtain ⟨e1, e2, e3⟩ := hp4
        exact ⟨e1, e2, hD1 _ _ e3 (garsT_K 7 _ _ _ hs (garT_K hr hgk0))⟩
theorem s3_windItem (X : aX) (hT : TK tp t tk) (hD : CT rw (nu 2) (wd 2) 8 d) : Sp X 8 kX3_windItem [.ref 69, .ref 39] (H rw nu wd vo od tp sh fi ik m) (IP rw nu wd vo od sh fi ik m t (windT t tk d)) := by
  unfold Sp windT
  iterate 1 (refine G.st rfl rfl ?_)
  refine G.call rfl rfl (Nat.le_of_ble_eq_true rfl) (Sp.up (s3_stepT X hT) (Nat.le_of_ble_eq_true rfl)) ?_
  rintro _ _ ⟨rfl, tp1, rfl, hT1, -⟩
  iterate 3 (refine G.st rfl rfl ?_)
  refine G.call rfl rfl (Nat.le_of_ble_eq_true rfl) (Sp.up (s3_takeNumber X (lo := 0) (hi := 20) (by decide) hT1) (Nat.le_of_ble_eq_true rfl)) ?_
  rintro _ _ ⟨tp2, rfl, hp⟩
  cases hq : takeN t (tok t tk.2.1) 0 20 with
  | inl p =>
    rw [hq] at hp
    obtain ⟨rfl, tkf, hf, rfl⟩ := hp
    refine G.brt rfl rfl ?_
    iterate 1 (refine G.st rfl rfl ?_)
    exact G.ret rfl rfl ⟨rw, nu, wd, tp2, rfl, FR.refl _ _ _, rfl, tkf, hf, rfl⟩
  | inr x =>
    rw [hq] at hp
    obtain ⟨rfl, hT2, htl⟩ := hp
    refine G.brf rfl (by decide) ?_
    iterate 5 (refine G.st rfl rfl ?_)
    refine G.ret rfl rfl ⟨rw, nu, va_up wd 2 (ptl tp2, (wd 2).2), tp2, rfl, ⟨fun _ _ => rfl, fun _ _ => rfl, fun j hj => va_up_n hj⟩, rfl, hT2, ?_⟩
    obtain ⟨⟨a1, a2, a3, a4⟩, b1, b2, b3⟩ := hD
    refine ⟨⟨a1, a2, (takeN_b hq).1, a4⟩, b1, b2, ?_⟩
    rw [va_up_s, htl, b3]
theorem CT.numb8 {nu2 : Nat → Int32} {wd2 : Int32 × Int32} (h : CT rw nu2 wd2 8 d) {j : Nat} (hj : j < 10) (o : Option Int32) (ho : ∀ x, o = some x → -999 ≤ x ∧ x ≤ 9999) : CT rw (upd nu2 j (o.getD (-1000))) wd2 8 (d.1, va_up d.2.1 j o, d.2.2) := by
  obtain ⟨⟨a1, a2, a3⟩, b1, b2, b3⟩ := h
  refine ⟨⟨a1, fun k x hk hx => ?_, a3⟩, b1, fun k hk => ?_, b3⟩
  · by_cases e : k = j
    · subst e
      have : va_up d.2.1 k o k = some x := hx
      rw [va_up_s] at this
      exact ho x this
    · have : va_up d.2.1 j o k = some x := hx
      rw [va_up_n e] at this
      exact a2 k x hk this
  · show upd nu2 j (o.getD (-1000)) k = (va_up d.2.1 j o k).getD (-1000) ∧ ∀ x, va_up d.2.1 j o k = some x → -999 ≤ x ∧ x ≤ 9999
    rw [upd_if]
    by_cases e : k = j
    · subst e
      rw [if_pos rfl, va_up_s]
      exact ⟨rfl, ho⟩
    · rw [if_neg e, va_up_n e]
      exact b2 k hk
theorem s3_forgetItem (X : aX) (hT : TK tp t tk) (hD : CT rw (nu 2) (wd 2) 8 d) : Sp X 8 kX3_forgetItem [.ref 69, .ref 39] (H rw nu wd vo od tp sh fi ik m) (IP rw nu wd vo od sh fi ik m t (forgT t tk d)) := by
  unfold Sp forgT
  iterate 1 (refine G.st rfl rfl ?_)
  refine G.call rfl rfl (Nat.le_of_ble_eq_true rfl) (Sp.up (s3_stepT X hT) (Nat.le_of_ble_eq_true rfl)) ?_
  rintro _ _ ⟨rfl, tp1, rfl, hT1, -⟩
  iterate 3 (refine G.st rfl rfl ?_)
  refine G.call rfl rfl (Nat.le_of_ble_eq_true rfl) (Sp.up (s3_takeNumber X (lo := 0) (hi := 9) (by decide) hT1) (Nat.le_of_ble_eq_true rfl)) ?_
  rintro _ _ ⟨tp2, rfl, hp⟩
  cases hq : takeN t (tok t tk.2.1) 0 9 with
  | inl p =>
    rw [hq] at hp
    obtain ⟨rfl, tkf, hf, rfl⟩ := hp
    refine G.brt rfl rfl ?_
    iterate 1 (refine G.st rfl rfl ?_)
    exact G.ret rfl rfl ⟨rw, nu, wd, tp2, rfl, FR.refl _ _ _, rfl, tkf, hf, rfl⟩
  | inr x =>
    rw [hq] at hp
    obtain ⟨rfl, hT2, htl⟩ := hp
    obtain ⟨b, hb, hbe⟩ := mok_n (takeN_b hq).1
    refine G.brf rfl (by decide) ?_
    iterate 5 (refine G.st rfl rfl ?_)
    show G X 8 kX3_forgetItem 27 [.ref 69, .ref 39] [.int (-1000), .int (ptl tp2), .ref 41] (H rw nu wd vo od tp2 sh fi ik m) _
    rw [htl, hbe]
    refine G.iast rfl rfl (ix_nI hb (by omega)) ?_
    iterate 1 (refine G.st rfl rfl ?_)
    dsimp only
    rw [show ln x.1 = b by rw [hbe, ln_nI (by omega)]]
    refine G.ret rfl rfl ⟨rw, va_up nu 2 (upd (nu 2) b (-1000)), wd, tp2, rfl, ⟨fun _ _ => rfl, fun j hj => va_up_n hj, fun _ _ => rfl⟩, rfl, hT2, ?_⟩
    rw [va_up_s]
    exact hD.numb8 hb none (fun x hx => by cases hx)
theorem g3_meanY (X : aX) {mn : Int32} {b : Nat} (hb : b < 10) (hmn : mn = nI b) (hT : TK tp t tk) (hD : CT rw (nu 2) (wd 2) 8 d) : G X 8 kX3_meaningItem 43 [.ref 69, .ref 39, .int mn, .int 1] [] (H rw nu wd vo od tp sh fi ik m) (IP rw nu wd vo od sh fi ik m t (meanT2 t tk d mn True)) := by
  subst hmn
  unfold meanT2
  rw [if_pos trivial]
  iterate 3 (refine G.st rfl rfl ?_)
  refine G.brf rfl (by decide) ?_
  iterate 2 (refine G.st rfl rfl ?_)
  refine G.call rfl rfl (Nat.le_of_ble_eq_true rfl) (Sp.up (s3_takeNumber X (lo := 0) (hi := 999) (by decide) hT) (Nat.le_of_ble_eq_true rfl)) ?_
  rintro _ _ ⟨tp2, rfl, hp⟩
  cases hq : takeN t tk 0 999 with
  | inl p =>
    rw [hq] at hp
    obtain ⟨rfl, tkf, hf, rfl⟩ := hp
    refine G.brt rfl rfl ?_
    iterate 1 (refine G.st rfl rfl ?_)
    exact G.ret rfl rfl ⟨rw, nu, wd, tp2, rfl, FR.refl _ _ _, rfl, tkf, hf, rfl⟩
  | inr x =>
    rw [hq] at hp
    obtain ⟨rfl, hT2, htl⟩ := hp
    have hx := (takeN_b hq).1
    refine G.brf rfl (by decide) ?_
    iterate 4 (refine G.st rfl rfl ?_)
    refine G.brf rfl (by decide) ?_
    iterate 4 (refine G.st rfl rfl ?_)
    show G X 8 kX3_meaningItem 87 [.ref 69, .ref 39, .int (nI b), .int 1] [.int (-ptl tp2), .int (nI b), .ref 41] (H rw nu wd vo od tp2 sh fi ik m) _
    rw [htl]
    refine G.iast rfl rfl (ix_nI hb (by omega)) ?_
    iterate 1 (refine G.st rfl rfl ?_)
    dsimp only
    rw [ln_nI (by omega), if_pos trivial]
    refine G.ret rfl rfl ⟨rw, va_up nu 2 (upd (nu 2) b (-x.1)), wd, tp2, rfl, ⟨fun _ _ => rfl, fun j hj => va_up_n hj, fun _ _ => rfl⟩, rfl, hT2, ?_⟩
    rw [va_up_s]
    exact hD.numb8 hb (some (-x.1)) (fun y hy => by cases hy; grind)
theorem g3_meanN (X : aX) {mn : Int32} {b : Nat} (hb : b < 10) (hmn : mn = nI b) (hT : TK tp t tk) (hD : CT rw (nu 2) (wd 2) 8 d) : G X 8 kX3_meaningItem 43 [.ref 69, .ref 39, .int mn, .int 0] [] (H rw nu wd vo od tp sh fi ik m) (IP rw nu wd vo od sh fi ik m t (meanT2 t tk d mn False)) := by
  subst hmn
  unfold meanT2
  rw [if_neg not_false]
  iterate 3 (refine G.st rfl rfl ?_)
  refine G.brt rfl rfl ?_
  iterate 1 (refine G.st rfl rfl ?_)
  refine G.call rfl rfl (Nat.le_of_ble_eq_true rfl) (Sp.up (s3_takeNumber X (lo := 0) (hi := 9999) (by decide) hT) (Nat.le_of_ble_eq_true rfl)) ?_
  rintro _ _ ⟨tp2, rfl, hp⟩
  cases hq : takeN t tk 0 9999 with
  | inl p =>
    rw [hq] at hp
    obtain ⟨rfl, tkf, hf, rfl⟩ := hp
    refine G.brt rfl rfl ?_
    iterate 1 (refine G.st rfl rfl ?_)
    exact G.ret rfl rfl ⟨rw, nu, wd, tp2, rfl, FR.refl _ _ _, rfl, tkf, hf, rfl⟩
  | inr x =>
    rw [hq] at hp
    obtain ⟨rfl, hT2, htl⟩ := hp
    have hx := (takeN_b hq).1
    refine G.brf rfl (by decide) ?_
    iterate 4 (refine G.st rfl rfl ?_)
    refine G.brt rfl rfl ?_
    iterate 2 (refine G.st rfl rfl ?_)
    show G X 8 kX3_meaningItem 87 [.ref 69, .ref 39, .int (nI b), .int 0] [.int (ptl tp2), .int (nI b), .ref 41] (H rw nu wd vo od tp2 sh fi ik m) _
    rw [htl]
    refine G.iast rfl rfl (ix_nI hb (by omega)) ?_
    iterate 1 (refine G.st rfl rfl ?_)
    dsimp only
    rw [ln_nI (by omega), if_neg not_false]
    refine G.ret rfl rfl ⟨rw, va_up nu 2 (upd (nu 2) b (x.1)), wd, tp2, rfl, ⟨fun _ _ => rfl, fun j hj => va_up_n hj, fun _ _ => rfl⟩, rfl, hT2, ?_⟩
    rw [va_up_s]
    exact hD.numb8 hb (some (x.1)) (fun y hy => by cases hy; grind)
theorem s3_meaningItem (X : aX) (hT : TK tp t tk) (hD : CT rw (nu 2) (wd 2) 8 d) : Sp X 8 kX3_meaningItem [.ref 69, .ref 39] (H rw nu wd vo od tp sh fi ik m) (IP rw nu wd vo od sh fi ik m t (meanT t tk d)) := by
  unfold Sp meanT
  iterate 1 (refine G.st rfl rfl ?_)
  refine G.call rfl rfl (Nat.le_of_ble_eq_true rfl) (Sp.up (s3_stepT X hT) (Nat.le_of_ble_eq_true rfl)) ?_
  rintro _ _ ⟨rfl, tp1, rfl, hT1, -⟩
  iterate 3 (refine G.st rfl rfl ?_)
  refine G.call rfl rfl (Nat.le_of_ble_eq_true rfl) (Sp.up (s3_takeNumber X (lo := 0) (hi := 9) (by decide) hT1) (Nat.le_of_ble_eq_true rfl)) ?_
  rintro _ _ ⟨tp2, rfl, hp⟩
  cases hq : takeN t (tok t tk.2.1) 0 9 with
  | inl p =>
    rw [hq] at hp
    obtain ⟨rfl, tkf, hf, rfl⟩ := hp
    refine G.brt rfl rfl ?_
    iterate 1 (refine G.st rfl rfl ?_)
    exact G.ret rfl rfl ⟨rw, nu, wd, tp2, rfl, FR.refl _ _ _, rfl, tkf, hf, rfl⟩
  | inr x =>
    rw [hq] at hp
    obtain ⟨rfl, hT2, htl⟩ := hp
    obtain ⟨b, hb, hbe⟩ := mok_n (takeN_b hq).1
    refine G.brf rfl (by decide) ?_
    iterate 2 (refine G.st rfl rfl ?_)
    show G X 8 kX3_meaningItem 20 [.ref 69, .ref 39, .double 0, .double 0] [.int (ptl tp2)] (H rw nu wd vo od tp2 sh fi ik m) _
    rw [htl]
    iterate 4 (refine G.st rfl rfl ?_)
    show G X 8 kX3_meaningItem 26 [.ref 69, .ref 39, .int x.1, .double 0] [.int 4, .int (pso tp2)] (H rw nu wd vo od tp2 sh fi ik m) _
    rw [hT2.2.2.2.2]
    dsimp only
    by_cases h4 : x.2.2.2 = 4
    · refine G.brt rfl h4 ?_
      rw [if_pos h4]
      iterate 4 (refine G.st rfl rfl ?_)
      refine G.brf rfl (by decide) ?_
      iterate 1 (refine G.st rfl rfl ?_)
      refine G.call rfl rfl (Nat.le_of_ble_eq_true rfl) (Sp.up (s3_stepT X hT2) (Nat.le_of_ble_eq_true rfl)) ?_
      rintro _ _ ⟨rfl, tp3, rfl, hT3, -⟩
      exact g3_meanY X hb hbe hT3 hD
    · refine G.brf rfl h4 ?_
      rw [if_neg h4]
      iterate 3 (refine G.st rfl rfl ?_)
      refine G.brt rfl rfl ?_
      exact g3_meanN X hb hbe hT2 hD
end TOWN3
