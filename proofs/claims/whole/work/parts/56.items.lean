/-! ===== the text: items ===== -/
abbrev PR (α : Type) : Type := Nat ⊕ (α × Tk)
def takeN (t : List Int32) (tk : Tk) (lo hi : Int32) : PR Int32 := if tk.2.2 = 2 ∧ lo ≤ numV t tk ∧ numV t tk ≤ hi then .inr (numV t tk, tok t tk.2.1) else .inl tk.1
noncomputable def garT (t : List Int32) (tk : Tk) (g : List Gar) : PR (List Gar) := match kdT t tk with
  | none => .inl tk.1
  | some k => if g.length < 7 then (match takeN t (tok t tk.2.1) 1 9 with
    | .inl p => .inl p
    | .inr q => if wB t q.2 7 = true then (match takeN t (tok t q.2.2.1) 0 9 with
        | .inl p => .inl p
        | .inr r => .inr (g ++ [(nI k, q.1, r.1)], r.2))
      else .inr (g ++ [(nI k, q.1, 0)], q.2)) else .inl tk.1
/-- a part's end: it couldn't stand, or it stood -/
def PP {α : Type} (t : List Int32) (r : PR α) (v : Option Value) (tp' : sP) (ok : α → Prop) : Prop := match r with
  | .inl p => v = some (.int 0) ∧ ∃ tkf, TK tp' t tkf ∧ tkf.1 = p
  | .inr q => v = some (.int 1) ∧ TK tp' t q.2 ∧ ok q.1
theorem takeN_b {t : List Int32} {tk : Tk} {lo hi : Int32} {q : Int32 × Tk} (h : takeN t tk lo hi = .inr q) : (lo ≤ q.1 ∧ q.1 ≤ hi) ∧ q.2 = tok t tk.2.1 := by
  unfold takeN at h
  split at h
  · rename_i hc
    cases h
    exact ⟨hc.2, rfl⟩
  · cases h
theorem kdT_lt {t : List Int32} {tk : Tk} {k : Nat} (h : kdT t tk = some k) : k < 6 := by
  unfold kdT at h
  repeat' split at h
  all_goals first | (cases h; omega) | cases h
theorem TK.ok {tp : sP} {t : List Int32} {tk : Tk} (h : TK tp t tk) : tk.1 ≤ tk.2.1 ∧ tk.2.1 ≤ t.length ∧ t.length ≤ 120 := ⟨h.2.1.1, h.2.1.2, h.1.2.1⟩
section ITEMS
variable {rw : Nat → sR} {nu : Nat → Nat → Int32} {wd : Nat → Int32 × Int32} {vo : sV} {od : sO} {sh : Nat → sS} {fi : Nat → Int32} {ik : Int32} {m : sM} {t : List Int32} {tp : sP} {tk : Tk} {g : List Gar} {d : Twn}
theorem s3_stepT (X : aX) (hT : TK tp t tk) : Sp X 1 kX3_step [.ref 69] (H rw nu wd vo od tp sh fi ik m) (fun v h' => v = none ∧ ∃ tp', h' = H rw nu wd vo od tp' sh fi ik m ∧ TK tp' t (tok t tk.2.1) ∧ ptl tp' = ptl tp) := by
  obtain ⟨h1, ⟨h2, h3⟩, h4, h5, h6⟩ := hT
  refine (s3_step X h1 h5 h3).imp ?_
  rintro _ _ ⟨rfl, rfl⟩
  exact ⟨rfl, _, rfl, ⟨h1, (tok_ok h3).1, rfl, rfl, rfl⟩, rfl⟩
theorem s3_takeNumber (X : aX) {lo hi : Int32} (hlo : 0 ≤ lo) (hT : TK tp t tk) : Sp X 3 kX3_takeNumber [.ref 69, .int lo, .int hi] (H rw nu wd vo od tp sh fi ik m) (fun v h' => ∃ tp', h' = H rw nu wd vo od tp' sh fi ik m ∧ PP t (takeN t tk lo hi) v tp' (fun x => ptl tp' = x)) := by
  unfold Sp takeN
  obtain ⟨⟨t1, t2, t3⟩, ⟨o1, o2⟩, e1, e2, e3⟩ := id hT
  have fail : ∀ x : Int32, ¬ (lo ≤ x ∧ x ≤ hi) → G X 3 kX3_takeNumber 16 [.ref 69, .int lo, .int hi, .double 0] [.int x] (H rw nu wd vo od tp sh fi ik m) (fun v h' => ∃ tp', h' = H rw nu wd vo od tp' sh fi ik m ∧ PP t (.inl tk.1) v tp' (fun x => ptl tp' = x)) := by
    intro x hx
    iterate 4 (refine G.st rfl rfl ?_)
    refine G.call rfl rfl (Nat.le_of_ble_eq_true rfl) (Sp.up (s6_isWithin X x lo hi _) (Nat.le_of_ble_eq_true rfl)) ?_
    rintro _ _ ⟨rfl, rfl⟩
    refine G.brt rfl (bI_0.mpr hx) ?_
    iterate 1 (refine G.st rfl rfl ?_)
    exact G.ret rfl rfl ⟨tp, rfl, rfl, tk, hT, rfl⟩
  iterate 3 (refine G.st rfl rfl ?_)
  show G X 3 kX3_takeNumber 5 [.ref 69, .int lo, .int hi, .double 0] [.int 2, .int (pso tp)] (H rw nu wd vo od tp sh fi ik m) _
  rw [e3]
  by_cases h2 : tk.2.2 = 2
  case neg =>
    rw [if_neg (fun q => h2 q.1)]
    refine G.brf rfl h2 ?_
    iterate 1 (refine G.st rfl rfl ?_)
    exact fail (-1) (fun q => absurd (Int32.le_trans hlo q.1) (by decide))
  refine G.brt rfl h2 ?_
  iterate 1 (refine G.st rfl rfl ?_)
  refine G.call rfl rfl (Nat.le_of_ble_eq_true rfl) (Sp.up (s3_numberHere X hT) (Nat.le_of_ble_eq_true rfl)) ?_
  rintro _ _ ⟨rfl, rfl⟩
  iterate 1 (refine G.st rfl rfl ?_)
  by_cases hx : lo ≤ numV t tk ∧ numV t tk ≤ hi
  case neg =>
    rw [if_neg (fun q => hx q.2)]
    exact fail _ hx
  rw [if_pos ⟨h2, hx⟩]
  iterate 4 (refine G.st rfl rfl ?_)
  refine G.call rfl rfl (Nat.le_of_ble_eq_true rfl) (Sp.up (s6_isWithin X (numV t tk) lo hi _) (Nat.le_of_ble_eq_true rfl)) ?_
  rintro _ _ ⟨rfl, rfl⟩
  refine G.brf rfl (bI_n hx) ?_
  iterate 4 (refine G.st rfl rfl ?_)
  show G X 3 kX3_takeNumber 34 [.ref 69, .int lo, .int hi, .int (numV t tk)] [.ref 69] (H rw nu wd vo od (pStl tp (numV t tk)) sh fi ik m) _
  refine G.call rfl rfl (Nat.le_of_ble_eq_true rfl) (Sp.up (s3_stepT X (tp := pStl tp (numV t tk)) (show TK (pStl tp (numV t tk)) t tk from hT)) (Nat.le_of_ble_eq_true rfl)) ?_
  rintro _ _ ⟨rfl, tp', rfl, hT', ht'⟩
  iterate 1 (refine G.st rfl rfl ?_)
  exact G.ret rfl rfl ⟨tp', rfl, rfl, hT', ht'⟩
theorem s3_garment (X : aX) {i : Nat} (hi : i < 13) (hT : TK tp t tk) (hg : Rep (rw i) g) : Sp X 6 kX3_garment [.ref 69, .ref (rb i)] (H rw nu wd vo od tp sh fi ik m) (fun v h' => ∃ tp' q', h' = H (va_up rw i q') nu wd vo od tp' sh fi ik m ∧ PP t (garT t tk g) v tp' (fun g' => Rep q' g')) := by
  unfold Sp garT
  have h7 := hg.2.1
  have fail : ∀ (tp' : sP) (tkf : Tk), TK tp' t tkf → ∃ tp2 q', H rw nu wd vo od tp' sh fi ik m = H (va_up rw i q') nu wd vo od tp2 sh fi ik m ∧ PP t (.inl tkf.1) (some (.int 0)) tp2 (fun g' => Rep q' g') := fun tp' tkf h => ⟨tp', rw i, by rw [va_up_id], rfl, tkf, h, rfl⟩
  iterate 1 (refine G.st rfl rfl ?_)
  refine G.call rfl rfl (Nat.le_of_ble_eq_true rfl) (Sp.up (s3_kindTold X hT) (Nat.le_of_ble_eq_true rfl)) ?_
  rintro _ _ ⟨rfl, rfl⟩
  iterate 2 (refine G.st rfl rfl ?_)
  show G X 6 kX3_garment 6 [.ref 69, .ref (rb i), .int (rdI (kdT t tk)), .double 0, .double 0] [.int (rdI (kdT t tk))] _ _
  cases hk : kdT t tk with
  | none =>
    refine G.brt rfl (by decide) ?_
    iterate 1 (refine G.st rfl rfl ?_)
    exact G.ret rfl rfl (fail tp tk hT)
  | some k =>
    have hk6 := kdT_lt hk
    refine G.brf rfl (nI_pos (show k < 2 ^ 31 by omega)) ?_
    iterate 1 (refine G.st rfl rfl ?_)
    refine G.get rfl (H_row hi).1 rfl ?_
    rw [hg.1]
    iterate 1 (refine G.st rfl rfl ?_)
    by_cases hl : g.length < 7
    case neg =>
      refine G.brf rfl (by show ¬ nI g.length < nI 7; rw [nI_ltI (by omega) (by omega)]; exact hl) ?_
      iterate 1 (refine G.st rfl rfl ?_)
      refine G.ret rfl rfl ?_
      dsimp only
      rw [if_neg hl]
      exact fail tp tk hT
    refine G.brt rfl (by show nI g.length < nI 7; rw [nI_ltI (by omega) (by omega)]; exact hl) ?_
    dsimp only
    rw [if_pos hl]
    iterate 1 (refine G.st rfl rfl ?_)
    refine G.call rfl rfl (Nat.le_of_ble_eq_true rfl) (Sp.up (s3_stepT X hT) (Nat.le_of_ble_eq_true rfl)) ?_
    rintro _ _ ⟨rfl, tp1, rfl, hT1, -⟩
    iterate 3 (refine G.st rfl rfl ?_)
    refine G.call rfl rfl (Nat.le_of_ble_eq_true rfl) (Sp.up (s3_takeNumber X (lo := 1) (hi := 9) (by decide) hT1) (Nat.le_of_ble_eq_true rfl)) ?_
    rintro _ _ ⟨tp2, rfl, hp⟩
    cases hq : takeN t (tok t tk.2.1) 1 9 with
    | inl p =>
      rw [hq] at hp
      obtain ⟨rfl, tkf, hf, rfl⟩ := hp
      refine G.brt rfl rfl ?_
      iterate 1 (refine G.st rfl rfl ?_)
      exact G.ret rfl rfl (fail tp2 tkf hf)
    | inr q =>
      rw [hq] at hp
      obtain ⟨rfl, hT2, htl⟩ := hp
      refine G.brf rfl (by decide) ?_
      iterate 2 (refine G.st rfl rfl ?_)
      show G X 6 kX3_garment 40 [.ref 69, .ref (rb i), .int (nI k), .double 0, .double 0] [.int (ptl tp2)] (H rw nu wd vo od tp2 sh fi ik m) _
      rw [htl]
      iterate 5 (refine G.st rfl rfl ?_)
      show G X 6 kX3_garment 47 [.ref 69, .ref (rb i), .int (nI k), .int q.1, .int 0] [.retAddr (10 + 7), .ref 69] (H rw nu wd vo od tp2 sh fi ik m) _
      refine G.call rfl rfl (Nat.le_of_ble_eq_true rfl) (Sp.up (s3_isWord X (i := 7) (by omega) hT2) (Nat.le_of_ble_eq_true rfl)) ?_
      rintro _ _ ⟨rfl, rfl⟩
      have add : ∀ (tp3 : sP) (w : Int32) (tk3 : Tk), TK tp3 t tk3 → G X 6 kX3_garment 75 [.ref 69, .ref (rb i), .int (nI k), .int q.1, .int w] [] (H rw nu wd vo od tp3 sh fi ik m) (fun v h' => ∃ tp' q', h' = H (va_up rw i q') nu wd vo od tp' sh fi ik m ∧ PP t (.inr (g ++ [(nI k, q.1, w)], tk3)) v tp' (fun g' => Rep q' g')) := by
        intro tp3 w tk3 hT3
        iterate 4 (refine G.st rfl rfl ?_)
        have hrow := H_row (rw := rw) (nu := nu) (wd := wd) (vo := vo) (od := od) (tp := tp3) (sh := sh) (fi := fi) (ik := ik) (m := m) hi
        refine G.callv rfl rfl rfl (hrow.1) (Nat.le_of_ble_eq_true rfl) rfl (Nat.le_of_ble_eq_true rfl) (Sp.up (s1_add X hrow hg hl) (Nat.le_of_ble_eq_true rfl)) ?_
        rintro _ _ ⟨rfl, q', rfl, hq'⟩
        rw [H_rset hi]
        iterate 1 (refine G.st rfl rfl ?_)
        exact G.ret rfl rfl ⟨tp3, q', rfl, rfl, hT3, hq'⟩
      by_cases hw : wB t q.2 7 = true
      · refine G.brf rfl (bI_n hw) ?_
        dsimp only
        rw [if_pos hw]
        iterate 1 (refine G.st rfl rfl ?_)
        refine G.call rfl rfl (Nat.le_of_ble_eq_true rfl) (Sp.up (s3_stepT X hT2) (Nat.le_of_ble_eq_true rfl)) ?_
        rintro _ _ ⟨rfl, tp3, rfl, hT3, -⟩
        iterate 3 (refine G.st rfl rfl ?_)
        refine G.call rfl rfl (Nat.le_of_ble_eq_true rfl) (Sp.up (s3_takeNumber X (lo := 0) (hi := 9) (by decide) hT3) (Nat.le_of_ble_eq_true rfl)) ?_
        rintro _ _ ⟨tp4, rfl, hp⟩
        cases hr : takeN t (tok t q.2.2.1) 0 9 with
        | inl p =>
          rw [hr] at hp
          obtain ⟨rfl, tkf, hf, rfl⟩ := hp
          refine G.brt rfl rfl ?_
          iterate 1 (refine G.st rfl rfl ?_)
          exact G.ret rfl rfl (fail tp4 tkf hf)
        | inr r =>
          rw [hr] at hp
          obtain ⟨rfl, hT4, htl4⟩ := hp
          refine G.brf rfl (by decide) ?_
          iterate 2 (refine G.st rfl rfl ?_)
          show G X 6 kX3_garment 73 [.ref 69, .ref (rb i), .int (nI k), .int q.1, .int 0] [.int (ptl tp4)] (H rw nu wd vo od tp4 sh fi ik m) _
          rw [htl4]
          iterate 1 (refine G.st rfl rfl ?_)
          exact add tp4 r.1 r.2 hT4
      · refine G.brt rfl (bI_0.mpr hw) ?_
        dsimp only
        rw [if_neg hw]
        exact add tp2 0 q.2 hT2
end ITEMS
