/-! ===== the reference: an item of the text ===== -/
/-- a token that was read from the token's start on -/
def Fr (t : List Int32) (tk q : Tk) : Prop := ∃ e, q = tok t e ∧ tk.1 ≤ e ∧ e ≤ t.length
theorem Fr.ok {t : List Int32} {tk q : Tk} (h : Fr t tk q) : TkOk t q ∧ tk.1 ≤ q.1 ∧ (q.2.2 ≠ 0 → q.1 < q.2.1) := by
  obtain ⟨e, rfl, h1, h2⟩ := h
  obtain ⟨a, b, d⟩ := tok_ok h2
  exact ⟨a, Nat.le_trans h1 b, d⟩
theorem Fr.tr {t : List Int32} {tk q r : Tk} (h : Fr t tk q) (h2 : Fr t q r) : Fr t tk r := by
  have h1 := h.ok.2.1
  obtain ⟨e, he, h3, h4⟩ := h2
  exact ⟨e, he, Nat.le_trans h1 h3, h4⟩
theorem Fr.nx {t : List Int32} {tk : Tk} (h : TkOk t tk) : Fr t tk (tok t tk.2.1) := ⟨_, rfl, h.1, h.2⟩
theorem takeN_F {t : List Int32} {tk : Tk} {lo hi : Int32} {q : Int32 × Tk} (h : takeN t tk lo hi = .inr q) (hk : TkOk t tk) : Fr t tk q.2 := by
  rw [(takeN_b h).2]
  exact Fr.nx hk
theorem garT_F {t : List Int32} {tk : Tk} {g : List Gar} {q : List Gar × Tk} (h : garT t tk g = .inr q) (ho : TkOk t tk) : Fr t tk q.2 := by
  unfold garT at h
  have h0 := Fr.nx ho
  cases hk : kdT t tk with
  | none => rw [hk] at h; cases h
  | some k =>
    rw [hk] at h
    dsimp only at h
    split at h
    · cases hq : takeN t (tok t tk.2.1) 1 9 with
      | inl p => rw [hq] at h; cases h
      | inr z =>
        rw [hq] at h
        dsimp only at h
        have h1 := h0.tr (takeN_F hq h0.ok.1)
        split at h
        · cases hr : takeN t (tok t z.2.2.1) 0 9 with
          | inl p => rw [hr] at h; cases h
          | inr r =>
            rw [hr] at h
            cases h
            have h2 := h1.tr (Fr.nx h1.ok.1)
            exact h2.tr (takeN_F hr h2.ok.1)
        · cases h
          exact h1
    · cases h
theorem garsT_F {t : List Int32} {tk0 : Tk} : ∀ (k : Nat) (tk : Tk) (g : List Gar) (q : List Gar × Tk), garsT t k tk g = .inr q → Fr t tk0 tk → Fr t tk0 q.2 := by
  intro k
  induction k with
  | zero => intro tk g q h hf; cases h; exact hf
  | succ k ih =>
    intro tk g q h hf
    unfold garsT at h
    cases hk : kdT t tk with
    | none => rw [hk] at h; cases h; exact hf
    | some b =>
      rw [hk] at h
      dsimp only at h
      cases hr : garT t tk g with
      | inl p => rw [hr] at h; cases h
      | inr r =>
        rw [hr] at h
        exact ih r.2 r.1 q h (hf.tr (garT_F hr hf.ok.1))
theorem garsT_7 {t : List Int32} : ∀ (k : Nat) (tk : Tk) (g : List Gar) (q : List Gar × Tk), garsT t k tk g = .inr q → g.length ≤ 7 → q.1.length ≤ 7 := by
  intro k
  induction k with
  | zero => intro tk g q h hf; cases h; exact hf
  | succ k ih =>
    intro tk g q h hf
    unfold garsT at h
    cases hk : kdT t tk with
    | none => rw [hk] at h; cases h; exact hf
    | some b =>
      rw [hk] at h
      dsimp only at h
      cases hr : garT t tk g with
      | inl p => rw [hr] at h; cases h
      | inr r =>
        rw [hr] at h
        have hL := garT_L hr
        exact ih r.2 r.1 q h (by omega)
theorem lineT_F {t : List Int32} {tk : Tk} {d : Twn} {q : Twn × Tk} (h : lineT t tk d = .inr q) (ho : TkOk t tk) (hd : TOk d) : Fr t tk q.2 ∧ TOk q.1 := by
  unfold lineT at h
  have h0 := Fr.nx ho
  cases hl : takeN t (tok t tk.2.1) 0 3 with
  | inl p => rw [hl] at h; cases h
  | inr l =>
    rw [hl] at h
    dsimp only at h
    have h1 := h0.tr (takeN_F hl h0.ok.1)
    cases hq : garT t l.2 [] with
    | inl p => rw [hq] at h; cases h
    | inr z =>
      rw [hq] at h
      dsimp only at h
      have h2 := h1.tr (garT_F hq h1.ok.1)
      have hL := garT_L hq
      rw [show ([] : List Gar).length = 0 from rfl] at hL
      cases hr : garsT t 7 z.2 z.1 with
      | inl p => rw [hr] at h; cases h
      | inr r =>
        rw [hr] at h
        cases h
        refine ⟨garsT_F 7 _ _ _ hr h2, fun k hk => ?_, hd.2⟩
        show gKs (va_up d.1 (ln l.1) r.1 k) ∧ (va_up d.1 (ln l.1) r.1 k).length ≤ 7
        by_cases e : k = ln l.1
        · rw [e, va_up_s]
          exact ⟨garsT_K 7 _ _ _ hr (garT_K hq (fun y hy => by cases hy)), garsT_7 7 _ _ _ hr (by omega)⟩
        · rw [va_up_n e]
          exact hd.1 k hk
theorem windT_F {t : List Int32} {tk : Tk} {d : Twn} {q : Twn × Tk} (h : windT t tk d = .inr q) (ho : TkOk t tk) (hd : TOk d) : Fr t tk q.2 ∧ TOk q.1 := by
  unfold windT at h
  have h0 := Fr.nx ho
  cases hl : takeN t (tok t tk.2.1) 0 20 with
  | inl p => rw [hl] at h; cases h
  | inr l =>
    rw [hl] at h
    cases h
    exact ⟨h0.tr (takeN_F hl h0.ok.1), hd.1, hd.2.1, (takeN_b hl).1, hd.2.2.2⟩
theorem forgT_F {t : List Int32} {tk : Tk} {d : Twn} {q : Twn × Tk} (h : forgT t tk d = .inr q) (ho : TkOk t tk) (hd : TOk d) : Fr t tk q.2 ∧ TOk q.1 := by
  unfold forgT at h
  have h0 := Fr.nx ho
  cases hl : takeN t (tok t tk.2.1) 0 9 with
  | inl p => rw [hl] at h; cases h
  | inr l =>
    rw [hl] at h
    cases h
    refine ⟨h0.tr (takeN_F hl h0.ok.1), hd.1, fun j x hj hx => ?_, hd.2.2⟩
    have hx' : va_up d.2.1 (ln l.1) none j = some x := hx
    by_cases e : j = ln l.1
    · rw [e, va_up_s] at hx'; cases hx'
    · rw [va_up_n e] at hx'
      exact hd.2.1 j x hj hx'
theorem i32_neg {x : Int32} (h0 : 0 ≤ x) (h1 : x ≤ 999) : -999 ≤ -x ∧ -x ≤ 9999 := by
  grind
theorem i32_up {x : Int32} (h0 : 0 ≤ x) : -999 ≤ x := Int32.le_trans (by decide) h0
theorem meanT2_F {t : List Int32} {tk : Tk} {d : Twn} {q : Twn × Tk} {mn : Int32} {B : Prop} [Decidable B] (h : meanT2 t tk d mn B = .inr q) (ho : TkOk t tk) (hd : TOk d) : Fr t tk q.2 ∧ TOk q.1 := by
  unfold meanT2 at h
  cases hl : takeN t tk 0 (if B then 999 else 9999) with
  | inl p => rw [hl] at h; cases h
  | inr l =>
    rw [hl] at h
    cases h
    refine ⟨takeN_F hl ho, hd.1, fun j x hj hx => ?_, hd.2.2⟩
    have hx' : va_up d.2.1 (ln mn) (some (if B then -l.1 else l.1)) j = some x := hx
    have hb := (takeN_b hl).1
    by_cases e : j = ln mn
    · rw [e, va_up_s] at hx'
      have hx2 := Option.some.inj hx'
      rw [← hx2]
      by_cases hB : B
      · rw [if_pos hB] at hb ⊢
        exact i32_neg hb.1 hb.2
      · rw [if_neg hB] at hb ⊢
        exact ⟨i32_up hb.1, hb.2⟩
    · rw [va_up_n e] at hx'
      exact hd.2.1 j x hj hx'
theorem meanT_F {t : List Int32} {tk : Tk} {d : Twn} {q : Twn × Tk} (h : meanT t tk d = .inr q) (ho : TkOk t tk) (hd : TOk d) : Fr t tk q.2 ∧ TOk q.1 := by
  unfold meanT at h
  have h0 := Fr.nx ho
  cases hl : takeN t (tok t tk.2.1) 0 9 with
  | inl p => rw [hl] at h; cases h
  | inr l =>
    rw [hl] at h
    dsimp only at h
    have h1 := h0.tr (takeN_F hl h0.ok.1)
    split at h
    · have h2 := h1.tr (Fr.nx h1.ok.1)
      have h3 := meanT2_F h h2.ok.1 hd
      exact ⟨h2.tr h3.1, h3.2⟩
    · have h3 := meanT2_F h h1.ok.1 hd
      exact ⟨h1.tr h3.1, h3.2⟩
theorem itemT_F {t : List Int32} {tk : Tk} {d : Twn} {q : Twn × Tk} (h : itemT t tk d = .inr q) (ho : TkOk t tk) (hd : TOk d) : Fr t tk q.2 ∧ TOk q.1 := by
  unfold itemT at h
  split at h
  · exact lineT_F h ho hd
  split at h
  · exact windT_F h ho hd
  split at h
  · exact meanT_F h ho hd
  split at h
  · exact forgT_F h ho hd
  · cases h
theorem wB_s0 {t : List Int32} {tk : Tk} {i : Nat} (h : tk.2.2 = 0) : ¬ wB t tk i = true := by
  rw [wB_t]
  intro q
  have := q.1
  rw [h] at this
  revert this
  decide
theorem itemT_0 {t : List Int32} {tk : Tk} {d : Twn} (h : tk.2.2 = 0) : itemT t tk d = .inl tk.1 := by
  unfold itemT
  rw [if_neg (wB_s0 h), if_neg (wB_s0 h), if_neg (wB_s0 h), if_neg (wB_s0 h)]
theorem tok_end {t : List Int32} {e : Nat} (h : t.length ≤ (tok t e).1) : (tok t e).2.2 = 0 := by
  unfold tok tokAt at h ⊢
  split
  · rename_i hlt
    rw [if_pos hlt] at h
    exact absurd hlt (Nat.not_lt.mpr h)
  · rfl
section RITEM
variable {c : Nat → aC} {m : sM} {s : Sg} {n : Nat} {t : List Int32} {tk : Tk} {b : Nat → Int32}
theorem cds_0 : cds 0 = [108, 105, 110, 101] := by decide
theorem cds_8 : cds 8 = [119, 105, 110, 100] := by decide
theorem cds_9 : cds 9 = [109, 101, 97, 110, 105, 110, 103] := by decide
theorem cds_10 : cds 10 = [102, 111, 114, 103, 101, 116] := by decide
theorem wB_me (hT : TKR m t tk) : wB t tk 9 = true ↔ (tk.2.2 = 1 ∧ tk.2.1 - tk.1 = 7) ∧ (rbt t (tk.1 + 0) = 109 ∧ rbt t (tk.1 + 0 + 1) = 101 ∧ rbt t (tk.1 + 0 + 2) = 97) ∧ (rbt t (tk.1 + 3) = 110 ∧ rbt t (tk.1 + 3 + 1) = 105 ∧ rbt t (tk.1 + 3 + 2) = 110) ∧ (rbt t (tk.1 + 4) = 105 ∧ rbt t (tk.1 + 4 + 1) = 110 ∧ rbt t (tk.1 + 4 + 2) = 103) := by
  rw [wB_r cds_9 hT]
  refine and_congr Iff.rfl ⟨fun q => ⟨⟨q 0 (Nat.le_of_ble_eq_true rfl), q 1 (Nat.le_of_ble_eq_true rfl), q 2 (Nat.le_of_ble_eq_true rfl)⟩, ⟨q 3 (Nat.le_of_ble_eq_true rfl), q 4 (Nat.le_of_ble_eq_true rfl), q 5 (Nat.le_of_ble_eq_true rfl)⟩, ⟨q 4 (Nat.le_of_ble_eq_true rfl), q 5 (Nat.le_of_ble_eq_true rfl), q 6 (Nat.le_of_ble_eq_true rfl)⟩⟩, ?_⟩
  rintro ⟨⟨q0, q1, q2⟩, ⟨q3, q4, q5⟩, ⟨q6, q7, q8⟩⟩ j hj
  have hj' : j < 7 := hj
  rcases (show j = 0 ∨ j = 1 ∨ j = 2 ∨ j = 3 ∨ j = 4 ∨ j = 5 ∨ j = 6 by omega) with rfl | rfl | rfl | rfl | rfl | rfl | rfl
  · exact q0
  · exact q1
  · exact q2
  · exact q3
  · exact q4
  · exact q5
  · exact q8
/-- what an item gives back -/
theorem g7_iret (X : aX) {d : Nat} {pc : Nat} {v : Option Value} {h : aH} {r : PR Twn} (hp : pc = 19 ∨ pc = 39 ∨ pc = 95 ∨ pc = 126) (q : IPR c n b t s r v h) : G X d kX7_itemHere pc [.ref 81] (v.toList ++ []) h (IPR c n b t s r) := by
  cases r with
  | inl p =>
    obtain ⟨rfl, q⟩ := q
    rcases hp with rfl | rfl | rfl | rfl <;> exact G.ret rfl rfl ⟨rfl, q⟩
  | inr p =>
    obtain ⟨rfl, q⟩ := q
    rcases hp with rfl | rfl | rfl | rfl <;> exact G.ret rfl rfl ⟨rfl, q⟩
theorem s7_itemHere (X : aX) (hS : SOk s) (hM : MR n m s) (hb : mbf m = b) (hT : TKR m t tk) : Sp X 6 kX7_itemHere [.ref 81] (HR c m) (IPR c n b t s (itemT t tk (zt s))) := by
  unfold Sp itemT
  have hp : tk.1 < 2 ^ 20 := by
    have h1 := hT.1.2.1
    have h2 := hT.2.1.1
    have h3 := hT.2.1.2
    omega
  iterate 5 (refine G.st rfl rfl ?_)
  refine G.call rfl rfl (Nat.le_of_ble_eq_true rfl) (Sp.up (s7_isFour X cds_0 hT) (Nat.le_of_ble_eq_true rfl)) ?_
  rintro _ _ ⟨rfl, rfl⟩
  by_cases a0 : wB t tk 0 = true
  · rw [if_pos a0]
    refine G.brf rfl (bI_n a0) ?_
    iterate 1 (refine G.st rfl rfl ?_)
    refine G.call rfl rfl (Nat.le_of_ble_eq_true rfl) (Sp.up (s7_lineHere X hS hM hb hT) (Nat.le_of_ble_eq_true rfl)) ?_
    exact fun _ _ q => g7_iret X (by omega) q
  rw [if_neg a0]
  refine G.brt rfl (bI_0.mpr a0) ?_
  iterate 5 (refine G.st rfl rfl ?_)
  refine G.call rfl rfl (Nat.le_of_ble_eq_true rfl) (Sp.up (s7_isFour X cds_8 hT) (Nat.le_of_ble_eq_true rfl)) ?_
  rintro _ _ ⟨rfl, rfl⟩
  by_cases a8 : wB t tk 8 = true
  · rw [if_pos a8]
    refine G.brf rfl (bI_n a8) ?_
    iterate 1 (refine G.st rfl rfl ?_)
    refine G.call rfl rfl (Nat.le_of_ble_eq_true rfl) (Sp.up (s7_windHere X hM hb hT) (Nat.le_of_ble_eq_true rfl)) ?_
    exact fun _ _ q => g7_iret X (by omega) q
  rw [if_neg a8]
  refine G.brt rfl (bI_0.mpr a8) ?_
  have n9 : ¬ wB t tk 9 = true → G X 6 kX7_itemHere 96 [.ref 81] [] (HR c m) (IPR c n b t s (if wB t tk 9 = true then meanT t tk (zt s) else if wB t tk 10 = true then forgT t tk (zt s) else .inl tk.1)) := by
    intro a9
    rw [if_neg a9]
    iterate 7 (refine G.st rfl rfl ?_)
    refine G.call rfl rfl (Nat.le_of_ble_eq_true rfl) (Sp.up (s7_isSix X cds_10 hT) (Nat.le_of_ble_eq_true rfl)) ?_
    rintro _ _ ⟨rfl, rfl⟩
    by_cases a10 : wB t tk 10 = true
    · rw [if_pos a10]
      refine G.brf rfl (bI_n a10) ?_
      iterate 1 (refine G.st rfl rfl ?_)
      refine G.call rfl rfl (Nat.le_of_ble_eq_true rfl) (Sp.up (s7_forgetHere X hM hb hT) (Nat.le_of_ble_eq_true rfl)) ?_
      intro v h q
      refine G.st rfl rfl ?_
      exact g7_iret X (by omega) q
    · rw [if_neg a10]
      refine G.brt rfl (bI_0.mpr a10) ?_
      iterate 1 (refine G.st rfl rfl ?_)
      refine G.call rfl rfl (Nat.le_of_ble_eq_true rfl) (Sp.up (s7_fails X) (Nat.le_of_ble_eq_true rfl)) ?_
      rintro _ _ ⟨rfl, rfl⟩
      exact G.ret rfl rfl ⟨rfl, _, rfl, hM.2, hb, hT.2.2.1⟩
  have key := wB_me hT
  iterate 2 (refine G.st rfl rfl ?_)
  refine G.call rfl rfl (Nat.le_of_ble_eq_true rfl) (Sp.up (s7_isWord X (k := 7) (by omega) hT) (Nat.le_of_ble_eq_true rfl)) ?_
  rintro _ _ ⟨rfl, rfl⟩
  by_cases h1 : tk.2.2 = 1 ∧ tk.2.1 - tk.1 = 7
  case neg => exact G.brt rfl (bI_0.mpr h1) (n9 (fun q => h1 (key.mp q).1))
  refine G.brf rfl (bI_n h1) ?_
  iterate 5 (refine G.st rfl rfl ?_)
  refine G.call rfl rfl (Nat.le_of_ble_eq_true rfl) (Sp.up (s7_has3 X (p := tk.1) (i := 0) hp (by omega) hT.1 hT.2.2.1) (Nat.le_of_ble_eq_true rfl)) ?_
  rintro _ _ ⟨rfl, rfl⟩
  by_cases h2 : rbt t (tk.1 + 0) = 109 ∧ rbt t (tk.1 + 0 + 1) = 101 ∧ rbt t (tk.1 + 0 + 2) = 97
  case neg => exact G.brt rfl (bI_0.mpr h2) (n9 (fun q => h2 (key.mp q).2.1))
  refine G.brf rfl (bI_n h2) ?_
  iterate 5 (refine G.st rfl rfl ?_)
  refine G.call rfl rfl (Nat.le_of_ble_eq_true rfl) (Sp.up (s7_has3 X (p := tk.1) (i := 3) hp (by omega) hT.1 hT.2.2.1) (Nat.le_of_ble_eq_true rfl)) ?_
  rintro _ _ ⟨rfl, rfl⟩
  by_cases h3 : rbt t (tk.1 + 3) = 110 ∧ rbt t (tk.1 + 3 + 1) = 105 ∧ rbt t (tk.1 + 3 + 2) = 110
  case neg => exact G.brt rfl (bI_0.mpr h3) (n9 (fun q => h3 (key.mp q).2.2.1))
  refine G.brf rfl (bI_n h3) ?_
  iterate 5 (refine G.st rfl rfl ?_)
  refine G.call rfl rfl (Nat.le_of_ble_eq_true rfl) (Sp.up (s7_has3 X (p := tk.1) (i := 4) hp (by omega) hT.1 hT.2.2.1) (Nat.le_of_ble_eq_true rfl)) ?_
  rintro _ _ ⟨rfl, rfl⟩
  by_cases h4 : rbt t (tk.1 + 4) = 105 ∧ rbt t (tk.1 + 4 + 1) = 110 ∧ rbt t (tk.1 + 4 + 2) = 103
  case neg => exact G.brt rfl (bI_0.mpr h4) (n9 (fun q => h4 (key.mp q).2.2.2))
  refine G.brf rfl (bI_n h4) ?_
  rw [if_pos (key.mpr ⟨h1, h2, h3, h4⟩)]
  iterate 1 (refine G.st rfl rfl ?_)
  refine G.call rfl rfl (Nat.le_of_ble_eq_true rfl) (Sp.up (s7_meaningHere X hM hb hT) (Nat.le_of_ble_eq_true rfl)) ?_
  exact fun _ _ q => g7_iret X (by omega) q
end RITEM
