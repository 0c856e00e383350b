/-! ===== the reference: a line of the text, whole ===== -/
def zTw (s : Sg) (d : Twn) : Sg := (d.1, d.2.1, d.2.2.1, d.2.2.2, zK s, zT s, zS s, zF s)
def IPR (c : Nat → aC) (n : Nat) (b : Nat → Int32) (t : List Int32) (s : Sg) (r : PR Twn) : Option Value → aH → Prop := fun v h' => match r with
  | .inl p => v = some (.int 0) ∧ ∃ m', h' = HR c m' ∧ MRt n m' s ∧ mbf m' = b ∧ mfa m' = nI p
  | .inr q => v = some (.int 1) ∧ ∃ m', h' = HR c m' ∧ MR n m' (zTw s q.1) ∧ mbf m' = b ∧ TKR m' t q.2
section RLINE2
variable {c : Nat → aC} {m : sM} {s : Sg} {n : Nat} {t : List Int32} {tk : Tk} {b : Nat → Int32}
theorem s7_lineHere (X : aX) (hS : SOk s) (hM : MR n m s) (hb : mbf m = b) (hT : TKR m t tk) : Sp X 5 kX7_lineHere [.ref 81] (HR c m) (IPR c n b t s (lineT t tk (zt s))) := by
  unfold Sp lineT
  iterate 1 (refine G.st rfl rfl ?_)
  refine G.call rfl rfl (Nat.le_of_ble_eq_true rfl) (Sp.up (s7_nextR X hM hb hT) (Nat.le_of_ble_eq_true rfl)) ?_
  rintro _ _ ⟨rfl, m1, rfl, ⟨hM1, hb1, hP1⟩, hT1⟩
  generalize tok t tk.2.1 = tk1 at hT1 ⊢
  iterate 3 (refine G.st rfl rfl ?_)
  refine G.call rfl rfl (Nat.le_of_ble_eq_true rfl) (Sp.up (s7_isNumber X 0 3 hT1) (Nat.le_of_ble_eq_true rfl)) ?_
  rintro _ _ ⟨rfl, rfl⟩
  by_cases h1 : tk1.2.2 = 2 ∧ 0 ≤ numV t tk1 ∧ numV t tk1 ≤ 3
  case neg =>
    rw [takeN_n h1, if_neg h1]
    refine G.brt rfl (bI_0.mpr h1) ?_
    iterate 1 (refine G.st rfl rfl ?_)
    exact G.ret rfl rfl ⟨rfl, _, rfl, hM1.2, hb1, rfl⟩
  rw [takeN_y h1, if_pos h1]
  refine G.brf rfl (bI_n h1) ?_
  dsimp only
  obtain ⟨l, hl, el⟩ := lok_n h1.2
  have ev : mva m1 = nI l := (hT1.2.2.2.2.2 h1.1).trans el
  rw [el, ln_nI (by omega)]
  iterate 2 (refine G.st rfl rfl ?_)
  show G X 5 kX7_lineHere 19 [.ref 81, .double 0, .double 0] [.int (mva m1)] (HR c m1) _
  rw [ev]
  iterate 7 (refine G.st rfl rfl ?_)
  refine G.sst rfl (ix0 (show l < 110 by omega) (by omega)) ?_
  have hM2 : MR n (mSs m1 (upd (ms m1) l 0)) (zSL s (va_up (zL s) l [])) := hM1.line hS hl (Nat.zero_le _) (fun i hi _ => upd_n hi) upd_s (fun p hp => absurd hp (Nat.not_lt_zero p))
  have hb2 : mbf (mSs m1 (upd (ms m1) l 0)) = b := hb1
  have hT2 : TKR (mSs m1 (upd (ms m1) l 0)) t tk1 := hT1
  generalize mSs m1 (upd (ms m1) l 0) = m2 at hM2 hb2 hT2 ⊢
  have hS2 : SOk (zSL s (va_up (zL s) l [])) := hS.line (fun y hy => by cases hy) (Nat.zero_le _)
  iterate 1 (refine G.st rfl rfl ?_)
  refine G.call rfl rfl (Nat.le_of_ble_eq_true rfl) (Sp.up (s7_nextR X hM2 hb2 hT2) (Nat.le_of_ble_eq_true rfl)) ?_
  rintro _ _ ⟨rfl, m3, rfl, ⟨hM3, hb3, hP3⟩, hT3⟩
  generalize tok t tk1.2.1 = tk2 at hT3 ⊢
  iterate 2 (refine G.st rfl rfl ?_)
  have e1 : zL (zSL s (va_up (zL s) l [])) l = [] := va_up_s
  have hg7 := s7_garmentHere X (c := c) hl hS2 hM3 hb3 hT3
  rw [e1] at hg7
  refine G.call rfl rfl (Nat.le_of_ble_eq_true rfl) (Sp.up (hg7) (Nat.le_of_ble_eq_true rfl)) ?_
  cases hr : garT t tk2 [] with
  | inl p =>
    rintro _ _ ⟨rfl, m4, rfl, q1, q2, q3⟩
    iterate 2 (refine G.st rfl rfl ?_)
    refine G.brt rfl (by decide) ?_
    iterate 1 (refine G.st rfl rfl ?_)
    exact G.ret rfl rfl ⟨rfl, _, rfl, q1, q2, q3⟩
  | inr q =>
    rintro _ _ ⟨rfl, m4, rfl, q1, q2, q3⟩
    have hL := (garT_L hr).1
    rw [show ([] : List Gar).length = 0 from rfl] at hL
    have q1' : MR n m4 (zSL s (va_up (zL s) l q.1)) := by
      rw [← va_uu (a := [])]
      exact q1
    iterate 1 (refine G.st rfl rfl ?_)
    refine (l7_gars X hl hS 7 q.1 m4 q.2 (by omega) (by omega) (garT_K hr (fun y hy => by cases hy)) q1' q2 q3).imp ?_
    dsimp only
    cases garsT t 7 q.2 q.1 with
    | inl p => exact fun _ _ w => w
    | inr r => exact fun _ _ w => w
end RLINE2
