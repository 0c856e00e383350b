/-! ===== the reference: a line of the text ===== -/
theorem garT_L {t : List Int32} {tk : Tk} {g : List Gar} {q : List Gar × Tk} (h : garT t tk g = .inr q) : q.1.length = g.length + 1 ∧ g.length < 7 := by
  unfold garT at h
  cases hk : kdT t tk with
  | none => rw [hk] at h; cases h
  | some k =>
    rw [hk] at h
    dsimp only at h
    split at h
    · rename_i h7
      cases hq : takeN t (tok t tk.2.1) 1 9 with
      | inl p => rw [hq] at h; cases h
      | inr z =>
        rw [hq] at h
        dsimp only at h
        split at h
        · cases hr : takeN t (tok t z.2.2.1) 0 9 with
          | inl p => rw [hr] at h; cases h
          | inr r =>
            rw [hr] at h
            cases h
            exact ⟨by rw [List.length_append, List.length_singleton], h7⟩
        · cases h
          exact ⟨by rw [List.length_append, List.length_singleton], h7⟩
    · cases h
section RLINE
variable {c : Nat → aC} {s : Sg} {n : Nat} {t : List Int32} {b : Nat → Int32}
theorem l7_gars (X : aX) {l : Nat} (hl : l < 4) (hS : SOk s) : ∀ (k : Nat) (g : List Gar) (m : sM) (tk : Tk), g.length + k = 8 → g.length ≤ 7 → gKs g → MR n m (zSL s (va_up (zL s) l g)) → mbf m = b → TKR m t tk → G X 5 kX7_lineHere 39 [.ref 81, .int (nI l), .int 1] [] (HR c m) (GP c n b t s l (garsT t k tk g)) := by
  intro k
  induction k with
  | zero => intro g m tk h1 h2; omega
  | succ k ih =>
    intro g m tk h8 h7 hg hM hb hT
    unfold garsT
    iterate 1 (refine G.st rfl rfl ?_)
    refine G.brf rfl (by decide) ?_
    iterate 1 (refine G.st rfl rfl ?_)
    refine G.call rfl rfl (Nat.le_of_ble_eq_true rfl) (Sp.up (s7_kindHere X hT) (Nat.le_of_ble_eq_true rfl)) ?_
    rintro _ _ ⟨rfl, rfl⟩
    cases hk : kdT t tk with
    | none =>
      refine G.brt rfl (by decide) ?_
      iterate 1 (refine G.st rfl rfl ?_)
      exact G.ret rfl rfl ⟨rfl, _, rfl, hM, hb, hT⟩
    | some j =>
    have hk6 := kdT_lt hk
    have hk0 : ¬ nI j < 0 := by
      rcases (show j = 0 ∨ j = 1 ∨ j = 2 ∨ j = 3 ∨ j = 4 ∨ j = 5 by omega) with rfl | rfl | rfl | rfl | rfl | rfl <;> decide
    dsimp only
    refine G.brf rfl hk0 ?_
    iterate 2 (refine G.st rfl rfl ?_)
    have e1 : zL (zSL s (va_up (zL s) l g)) l = g := va_up_s
    have hg7 := s7_garmentHere X (c := c) hl (hS.line hg h7) hM hb hT
    rw [e1] at hg7
    refine G.call rfl rfl (Nat.le_of_ble_eq_true rfl) (Sp.up (hg7) (Nat.le_of_ble_eq_true rfl)) ?_
    cases hr : garT t tk g with
    | inl p =>
      rintro _ _ ⟨rfl, m1, rfl, q1, q2, q3⟩
      iterate 3 (refine G.st rfl rfl ?_)
      refine G.brt rfl (by decide) ?_
      iterate 1 (refine G.st rfl rfl ?_)
      exact G.ret rfl rfl ⟨rfl, _, rfl, q1, q2, q3⟩
    | inr q =>
      rintro _ _ ⟨rfl, m1, rfl, q1, q2, q3⟩
      have hL := garT_L hr
      have q1' : MR n m1 (zSL s (va_up (zL s) l q.1)) := by
        rw [← va_uu (a := g)]
        exact q1
      iterate 2 (refine G.st rfl rfl ?_)
      exact ih q.1 m1 q.2 (by omega) (by omega) (garT_K hr hg) q1' q2 q3
end RLINE
