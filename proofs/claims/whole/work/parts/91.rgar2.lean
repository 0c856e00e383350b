/-! ===== the reference: a garment of the text, whole ===== -/
theorem va_uu {α : Type} {f : Nat → α} {k : Nat} {a b : α} : va_up (va_up f k a) k b = va_up f k b := by
  funext j
  by_cases h : j = k
  · subst h; rw [va_up_s, va_up_s]
  · rw [va_up_n h, va_up_n h, va_up_n h]
theorem takeN_y {t : List Int32} {tk : Tk} {lo hi : Int32} (h : tk.2.2 = 2 ∧ lo ≤ numV t tk ∧ numV t tk ≤ hi) : takeN t tk lo hi = .inr (numV t tk, tok t tk.2.1) := if_pos h
theorem takeN_n {t : List Int32} {tk : Tk} {lo hi : Int32} (h : ¬ (tk.2.2 = 2 ∧ lo ≤ numV t tk ∧ numV t tk ≤ hi)) : takeN t tk lo hi = .inl tk.1 := if_neg h
/-- what the reader keeps -/
abbrev PRow (n : Nat) (b : Nat → Int32) (t : List Int32) (s : Sg) (m : sM) : Prop := MR n m s ∧ mbf m = b ∧ TPR m t
theorem PRow_c (n : Nat) (b : Nat → Int32) (t : List Int32) (s : Sg) : Pc (PRow n b t s) := fun _ _ q => ⟨q, q, q, q, q⟩
/-- all but the town -/
def MRt (n : Nat) (m : sM) (s : Sg) : Prop := (match zK s with | none => mik m = 0 | some k => mik m = 1 ∧ MT (mkp m) k) ∧ (mtd m = nI (zT s).length ∧ ∀ j, j < (zT s).length → mtp m j = bt (zT s) j) ∧ MSh m (zS s) ∧ (mfi m 0 = sum7 (zF s) ∧ ∀ k, k < 7 → mfi m (k + 1) = zF s k) ∧ ∃ T, T ≤ n ∧ mti m = nI T ∧ ∀ i, i < 19999 → ∃ j, j ≤ T ∧ mmt m i = nI j
def GP (c : Nat → aC) (n : Nat) (b : Nat → Int32) (t : List Int32) (s : Sg) (l : Nat) (r : PR (List Gar)) : Option Value → aH → Prop := fun v h' => match r with
  | .inl p => v = some (.int 0) ∧ ∃ m', h' = HR c m' ∧ MRt n m' s ∧ mbf m' = b ∧ mfa m' = nI p
  | .inr q => v = some (.int 1) ∧ ∃ m', h' = HR c m' ∧ MR n m' (zSL s (va_up (zL s) l q.1)) ∧ mbf m' = b ∧ TKR m' t q.2
section RGAR2
variable {c : Nat → aC} {m : sM} {s : Sg} {n : Nat} {t : List Int32} {tk : Tk} {b : Nat → Int32}
theorem s7_nextR (X : aX) (hM : MR n m s) (hb : mbf m = b) (hT : TKR m t tk) : Sp X 1 kX7_nextToken [.ref 81] (HR c m) (fun v h' => v = none ∧ ∃ m', h' = HR c m' ∧ PRow n b t s m' ∧ TKR m' t (tok t tk.2.1)) := s7_nextToken (P := PRow n b t s) X (PRow_c n b t s) (fun _ q => q.2.2) ⟨hM, hb, hT.1⟩ hT.2.2.2.1 hT.2.1.2
theorem cds_7 : cds 7 = [119, 101, 116] := by decide
/-- how wet it is -/
theorem g7_wet (X : aX) {l : Nat} {u : Value} {g : List Gar} {k z : Int32} (hl : l < 4) (h7 : g.length < 7) (hS : SOk (zSL s (va_up (zL s) l (g ++ [(k, z, 0)])))) (hM : MR n m (zSL s (va_up (zL s) l (g ++ [(k, z, 0)])))) (hb : mbf m = b) (hT : TKR m t tk) : G X 4 kX7_garmentHere 82 [.ref 81, .int (nI l), u] [] (HR c m) (GP c n b t s l (match takeN t (tok t tk.2.1) 0 9 with
        | .inl p => .inl p
        | .inr r => .inr (g ++ [(k, z, r.1)], r.2))) := by
  have hp := pl_lt hl h7
  iterate 1 (refine G.st rfl rfl ?_)
  refine G.call rfl rfl (Nat.le_of_ble_eq_true rfl) (Sp.up (s7_nextR X hM hb hT) (Nat.le_of_ble_eq_true rfl)) ?_
  rintro _ _ ⟨rfl, m1, rfl, ⟨hM1, hb1, hP1⟩, hT1⟩
  generalize tok t tk.2.1 = tk1 at hT1 ⊢
  iterate 3 (refine G.st rfl rfl ?_)
  refine G.call rfl rfl (Nat.le_of_ble_eq_true rfl) (Sp.up (s7_isNumber X 0 9 hT1) (Nat.le_of_ble_eq_true rfl)) ?_
  rintro _ _ ⟨rfl, rfl⟩
  by_cases h1 : tk1.2.2 = 2 ∧ 0 ≤ numV t tk1 ∧ numV t tk1 ≤ 9
  case neg =>
    rw [takeN_n h1, if_neg h1]
    refine G.brt rfl (bI_0.mpr h1) ?_
    iterate 1 (refine G.st rfl rfl ?_)
    exact G.ret rfl rfl ⟨rfl, _, rfl, hM1.2, hb1, rfl⟩
  rw [takeN_y h1, if_pos h1]
  refine G.brf rfl (bI_n h1) ?_
  iterate 8 (refine G.st rfl rfl ?_)
  refine G.iald rfl rfl (ix0 (show l < 110 by omega) (by omega)) ?_
  rw [hM1.len hl]
  have e1 : zL (zSL s (va_up (zL s) l (g ++ [(k, z, 0)]))) l = g ++ [(k, z, 0)] := va_up_s
  rw [e1, List.length_append, List.length_singleton]
  iterate 2 (refine G.st rfl rfl ?_)
  rw [show nI (g.length + 1) - 1 = nI g.length by rw [← nI_1]; grind]
  refine G.call rfl rfl (Nat.le_of_ble_eq_true rfl) (Sp.up (s7_pl X l g.length _) (Nat.le_of_ble_eq_true rfl)) ?_
  rintro _ _ ⟨rfl, rfl⟩
  iterate 2 (refine G.st rfl rfl ?_)
  rw [show (2 : Int32) = nI 2 from rfl, nI_add]
  iterate 2 (refine G.st rfl rfl ?_)
  show G X 4 kX7_garmentHere 122 [.ref 81, .int (nI l), u] [.int (mva m1), .int (nI (pl l g.length + 2)), .ref 82] (HR c m1) _
  rw [hT1.2.2.2.2.2 h1.1]
  refine G.sst rfl (ix_nI (show pl l g.length + 2 < 110 by omega) (by omega)) ?_
  have hM2 := hM1.put (l := l) (j := g.length) (q := 2) (v := numV t tk1) (x := (k, z, numV t tk1)) hS hl (by rw [e1, List.length_append, List.length_singleton]; omega) (by omega) (by rw [e1, gD_app, if_pos rfl]; rfl)
  have e5 : List.set (α := Gar) (g ++ [(k, z, 0)]) g.length (k, z, numV t tk1) = g ++ [(k, z, numV t tk1)] := by simp
  rw [e1, e5] at hM2
  have hM3 : MR n (mSs m1 (upd (ms m1) (pl l g.length + 2) (numV t tk1))) (zSL s (va_up (zL s) l (g ++ [(k, z, numV t tk1)]))) := by
    rw [← va_uu (a := g ++ [(k, z, 0)])]
    exact hM2
  have hb3 : mbf (mSs m1 (upd (ms m1) (pl l g.length + 2) (numV t tk1))) = b := hb1
  have hT3 : TKR (mSs m1 (upd (ms m1) (pl l g.length + 2) (numV t tk1))) t tk1 := hT1
  generalize mSs m1 (upd (ms m1) (pl l g.length + 2) (numV t tk1)) = m3 at hM3 hb3 hT3 ⊢
  iterate 1 (refine G.st rfl rfl ?_)
  refine G.call rfl rfl (Nat.le_of_ble_eq_true rfl) (Sp.up (s7_nextR X hM3 hb3 hT3) (Nat.le_of_ble_eq_true rfl)) ?_
  rintro _ _ ⟨rfl, m4, rfl, ⟨hM4, hb4, hP4⟩, hT4⟩
  iterate 1 (refine G.st rfl rfl ?_)
  exact G.ret rfl rfl ⟨rfl, _, rfl, hM4, hb4, hT4⟩
end RGAR2
