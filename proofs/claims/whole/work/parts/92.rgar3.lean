/-! ===== the reference: a garment of the text, the whole method ===== -/
section RGAR3
variable {c : Nat → aC} {m : sM} {s : Sg} {n : Nat} {t : List Int32} {tk : Tk} {b : Nat → Int32}
theorem s7_garmentHere (X : aX) {l : Nat} (hl : l < 4) (hS : SOk s) (hM : MR n m s) (hb : mbf m = b) (hT : TKR m t tk) : Sp X 4 kX7_garmentHere [.ref 81, .int (nI l)] (HR c m) (GP c n b t s l (garT t tk (zL s l))) := by
  unfold Sp garT
  have bad : ∀ u : Value, G X 4 kX7_garmentHere 22 [.ref 81, .int (nI l), u] [] (HR c m) (GP c n b t s l (.inl tk.1)) := by
    intro u
    iterate 1 (refine G.st rfl rfl ?_)
    refine G.call rfl rfl (Nat.le_of_ble_eq_true rfl) (Sp.up (s7_fails X) (Nat.le_of_ble_eq_true rfl)) ?_
    rintro _ _ ⟨rfl, rfl⟩
    exact G.ret rfl rfl ⟨rfl, _, rfl, hM.2, hb, hT.2.2.1⟩
  iterate 1 (refine G.st rfl rfl ?_)
  refine G.call rfl rfl (Nat.le_of_ble_eq_true rfl) (Sp.up (s7_kindHere X hT) (Nat.le_of_ble_eq_true rfl)) ?_
  rintro _ _ ⟨rfl, rfl⟩
  cases hk : kdT t tk with
  | none =>
    iterate 2 (refine G.st rfl rfl ?_)
    exact G.brt rfl (by decide) (bad _)
  | some k =>
  have hk6 := kdT_lt hk
  have hkk : K6 (nI k) := by
    rcases (show k = 0 ∨ k = 1 ∨ k = 2 ∨ k = 3 ∨ k = 4 ∨ k = 5 by omega) with rfl | rfl | rfl | rfl | rfl | rfl <;> (unfold K6; decide)
  have hk0 : ¬ nI k < 0 := by
    rcases (show k = 0 ∨ k = 1 ∨ k = 2 ∨ k = 3 ∨ k = 4 ∨ k = 5 by omega) with rfl | rfl | rfl | rfl | rfl | rfl <;> decide
  have h7' := hS.len hl
  dsimp only
  iterate 2 (refine G.st rfl rfl ?_)
  refine G.brf rfl hk0 ?_
  iterate 5 (refine G.st rfl rfl ?_)
  refine G.iald rfl rfl (ix0 (show l < 110 by omega) (by omega)) ?_
  rw [hM.len hl]
  iterate 1 (refine G.st rfl rfl ?_)
  by_cases h7 : (zL s l).length < 7
  case neg =>
    rw [if_neg h7]
    exact G.brt rfl (by rw [show (zL s l).length = 7 by omega]; rfl) (bad _)
  rw [if_pos h7]
  refine G.brf rfl (fun q => by have := (nI_eq (b := 7) (by omega) (by omega)).mp q; omega) ?_
  iterate 1 (refine G.st rfl rfl ?_)
  refine G.call rfl rfl (Nat.le_of_ble_eq_true rfl) (Sp.up (s7_nextR X hM hb hT) (Nat.le_of_ble_eq_true rfl)) ?_
  rintro _ _ ⟨rfl, m1, rfl, ⟨hM1, hb1, hP1⟩, hT1⟩
  generalize tok t tk.2.1 = tk1 at hT1 ⊢
  iterate 3 (refine G.st rfl rfl ?_)
  refine G.call rfl rfl (Nat.le_of_ble_eq_true rfl) (Sp.up (s7_isNumber X 1 9 hT1) (Nat.le_of_ble_eq_true rfl)) ?_
  rintro _ _ ⟨rfl, rfl⟩
  by_cases h1 : tk1.2.2 = 2 ∧ 1 ≤ numV t tk1 ∧ numV t tk1 ≤ 9
  case neg =>
    rw [takeN_n h1, if_neg h1]
    refine G.brt rfl (bI_0.mpr h1) ?_
    iterate 1 (refine G.st rfl rfl ?_)
    exact G.ret rfl rfl ⟨rfl, _, rfl, hM1.2, hb1, rfl⟩
  rw [takeN_y h1, if_pos h1]
  refine G.brf rfl (bI_n h1) ?_
  iterate 5 (refine G.st rfl rfl ?_)
  show G X 4 kX7_garmentHere 50 [.ref 81, .int (nI l), .int (nI k)] [.int (mva m1), .int (nI k), .int (nI l), .ref 81] (HR c m1) _
  rw [hT1.2.2.2.2.2 h1.1]
  iterate 1 (refine G.st rfl rfl ?_)
  refine G.call rfl rfl (Nat.le_of_ble_eq_true rfl) (Sp.up (s7_hangsK X hS hM1 hl h7) (Nat.le_of_ble_eq_true rfl)) ?_
  rintro _ _ ⟨rfl, f, rfl, hM2⟩
  have hb2 : mbf (mSs m1 f) = b := hb1
  have hT2 : TKR (mSs m1 f) t tk1 := hT1
  generalize mSs m1 f = m2 at hM2 hb2 hT2 ⊢
  have hS2 : SOk (zSL s (va_up (zL s) l (zL s l ++ [(nI k, numV t tk1, 0)]))) := hS.line (gKs_app (hS.gk hl) ⟨hkk, h1.2, (by decide : (0 : Int32) ≤ 0), (by decide : (0 : Int32) ≤ 9)⟩) (by rw [List.length_append, List.length_singleton]; omega)
  iterate 1 (refine G.st rfl rfl ?_)
  refine G.call rfl rfl (Nat.le_of_ble_eq_true rfl) (Sp.up (s7_nextR X hM2 hb2 hT2) (Nat.le_of_ble_eq_true rfl)) ?_
  rintro _ _ ⟨rfl, m3, rfl, ⟨hM3, hb3, hP3⟩, hT3⟩
  dsimp only
  generalize tok t tk1.2.1 = tk2 at hT3 ⊢
  have hp : tk2.1 < 2 ^ 20 := by
    have h1 := hT3.1.2.1
    have h2 := hT3.2.1.1
    have h3 := hT3.2.1.2
    omega
  have key := wB_re cds_7 hT3
  by_cases hw : wB t tk2 7 = true
  · rw [if_pos hw]
    obtain ⟨w1, w2⟩ := key.mp hw
    iterate 2 (refine G.st rfl rfl ?_)
    refine G.call rfl rfl (Nat.le_of_ble_eq_true rfl) (Sp.up (s7_isWord X (k := 3) (by omega) hT3) (Nat.le_of_ble_eq_true rfl)) ?_
    rintro _ _ ⟨rfl, rfl⟩
    refine G.brf rfl (bI_n w1) ?_
    iterate 5 (refine G.st rfl rfl ?_)
    refine G.call rfl rfl (Nat.le_of_ble_eq_true rfl) (Sp.up (s7_has3 X (p := tk2.1) (i := 0) hp (by omega) hT3.1 hT3.2.2.1) (Nat.le_of_ble_eq_true rfl)) ?_
    rintro _ _ ⟨rfl, rfl⟩
    refine G.brf rfl (bI_n w2) ?_
    exact g7_wet X hl h7 hS2 hM3 hb3 hT3
  · rw [if_neg hw]
    have no : G X 4 kX7_garmentHere 80 [.ref 81, .int (nI l), .int (nI k)] [] (HR c m3) (GP c n b t s l (.inr (zL s l ++ [(nI k, numV t tk1, 0)], tk2))) := by
      iterate 1 (refine G.st rfl rfl ?_)
      exact G.ret rfl rfl ⟨rfl, _, rfl, hM3, hb3, hT3⟩
    iterate 2 (refine G.st rfl rfl ?_)
    refine G.call rfl rfl (Nat.le_of_ble_eq_true rfl) (Sp.up (s7_isWord X (k := 3) (by omega) hT3) (Nat.le_of_ble_eq_true rfl)) ?_
    rintro _ _ ⟨rfl, rfl⟩
    by_cases w1 : tk2.2.2 = 1 ∧ tk2.2.1 - tk2.1 = 3
    case neg => exact G.brt rfl (bI_0.mpr w1) no
    refine G.brf rfl (bI_n w1) ?_
    iterate 5 (refine G.st rfl rfl ?_)
    refine G.call rfl rfl (Nat.le_of_ble_eq_true rfl) (Sp.up (s7_has3 X (p := tk2.1) (i := 0) hp (by omega) hT3.1 hT3.2.2.1) (Nat.le_of_ble_eq_true rfl)) ?_
    rintro _ _ ⟨rfl, rfl⟩
    exact G.brt rfl (bI_0.mpr (fun w2 => hw (key.mpr ⟨w1, w2⟩))) no
end RGAR3
