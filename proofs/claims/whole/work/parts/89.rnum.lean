/-! ===== the reference: a number ===== -/
section RNUM
variable {c : Nat → aC} {m : sM} {t : List Int32} {tk : Tk}
theorem tkc_2 {x : Int32} : tkc x = 2 ↔ x = 2 := by
  unfold tkc
  by_cases h : x = 4
  · rw [if_pos h, h]; decide
  · rw [if_neg h]
    by_cases h2 : x = 5
    · rw [if_pos h2, h2]; decide
    · rw [if_neg h2]
theorem s7_isNumber (X : aX) (lo hi : Int32) (hT : TKR m t tk) : Sp X 2 kX7_isNumber [.ref 81, .int lo, .int hi] (HR c m) (An (some (.int (bI (tk.2.2 = 2 ∧ lo ≤ numV t tk ∧ numV t tk ≤ hi)))) (HR c (if tk.2.2 = 2 ∧ lo ≤ numV t tk ∧ numV t tk ≤ hi then m else mSfa m (nI tk.1)))) := by
  unfold Sp
  have no : ¬ (tk.2.2 = 2 ∧ lo ≤ numV t tk ∧ numV t tk ≤ hi) → G X 2 kX7_isNumber 23 [.ref 81, .int lo, .int hi] [] (HR c m) (An (some (.int (bI (tk.2.2 = 2 ∧ lo ≤ numV t tk ∧ numV t tk ≤ hi)))) (HR c (if tk.2.2 = 2 ∧ lo ≤ numV t tk ∧ numV t tk ≤ hi then m else mSfa m (nI tk.1)))) := by
    intro q
    rw [if_neg q, bI_f q]
    iterate 1 (refine G.st rfl rfl ?_)
    refine G.call rfl rfl (Nat.le_of_ble_eq_true rfl) (Sp.up (s7_fails X) (Nat.le_of_ble_eq_true rfl)) ?_
    rintro _ _ ⟨rfl, rfl⟩
    rw [hT.2.2.1]
    refine G.brt rfl (by decide) ?_
    iterate 1 (refine G.st rfl rfl ?_)
    exact G.ret rfl rfl ⟨rfl, rfl⟩
  iterate 3 (refine G.st rfl rfl ?_)
  show G X 2 kX7_isNumber 5 [.ref 81, .int lo, .int hi] [.int 2, .int (mtk m)] (HR c m) _
  rw [hT.2.2.2.2.1]
  by_cases h1 : tk.2.2 = 2
  case neg => exact G.brf rfl (fun q => h1 (tkc_2.mp q)) (no (fun q => h1 q.1))
  refine G.brt rfl (tkc_2.mpr h1) ?_
  iterate 2 (refine G.st rfl rfl ?_)
  show G X 2 kX7_isNumber 12 [.ref 81, .int lo, .int hi] [.int (mva m)] (HR c m) _
  rw [hT.2.2.2.2.2 h1]
  iterate 5 (refine G.st rfl rfl ?_)
  refine G.call rfl rfl (Nat.le_of_ble_eq_true rfl) (Sp.up (s7_isInI X (numV t tk) lo hi _) (Nat.le_of_ble_eq_true rfl)) ?_
  rintro _ _ ⟨rfl, rfl⟩
  by_cases h2 : lo ≤ numV t tk ∧ numV t tk ≤ hi
  · rw [if_pos ⟨h1, h2⟩]
    rw [bI_t (show tk.2.2 = 2 ∧ lo ≤ numV t tk ∧ numV t tk ≤ hi from ⟨h1, h2⟩)]
    refine G.brf rfl (bI_n h2) ?_
    iterate 2 (refine G.st rfl rfl ?_)
    exact G.ret rfl rfl ⟨rfl, rfl⟩
  · exact G.brt rfl (bI_0.mpr h2) (no (fun q => h2 q.2))
end RNUM
