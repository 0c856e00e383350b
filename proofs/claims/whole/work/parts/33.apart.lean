section APART
variable {rw : Nat → sR} {nu : Nat → Nat → Int32} {wd : Nat → Int32 × Int32} {vo : sV} {od : sO} {tp : sP} {sh : Nat → sS} {fi : Nat → Int32} {ik : Int32} {m : sM} {s : Sg} {nm : Nat → Option Int32}
def abI (x : Int32) : Int32 := if 0 ≤ x then x else 0 - x
/-- the least difference so far, with the pair i, j -/
def prN (nm : Nat → Option Int32) (i j : Nat) (a : Int32) : Int32 := if (nm i).isSome = true ∧ (nm j).isSome = true then (if abI ((nm i).getD (-1000) - (nm j).getD (-1000)) < a then abI ((nm i).getD (-1000) - (nm j).getD (-1000)) else a) else a
def dIn (nm : Nat → Option Int32) (i : Nat) : Nat → Nat → Int32 → Int32
  | 0, _, a => a
  | k + 1, j, a => dIn nm i k (j + 1) (prN nm i j a)
def dOut (nm : Nat → Option Int32) : Nat → Nat → Int32 → Int32
  | 0, _, a => a
  | k + 1, i, a => dOut nm k (i + 1) (dIn nm i k (i + 1) a)
theorem l4_ldIn (X : aX) (hn : NumR (nu 0) nm) {i : Nat} (hi : i < 10) {Q : Option Value → aH → Prop} : ∀ (k j : Nat) (a : Int32), j + k = 10 → (∀ u, G X 1 kX4_leastDifference 65 [.ref 1, .int (dIn nm i k j a), .int (nI i), u] [] (H rw nu wd vo od tp sh fi ik m) Q) → G X 1 kX4_leastDifference 16 [.ref 1, .int a, .int (nI i), .int (nI j)] [] (H rw nu wd vo od tp sh fi ik m) Q
  | 0, j, a, hj, hq => by
    iterate 2 (refine G.st rfl rfl ?_)
    refine G.brt rfl (le_nI (k := 10) rfl (by omega) (by omega)) ?_
    exact hq _
  | k + 1, j, a, hj, hq => by
    have hj10 : j < 10 := by omega
    have ni := (hn i hi).1
    have nj := (hn j hj10).1
    iterate 2 (refine G.st rfl rfl ?_)
    refine G.brf rfl (nle_nI (k := 10) rfl (by omega) (by omega)) ?_
    have skip : ∀ b, b = prN nm i j a → G X 1 kX4_leastDifference 59 [.ref 1, .int b, .int (nI i), .int (nI j)] [] (H rw nu wd vo od tp sh fi ik m) Q := by
      rintro _ rfl
      iterate 1 (refine G.st rfl rfl ?_)
      rw [nI_1]
      iterate 1 (refine G.st rfl rfl ?_)
      exact l4_ldIn X hn hi k (j + 1) _ (by omega) hq
    iterate 2 (refine G.st rfl rfl ?_)
    refine G.call rfl rfl (Nat.le_of_ble_eq_true rfl) (Sp.up (s4_hasNumber X hn hi) (Nat.le_of_ble_eq_true rfl)) ?_
    rintro _ _ ⟨rfl, rfl⟩
    by_cases h1 : (nm i).isSome = true
    case neg =>
      refine G.brt rfl (bI_0.mpr h1) ?_
      exact skip _ (by unfold prN; rw [if_neg (fun q => h1 q.1)])
    refine G.brf rfl (bI_n h1) ?_
    iterate 2 (refine G.st rfl rfl ?_)
    refine G.call rfl rfl (Nat.le_of_ble_eq_true rfl) (Sp.up (s4_hasNumber X hn hj10) (Nat.le_of_ble_eq_true rfl)) ?_
    rintro _ _ ⟨rfl, rfl⟩
    by_cases h2 : (nm j).isSome = true
    case neg =>
      refine G.brt rfl (bI_0.mpr h2) ?_
      exact skip _ (by unfold prN; rw [if_neg (fun q => h2 q.2)])
    refine G.brf rfl (bI_n h2) ?_
    iterate 4 (refine G.st rfl rfl ?_)
    refine G.iald rfl rfl (ix_nI hi (by omega)) ?_
    iterate 3 (refine G.st rfl rfl ?_)
    refine G.iald rfl rfl (ix_nI hj10 (by omega)) ?_
    iterate 4 (refine G.st rfl rfl ?_)
    refine skip _ ?_
    unfold prN abI
    rw [if_pos (c := (nm i).isSome = true ∧ (nm j).isSome = true) ⟨h1, h2⟩, ← ni, ← nj]
theorem l4_ldOut (X : aX) (hn : NumR (nu 0) nm) : ∀ (k i : Nat) (a : Int32) (u : Value), i + k = 10 → G X 1 kX4_leastDifference 6 [.ref 1, .int a, .int (nI i), u] [] (H rw nu wd vo od tp sh fi ik m) (An (some (.int (dOut nm k i a))) (H rw nu wd vo od tp sh fi ik m))
  | 0, i, a, u, hi => by
    iterate 2 (refine G.st rfl rfl ?_)
    refine G.brt rfl (le_nI (k := 10) rfl (by omega) (by omega)) ?_
    iterate 1 (refine G.st rfl rfl ?_)
    exact G.ret rfl rfl ⟨rfl, rfl⟩
  | k + 1, i, a, u, hi => by
    iterate 2 (refine G.st rfl rfl ?_)
    refine G.brf rfl (nle_nI (k := 10) rfl (by omega) (by omega)) ?_
    iterate 4 (refine G.st rfl rfl ?_)
    show G X 1 kX4_leastDifference 16 [.ref 1, .int a, .int (nI i), .int (nI i + 1)] [] _ _
    rw [nI_1]
    refine l4_ldIn X hn (by omega) k (i + 1) a (by omega) ?_
    intro u
    iterate 1 (refine G.st rfl rfl ?_)
    rw [nI_1]
    iterate 1 (refine G.st rfl rfl ?_)
    exact l4_ldOut X hn k (i + 1) _ u (by omega)
theorem s4_leastDifference (X : aX) (hn : NumR (nu 0) nm) : Sp X 1 kX4_leastDifference [.ref 1] (H rw nu wd vo od tp sh fi ik m) (An (some (.int (dOut nm 10 0 10998))) (H rw nu wd vo od tp sh fi ik m)) := by
  unfold Sp
  iterate 4 (refine G.st rfl rfl ?_)
  exact l4_ldOut X hn 10 0 10998 _ rfl
def S_apart (s : Sg) : Int32 × Sg := if 2 ≤ toldN (zN s) 10 then (dOut (zN s) 10 0 10998, s) else fin 3 s
theorem p6_apart (X : aX) {h : aH} (hC : CI m s h) : Sp X 10 kX6_apart [.ref 0] h (fun v h' => v = some (.int (S_apart s).1) ∧ CI m (S_apart s).2 h') := by
  obtain ⟨rw, nu, wd, vo, od, tp, sh, fi, ik, rfl, hC⟩ := hC
  unfold Sp S_apart
  have ht := toldN_le (zN s) 10
  iterate 2 (refine G.st rfl rfl ?_)
  refine G.call rfl rfl (Nat.le_of_ble_eq_true rfl) (Sp.up (s4_meaningsTold X hC.num) (Nat.le_of_ble_eq_true rfl)) ?_
  rintro _ _ ⟨rfl, rfl⟩
  iterate 1 (refine G.st rfl rfl ?_)
  by_cases h2 : 2 ≤ toldN (zN s) 10
  · rw [if_pos h2]
    refine G.brt rfl (le_nI (k := 2) rfl h2 (by omega)) ?_
    iterate 2 (refine G.st rfl rfl ?_)
    refine G.call rfl rfl (Nat.le_of_ble_eq_true rfl) (Sp.up (s4_leastDifference X hC.num) (Nat.le_of_ble_eq_true rfl)) ?_
    rintro _ _ ⟨rfl, rfl⟩
    exact G.ret rfl rfl ⟨rfl, CI.mk hC⟩
  · rw [if_neg h2]
    refine G.brf rfl (nle_nI (k := 2) rfl (by omega) (by omega)) ?_
    iterate 2 (refine G.st rfl rfl ?_)
    refine G.call rfl rfl (Nat.le_of_ble_eq_true rfl) (Sp.up (c6_f3 X hC) (Nat.le_of_ble_eq_true rfl)) ?_
    rintro _ _ ⟨rfl, hci⟩
    exact G.ret rfl rfl ⟨rfl, hci⟩
end APART
