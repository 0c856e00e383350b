/-! ===== the constructors: a town, the class ===== -/
section CTOR3
variable {Q : Option Value → aH → Prop}
theorem ap3 {p l r : aH} {j : Nat} {v : aC} : ((p ++ l) ++ r).set (p.length + j) v = p ++ (l ++ r).set j v := by
  rw [List.append_assoc, ap_set]
/-- a town's row is made -/
theorem l4_it (X : aX) {h : aH} {x a i : Nat} {fs : List Value} {f : Nat → Option Nat} (hi : i < 4) (hx : h[x]? = some (.inl (4, fs))) (h0 : fs[0]? = some (.ref a)) (ha : h[a]? = some (qA 0 f)) (k : G X 2 kX4_init 32 [.ref x, .int (nI (i + 1))] [] ((h ++ cRow h.length).set a (qA 0 (va_up f i (some h.length)))) Q) : G X 2 kX4_init 32 [.ref x, .int (nI i)] [] h Q := by
  have hal := (List.getElem?_eq_some_iff.mp ha).1
  iterate 2 (refine G.st rfl rfl ?_)
  refine G.brf rfl (by show ¬ nI 4 ≤ nI i; rw [nI_leI (by omega) (by omega)]; omega) ?_
  iterate 1 (refine G.st rfl rfl ?_)
  refine G.get rfl hx h0 ?_
  iterate 1 (refine G.st rfl rfl ?_)
  refine G.newo rfl ?_
  iterate 1 (refine G.st rfl rfl ?_)
  refine G.call rfl rfl (Nat.le_of_ble_eq_true rfl) (Sp.up (s1_init X h) (Nat.le_of_ble_eq_true rfl)) ?_
  rintro _ _ ⟨rfl, rfl⟩
  refine G.aast (t := 0) (n := 4) (f := f) (ci := 1) (fs := [.ref (h.length + 1), .ref (h.length + 2), .ref (h.length + 3), .int (nI 0)]) rfl ?_ ?_ (by omega) rfl (ix_nI hi (by omega)) ?_
  · rw [List.getElem?_append_left hal]; exact ha
  · exact ap_get (p := h) (l := cRow h.length) (j := 0)
  iterate 1 (refine G.st rfl rfl ?_)
  rw [nI_1]
  iterate 1 (refine G.st rfl rfl ?_)
  exact k
def cTow (x : Nat) (f : Nat → Int32) : aH := [.inl (4, [.ref (x + 1), .ref (x + 2), .int 0, .int 0]), qA 0 (rf4 (x + 3) (x + 7) (x + 11) (x + 15)), iA 10 f, rObj (x + 3) 0, iA 7 z0, iA 7 z0, iA 7 z0, rObj (x + 7) 0, iA 7 z0, iA 7 z0, iA 7 z0, rObj (x + 11) 0, iA 7 z0, iA 7 z0, iA 7 z0, rObj (x + 15) 0, iA 7 z0, iA 7 z0, iA 7 z0]
theorem s4_init (X : aX) (p : aH) : Sp X 2 kX4_init [.ref p.length] (p ++ [.inl (4, dF 4)]) (fun v h' => v = none ∧ ∃ f, h' = p ++ cTow p.length f ∧ ∀ j, j < 10 → f j = -1000) := by
  unfold Sp
  iterate 4 (refine G.st rfl rfl ?_)
  refine Ap.newq (x := 1) rfl rfl ?_
  refine Ap.put (j := 0) rfl rfl (Nat.le_of_ble_eq_true rfl) rfl ?_
  iterate 2 (refine G.st rfl rfl ?_)
  refine Ap.newi (x := 2) rfl (by decide) (N := 10) rfl rfl ?_
  refine Ap.put (j := 0) rfl rfl (Nat.le_of_ble_eq_true rfl) rfl ?_
  iterate 2 (refine G.st rfl rfl ?_)
  refine Ap.put (j := 0) rfl rfl (Nat.le_of_ble_eq_true rfl) rfl ?_
  iterate 2 (refine G.st rfl rfl ?_)
  refine Ap.put (j := 0) rfl rfl (Nat.le_of_ble_eq_true rfl) rfl ?_
  iterate 2 (refine G.st rfl rfl ?_)
  show G X 2 kX4_init 32 [.ref p.length, .int (nI 0)] [] (p ++ [.inl (4, [.ref (p.length + 1), .ref (p.length + 2), .int 0, .int 0]), qA 0 (fun _ => none), iA 10 z0]) _
  refine l4_it X (by omega) (ap_get (j := 0)) rfl (a := p.length + 1) (ap_get (j := 1)) ?_
  rw [ap3, List.length_append]
  show G X 2 kX4_init 32 [.ref p.length, .int (nI 1)] [] (p ++ [.inl (4, [.ref (p.length + 1), .ref (p.length + 2), .int 0, .int 0]), qA 0 (va_up (fun _ => none) 0 (some (p.length + 3))), iA 10 z0, rObj (p.length + 3) 0, iA 7 z0, iA 7 z0, iA 7 z0]) _
  refine l4_it X (by omega) (ap_get (j := 0)) rfl (a := p.length + 1) (ap_get (j := 1)) ?_
  rw [ap3, List.length_append]
  show G X 2 kX4_init 32 [.ref p.length, .int (nI 2)] [] (p ++ [.inl (4, [.ref (p.length + 1), .ref (p.length + 2), .int 0, .int 0]), qA 0 (va_up (va_up (fun _ => none) 0 (some (p.length + 3))) 1 (some (p.length + 7))), iA 10 z0, rObj (p.length + 3) 0, iA 7 z0, iA 7 z0, iA 7 z0, rObj (p.length + 7) 0, iA 7 z0, iA 7 z0, iA 7 z0]) _
  refine l4_it X (by omega) (ap_get (j := 0)) rfl (a := p.length + 1) (ap_get (j := 1)) ?_
  rw [ap3, List.length_append]
  show G X 2 kX4_init 32 [.ref p.length, .int (nI 3)] [] (p ++ [.inl (4, [.ref (p.length + 1), .ref (p.length + 2), .int 0, .int 0]), qA 0 (va_up (va_up (va_up (fun _ => none) 0 (some (p.length + 3))) 1 (some (p.length + 7))) 2 (some (p.length + 11))), iA 10 z0, rObj (p.length + 3) 0, iA 7 z0, iA 7 z0, iA 7 z0, rObj (p.length + 7) 0, iA 7 z0, iA 7 z0, iA 7 z0, rObj (p.length + 11) 0, iA 7 z0, iA 7 z0, iA 7 z0]) _
  refine l4_it X (by omega) (ap_get (j := 0)) rfl (a := p.length + 1) (ap_get (j := 1)) ?_
  rw [ap3, List.length_append]
  show G X 2 kX4_init 32 [.ref p.length, .int (nI 4)] [] (p ++ cTow p.length z0) _
  iterate 2 (refine G.st rfl rfl ?_)
  refine G.brt rfl (by decide) ?_
  iterate 1 (refine G.st rfl rfl ?_)
  refine G.get rfl (ap_get (j := 0)) rfl ?_
  iterate 1 (refine G.st rfl rfl ?_)
  refine G.call rfl rfl (Nat.le_of_ble_eq_true rfl) (Sp.up (sj_fill X (h := p ++ cTow p.length z0) (a := p.length + 2) (N := 10) (f := z0) (x := -1000) (ap_get (j := 2)) (by omega)) (Nat.le_of_ble_eq_true rfl)) ?_
  rintro _ _ ⟨rfl, f, rfl, hf⟩
  rw [ap_set]
  exact G.ret rfl rfl ⟨rfl, f, rfl, hf⟩
/-- one of the class's three towns -/
theorem k6_tow (X : aX) {l : aH} {fs : List Value} {b : Nat} {pc nx : Nat} (hp : (pc = 4 ∧ nx = 15 ∧ b = 0) ∨ (pc = 15 ∧ nx = 26 ∧ b = 1) ∨ (pc = 26 ∧ nx = 37 ∧ b = 2)) (hb : b < fs.length) (k : ∀ f, (∀ j, j < 10 → f j = -1000) → G X 4 kX6_init nx [.ref 0, .double 0] [] (.inl (6, fs.set b (.ref (l.length + 1))) :: (l ++ cTow (l.length + 1) f)) Q) : G X 4 kX6_init pc [.ref 0, .double 0] [] (.inl (6, fs) :: l) Q := by
  rcases hp with ⟨rfl, rfl, rfl⟩ | ⟨rfl, rfl, rfl⟩ | ⟨rfl, rfl, rfl⟩
  · iterate 1 (refine G.st rfl rfl ?_)
    refine G.newo rfl ?_
    iterate 1 (refine G.st rfl rfl ?_)
    refine G.call rfl rfl (Nat.le_of_ble_eq_true rfl) (Sp.up (s4_init X (.inl (6, fs) :: l)) (Nat.le_of_ble_eq_true rfl)) ?_
    rintro _ _ ⟨rfl, f, rfl, hf⟩
    exact G.put (fs := fs) rfl rfl hb rfl (k f hf)
  · iterate 1 (refine G.st rfl rfl ?_)
    refine G.newo rfl ?_
    iterate 1 (refine G.st rfl rfl ?_)
    refine G.call rfl rfl (Nat.le_of_ble_eq_true rfl) (Sp.up (s4_init X (.inl (6, fs) :: l)) (Nat.le_of_ble_eq_true rfl)) ?_
    rintro _ _ ⟨rfl, f, rfl, hf⟩
    exact G.put (fs := fs) rfl rfl hb rfl (k f hf)
  · iterate 1 (refine G.st rfl rfl ?_)
    refine G.newo rfl ?_
    iterate 1 (refine G.st rfl rfl ?_)
    refine G.call rfl rfl (Nat.le_of_ble_eq_true rfl) (Sp.up (s4_init X (.inl (6, fs) :: l)) (Nat.le_of_ble_eq_true rfl)) ?_
    rintro _ _ ⟨rfl, f, rfl, hf⟩
    exact G.put (fs := fs) rfl rfl hb rfl (k f hf)
/-- a sheet is made -/
theorem l6_it (X : aX) {l : aH} {fs : List Value} {a i : Nat} {f : Nat → Option Nat} (hi : i < 4) (h6 : fs[6]? = some (.ref (a + 1))) (ha : l[a]? = some (qA 1 f)) (k : G X 4 kX6_init 97 [.ref 0, .int (nI (i + 1))] [] (.inl (6, fs) :: ((l ++ cShe (l.length + 1)).set a (qA 1 (va_up f i (some (l.length + 1)))))) Q) : G X 4 kX6_init 97 [.ref 0, .int (nI i)] [] (.inl (6, fs) :: l) Q := by
  have hal := (List.getElem?_eq_some_iff.mp ha).1
  iterate 2 (refine G.st rfl rfl ?_)
  refine G.brf rfl (by show ¬ nI 4 ≤ nI i; rw [nI_leI (by omega) (by omega)]; omega) ?_
  iterate 1 (refine G.st rfl rfl ?_)
  refine G.get (fs := fs) rfl rfl h6 ?_
  iterate 1 (refine G.st rfl rfl ?_)
  refine G.newo rfl ?_
  iterate 1 (refine G.st rfl rfl ?_)
  refine G.call rfl rfl (Nat.le_of_ble_eq_true rfl) (Sp.up (s2_init X (.inl (6, fs) :: l)) (Nat.le_of_ble_eq_true rfl)) ?_
  rintro _ _ ⟨rfl, rfl⟩
  refine G.aast (t := 1) (n := 4) (f := f) (ci := 2) (fs := [.ref (l.length + 1 + 1), .int 0, .int 0]) rfl ?_ ?_ (by omega) rfl (ix_nI hi (by omega)) ?_
  · show (l ++ cShe (l.length + 1))[a]? = _
    rw [List.getElem?_append_left hal]; exact ha
  · exact ap_get (p := .inl (6, fs) :: l) (l := cShe (l.length + 1)) (j := 0)
  iterate 1 (refine G.st rfl rfl ?_)
  rw [nI_1]
  iterate 1 (refine G.st rfl rfl ?_)
  exact k
end CTOR3
