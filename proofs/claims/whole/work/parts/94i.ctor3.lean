/-! ===== the constructors: the class, whole ===== -/
section CTOR4
variable {Q : Option Value → aH → Prop}
theorem G.newq {X : aX} {d : Nat} {mi : aM} {pc : Nat} {lo r : List Value} {h : aH} {nx a b i : Nat} {v : Value} (he : ent mi pc = some (.anewarray i, nx, a, b, v)) (k : G X d mi nx lo (.ref h.length :: r) (h ++ [qA a (fun _ => none)]) Q) : G X d mi pc lo (.int 4 :: r) h Q := by
  refine G.go ?_ k
  simp only [sA, he, stp]
  rw [if_neg (by decide)]
  rfl
theorem G.newi {X : aX} {d : Nat} {mi : aM} {pc : Nat} {lo r : List Value} {h : aH} {nx a b N : Nat} {v : Value} {n : Int32} (he : ent mi pc = some (.newarray .int, nx, a, b, v)) (h0 : ¬ (n < 0 ∨ 100000 < n.toNatClampNeg)) (hN : n.toNatClampNeg = N) (k : G X d mi nx lo (.ref h.length :: r) (h ++ [iA N z0]) Q) : G X d mi pc lo (.int n :: r) h Q := by
  subst hN
  refine G.go ?_ k
  simp only [sA, he, stp]
  rw [if_neg h0]
theorem k6_voi (X : aX) {l : aH} {fs : List Value} (hb : 3 < fs.length) (k : G X 4 kX6_init 48 [.ref 0, .double 0] [] (.inl (6, fs.set 3 (.ref (l.length + 1))) :: (l ++ cVoi)) Q) : G X 4 kX6_init 37 [.ref 0, .double 0] [] (.inl (6, fs) :: l) Q := by
  iterate 1 (refine G.st rfl rfl ?_)
  refine G.newo rfl ?_
  iterate 1 (refine G.st rfl rfl ?_)
  refine G.call rfl rfl (Nat.le_of_ble_eq_true rfl) (Sp.up (s5_init X (.inl (6, fs) :: l)) (Nat.le_of_ble_eq_true rfl)) ?_
  rintro _ _ ⟨rfl, rfl⟩
  exact G.put (fs := fs) rfl rfl hb rfl k
theorem k6_ord (X : aX) {l : aH} {fs : List Value} {y : Nat} (h0 : fs[0]? = some (.ref y)) (hb : 4 < fs.length) (k : G X 4 kX6_init 63 [.ref 0, .double 0] [] (.inl (6, fs.set 4 (.ref (l.length + 1))) :: (l ++ cOrd (l.length + 1) y)) Q) : G X 4 kX6_init 48 [.ref 0, .double 0] [] (.inl (6, fs) :: l) Q := by
  iterate 1 (refine G.st rfl rfl ?_)
  refine G.newo rfl ?_
  iterate 2 (refine G.st rfl rfl ?_)
  refine G.get (fs := fs) rfl rfl h0 ?_
  refine G.call rfl rfl (Nat.le_of_ble_eq_true rfl) (Sp.up (s0_init X (.inl (6, fs) :: l) y) (Nat.le_of_ble_eq_true rfl)) ?_
  rintro _ _ ⟨rfl, rfl⟩
  exact G.put (fs := fs) rfl rfl hb rfl k
theorem k6_tap (X : aX) {l : aH} {fs : List Value} (hb : 5 < fs.length) (k : G X 4 kX6_init 74 [.ref 0, .double 0] [] (.inl (6, fs.set 5 (.ref (l.length + 1))) :: (l ++ cTap (l.length + 1))) Q) : G X 4 kX6_init 63 [.ref 0, .double 0] [] (.inl (6, fs) :: l) Q := by
  iterate 1 (refine G.st rfl rfl ?_)
  refine G.newo rfl ?_
  iterate 1 (refine G.st rfl rfl ?_)
  refine G.call rfl rfl (Nat.le_of_ble_eq_true rfl) (Sp.up (s3_init X (.inl (6, fs) :: l)) (Nat.le_of_ble_eq_true rfl)) ?_
  rintro _ _ ⟨rfl, rfl⟩
  exact G.put (fs := fs) rfl rfl hb rfl k
theorem k6_arr (X : aX) {l : aH} {fs : List Value} (hb : 8 < fs.length) (k : G X 4 kX6_init 97 [.ref 0, .int (nI 0)] [] (.inl (6, ((fs.set 6 (.ref (l.length + 1))).set 7 (.ref (l.length + 1 + 1))).set 8 (.int 0)) :: (l ++ [qA 1 (fun _ => none)] ++ [iA 7 z0])) Q) : G X 4 kX6_init 74 [.ref 0, .double 0] [] (.inl (6, fs) :: l) Q := by
  iterate 2 (refine G.st rfl rfl ?_)
  refine G.newq rfl ?_
  refine G.put (fs := fs) rfl rfl (by omega) rfl ?_
  show G X 4 kX6_init 82 [.ref 0, .double 0] [] (.inl (6, fs.set 6 (.ref (l.length + 1))) :: (l ++ [qA 1 (fun _ => none)])) _
  iterate 2 (refine G.st rfl rfl ?_)
  refine G.newi (N := 7) rfl (by decide) rfl ?_
  refine G.put (fs := fs.set 6 (.ref (l.length + 1))) rfl rfl (by rw [List.length_set]; omega) rfl ?_
  have e : (l ++ [qA 1 (fun _ => none)]).length = l.length + 1 := by rw [List.length_append]; rfl
  show G X 4 kX6_init 90 [.ref 0, .double 0] [] (.inl (6, (fs.set 6 (.ref (l.length + 1))).set 7 (.ref ((l ++ [qA 1 (fun _ => none)]).length + 1))) :: (l ++ [qA 1 (fun _ => none)] ++ [iA 7 z0])) _
  rw [e]
  iterate 2 (refine G.st rfl rfl ?_)
  refine G.put (fs := (fs.set 6 (.ref (l.length + 1))).set 7 (.ref (l.length + 1 + 1))) rfl rfl (by rw [List.length_set, List.length_set]; omega) rfl ?_
  iterate 2 (refine G.st rfl rfl ?_)
  exact k
def c70 (f0 f1 f2 : Nat → Int32) : aH := cTow 1 f0 ++ cTow 20 f1 ++ cTow 39 f2 ++ cVoi ++ cOrd 59 1 ++ cTap 69
def c81 (f0 f1 f2 : Nat → Int32) : aH := .inl (6, [.ref 1, .ref 20, .ref 39, .ref 58, .ref 59, .ref 69, .ref 71, .ref 72, .int 0]) :: (c70 f0 f1 f2 ++ [qA 1 (rf4 73 75 77 79), iA 7 z0] ++ cShe 73 ++ cShe 75 ++ cShe 77 ++ cShe 79)
theorem ap30 {p l r : aH} {v : aC} : ((p ++ l) ++ r).set p.length v = p ++ (l ++ r).set 0 v := ap3 (j := 0)
theorem k6_lp (X : aX) {p : aH} (hp : p.length = 70) {fs : List Value} (h6 : fs[6]? = some (.ref 71)) : G X 4 kX6_init 97 [.ref 0, .int (nI 0)] [] (.inl (6, fs) :: (p ++ [qA 1 (fun _ => none), iA 7 z0])) (An none (.inl (6, fs) :: (p ++ ([qA 1 (rf4 73 75 77 79), iA 7 z0] ++ cShe 73 ++ cShe 75 ++ cShe 77 ++ cShe 79)))) := by
  have h6' : fs[6]? = some (.ref (p.length + 0 + 1)) := by rw [hp]; exact h6
  refine l6_it X (by omega) h6' (ap_get (j := 0)) ?_
  rw [ap30, List.length_append, hp]
  show G X 4 kX6_init 97 [.ref 0, .int (nI 1)] [] (.inl (6, fs) :: (p ++ ([qA 1 (va_up (fun _ => none) 0 (some 73)), iA 7 z0] ++ cShe 73))) _
  refine l6_it X (by omega) h6' (ap_get (j := 0)) ?_
  rw [ap30, List.length_append, hp]
  show G X 4 kX6_init 97 [.ref 0, .int (nI 2)] [] (.inl (6, fs) :: (p ++ ([qA 1 (va_up (va_up (fun _ => none) 0 (some 73)) 1 (some 75)), iA 7 z0] ++ cShe 73 ++ cShe 75))) _
  refine l6_it X (by omega) h6' (ap_get (j := 0)) ?_
  rw [ap30, List.length_append, hp]
  show G X 4 kX6_init 97 [.ref 0, .int (nI 3)] [] (.inl (6, fs) :: (p ++ ([qA 1 (va_up (va_up (va_up (fun _ => none) 0 (some 73)) 1 (some 75)) 2 (some 77)), iA 7 z0] ++ cShe 73 ++ cShe 75 ++ cShe 77))) _
  refine l6_it X (by omega) h6' (ap_get (j := 0)) ?_
  rw [ap30, List.length_append, hp]
  show G X 4 kX6_init 97 [.ref 0, .int (nI 4)] [] (.inl (6, fs) :: (p ++ ([qA 1 (rf4 73 75 77 79), iA 7 z0] ++ cShe 73 ++ cShe 75 ++ cShe 77 ++ cShe 79))) _
  iterate 2 (refine G.st rfl rfl ?_)
  refine G.brt rfl (by decide) ?_
  exact G.ret rfl rfl ⟨rfl, rfl⟩
theorem s6_init (X : aX) : Sp X 4 kX6_init [.ref 0] [.inl (6, dF 6)] (fun v h' => v = none ∧ ∃ f0 f1 f2, h' = c81 f0 f1 f2 ∧ (∀ j, j < 10 → f0 j = -1000) ∧ (∀ j, j < 10 → f1 j = -1000) ∧ ∀ j, j < 10 → f2 j = -1000) := by
  unfold Sp
  iterate 2 (refine G.st rfl rfl ?_)
  refine k6_tow X (l := []) (fs := dF 6) (b := 0) (Or.inl ⟨rfl, rfl, rfl⟩) (Nat.le_of_ble_eq_true rfl) (fun f0 h0 => ?_)
  show G X 4 kX6_init 15 [.ref 0, .double 0] [] (.inl (6, [.ref 1, .null, .null, .null, .null, .null, .null, .null, .int 0]) :: cTow 1 f0) _
  refine k6_tow X (b := 1) (Or.inr (Or.inl ⟨rfl, rfl, rfl⟩)) (Nat.le_of_ble_eq_true rfl) (fun f1 h1 => ?_)
  show G X 4 kX6_init 26 [.ref 0, .double 0] [] (.inl (6, [.ref 1, .ref 20, .null, .null, .null, .null, .null, .null, .int 0]) :: (cTow 1 f0 ++ cTow 20 f1)) _
  refine k6_tow X (b := 2) (Or.inr (Or.inr ⟨rfl, rfl, rfl⟩)) (Nat.le_of_ble_eq_true rfl) (fun f2 h2 => ?_)
  show G X 4 kX6_init 37 [.ref 0, .double 0] [] (.inl (6, [.ref 1, .ref 20, .ref 39, .null, .null, .null, .null, .null, .int 0]) :: (cTow 1 f0 ++ cTow 20 f1 ++ cTow 39 f2)) _
  refine k6_voi X (Nat.le_of_ble_eq_true rfl) ?_
  show G X 4 kX6_init 48 [.ref 0, .double 0] [] (.inl (6, [.ref 1, .ref 20, .ref 39, .ref 58, .null, .null, .null, .null, .int 0]) :: (cTow 1 f0 ++ cTow 20 f1 ++ cTow 39 f2 ++ cVoi)) _
  refine k6_ord X (y := 1) rfl (Nat.le_of_ble_eq_true rfl) ?_
  show G X 4 kX6_init 63 [.ref 0, .double 0] [] (.inl (6, [.ref 1, .ref 20, .ref 39, .ref 58, .ref 59, .null, .null, .null, .int 0]) :: (cTow 1 f0 ++ cTow 20 f1 ++ cTow 39 f2 ++ cVoi ++ cOrd 59 1)) _
  refine k6_tap X (Nat.le_of_ble_eq_true rfl) ?_
  show G X 4 kX6_init 74 [.ref 0, .double 0] [] (.inl (6, [.ref 1, .ref 20, .ref 39, .ref 58, .ref 59, .ref 69, .null, .null, .int 0]) :: c70 f0 f1 f2) _
  have h70 : (c70 f0 f1 f2).length = 70 := rfl
  refine k6_arr X (Nat.le_of_ble_eq_true rfl) ?_
  rw [h70, List.append_assoc]
  refine (k6_lp X h70 (fs := [.ref 1, .ref 20, .ref 39, .ref 58, .ref 59, .ref 69, .ref 71, .ref 72, .int 0]) rfl).imp ?_
  rintro _ _ ⟨rfl, rfl⟩
  refine ⟨rfl, f0, f1, f2, ?_, h0, h1, h2⟩
  unfold c81
  rw [List.append_assoc, List.append_assoc, List.append_assoc, List.append_assoc]
  rfl
end CTOR4
