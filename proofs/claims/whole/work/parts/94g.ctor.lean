/-! ===== the constructors: pieces ===== -/
abbrev z0 : Nat → Int32 := fun _ => 0
abbrev z1 : Nat → Int64 := fun _ => 0
theorem ap_get {p l : aH} {j : Nat} : (p ++ l)[p.length + j]? = l[j]? := by
  rw [List.getElem?_append_right (by omega), Nat.add_sub_cancel_left]
theorem ap_set {p l : aH} {j : Nat} {v : aC} : (p ++ l).set (p.length + j) v = p ++ l.set j v := by
  rw [List.set_append_right _ _ (by omega), Nat.add_sub_cancel_left]
section CTOR
variable {X : aX} {d : Nat} {mi : aM} {pc : Nat} {lo st r : List Value} {p l h : aH} {Q : Option Value → aH → Prop} {nx a b i : Nat} {v : Value}
theorem G.newo (he : ent mi pc = some (.new i, nx, a, b, v)) (k : G X d mi nx lo (.ref h.length :: st) (h ++ [.inl (a, dF a)]) Q) : G X d mi pc lo st h Q := by
  refine G.go ?_ k
  simp only [sA, he, stp]
theorem G.alI {x n : Nat} {f : Nat → Int32} (he : ent mi pc = some (.arraylength, nx, a, b, v)) (hc : h[x]? = some (iA n f)) (k : G X d mi nx lo (.int (nI n) :: r) h Q) : G X d mi pc lo (.ref x :: r) h Q := by
  refine G.go ?_ k
  simp only [sA, he, stp, hc]
theorem G.aast {x y t n j ci : Nat} {i : Int32} {f : Nat → Option Nat} {fs : List Value} (he : ent mi pc = some (.aastore, nx, a, b, v)) (hc : h[x]? = some (.inr (.inr (.inr (t, n, f))))) (hy : h[y]? = some (.inl (ci, fs))) (ht : t < 2) (hci : ci = t + 1) (hi : ix i n j) (k : G X d mi nx lo r (h.set x (.inr (.inr (.inr (t, n, va_up f j (some y)))))) Q) : G X d mi pc lo (.ref y :: .int i :: .ref x :: r) h Q := by
  refine G.go ?_ k
  simp only [sA, he, stp, hc, hy]
  rw [if_neg (fun q => q.elim (fun q => absurd ht (by omega)) (ix_no hi)), if_pos hci, hi.2.1]
theorem Ap.newi {n : Int32} {N x : Nat} (he : ent mi pc = some (.newarray .int, nx, a, b, v)) (h0 : ¬ (n < 0 ∨ 100000 < n.toNatClampNeg)) (hN : n.toNatClampNeg = N) (hx : l.length = x) (k : G X d mi nx lo (.ref (p.length + x) :: r) (p ++ (l ++ [iA N z0])) Q) : G X d mi pc lo (.int n :: r) (p ++ l) Q := by
  subst hN hx
  refine G.go (pc' := nx) (lo' := lo) (st' := .ref (p ++ l).length :: r) (h' := (p ++ l) ++ [iA n.toNatClampNeg z0]) ?_ ?_
  · simp only [sA, he, stp]
    rw [if_neg h0]
  · rw [List.length_append, List.append_assoc]
    exact k
theorem Ap.newl {n : Int32} {N x : Nat} (he : ent mi pc = some (.newarray .long, nx, a, b, v)) (h0 : ¬ (n < 0 ∨ 100000 < n.toNatClampNeg)) (hN : n.toNatClampNeg = N) (hx : l.length = x) (k : G X d mi nx lo (.ref (p.length + x) :: r) (p ++ (l ++ [lA N z1])) Q) : G X d mi pc lo (.int n :: r) (p ++ l) Q := by
  subst hN hx
  refine G.go (pc' := nx) (lo' := lo) (st' := .ref (p ++ l).length :: r) (h' := (p ++ l) ++ [lA n.toNatClampNeg z1]) ?_ ?_
  · simp only [sA, he, stp]
    rw [if_neg h0]
  · rw [List.length_append, List.append_assoc]
    exact k
theorem Ap.newq {x : Nat} (he : ent mi pc = some (.anewarray i, nx, a, b, v)) (hx : l.length = x) (k : G X d mi nx lo (.ref (p.length + x) :: r) (p ++ (l ++ [qA a (fun _ => none)])) Q) : G X d mi pc lo (.int 4 :: r) (p ++ l) Q := by
  subst hx
  refine G.go (pc' := nx) (lo' := lo) (st' := .ref (p ++ l).length :: r) (h' := (p ++ l) ++ [qA a (fun _ => none)]) ?_ ?_
  · simp only [sA, he, stp]
    rw [if_neg (by decide)]
    rfl
  · rw [List.length_append, List.append_assoc]
    exact k
theorem Ap.put {j : Nat} {fs : List Value} {w : Value} (he : ent mi pc = some (.putfield i, nx, a, b, v)) (hc : l[j]? = some (.inl (a, fs))) (hb : b < fs.length) (hk : fok v w = true) (k : G X d mi nx lo r (p ++ l.set j (.inl (a, fs.set b w))) Q) : G X d mi pc lo (w :: .ref (p.length + j) :: r) (p ++ l) Q := by
  refine G.put he ?_ hb hk ?_
  · rw [ap_get]; exact hc
  · rw [ap_set]; exact k
theorem Ap.iast {j m n : Nat} {f : Nat → Int32} {x w : Int32} (he : ent mi pc = some (.iastore, nx, a, b, v)) (hc : l[j]? = some (iA n f)) (hi : ix x n m) (k : G X d mi nx lo r (p ++ l.set j (iA n (upd f m w))) Q) : G X d mi pc lo (.int w :: .int x :: .ref (p.length + j) :: r) (p ++ l) Q := by
  refine G.iast he (n := n) (f := f) ?_ hi ?_
  · rw [ap_get]; exact hc
  · rw [ap_set]; exact k
end CTOR
section CTOR2
variable {Q : Option Value → aH → Prop}
def cRow (x : Nat) : aH := [rObj x 0, iA 7 z0, iA 7 z0, iA 7 z0]
theorem s1_init (X : aX) (p : aH) : Sp X 0 kX1_init [.ref p.length] (p ++ [.inl (1, dF 1)]) (An none (p ++ cRow p.length)) := by
  unfold Sp
  iterate 4 (refine G.st rfl rfl ?_)
  refine Ap.newi (x := 1) rfl (by decide) (N := 7) rfl rfl ?_
  refine Ap.put (j := 0) rfl rfl (Nat.le_of_ble_eq_true rfl) rfl ?_
  iterate 2 (refine G.st rfl rfl ?_)
  refine Ap.newi (x := 2) rfl (by decide) (N := 7) rfl rfl ?_
  refine Ap.put (j := 0) rfl rfl (Nat.le_of_ble_eq_true rfl) rfl ?_
  iterate 2 (refine G.st rfl rfl ?_)
  refine Ap.newi (x := 3) rfl (by decide) (N := 7) rfl rfl ?_
  refine Ap.put (j := 0) rfl rfl (Nat.le_of_ble_eq_true rfl) rfl ?_
  iterate 2 (refine G.st rfl rfl ?_)
  refine Ap.put (j := 0) rfl rfl (Nat.le_of_ble_eq_true rfl) rfl ?_
  exact G.ret rfl rfl ⟨rfl, rfl⟩
def cShe (x : Nat) : aH := [.inl (2, [.ref (x + 1), .int 0, .int 0]), lA 40 z1]
theorem s2_init (X : aX) (p : aH) : Sp X 0 kX2_init [.ref p.length] (p ++ [.inl (2, dF 2)]) (An none (p ++ cShe p.length)) := by
  unfold Sp
  iterate 4 (refine G.st rfl rfl ?_)
  refine Ap.newl (x := 1) rfl (by decide) (N := 40) rfl rfl ?_
  refine Ap.put (j := 0) rfl rfl (Nat.le_of_ble_eq_true rfl) rfl ?_
  iterate 2 (refine G.st rfl rfl ?_)
  refine Ap.put (j := 0) rfl rfl (Nat.le_of_ble_eq_true rfl) rfl ?_
  iterate 2 (refine G.st rfl rfl ?_)
  refine Ap.put (j := 0) rfl rfl (Nat.le_of_ble_eq_true rfl) rfl ?_
  exact G.ret rfl rfl ⟨rfl, rfl⟩
def cTap (x : Nat) : aH := [.inl (3, [.ref (x + 1), .int 0, .int 0, .int 0, .int 0, .int 0]), iA 120 z0]
theorem s3_init (X : aX) (p : aH) : Sp X 0 kX3_init [.ref p.length] (p ++ [.inl (3, dF 3)]) (An none (p ++ cTap p.length)) := by
  unfold Sp
  iterate 4 (refine G.st rfl rfl ?_)
  refine Ap.newi (x := 1) rfl (by decide) (N := 120) rfl rfl ?_
  refine Ap.put (j := 0) rfl rfl (Nat.le_of_ble_eq_true rfl) rfl ?_
  iterate 2 (refine G.st rfl rfl ?_)
  refine Ap.put (j := 0) rfl rfl (Nat.le_of_ble_eq_true rfl) rfl ?_
  iterate 2 (refine G.st rfl rfl ?_)
  refine Ap.put (j := 0) rfl rfl (Nat.le_of_ble_eq_true rfl) rfl ?_
  iterate 2 (refine G.st rfl rfl ?_)
  refine Ap.put (j := 0) rfl rfl (Nat.le_of_ble_eq_true rfl) rfl ?_
  iterate 2 (refine G.st rfl rfl ?_)
  refine Ap.put (j := 0) rfl rfl (Nat.le_of_ble_eq_true rfl) rfl ?_
  iterate 2 (refine G.st rfl rfl ?_)
  refine Ap.put (j := 0) rfl rfl (Nat.le_of_ble_eq_true rfl) rfl ?_
  exact G.ret rfl rfl ⟨rfl, rfl⟩
def cVoi : aH := [.inl (5, [.int 0, .int 0, .int 0])]
theorem s5_init (X : aX) (p : aH) : Sp X 0 kX5_init [.ref p.length] (p ++ [.inl (5, dF 5)]) (An none (p ++ cVoi)) := by
  unfold Sp
  iterate 4 (refine G.st rfl rfl ?_)
  refine Ap.put (j := 0) rfl rfl (Nat.le_of_ble_eq_true rfl) rfl ?_
  iterate 2 (refine G.st rfl rfl ?_)
  refine Ap.put (j := 0) rfl rfl (Nat.le_of_ble_eq_true rfl) rfl ?_
  iterate 2 (refine G.st rfl rfl ?_)
  refine Ap.put (j := 0) rfl rfl (Nat.le_of_ble_eq_true rfl) rfl ?_
  exact G.ret rfl rfl ⟨rfl, rfl⟩
def cOrd (x y : Nat) : aH := [.inl (0, [.ref y, .ref (x + 1), .ref (x + 5), .ref (x + 6), .ref (x + 7), .ref (x + 8), .ref (x + 9), .int (-1), .int 0, .int 1, .int 0, .int 1, .int 0, .int 0, .int 0, .int 0]), rObj (x + 1) 0, iA 7 z0, iA 7 z0, iA 7 z0, iA 7 z0, iA 7 z0, iA 7 z0, iA 7 z0, lA 313 z1]
theorem s0_init (X : aX) (p : aH) (y : Nat) : Sp X 1 kX0_init [.ref p.length, .ref y] (p ++ [.inl (0, dF 0)]) (An none (p ++ cOrd p.length y)) := by
  unfold Sp
  iterate 3 (refine G.st rfl rfl ?_)
  refine G.newo rfl ?_
  iterate 1 (refine G.st rfl rfl ?_)
  refine G.call rfl rfl (Nat.le_of_ble_eq_true rfl) (Sp.up (s1_init X (p ++ [.inl (0, dF 0)])) (Nat.le_of_ble_eq_true rfl)) ?_
  rintro _ _ ⟨rfl, rfl⟩
  rw [List.append_assoc, List.length_append]
  refine Ap.put (j := 0) rfl rfl (Nat.le_of_ble_eq_true rfl) rfl ?_
  show G X 1 kX0_init 15 [.ref p.length, .ref y] [] (p ++ [.inl (0, (dF 0).set 1 (.ref (p.length + 1))), rObj (p.length + 1) 0, iA 7 z0, iA 7 z0, iA 7 z0]) _
  iterate 2 (refine G.st rfl rfl ?_)
  refine Ap.newi (x := 5) rfl (by decide) (N := 7) rfl rfl ?_
  refine Ap.put (j := 0) rfl rfl (Nat.le_of_ble_eq_true rfl) rfl ?_
  iterate 2 (refine G.st rfl rfl ?_)
  refine Ap.newi (x := 6) rfl (by decide) (N := 7) rfl rfl ?_
  refine Ap.put (j := 0) rfl rfl (Nat.le_of_ble_eq_true rfl) rfl ?_
  iterate 2 (refine G.st rfl rfl ?_)
  refine Ap.newi (x := 7) rfl (by decide) (N := 7) rfl rfl ?_
  refine Ap.put (j := 0) rfl rfl (Nat.le_of_ble_eq_true rfl) rfl ?_
  iterate 2 (refine G.st rfl rfl ?_)
  refine Ap.newi (x := 8) rfl (by decide) (N := 7) rfl rfl ?_
  refine Ap.put (j := 0) rfl rfl (Nat.le_of_ble_eq_true rfl) rfl ?_
  iterate 2 (refine G.st rfl rfl ?_)
  refine Ap.newl (x := 9) rfl (by decide) (N := 313) rfl rfl ?_
  refine Ap.put (j := 0) rfl rfl (Nat.le_of_ble_eq_true rfl) rfl ?_
  show G X 1 kX0_init 56 [.ref p.length, .ref y] [] (p ++ [.inl (0, [.null, .ref (p.length + 1), .ref (p.length + 5), .ref (p.length + 6), .ref (p.length + 7), .ref (p.length + 8), .ref (p.length + 9), .int 0, .int 0, .int 0, .int 0, .int 0, .int 0, .int 0, .int 0, .int 0]), rObj (p.length + 1) 0, iA 7 z0, iA 7 z0, iA 7 z0, iA 7 z0, iA 7 z0, iA 7 z0, iA 7 z0, lA 313 z1]) _
  iterate 2 (refine G.st rfl rfl ?_)
  refine Ap.put (j := 0) rfl rfl (Nat.le_of_ble_eq_true rfl) rfl ?_
  iterate 2 (refine G.st rfl rfl ?_)
  refine Ap.put (j := 0) rfl rfl (Nat.le_of_ble_eq_true rfl) rfl ?_
  iterate 2 (refine G.st rfl rfl ?_)
  refine Ap.put (j := 0) rfl rfl (Nat.le_of_ble_eq_true rfl) rfl ?_
  iterate 2 (refine G.st rfl rfl ?_)
  refine Ap.put (j := 0) rfl rfl (Nat.le_of_ble_eq_true rfl) rfl ?_
  iterate 2 (refine G.st rfl rfl ?_)
  refine Ap.put (j := 0) rfl rfl (Nat.le_of_ble_eq_true rfl) rfl ?_
  iterate 2 (refine G.st rfl rfl ?_)
  refine Ap.put (j := 0) rfl rfl (Nat.le_of_ble_eq_true rfl) rfl ?_
  iterate 2 (refine G.st rfl rfl ?_)
  refine Ap.put (j := 0) rfl rfl (Nat.le_of_ble_eq_true rfl) rfl ?_
  iterate 2 (refine G.st rfl rfl ?_)
  refine Ap.put (j := 0) rfl rfl (Nat.le_of_ble_eq_true rfl) rfl ?_
  iterate 2 (refine G.st rfl rfl ?_)
  refine Ap.put (j := 0) rfl rfl (Nat.le_of_ble_eq_true rfl) rfl ?_
  iterate 2 (refine G.st rfl rfl ?_)
  refine Ap.put (j := 0) rfl rfl (Nat.le_of_ble_eq_true rfl) rfl ?_
  exact G.ret rfl rfl ⟨rfl, rfl⟩
theorem lj_fill (X : aX) {h : aH} {a N : Nat} {x : Int32} (ha : a < h.length) (hN : N < 2 ^ 30) : ∀ (k i : Nat) (f : Nat → Int32), i + k = N → (∀ j, j < i → f j = x) → G X 0 kJ7_fill_53178 5 [.ref a, .int x, .int (nI i), .int (nI N)] [] (h.set a (iA N f)) (fun v h' => v = none ∧ ∃ f', h' = h.set a (iA N f') ∧ ∀ j, j < N → f' j = x) := by
  intro k
  induction k with
  | zero =>
    intro i f hi hf
    iterate 2 (refine G.st rfl rfl ?_)
    refine G.brt rfl (by rw [nI_leI (by omega) (by omega)]; omega) ?_
    exact G.ret rfl rfl ⟨rfl, f, rfl, fun j hj => hf j (by omega)⟩
  | succ k ih =>
    intro i f hi hf
    iterate 2 (refine G.st rfl rfl ?_)
    refine G.brf rfl (by rw [nI_leI (by omega) (by omega)]; omega) ?_
    iterate 3 (refine G.st rfl rfl ?_)
    refine G.iast rfl (List.getElem?_set_self ha) (ix_nI (show i < N by omega) (by omega)) ?_
    rw [List.set_set]
    iterate 1 (refine G.st rfl rfl ?_)
    rw [nI_1]
    iterate 1 (refine G.st rfl rfl ?_)
    refine ih (i + 1) (upd f i x) (by omega) (fun j hj => ?_)
    by_cases e : j = i
    · rw [e, upd_s]
    · rw [upd_n e]; exact hf j (by omega)
theorem sj_fill (X : aX) {h : aH} {a N : Nat} {f : Nat → Int32} {x : Int32} (ha : h[a]? = some (iA N f)) (hN : N < 2 ^ 30) : Sp X 0 kJ7_fill_53178 [.ref a, .int x] h (fun v h' => v = none ∧ ∃ f', h' = h.set a (iA N f') ∧ ∀ j, j < N → f' j = x) := by
  unfold Sp
  have hl := (List.getElem?_eq_some_iff.mp ha).1
  iterate 3 (refine G.st rfl rfl ?_)
  refine G.alI rfl ha ?_
  iterate 1 (refine G.st rfl rfl ?_)
  have := lj_fill X (x := x) hl hN N 0 f (by omega) (fun j hj => absurd hj (Nat.not_lt_zero j))
  rw [set_same ha] at this
  exact this
end CTOR2
