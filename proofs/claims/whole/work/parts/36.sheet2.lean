section SHEET2
variable {rw : Nat → sR} {nu : Nat → Nat → Int32} {wd : Nat → Int32 × Int32} {vo : sV} {od : sO} {tp : sP} {sh : Nat → sS} {fi : Nat → Int32} {ik : Int32} {m : sM} {s : Sg}
theorem G.lsw {X : aX} {d : Nat} {mi : aM} {pc : Nat} {lo : List Value} {h : aH} {Q : Option Value → aH → Prop} {dd : Int} {ps : Array (Int × Int)} {nx a b t : Nat} {v : Value} {x : Int32} {r : List Value} (he : ent mi pc = some (.lookupswitch dd ps, nx, a, b, v)) (ht : lsw pc dd ps x = t) (k : G X d mi t lo r h Q) : G X d mi pc lo (.int x :: r) h Q := by
  refine G.go ?_ k
  simp only [sA, he, stp, ht]
theorem sset_c {h : aH} {r : Nat} {q : sS} (hr : ShAt h r q) (f : Nat → Int64) : h.set (r + 1) (lA40 f) = sset h r (f, q.2) := by
  unfold sset
  rw [set_same (show h[r]? = some (sObj r (f, q.2)) from hr.1)]
theorem s2_put (X : aX) {r i : Nat} {q : sS} {v : Int64} {h : aH} (hr : ShAt h r q) (hb : q.2.1 = 8 ∨ q.2.1 = 16 ∨ q.2.1 = 64) (hi : i < 40) : Sp X 0 kX2_put [.ref r, .int (nI i), .long v] h (fun v' h' => v' = none ∧ h' = sset h r (vp_updL q.1 i (narI q.2.1 v), q.2)) := by
  unfold Sp
  obtain ⟨c, b, n⟩ := q
  have hx := ix_nI hi (by omega)
  iterate 1 (refine G.st rfl rfl ?_)
  refine G.get rfl hr.1 rfl ?_
  rcases hb with rfl | rfl | rfl
  · refine G.lsw rfl (t := 32) (show lsw 4 54 #[(8, 28), (16, 41)] 8 = 32 by decide) ?_
    iterate 1 (refine G.st rfl rfl ?_)
    refine G.get rfl hr.1 rfl ?_
    iterate 5 (refine G.st rfl rfl ?_)
    refine G.last rfl hr.2 hx ?_
    iterate 1 (refine G.st rfl rfl ?_)
    exact G.ret rfl rfl ⟨rfl, sset_c hr _⟩
  · refine G.lsw rfl (t := 45) (show lsw 4 54 #[(8, 28), (16, 41)] 16 = 45 by decide) ?_
    iterate 1 (refine G.st rfl rfl ?_)
    refine G.get rfl hr.1 rfl ?_
    iterate 5 (refine G.st rfl rfl ?_)
    refine G.last rfl hr.2 hx ?_
    iterate 1 (refine G.st rfl rfl ?_)
    exact G.ret rfl rfl ⟨rfl, sset_c hr _⟩
  · refine G.lsw rfl (t := 58) (show lsw 4 54 #[(8, 28), (16, 41)] 64 = 58 by decide) ?_
    iterate 1 (refine G.st rfl rfl ?_)
    refine G.get rfl hr.1 rfl ?_
    iterate 2 (refine G.st rfl rfl ?_)
    refine G.last rfl hr.2 hx ?_
    exact G.ret rfl rfl ⟨rfl, sset_c hr _⟩
theorem G.alL {X : aX} {d : Nat} {mi : aM} {pc : Nat} {lo : List Value} {h : aH} {Q : Option Value → aH → Prop} {nx a b : Nat} {v : Value} {x : Nat} {r : List Value} {n : Nat} {f : Nat → Int64} (he : ent mi pc = some (.arraylength, nx, a, b, v)) (hc : h[x]? = some (.inr (.inr (.inl (n, f))))) (k : G X d mi nx lo (.int (nI n) :: r) h Q) : G X d mi pc lo (.ref x :: r) h Q := by
  refine G.go ?_ k
  simp only [sA, he, stp, hc]
theorem lj_fillL (X : aX) {x n : Nat} {v : Int64} {h : aH} (hn : n < 2 ^ 30) (hxl : x < h.length) : ∀ (k i : Nat) (f : Nat → Int64), i + k = n → (∀ j, j < i → f j = v) → G X 0 kJ7_fill_d0a16 6 [.ref x, .long v, .double 0, .int (nI i), .int (nI n)] [] (h.set x (.inr (.inr (.inl (n, f))))) (fun r h' => r = none ∧ ∃ f', h' = h.set x (.inr (.inr (.inl (n, f')))) ∧ ∀ j, j < n → f' j = v)
  | 0, i, f, hi, hf => by
    iterate 2 (refine G.st rfl rfl ?_)
    refine G.brt rfl (by rw [nI_leI (by omega) (by omega)]; omega) ?_
    exact G.ret rfl rfl ⟨rfl, f, rfl, fun j hj => hf j (by omega)⟩
  | k + 1, i, f, hi, hf => by
    iterate 2 (refine G.st rfl rfl ?_)
    refine G.brf rfl (by rw [nI_leI (by omega) (by omega)]; omega) ?_
    iterate 3 (refine G.st rfl rfl ?_)
    refine G.last rfl (List.getElem?_set_self hxl) (ix_nI (show i < n by omega) (by omega)) ?_
    rw [List.set_set]
    iterate 1 (refine G.st rfl rfl ?_)
    rw [nI_1]
    iterate 1 (refine G.st rfl rfl ?_)
    refine lj_fillL X hn hxl k (i + 1) _ (by omega) (fun j hj => ?_)
    by_cases e : j = i
    · rw [e, pk_uLs]
    · rw [pk_uLn e]
      exact hf j (by omega)
theorem sj_fillL (X : aX) {x n : Nat} {f : Nat → Int64} {v : Int64} {h : aH} (hx : h[x]? = some (.inr (.inr (.inl (n, f))))) (hn : n < 2 ^ 30) : Sp X 0 kJ7_fill_d0a16 [.ref x, .long v] h (fun r h' => r = none ∧ ∃ f', h' = h.set x (.inr (.inr (.inl (n, f')))) ∧ ∀ j, j < n → f' j = v) := by
  unfold Sp
  iterate 3 (refine G.st rfl rfl ?_)
  refine G.alL rfl hx ?_
  iterate 1 (refine G.st rfl rfl ?_)
  have := lj_fillL X hn (v := v) (List.getElem?_eq_some_iff.mp hx).1 n 0 f (by omega) (fun j hj => absurd hj (Nat.not_lt_zero j))
  rw [set_same hx] at this
  exact this
theorem s2_begin (X : aX) {r n : Nat} {q : sS} {b : Int32} {h : aH} (hr : ShAt h r q) : Sp X 1 kX2_begin [.ref r, .int b, .int (nI n)] h (fun v' h' => v' = none ∧ ∃ f, h' = sset h r (f, b, if b = 0 then 0 else n) ∧ ∀ j, j < 40 → f j = 0) := by
  unfold Sp
  obtain ⟨c, b0, n0⟩ := q
  have hlt := (List.getElem?_eq_some_iff.mp hr.1).1
  have rest : ∀ k : Nat, k = (if b = 0 then 0 else n) → G X 1 kX2_begin 15 (eL kX2_begin [.ref r, .int b, .int (nI n)]) [.int (nI k), .ref r] (h.set r (.inl (2, [.ref (r + 1), .int b, .int (nI n0)]))) (fun v' h' => v' = none ∧ ∃ f, h' = sset h r (f, b, if b = 0 then 0 else n) ∧ ∀ j, j < 40 → f j = 0) := by
    rintro k rfl
    refine G.put rfl (List.getElem?_set_self hlt) (Nat.le_refl 3) rfl ?_
    rw [List.set_set]
    iterate 1 (refine G.st rfl rfl ?_)
    refine G.get rfl (List.getElem?_set_self hlt) rfl ?_
    iterate 1 (refine G.st rfl rfl ?_)
    have hc : (h.set r (.inl (2, [.ref (r + 1), .int b, .int (nI (if b = 0 then 0 else n))])))[r + 1]? = some (lA40 c) := by
      rw [List.getElem?_set_ne (by omega)]
      exact hr.2
    refine G.call rfl rfl (Nat.le_of_ble_eq_true rfl) (Sp.up (sj_fillL X hc (by decide)) (Nat.le_of_ble_eq_true rfl)) ?_
    rintro _ _ ⟨rfl, f, rfl, hf⟩
    exact G.ret rfl rfl ⟨rfl, f, rfl, hf⟩
  iterate 2 (refine G.st rfl rfl ?_)
  refine G.put rfl hr.1 (show 1 < 3 by omega) rfl ?_
  iterate 2 (refine G.st rfl rfl ?_)
  by_cases h0 : b = 0
  · refine G.brt rfl h0 ?_
    iterate 2 (refine G.st rfl rfl ?_)
    exact rest 0 (by rw [if_pos h0])
  · refine G.brf rfl h0 ?_
    iterate 1 (refine G.st rfl rfl ?_)
    exact rest n (by rw [if_neg h0])
end SHEET2
