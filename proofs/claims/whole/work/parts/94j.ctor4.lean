/-! ===== the constructors: the reference ===== -/
def n81 : Nat → Int32 := upd (upd (upd (upd z0 0 (-1)) 1 (-1)) 2 (-1)) 3 (-1)
def cRef (x : Nat) : aH := [.inl (7, [.ref (x + 1), .ref (x + 2), .ref (x + 3), .int 0, .ref (x + 4), .ref (x + 5), .int 0, .ref (x + 6), .ref (x + 7), .ref (x + 8), .ref (x + 9), .int 0, .ref (x + 10), .ref (x + 11), .ref (x + 12), .int 0, .int 0, .int 0, .int 0, .int 0, .int 0]),
  iA 110 z0, iA 110 z0, iA 110 z0, iA 8 z0, iA 120 z0, iA 4 n81, iA 4 z0, lA 160 z1, iA 45 z0, iA 7 z0, iA 7 z0, iA 19999 z0]
section CTOR5
theorem s7_init (X : aX) (p : aH) : Sp X 0 kX7_init [.ref p.length] (p ++ [.inl (7, dF 7)]) (An none (p ++ cRef p.length)) := by
  unfold Sp
  iterate 4 (refine G.st rfl rfl ?_)
  refine Ap.newi (x := 1) rfl (by decide) (N := 110) rfl rfl ?_
  refine Ap.put (j := 0) rfl rfl (Nat.le_of_ble_eq_true rfl) rfl ?_
  iterate 2 (refine G.st rfl rfl ?_)
  refine Ap.newi (x := 2) rfl (by decide) (N := 110) rfl rfl ?_
  refine Ap.put (j := 0) rfl rfl (Nat.le_of_ble_eq_true rfl) rfl ?_
  iterate 2 (refine G.st rfl rfl ?_)
  refine Ap.newi (x := 3) rfl (by decide) (N := 110) rfl rfl ?_
  refine Ap.put (j := 0) rfl rfl (Nat.le_of_ble_eq_true rfl) rfl ?_
  iterate 2 (refine G.st rfl rfl ?_)
  refine Ap.newi (x := 4) rfl (by decide) (N := 8) rfl rfl ?_
  refine Ap.put (j := 0) rfl rfl (Nat.le_of_ble_eq_true rfl) rfl ?_
  iterate 2 (refine G.st rfl rfl ?_)
  refine Ap.newi (x := 5) rfl (by decide) (N := 120) rfl rfl ?_
  refine Ap.put (j := 0) rfl rfl (Nat.le_of_ble_eq_true rfl) rfl ?_
  show G X 0 kX7_init 44 [.ref p.length] [] (p ++ [.inl (7, [.ref (p.length + 1), .ref (p.length + 2), .ref (p.length + 3), .int 0, .ref (p.length + 4), .ref (p.length + 5), .int 0, .null, .null, .null, .null, .int 0, .null, .null, .null, .int 0, .int 0, .int 0, .int 0, .int 0, .int 0]), iA 110 z0, iA 110 z0, iA 110 z0, iA 8 z0, iA 120 z0]) _
  iterate 2 (refine G.st rfl rfl ?_)
  refine Ap.newi (x := 6) rfl (by decide) (N := 4) rfl rfl ?_
  iterate 3 (refine G.st rfl rfl ?_)
  refine Ap.iast (j := 6) (m := 0) (n := 4) (f := z0) rfl rfl ⟨by decide, rfl, by decide⟩ ?_
  iterate 3 (refine G.st rfl rfl ?_)
  refine Ap.iast (j := 6) (m := 1) (n := 4) (f := upd z0 0 (-1)) rfl rfl ⟨by decide, rfl, by decide⟩ ?_
  iterate 3 (refine G.st rfl rfl ?_)
  refine Ap.iast (j := 6) (m := 2) (n := 4) (f := upd (upd z0 0 (-1)) 1 (-1)) rfl rfl ⟨by decide, rfl, by decide⟩ ?_
  iterate 3 (refine G.st rfl rfl ?_)
  refine Ap.iast (j := 6) (m := 3) (n := 4) (f := upd (upd (upd z0 0 (-1)) 1 (-1)) 2 (-1)) rfl rfl ⟨by decide, rfl, by decide⟩ ?_
  show G X 0 kX7_init 64 [.ref p.length] [.ref (p.length + 6), .ref p.length] (p ++ [.inl (7, [.ref (p.length + 1), .ref (p.length + 2), .ref (p.length + 3), .int 0, .ref (p.length + 4), .ref (p.length + 5), .int 0, .null, .null, .null, .null, .int 0, .null, .null, .null, .int 0, .int 0, .int 0, .int 0, .int 0, .int 0]), iA 110 z0, iA 110 z0, iA 110 z0, iA 8 z0, iA 120 z0, iA 4 n81]) _
  refine Ap.put (j := 0) rfl rfl (Nat.le_of_ble_eq_true rfl) rfl ?_
  iterate 2 (refine G.st rfl rfl ?_)
  refine Ap.newi (x := 7) rfl (by decide) (N := 4) rfl rfl ?_
  refine Ap.put (j := 0) rfl rfl (Nat.le_of_ble_eq_true rfl) rfl ?_
  iterate 2 (refine G.st rfl rfl ?_)
  refine Ap.newl (x := 8) rfl (by decide) (N := 160) rfl rfl ?_
  refine Ap.put (j := 0) rfl rfl (Nat.le_of_ble_eq_true rfl) rfl ?_
  iterate 2 (refine G.st rfl rfl ?_)
  refine Ap.newi (x := 9) rfl (by decide) (N := 45) rfl rfl ?_
  refine Ap.put (j := 0) rfl rfl (Nat.le_of_ble_eq_true rfl) rfl ?_
  iterate 2 (refine G.st rfl rfl ?_)
  refine Ap.newi (x := 10) rfl (by decide) (N := 7) rfl rfl ?_
  refine Ap.put (j := 0) rfl rfl (Nat.le_of_ble_eq_true rfl) rfl ?_
  iterate 2 (refine G.st rfl rfl ?_)
  refine Ap.newi (x := 11) rfl (by decide) (N := 7) rfl rfl ?_
  refine Ap.put (j := 0) rfl rfl (Nat.le_of_ble_eq_true rfl) rfl ?_
  iterate 2 (refine G.st rfl rfl ?_)
  refine Ap.newi (x := 12) rfl (by decide) (N := 19999) rfl rfl ?_
  refine Ap.put (j := 0) rfl rfl (Nat.le_of_ble_eq_true rfl) rfl ?_
  exact G.ret rfl rfl ⟨rfl, rfl⟩
end CTOR5
def s00 : Sg := (fun _ => [], fun _ => none, 0, 0, none, [], fun _ => (0, []), fun _ => 0)
def m00 : sM := (z0, z0, z0, z0, z0, n81, z0, z1, z0, z0, z0, z0, 0, 0, 0, 0, 0, 0, 0, 0, 0)
def nu00 (f0 f1 f2 : Nat → Int32) : Nat → Nat → Int32
  | 0 => f0
  | 1 => f1
  | _ => f2
theorem H00 (f0 f1 f2 : Nat → Int32) : c81 f0 f1 f2 ++ cRef 81 = H (fun _ => (z0, z0, z0, 0)) (nu00 f0 f1 f2) (fun _ => (0, 0)) (0, 0, 0) (z0, z0, z0, z0, z1, -1, 0, 1, 0, 1, 0, 0, 0, 0) (z0, 0, 0, 0, 0, 0) (fun _ => (z1, 0, 0)) z0 0 m00 := rfl
theorem CI00 {f0 f1 f2 : Nat → Int32} (h0 : ∀ j, j < 10 → f0 j = -1000) : CI m00 s00 (c81 f0 f1 f2 ++ cRef 81) := by
  rw [H00]
  refine CI.mk ⟨⟨⟨fun l hl => ⟨fun x hx => absurd (show x ∈ ([] : List Gar) from hx) (by simp), Nat.zero_le _⟩, fun j x hj hx => absurd (show (none : Option Int32) = some x from hx) (by simp), ⟨by decide, by decide⟩, by decide, by decide⟩, fun l hl => ?_, fun j hj => ⟨h0 j hj, fun x hx => absurd (show (none : Option Int32) = some x from hx) (by simp)⟩, rfl⟩, rfl, ⟨rfl, ⟨Nat.zero_le _, fun x hx => absurd (show x ∈ ([] : List Int32) from hx) (by simp)⟩, fun j hj => absurd hj (Nat.not_lt_zero j)⟩, fun k hk => ⟨⟨Nat.zero_le _, Or.inl rfl, fun _ => rfl⟩, rfl, rfl, fun j hj => absurd hj (Nat.not_lt_zero j)⟩, fun k hk => rfl⟩
  exact ⟨rfl, Nat.zero_le _, fun j hj => absurd hj (Nat.not_lt_zero j)⟩
theorem MR00 : MR 0 m00 s00 := by
  refine ⟨⟨fun l hl => ⟨rfl, fun p hp => absurd hp (Nat.not_lt_zero p)⟩, rfl, rfl, fun j hj => ⟨?_, fun x hx => absurd (show (none : Option Int32) = some x from hx) (by simp)⟩⟩, rfl, ⟨rfl, fun j hj => absurd hj (Nat.not_lt_zero j)⟩, fun k hk => ⟨?_, rfl, fun j hj => absurd hj (Nat.not_lt_zero j)⟩, ⟨by decide, fun k hk => rfl⟩, 0, Nat.le_refl _, rfl, fun i hi => ⟨0, Nat.le_refl _, rfl⟩⟩
  · rw [bI_f (by intro q; cases q)]
    rfl
  · show n81 k = if (0 : Int32) = 0 then -1 else 0
    rw [if_pos rfl]
    rcases (show k = 0 ∨ k = 1 ∨ k = 2 ∨ k = 3 by omega) with rfl | rfl | rfl | rfl <;> decide
