/-! ===== the reference: the next order ===== -/
def OF (f : Nat → Int32) (o : Nat → Nat) : Prop := ∀ i, i < 7 → f i = nI (o i) ∧ o i < 7
section RNEXT
variable {c : Nat → aC} {m : sM} {s : Sg} {n : Nat}
theorem s7_swapsOrder (X : aX) {a b : Nat} {f : Nat → Int32} {o : Nat → Nat} (ha : a < 7) (hb : b < 7) (hf : OF f o) : Sp X 0 kX7_swapsOrder [.ref 81, .int (nI a), .int (nI b)] (HR c (mSod m f)) (fun v h' => v = none ∧ ∃ f', h' = HR c (mSod m f') ∧ OF f' (swp o a b)) := by
  unfold Sp
  have hx := ix_nI ha (by omega)
  have hy := ix_nI hb (by omega)
  iterate 3 (refine G.st rfl rfl ?_)
  refine G.iald rfl rfl hx ?_
  iterate 7 (refine G.st rfl rfl ?_)
  refine G.iald rfl rfl hy ?_
  refine G.ost rfl hx ?_
  iterate 4 (refine G.st rfl rfl ?_)
  refine G.ost rfl hy ?_
  refine G.ret rfl rfl ⟨rfl, upd (upd f a (f b)) b (f a), rfl, fun i hi => ?_⟩
  unfold swp
  rw [upd_if, upd_if]
  by_cases e : i = b
  · rw [if_pos e, if_pos e]
    exact hf a ha
  · rw [if_neg e, if_neg e]
    by_cases e2 : i = a
    · rw [if_pos e2, if_pos e2]
      exact hf b hb
    · rw [if_neg e2, if_neg e2]
      exact hf i hi
theorem l7_at (X : aX) {N : Nat} {w : Int32} {u4 u5 u6 : Value} {f : Nat → Int32} {o : Nat → Nat} {Q : Option Value → aH → Prop} (hf : OF f o) : ∀ k, k < 7 → (atF o k = none → ∀ x : Int32, x < 0 → G X 3 kX7_hasNext 40 [.ref 81, .int w, .int (nI N), .int x, u4, u5, u6] [] (HR c (mSod m f)) Q) → (∀ a, atF o k = some a → G X 3 kX7_hasNext 40 [.ref 81, .int w, .int (nI N), .int (nI a), u4, u5, u6] [] (HR c (mSod m f)) Q) → G X 3 kX7_hasNext 13 [.ref 81, .int w, .int (nI N), .int (nI k - 1), u4, u5, u6] [] (HR c (mSod m f)) Q := by
  intro k
  induction k with
  | zero =>
    intro hk h1 h2
    iterate 1 (refine G.st rfl rfl ?_)
    refine G.brt rfl (show nI 0 - 1 < 0 by decide) ?_
    exact h1 rfl _ (by decide)
  | succ k ih =>
    intro hk h1 h2
    rw [nI_p (by omega), Nat.add_sub_cancel]
    iterate 1 (refine G.st rfl rfl ?_)
    refine G.brf rfl (nI_pos (by omega)) ?_
    iterate 3 (refine G.st rfl rfl ?_)
    refine G.iald rfl rfl (ix_nI (show k < 7 by omega) (by omega)) ?_
    iterate 5 (refine G.st rfl rfl ?_)
    rw [nI_1]
    refine G.iald rfl rfl (ix_nI (show k + 1 < 7 by omega) (by omega)) ?_
    show G X 3 kX7_hasNext 31 [.ref 81, .int w, .int (nI N), .int (nI k), u4, u5, u6] [.int (f (k + 1)), .int (f k)] (HR c (mSod m f)) Q
    obtain ⟨e1, b1⟩ := hf k (by omega)
    obtain ⟨e2, b2⟩ := hf (k + 1) hk
    rw [e1, e2]
    by_cases hc : o (k + 1) < o k
    · have e : atF o (k + 1) = atF o k := if_pos hc
      rw [e] at h1 h2
      refine G.brf rfl (by rw [nI_leI (by omega) (by omega)]; omega) ?_
      iterate 1 (refine G.st rfl rfl ?_)
      rw [show nI k + -1 = nI k - 1 by grind]
      iterate 1 (refine G.st rfl rfl ?_)
      exact ih (by omega) h1 h2
    · have e : atF o (k + 1) = some k := if_neg hc
      refine G.brt rfl (by rw [nI_leI (by omega) (by omega)]; omega) ?_
      exact h2 k e
theorem wiF_le (o : Nat → Nat) (a : Nat) : ∀ k, wiF o a k ≤ k
  | 0 => Nat.le_refl 0
  | k + 1 => by
    have := wiF_le o a k
    unfold wiF
    split <;> omega
theorem l7_wi (X : aX) {N a : Nat} {w : Int32} {u5 u6 : Value} {f : Nat → Int32} {o : Nat → Nat} {Q : Option Value → aH → Prop} (hf : OF f o) (ha : a < 7) : ∀ k, k < 7 → a ≤ k → G X 3 kX7_hasNext 73 [.ref 81, .int w, .int (nI N), .int (nI a), .int (nI (wiF o a k)), u5, u6] [] (HR c (mSod m f)) Q → G X 3 kX7_hasNext 51 [.ref 81, .int w, .int (nI N), .int (nI a), .int (nI k), u5, u6] [] (HR c (mSod m f)) Q := by
  intro k
  induction k with
  | zero =>
    intro hk hak hq
    obtain rfl : a = 0 := by omega
    iterate 3 (refine G.st rfl rfl ?_)
    refine G.iald rfl rfl (ix_nI hk (by omega)) ?_
    iterate 3 (refine G.st rfl rfl ?_)
    refine G.iald rfl rfl (ix_nI hk (by omega)) ?_
    refine G.brt rfl (Int32.le_refl _) ?_
    exact hq
  | succ k ih =>
    intro hk hak hq
    iterate 3 (refine G.st rfl rfl ?_)
    refine G.iald rfl rfl (ix_nI hk (by omega)) ?_
    iterate 3 (refine G.st rfl rfl ?_)
    refine G.iald rfl rfl (ix_nI ha (by omega)) ?_
    show G X 3 kX7_hasNext 64 [.ref 81, .int w, .int (nI N), .int (nI a), .int (nI (k + 1)), u5, u6] [.int (f a), .int (f (k + 1))] (HR c (mSod m f)) Q
    obtain ⟨e1, b1⟩ := hf a ha
    obtain ⟨e2, b2⟩ := hf (k + 1) hk
    rw [e1, e2]
    by_cases hc : o (k + 1) < o a
    · have e : wiF o a (k + 1) = wiF o a k := if_pos hc
      rw [e] at hq
      have hne : a ≠ k + 1 := fun q => by rw [q] at hc; exact absurd hc (Nat.lt_irrefl _)
      refine G.brf rfl (by rw [nI_leI (by omega) (by omega)]; omega) ?_
      iterate 1 (refine G.st rfl rfl ?_)
      rw [show nI (k + 1) + -1 = nI k by rw [← nI_1]; grind]
      iterate 1 (refine G.st rfl rfl ?_)
      exact ih (by omega) (by omega) hq
    · have e : wiF o a (k + 1) = k + 1 := if_neg hc
      rw [e] at hq
      refine G.brt rfl (by rw [nI_leI (by omega) (by omega)]; omega) ?_
      exact hq
theorem l7_rev (X : aX) {w1 w2 w3 w4 : Int32} {Q : Option Value → aH → Prop} : ∀ (k a b : Nat) (f : Nat → Int32) (o : Nat → Nat), OF f o → a ≤ 7 → b < 7 → b ≤ a + 2 * k → (∀ (f' : Nat → Int32) (x y : Int32), OF f' (revF k o a b) → G X 3 kX7_hasNext 114 [.ref 81, .int w1, .int w2, .int w3, .int w4, .int x, .int y] [] (HR c (mSod m f')) Q) → G X 3 kX7_hasNext 90 [.ref 81, .int w1, .int w2, .int w3, .int w4, .int (nI a), .int (nI b)] [] (HR c (mSod m f)) Q := by
  intro k
  induction k with
  | zero =>
    intro a b f o hf ha hb hab hq
    iterate 2 (refine G.st rfl rfl ?_)
    refine G.brt rfl (by rw [nI_leI (by omega) (by omega)]; omega) ?_
    exact hq f _ _ hf
  | succ k ih =>
    intro a b f o hf ha hb hab hq
    iterate 2 (refine G.st rfl rfl ?_)
    by_cases hc : a < b
    · have e : revF (k + 1) o a b = revF k (swp o a b) (a + 1) (b - 1) := if_pos hc
      rw [e] at hq
      refine G.brf rfl (by rw [nI_leI (by omega) (by omega)]; omega) ?_
      iterate 3 (refine G.st rfl rfl ?_)
      refine G.call rfl rfl (Nat.le_of_ble_eq_true rfl) (Sp.up (s7_swapsOrder X (show a < 7 by omega) hb hf) (Nat.le_of_ble_eq_true rfl)) ?_
      rintro _ _ ⟨rfl, f', rfl, hf'⟩
      iterate 2 (refine G.st rfl rfl ?_)
      rw [nI_1, show nI b + -1 = nI (b - 1) by
        obtain ⟨d, rfl⟩ : ∃ d, b = d + 1 := ⟨b - 1, by omega⟩
        rw [← nI_1, Nat.add_sub_cancel]
        grind]
      iterate 1 (refine G.st rfl rfl ?_)
      exact ih (a + 1) (b - 1) f' _ hf' (by omega) (by omega) (by omega) hq
    · have e : revF (k + 1) o a b = o := if_neg hc
      rw [e] at hq
      refine G.brt rfl (by rw [nI_leI (by omega) (by omega)]; omega) ?_
      exact hq f _ _ hf
theorem g7_ocell (X : aX) {l p q : Nat} {f : Nat → Int32} {o : Nat → Nat} {R : Option Value → aH → Prop} (hq : q < 3) (hp : p < 7) (hl : l < 4) (ho : OF (mod m) o) (hR : G X 1 kX7_laysOrder 47 [.ref 81, .int (nI l), .int (nI p), .int (nI (q + 1))] [] (HR c (mSrw m (upd f (3 * p + q) (ms m (pl l (o p) + q))))) R) : G X 1 kX7_laysOrder 12 [.ref 81, .int (nI l), .int (nI p), .int (nI q)] [] (HR c (mSrw m f)) R := by
  obtain ⟨e1, b1⟩ := ho p hp
  have hpl := pl_lt hl b1
  iterate 2 (refine G.st rfl rfl ?_)
  refine G.brf rfl (by show ¬ nI 3 ≤ nI q; rw [nI_leI (by omega) (by omega)]; omega) ?_
  iterate 13 (refine G.st rfl rfl ?_)
  refine G.iald rfl rfl (ix_nI hp (by omega)) ?_
  show G X 1 kX7_laysOrder 37 [.ref 81, .int (nI l), .int (nI p), .int (nI q)] [.int (mod m p), .int (nI l), .ref 82, .int (3 * nI p + nI q), .ref 90] (HR c (mSrw m f)) _
  rw [e1]
  refine G.call rfl rfl (Nat.le_of_ble_eq_true rfl) (Sp.up (s7_pl X l (o p) _) (Nat.le_of_ble_eq_true rfl)) ?_
  rintro _ _ ⟨rfl, rfl⟩
  iterate 2 (refine G.st rfl rfl ?_)
  rw [nI_add]
  refine G.iald rfl rfl (ix_nI (show pl l (o p) + q < 110 by omega) (by omega)) ?_
  refine G.rst rfl (ix3a (k := q) rfl (show 3 * p + q < 45 by omega) (by omega)) ?_
  iterate 1 (refine G.st rfl rfl ?_)
  rw [nI_1]
  exact hR
theorem g7_o0 (X : aX) {v0 v1 v2 : Value} {R : Option Value → aH → Prop} (h : aH) (hR : G X 1 kX7_laysOrder 50 [v0, v1, v2, .int (nI 3)] [] h R) : G X 1 kX7_laysOrder 47 [v0, v1, v2, .int (nI 3)] [] h R := by
  iterate 3 (refine G.st rfl rfl ?_)
  exact G.brt rfl (by decide) hR
theorem l7_laysOrder (X : aX) {l N : Nat} {o : Nat → Nat} (hM : MR n m s) (hl : l < 4) (hN : N ≤ 7) (ho : OF (mod m) o) (hoN : ∀ i, i < N → o i < (zL s l).length) (hr : mrn m = nI N) : ∀ (k p : Nat) (f : Nat → Int32) (u3 : Value), p + k = N → (∀ i, i < p → G3 f (3 * i) = gD (zL s l) (o i)) → G X 1 kX7_laysOrder 2 [.ref 81, .int (nI l), .int (nI p), u3] [] (HR c (mSrw m f)) (fun v h' => v = none ∧ ∃ f', h' = HR c (mSrw m f') ∧ ∀ i, i < N → G3 f' (3 * i) = gD (zL s l) (o i)) := by
  intro k
  induction k with
  | zero =>
    intro p f u3 hp hf
    iterate 3 (refine G.st rfl rfl ?_)
    show G X 1 kX7_laysOrder 7 [.ref 81, .int (nI l), .int (nI p), u3] [.int (mrn m), .int (nI p)] (HR c (mSrw m f)) _
    rw [hr]
    refine G.brt rfl (by rw [nI_leI (by omega) (by omega)]; omega) ?_
    exact G.ret rfl rfl ⟨rfl, f, rfl, fun i hi => hf i (by omega)⟩
  | succ k ih =>
    intro p f u3 hp hf
    obtain ⟨g1, g2, g3⟩ := hM.gar hl (hoN p (by omega))
    iterate 3 (refine G.st rfl rfl ?_)
    show G X 1 kX7_laysOrder 7 [.ref 81, .int (nI l), .int (nI p), u3] [.int (mrn m), .int (nI p)] (HR c (mSrw m f)) _
    rw [hr]
    refine G.brf rfl (by rw [nI_leI (by omega) (by omega)]; omega) ?_
    iterate 2 (refine G.st rfl rfl ?_)
    refine g7_ocell X (q := 0) (by omega) (show p < 7 by omega) hl ho ?_
    iterate 1 (refine G.st rfl rfl ?_)
    refine g7_ocell X (q := 1) (by omega) (show p < 7 by omega) hl ho ?_
    iterate 1 (refine G.st rfl rfl ?_)
    refine g7_ocell X (q := 2) (by omega) (show p < 7 by omega) hl ho ?_
    refine g7_o0 X _ ?_
    iterate 1 (refine G.st rfl rfl ?_)
    rw [nI_1]
    iterate 1 (refine G.st rfl rfl ?_)
    refine ih (p + 1) _ _ (by omega) (fun i hi => ?_)
    by_cases e : i = p
    · subst e
      rw [show gD (zL s l) (o i) = ((gD (zL s l) (o i)).1, (gD (zL s l) (o i)).2.1, (gD (zL s l) (o i)).2.2) from rfl, ← g1, ← g2, ← g3]
      unfold G3
      rw [upd_n (by omega), upd_n (by omega), Nat.add_zero, upd_s, upd_n (by omega), upd_s, upd_s]
      rfl
    · rw [← hf i (by omega)]
      unfold G3
      rw [upd_n (by omega), upd_n (by omega), upd_n (by omega), upd_n (by omega), upd_n (by omega), upd_n (by omega), upd_n (by omega), upd_n (by omega), upd_n (by omega)]
end RNEXT
