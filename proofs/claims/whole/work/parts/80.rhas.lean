/-! ===== the reference: hasNext, beginsOrders ===== -/
theorem atF_lt {o : Nat → Nat} : ∀ k a, atF o k = some a → a < k
  | 0, a, h => by cases h
  | k + 1, a, h => by
    unfold atF at h
    split at h
    · have := atF_lt k a h
      omega
    · cases h
      omega
section RHAS
variable {c : Nat → aC} {m : sM} {s : Sg} {n : Nat}
/-- an order: the cells, and what lies aside by it; kp: the rest stays -/
def kp (m m' : sM) : Prop := mti m' = mti m ∧ mmt m' = mmt m ∧ mbd m' = mbd m
def ORD (m : sM) (g : List Gar) (o : Nat → Nat) : Prop := OF (mod m) o ∧ mrn m = nI g.length ∧ ∀ i, i < g.length → G3 (mrw m) (3 * i) = gD g (o i)
theorem g7_hasEnd (X : aX) {l : Nat} {w2 w3 w4 w5 w6 : Int32} {f : Nat → Int32} {o : Nat → Nat} (hS : SOk s) (hM : MR n m s) (hl : l < 4) (hr : mrn m = nI (zL s l).length) (hf : OF f o) (ho : ∀ i, i < (zL s l).length → o i < (zL s l).length) : G X 3 kX7_hasNext 114 [.ref 81, .int (nI l), .int w2, .int w3, .int w4, .int w5, .int w6] [] (HR c (mSod m f)) (fun v h' => v = some (.int 1) ∧ ∃ m', h' = HR c m' ∧ MR n m' s ∧ kp m m' ∧ ORD m' (zL s l) o) := by
  have h7 := hS.len hl
  have hM1 : MR n (mSod m f) s := hM
  have hr1 : mrn (mSod m f) = nI (zL s l).length := hr
  have hf1 : OF (mod (mSod m f)) o := hf
  have hk1 : kp m (mSod m f) := ⟨rfl, rfl, rfl⟩
  generalize mSod m f = m1 at hM1 hr1 hf1 hk1
  iterate 2 (refine G.st rfl rfl ?_)
  have key : Sp X 1 kX7_laysOrder [.ref 81, .int (nI l)] (HR c m1) (fun v h' => v = none ∧ ∃ f', h' = HR c (mSrw m1 f') ∧ ∀ i, i < (zL s l).length → G3 f' (3 * i) = gD (zL s l) (o i)) := by
    unfold Sp
    iterate 2 (refine G.st rfl rfl ?_)
    exact l7_laysOrder X (c := c) hM1 hl h7 hf1 ho hr1 (zL s l).length 0 (mrw m1) (.double 0) (by omega) (fun i hi => absurd hi (Nat.not_lt_zero i))
  refine G.call rfl rfl (Nat.le_of_ble_eq_true rfl) (Sp.up (key) (Nat.le_of_ble_eq_true rfl)) ?_
  rintro _ _ ⟨rfl, f', rfl, hf'⟩
  iterate 1 (refine G.st rfl rfl ?_)
  exact G.ret rfl rfl ⟨rfl, mSrw m1 f', rfl, hM1, hk1, hf1, hr1, hf'⟩
theorem s7_hasNext (X : aX) {l : Nat} {o : Nat → Nat} (hS : SOk s) (hM : MR n m s) (hl : l < 4) (hO : ORD m (zL s l) o) (hnx : ∀ o', nextF (zL s l).length o = some o' → ∀ i, i < (zL s l).length → o' i < (zL s l).length) : Sp X 3 kX7_hasNext [.ref 81, .int (nI l)] (HR c m) (fun v h' => (nextF (zL s l).length o = none ∧ v = some (.int 0) ∧ h' = HR c m) ∨ ∃ o', nextF (zL s l).length o = some o' ∧ v = some (.int 1) ∧ ∃ m', h' = HR c m' ∧ MR n m' s ∧ kp m m' ∧ ORD m' (zL s l) o') := by
  unfold Sp
  have h7 := hS.len hl
  obtain ⟨hf, hr, hrow⟩ := hO
  have none' : ∀ (x : Int32) (u4 u5 u6 : Value), x < 0 → nextF (zL s l).length o = none → G X 3 kX7_hasNext 40 [.ref 81, .int (nI l), .int (nI (zL s l).length), .int x, u4, u5, u6] [] (HR c m) (fun v h' => (nextF (zL s l).length o = none ∧ v = some (.int 0) ∧ h' = HR c m) ∨ ∃ o', nextF (zL s l).length o = some o' ∧ v = some (.int 1) ∧ ∃ m', h' = HR c m' ∧ MR n m' s ∧ kp m m' ∧ ORD m' (zL s l) o') := by
    intro x u4 u5 u6 hx hno
    iterate 1 (refine G.st rfl rfl ?_)
    refine G.brf rfl (Int32.not_le.mpr hx) ?_
    iterate 1 (refine G.st rfl rfl ?_)
    exact G.ret rfl rfl (Or.inl ⟨hno, rfl, rfl⟩)
  show G X 3 kX7_hasNext 0 [.ref 81, .int (nI l), .double 0, .double 0, .double 0, .double 0, .double 0] [] _ _
  iterate 5 (refine G.st rfl rfl ?_)
  refine G.iald rfl rfl (ix0 (show l < 110 by omega) (by omega)) ?_
  rw [hM.len hl]
  iterate 4 (refine G.st rfl rfl ?_)
  by_cases hn0 : (zL s l).length = 0
  · have hno : nextF (zL s l).length o = none := by
      rw [hn0]
      rfl
    refine G.st rfl rfl ?_
    show G X 3 kX7_hasNext 13 [.ref 81, .int (nI l), .int (nI (zL s l).length), .int (nI (zL s l).length - 2), .double 0, .double 0, .double 0] [] (HR c m) _
    have hx : nI (zL s l).length - 2 < 0 := by rw [hn0]; decide
    iterate 1 (refine G.st rfl rfl ?_)
    refine G.brt rfl hx ?_
    exact none' _ _ _ _ hx hno
  refine G.st rfl rfl ?_
  show G X 3 kX7_hasNext 13 [.ref 81, .int (nI l), .int (nI (zL s l).length), .int (nI (zL s l).length - 2), .double 0, .double 0, .double 0] [] (HR c (mSod m (mod m))) _
  rw [show nI (zL s l).length - 2 = nI ((zL s l).length - 1) - 1 by rw [← nI_p (by omega)]; grind]
  refine l7_at X hf ((zL s l).length - 1) (by omega) (fun hno x hx => ?_) (fun a ha => ?_)
  · refine none' x _ _ _ hx ?_
    unfold nextF
    rw [hno]
  · have halt := atF_lt _ _ ha
    have hnext : nextF (zL s l).length o = some (revF 4 (swp o a (wiF o a ((zL s l).length - 1))) (a + 1) ((zL s l).length - 1)) := by
      unfold nextF
      rw [ha]
    have hw := wiF_le o a ((zL s l).length - 1)
    have hbd := hnx _ hnext
    iterate 1 (refine G.st rfl rfl ?_)
    refine G.brt rfl (nI_pos' (by omega)) ?_
    iterate 3 (refine G.st rfl rfl ?_)
    rw [nI_p (by omega)]
    iterate 1 (refine G.st rfl rfl ?_)
    refine l7_wi X hf (show a < 7 by omega) ((zL s l).length - 1) (by omega) (by omega) ?_
    iterate 3 (refine G.st rfl rfl ?_)
    refine G.call rfl rfl (Nat.le_of_ble_eq_true rfl) (Sp.up (s7_swapsOrder X (show a < 7 by omega) (show wiF o a ((zL s l).length - 1) < 7 by omega) hf) (Nat.le_of_ble_eq_true rfl)) ?_
    rintro _ _ ⟨rfl, f', rfl, hf'⟩
    iterate 3 (refine G.st rfl rfl ?_)
    rw [nI_1]
    iterate 4 (refine G.st rfl rfl ?_)
    rw [nI_p (by omega)]
    iterate 1 (refine G.st rfl rfl ?_)
    refine l7_rev X 4 (a + 1) ((zL s l).length - 1) f' _ hf' (by omega) (by omega) (by omega) (fun f2 x y hf2 => ?_)
    refine (g7_hasEnd X hS hM hl hr hf2 hbd).imp ?_
    rintro v h' ⟨rfl, hm⟩
    exact Or.inr ⟨_, hnext, rfl, hm⟩
theorem l7_begin (X : aX) {w : Int32} {Q : Option Value → aH → Prop} (hq : ∀ f x, (∀ i, i < 7 → f i = nI i) → G X 2 kX7_beginsOrders 21 [.ref 81, .int w, .int x] [] (HR c (mSod m f)) Q) : ∀ (k p : Nat) (f : Nat → Int32), p + k = 7 → (∀ i, i < p → f i = nI i) → G X 2 kX7_beginsOrders 2 [.ref 81, .int w, .int (nI p)] [] (HR c (mSod m f)) Q := by
  intro k
  induction k with
  | zero =>
    intro p f hp hf
    iterate 2 (refine G.st rfl rfl ?_)
    refine G.brt rfl (le_nI (k := 7) rfl (by omega) (by omega)) ?_
    exact hq f _ (fun i hi => hf i (by omega))
  | succ k ih =>
    intro p f hp hf
    iterate 2 (refine G.st rfl rfl ?_)
    refine G.brf rfl (nle_nI (k := 7) rfl (by omega) (by omega)) ?_
    iterate 4 (refine G.st rfl rfl ?_)
    refine G.ost rfl (ix_nI (show p < 7 by omega) (by omega)) ?_
    iterate 1 (refine G.st rfl rfl ?_)
    rw [nI_1]
    iterate 1 (refine G.st rfl rfl ?_)
    refine ih (p + 1) _ (by omega) (fun i hi => ?_)
    show upd f p (nI p) i = _
    rw [upd_if]
    by_cases e : i = p
    · rw [if_pos e, e]
    · rw [if_neg e]
      exact hf i (by omega)
theorem s7_beginsOrders (X : aX) {l : Nat} (hS : SOk s) (hM : MR n m s) (hl : l < 4) : Sp X 2 kX7_beginsOrders [.ref 81, .int (nI l)] (HR c m) (fun v h' => v = none ∧ ∃ m', h' = HR c m' ∧ MR n m' s ∧ kp m m' ∧ ORD m' (zL s l) (fun i => i)) := by
  unfold Sp
  iterate 2 (refine G.st rfl rfl ?_)
  show G X 2 kX7_beginsOrders 2 [.ref 81, .int (nI l), .int (nI 0)] [] (HR c (mSod m (mod m))) _
  refine l7_begin X (fun f x hf => ?_) 7 0 (mod m) (by omega) (fun i hi => absurd hi (Nat.not_lt_zero i))
  have hM1 : MR n (mSod m f) s := hM
  have hf1 : OF (mod (mSod m f)) (fun i => i) := fun i hi => ⟨hf i hi, hi⟩
  have hk1 : kp m (mSod m f) := ⟨rfl, rfl, rfl⟩
  generalize mSod m f = m1 at hM1 hf1 hk1
  iterate 2 (refine G.st rfl rfl ?_)
  refine G.call rfl rfl (Nat.le_of_ble_eq_true rfl) (Sp.up (s7_lays X hS hM1 hl) (Nat.le_of_ble_eq_true rfl)) ?_
  rintro _ _ ⟨rfl, m', rfl, hra, hrw, hrn⟩
  refine G.ret rfl rfl ⟨rfl, m', rfl, hra.MR hM1, ?_, ?_, hrn, hrw⟩
  · obtain ⟨f, r, rfl⟩ := hra
    exact hk1
  · obtain ⟨f, r, rfl⟩ := hra
    exact hf1
end RHAS
