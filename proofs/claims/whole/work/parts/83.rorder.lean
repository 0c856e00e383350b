/-! ===== the reference: order ===== -/
section RORDER
variable {c : Nat → aC} {m : sM} {s : Sg} {n : Nat}
theorem l7_notes (X : aX) : ∀ (k p : Nat) (f : Nat → Int32), p + k = 7 → (∀ i, i < p → f i = mod m i) → G X 0 kX7_notesOrder 2 [.ref 81, .int (nI p)] [] (HR c (mSbd m f)) (fun v h' => v = none ∧ ∃ f', h' = HR c (mSbd m f') ∧ ∀ i, i < 7 → f' i = mod m i) := by
  intro k
  induction k with
  | zero =>
    intro p f hp hf
    iterate 2 (refine G.st rfl rfl ?_)
    refine G.brt rfl (le_nI (k := 7) rfl (by omega) (by omega)) ?_
    exact G.ret rfl rfl ⟨rfl, f, rfl, fun i hi => hf i (by omega)⟩
  | succ k ih =>
    intro p f hp hf
    have hx := ix_nI (show p < 7 by omega) (by omega)
    iterate 2 (refine G.st rfl rfl ?_)
    refine G.brf rfl (nle_nI (k := 7) rfl (by omega) (by omega)) ?_
    iterate 6 (refine G.st rfl rfl ?_)
    refine G.iald rfl rfl hx ?_
    refine G.bst rfl hx ?_
    iterate 1 (refine G.st rfl rfl ?_)
    rw [nI_1]
    iterate 1 (refine G.st rfl rfl ?_)
    refine ih (p + 1) (upd f p (mod m p)) (by omega) (fun i hi => ?_)
    rw [upd_if]
    by_cases e : i = p
    · rw [if_pos e, e]
    · rw [if_neg e]
      exact hf i (by omega)
theorem s7_notesOrder (X : aX) : Sp X 0 kX7_notesOrder [.ref 81] (HR c m) (fun v h' => v = none ∧ ∃ f', h' = HR c (mSbd m f') ∧ ∀ i, i < 7 → f' i = mod m i) := by
  unfold Sp
  iterate 2 (refine G.st rfl rfl ?_)
  exact l7_notes X 7 0 (mbd m) (by omega) (fun i hi => absurd hi (Nat.not_lt_zero i))
theorem l7_order (X : aX) {l : Nat} {x : Int32} {Q : Option Value → aH → Prop} (hS : SOk s) (hl : l < 4) (hq : ∀ (b : Lf) (m' : sM) (u : Value), bstL x (ordL (zW s) (zL s l)) = some b → b.2.Perm (List.range (zL s l).length) → MR n m' s → mrn m' = nI (zL s l).length → (∀ i, i < 7 → mbd m' i = nI (tof b.2 i)) → G X 10 kX7_order 80 [.ref 81, .int (nI l), .int x, .int b.1, u] [] (HR c m') Q) : ∀ (rest : List (List Nat)) (q : List Nat) (b : Lf) (m : sM) (u : Value), W9 b.1 → b.2.Perm (List.range (zL s l).length) → (∀ i, i < 7 → mbd m i = nI (tof b.2 i)) → bstL x (ordL (zW s) (zL s l)) = (rest.map (fun q => (wq (zW s) (zL s l) q, q))).foldl (fun b q => cmb x b (some q)) (some b) → MR n m s → ATQ m (zL s l) q rest → G X 10 kX7_order 42 [.ref 81, .int (nI l), .int x, .int b.1, u] [] (HR c m) Q := by
  intro rest
  induction rest with
  | nil =>
    intro q b m u h9 hp hb hB hM hA
    iterate 2 (refine G.st rfl rfl ?_)
    refine G.call rfl rfl (Nat.le_of_ble_eq_true rfl) (Sp.up (s7_nextL X hS hM hl hA) (Nat.le_of_ble_eq_true rfl)) ?_
    rintro v h' (⟨-, rfl, rfl⟩ | ⟨q', r, e, -⟩)
    · refine G.brt rfl rfl ?_
      exact hq b m u hB hp hM hA.2.2.2.1 hb
    · cases e
  | cons q2 rest ih =>
    intro q b m u h9 hp hb hB hM hA
    iterate 2 (refine G.st rfl rfl ?_)
    refine G.call rfl rfl (Nat.le_of_ble_eq_true rfl) (Sp.up (s7_nextL X hS hM hl hA) (Nat.le_of_ble_eq_true rfl)) ?_
    rintro v h' (⟨e, -⟩ | ⟨q', r, e, rfl, m2, rfl, hM2, hk2, hA2⟩)
    · cases e
    · cases e
      have v9 := wq_9 (zW s) (zL s l) q2
      refine G.brf rfl (by decide) ?_
      iterate 1 (refine G.st rfl rfl ?_)
      refine G.call rfl rfl (Nat.le_of_ble_eq_true rfl) (Sp.up (s7_wq X hS hM2 hl hA2) (Nat.le_of_ble_eq_true rfl)) ?_
      rintro _ _ ⟨rfl, rfl⟩
      iterate 3 (refine G.st rfl rfl ?_)
      refine G.call rfl rfl (Nat.le_of_ble_eq_true rfl) (Sp.up (s7_apartBy X _ _ _) (Nat.le_of_ble_eq_true rfl)) ?_
      rintro _ _ ⟨rfl, rfl⟩
      iterate 2 (refine G.st rfl rfl ?_)
      refine G.call rfl rfl (Nat.le_of_ble_eq_true rfl) (Sp.up (s7_apartBy X _ _ _) (Nat.le_of_ble_eq_true rfl)) ?_
      rintro _ _ ⟨rfl, rfl⟩
      show G X 10 kX7_order 67 [.ref 81, .int (nI l), .int x, .int b.1, .int (wq (zW s) (zL s l) q2)] [.int (apI b.1 x), .int (apI (wq (zW s) (zL s l) q2) x)] (HR c m2) Q
      rw [List.map_cons, List.foldl_cons, show cmb x (some b) (some (wq (zW s) (zL s l) q2, q2)) = if dst x (wq (zW s) (zL s l) q2, q2) < dst x b then some (wq (zW s) (zL s l) q2, q2) else some b from rfl] at hB
      by_cases hc : apI (wq (zW s) (zL s l) q2) x < apI b.1 x
      · rw [if_pos (show dst x (wq (zW s) (zL s l) q2, q2) < dst x b from Int32.lt_iff_toInt_lt.mp hc)] at hB
        refine G.brf rfl (Int32.not_le.mpr hc) ?_
        iterate 3 (refine G.st rfl rfl ?_)
        refine G.call rfl rfl (Nat.le_of_ble_eq_true rfl) (Sp.up (s7_notesOrder X) (Nat.le_of_ble_eq_true rfl)) ?_
        rintro _ _ ⟨rfl, f', rfl, hf'⟩
        iterate 1 (refine G.st rfl rfl ?_)
        refine ih q2 (wq (zW s) (zL s l) q2, q2) (mSbd m2 f') _ v9 (hA2.2.1 q2 List.mem_cons_self) (fun i hi => ?_) hB hM2 hA2
        show f' i = _
        rw [hf' i hi]
        exact (hA2.2.2.1 i hi).1
      · rw [if_neg (show ¬ dst x (wq (zW s) (zL s l) q2, q2) < dst x b from fun w => hc (Int32.lt_iff_toInt_lt.mpr w))] at hB
        refine G.brt rfl (Int32.not_lt.mp hc) ?_
        iterate 1 (refine G.st rfl rfl ?_)
        exact ih q2 b m2 _ h9 hp (fun i hi => by rw [hk2.2.2]; exact hb i hi) hB hM2 hA2
theorem l7_ordBack (X : aX) {w x : Int32} {y : Int32} {Q : Option Value → aH → Prop} (hq : ∀ f v, (∀ i, i < 7 → f i = mbd m i) → G X 10 kX7_order 110 [.ref 81, .int w, .int x, .int y, .int v] [] (HR c (mSod m f)) Q) : ∀ (k p : Nat) (f : Nat → Int32), p + k = 7 → (∀ i, i < p → f i = mbd m i) → G X 10 kX7_order 83 [.ref 81, .int w, .int x, .int y, .int (nI p)] [] (HR c (mSod m f)) Q := by
  intro k
  induction k with
  | zero =>
    intro p f hp hf
    iterate 2 (refine G.st rfl rfl ?_)
    refine G.brt rfl (le_nI (k := 7) rfl (by omega) (by omega)) ?_
    exact hq f _ (fun i hi => hf i (by omega))
  | succ k ih =>
    intro p f hp hf
    have hx := ix_nI (show p < 7 by omega) (by omega)
    iterate 2 (refine G.st rfl rfl ?_)
    refine G.brf rfl (nle_nI (k := 7) rfl (by omega) (by omega)) ?_
    iterate 6 (refine G.st rfl rfl ?_)
    refine G.iald rfl rfl hx ?_
    refine G.ost rfl hx ?_
    iterate 1 (refine G.st rfl rfl ?_)
    rw [nI_1]
    iterate 1 (refine G.st rfl rfl ?_)
    refine ih (p + 1) (upd f p (mbd m p)) (by omega) (fun i hi => ?_)
    rw [upd_if]
    by_cases e : i = p
    · rw [if_pos e, e]
    · rw [if_neg e]
      exact hf i (by omega)
theorem tof_7 {q : List Nat} {N : Nat} (hp : q.Perm (List.range N)) (hN : N ≤ 7) {i : Nat} (hi : i < 7) : tof q i < 7 ∧ (i < N → tof q i < N) := by
  have hl : q.length = N := by rw [hp.length_eq, List.length_range]
  by_cases h : i < N
  · have e := tof_at (q := q) (i := i) (by omega)
    have : q[i]'(by omega) < N := List.mem_range.mp (hp.mem_iff.mp (List.getElem_mem _))
    rw [e]
    exact ⟨by omega, fun _ => this⟩
  · have : tof q i = i := by
      unfold tof
      rw [List.getD_eq_getElem?_getD, List.getElem?_eq_none (by omega)]
      rfl
    rw [this]
    exact ⟨hi, fun w => absurd w h⟩
theorem g7_ordEnd (X : aX) {l : Nat} {x v : Int32} {b : Lf} {f : Nat → Int32} (hS : SOk s) (hM : MR n m s) (hl : l < 4) (hp : b.2.Perm (List.range (zL s l).length)) (hr : mrn m = nI (zL s l).length) (hf : ∀ i, i < 7 → f i = nI (tof b.2 i)) : G X 10 kX7_order 110 [.ref 81, .int (nI l), .int x, .int b.1, .int v] [] (HR c (mSod m f)) (MP c n (b.1, zSL s (va_up (zL s) l (b.2.map (gD (zL s l)))))) := by
  have h7 := hS.len hl
  have hlen : b.2.length = (zL s l).length := by rw [hp.length_eq, List.length_range]
  have hM1 : MR n (mSod m f) s := hM
  have hr1 : mrn (mSod m f) = nI (zL s l).length := hr
  have hf1 : OF (mod (mSod m f)) (tof b.2) := fun i hi => ⟨hf i hi, (tof_7 hp h7 hi).1⟩
  generalize mSod m f = m1 at hM1 hr1 hf1
  have key : Sp X 1 kX7_laysOrder [.ref 81, .int (nI l)] (HR c m1) (fun v h' => v = none ∧ ∃ f', h' = HR c (mSrw m1 f') ∧ ∀ i, i < (zL s l).length → G3 f' (3 * i) = gD (zL s l) (tof b.2 i)) := by
    unfold Sp
    iterate 2 (refine G.st rfl rfl ?_)
    exact l7_laysOrder X (c := c) hM1 hl h7 hf1 (fun i hi => (tof_7 hp h7 (by omega)).2 hi) hr1 (zL s l).length 0 (mrw m1) (.double 0) (by omega) (fun i hi => absurd hi (Nat.not_lt_zero i))
  iterate 2 (refine G.st rfl rfl ?_)
  refine G.call rfl rfl (Nat.le_of_ble_eq_true rfl) (Sp.up (key) (Nat.le_of_ble_eq_true rfl)) ?_
  rintro _ _ ⟨rfl, f', rfl, hf'⟩
  have hM2 : MR n (mSrw m1 f') s := hM1
  have hr2 : mrn (mSrw m1 f') = nI (b.2.map (gD (zL s l))).length := by rw [List.length_map, hlen]; exact hr1
  have hw2 : RW (mSrw m1 f') (b.2.map (gD (zL s l))) := by
    intro p hpp
    rw [List.length_map] at hpp
    rw [show G3 (mrw (mSrw m1 f')) (3 * p) = gD (zL s l) (tof b.2 p) from hf' p (by omega), tof_at hpp]
    conv => rhs; unfold gD
    rw [List.getD_eq_getElem?_getD, List.getElem?_map, List.getElem?_eq_getElem hpp]
    rfl
  generalize mSrw m1 f' = m2 at hM2 hr2 hw2
  iterate 2 (refine G.st rfl rfl ?_)
  refine G.call rfl rfl (Nat.le_of_ble_eq_true rfl) (Sp.up (s7_hangsAside X hS hM2 hl hw2 hr2 (by rw [List.length_map]; omega)) (Nat.le_of_ble_eq_true rfl)) ?_
  rintro _ _ ⟨rfl, m3, rfl, hM3, -⟩
  iterate 1 (refine G.st rfl rfl ?_)
  exact G.ret rfl rfl ⟨rfl, m3, rfl, hM3⟩
theorem p7_order (X : aX) (line x : Int32) (hS : SOk s) (hM : MR n m s) : Sp X 10 kX7_order [.ref 81, .int line, .int x] (HR c m) (MP c n (S_order s line x)) := by
  unfold Sp S_order
  show G X 10 kX7_order 0 [.ref 81, .int line, .int x, .double 0, .double 0] [] _ _
  have bad : G X 10 kX7_order 21 [.ref 81, .int line, .int x, .double 0, .double 0] [] (HR c m) (MP c n (fin 0 s)) := by
    iterate 2 (refine G.st rfl rfl ?_)
    refine G.call rfl rfl (Nat.le_of_ble_eq_true rfl) (Sp.up (c7_f0 X hM) (Nat.le_of_ble_eq_true rfl)) ?_
    rintro _ _ ⟨rfl, hci⟩
    exact G.ret rfl rfl ⟨rfl, hci⟩
  iterate 1 (refine G.st rfl rfl ?_)
  refine G.call rfl rfl (Nat.le_of_ble_eq_true rfl) (Sp.up (s7_isLine X line _) (Nat.le_of_ble_eq_true rfl)) ?_
  rintro _ _ ⟨rfl, rfl⟩
  by_cases hl : 0 ≤ line ∧ line ≤ 3
  case neg =>
    rw [if_neg (fun q => hl q.1)]
    exact G.brt rfl (bI_0.mpr hl) bad
  refine G.brf rfl (bI_n hl) ?_
  iterate 4 (refine G.st rfl rfl ?_)
  refine G.call rfl rfl (Nat.le_of_ble_eq_true rfl) (Sp.up (s7_isInI X x (-9999) 9999 _) (Nat.le_of_ble_eq_true rfl)) ?_
  rintro _ _ ⟨rfl, rfl⟩
  by_cases hm : -9999 ≤ x ∧ x ≤ 9999
  case neg =>
    rw [if_neg (fun q => hm q.2)]
    exact G.brt rfl (bI_0.mpr hm) bad
  refine G.brf rfl (bI_n hm) ?_
  rw [if_pos ⟨hl, hm⟩]
  obtain ⟨l, hl4, rfl⟩ := lok_n hl
  have h7 := hS.len hl4
  rw [ln_nI (by omega)]
  iterate 2 (refine G.st rfl rfl ?_)
  refine G.call rfl rfl (Nat.le_of_ble_eq_true rfl) (Sp.up (s7_beginL X hS hM hl4) (Nat.le_of_ble_eq_true rfl)) ?_
  rintro _ _ ⟨rfl, m', q, rest, rfl, hM', -, hp, hA⟩
  iterate 1 (refine G.st rfl rfl ?_)
  refine G.call rfl rfl (Nat.le_of_ble_eq_true rfl) (Sp.up (s7_wq X hS hM' hl4 hA) (Nat.le_of_ble_eq_true rfl)) ?_
  rintro _ _ ⟨rfl, rfl⟩
  iterate 2 (refine G.st rfl rfl ?_)
  refine G.call rfl rfl (Nat.le_of_ble_eq_true rfl) (Sp.up (s7_notesOrder X) (Nat.le_of_ble_eq_true rfl)) ?_
  rintro _ _ ⟨rfl, f', rfl, hf'⟩
  refine l7_order X (n := n) hS hl4 (fun b m2 u hB hbp hM2 hr2 hb2 => ?_) rest q (wq (zW s) (zL s l) q, q) (mSbd m' f') (.double 0) (wq_9 _ _ _) (hA.2.1 q List.mem_cons_self) (fun i hi => ?_) ?_ hM' hA
  · rw [hB]
    iterate 2 (refine G.st rfl rfl ?_)
    show G X 10 kX7_order 83 [.ref 81, .int (nI l), .int x, .int b.1, .int (nI 0)] [] (HR c (mSod m2 (mod m2))) _
    refine l7_ordBack X (fun f v hf => ?_) 7 0 (mod m2) (by omega) (fun i hi => absurd hi (Nat.not_lt_zero i))
    exact g7_ordEnd X hS hM2 hl4 hbp hr2 (fun i hi => by rw [hf i hi]; exact hb2 i hi)
  · show f' i = _
    rw [hf' i hi]
    exact (hA.2.2.1 i hi).1
  · rw [ordL_prm (hS.gk hl4), hp]
    rfl
end RORDER
