/-! ===== the reference: worths, can ===== -/
theorem filt_1 : ∀ (n : Nat) (P Q : Nat → Bool) (j : Nat), j < n → (∀ i, i < n → i ≠ j → P i = Q i) → P j = true → Q j = false → ((List.range n).filter P).length = ((List.range n).filter Q).length + 1
  | 0, _, _, j, hj, _, _, _ => by omega
  | n + 1, P, Q, j, hj, h, h1, h2 => by
    rw [List.range_succ, List.filter_append, List.filter_append, List.length_append, List.length_append]
    by_cases e : j = n
    · subst e
      have : (List.range j).filter P = (List.range j).filter Q := List.filter_congr (fun i hi => h i (by have := List.mem_range.mp hi; omega) (by have := List.mem_range.mp hi; omega))
      rw [this]
      simp [h1, h2]
    · have ih := filt_1 n P Q j (by omega) (fun i hi hne => h i (by omega) hne) h1 h2
      rw [ih]
      have := h n (by omega) (fun q => e q.symm)
      simp only [List.filter_cons, List.filter_nil, this]
      omega
theorem nD_nil : nD [] = 0 := by
  unfold nD
  rw [List.length_eq_zero_iff, List.filter_eq_nil_iff]
  intro j _ h
  cases of_decide_eq_true h
theorem nD_s {l : List Int32} {v : Int32} (hv : W9 v) : nD (l ++ [v]) = nD l + (if v ∈ l then 0 else 1) := by
  obtain ⟨j, hj, -, e⟩ := W9_j hv
  by_cases h : v ∈ l
  · rw [if_pos h, Nat.add_zero]
    refine nD_eq (fun u => ?_)
    rw [List.mem_append, List.mem_singleton]
    exact ⟨fun q => q.elim id (fun x => by rw [x]; exact h), Or.inl⟩
  · rw [if_neg h]
    unfold nD
    refine filt_1 19999 _ _ j hj (fun i hi hne => ?_) ?_ ?_
    · rw [decide_eq_decide, List.mem_append, List.mem_singleton]
      refine ⟨fun q => q.elim id (fun x => ?_), Or.inl⟩
      rw [e] at x
      exact absurd (nI_j (by omega) (by omega) x) hne
    · rw [decide_eq_true_eq, ← e]
      simp
    · rw [decide_eq_false_iff_not, ← e]
      exact h
section RCAN
variable {c : Nat → aC} {m : sM} {s : Sg} {n : Nat}
/-- what was met since T -/
def MET (m : sM) (T : Nat) (l : List Int32) : Prop := mti m = nI T ∧ ∀ j, j < 19999 → (∃ k, k ≤ T ∧ mmt m j = nI k) ∧ (mmt m j = nI T ↔ nI j - 9999 ∈ l)
theorem l7_worths (X : aX) {l T : Nat} (hS : SOk s) (hl : l < 4) (hT : T < 2 ^ 30) : ∀ (rest : List (List Nat)) (q : List Nat) (l0 : List Int32) (m : sM) (u4 : Value), MR n m s → MET m T l0 → (T ≤ n) → ATQ m (zL s l) q rest → G X 10 kX7_worths 33 [.ref 81, .int (nI l), .int (nI (nD l0)), .int 1, u4] [] (HR c m) (MP c n (nI (nD (l0 ++ (q :: rest).map (wq (zW s) (zL s l)))), s)) := by
  have step : ∀ (q : List Nat) (rest : List (List Nat)) (l0 : List Int32) (m : sM) (u4 : Value) (Q : Option Value → aH → Prop), MR n m s → MET m T l0 → T ≤ n → ATQ m (zL s l) q rest → (∀ (m' : sM) (x : Int32), MR n m' s → MET m' T (l0 ++ [wq (zW s) (zL s l) q]) → ATQ m' (zL s l) q rest → G X 10 kX7_worths 80 [.ref 81, .int (nI l), .int (nI (nD (l0 ++ [wq (zW s) (zL s l) q]))), .int 1, .int x] [] (HR c m') Q) → G X 10 kX7_worths 33 [.ref 81, .int (nI l), .int (nI (nD l0)), .int 1, u4] [] (HR c m) Q := by
    intro q rest l0 m u4 Q hM hT0 hTn hA hq
    obtain ⟨t1, t2⟩ := id hT0
    have v9 := wq_9 (zW s) (zL s l) q
    obtain ⟨j, hj, e1, e2⟩ := W9_j v9
    have hx := ix_nI (show j < 19999 by omega) (by omega)
    iterate 1 (refine G.st rfl rfl ?_)
    refine G.brf rfl (by decide) ?_
    iterate 1 (refine G.st rfl rfl ?_)
    refine G.call rfl rfl (Nat.le_of_ble_eq_true rfl) (Sp.up (s7_wq X hS hM hl hA) (Nat.le_of_ble_eq_true rfl)) ?_
    rintro _ _ ⟨rfl, rfl⟩
    iterate 2 (refine G.st rfl rfl ?_)
    rw [e1]
    iterate 1 (refine G.st rfl rfl ?_)
    iterate 4 (refine G.st rfl rfl ?_)
    refine G.iald rfl rfl hx ?_
    iterate 2 (refine G.st rfl rfl ?_)
    show G X 10 kX7_worths 59 [.ref 81, .int (nI l), .int (nI (nD l0)), .int 1, .int (nI j)] [.int (mti m), .int (mmt m j), .int (nI (nD l0))] (HR c m) Q
    rw [t1]
    have after : ∀ x : Nat, nD (l0 ++ [wq (zW s) (zL s l) q]) = nD l0 + x → G X 10 kX7_worths 67 [.ref 81, .int (nI l), .int (nI (nD l0)), .int 1, .int (nI j)] [.int (nI x), .int (nI (nD l0))] (HR c m) Q := by
      intro x hx2
      iterate 1 (refine G.st rfl rfl ?_)
      rw [nI_add, ← hx2]
      iterate 1 (refine G.st rfl rfl ?_)
      iterate 5 (refine G.st rfl rfl ?_)
      show G X 10 kX7_worths 79 [.ref 81, .int (nI l), .int (nI (nD (l0 ++ [wq (zW s) (zL s l) q]))), .int 1, .int (nI j)] [.int (mti m), .int (nI j), .ref 93] (HR c m) Q
      rw [t1]
      refine G.iast rfl rfl hx ?_
      show G X 10 kX7_worths 80 [.ref 81, .int (nI l), .int (nI (nD (l0 ++ [wq (zW s) (zL s l) q]))), .int 1, .int (nI j)] [] (HR c (mSmt m (upd (mmt m) j (nI T)))) Q
      refine hq (mSmt m (upd (mmt m) j (nI T))) (nI j) ?_ ⟨t1, fun i hi => ?_⟩ hA
      · obtain ⟨h1, h2, h3, h4, h5, T', h6, h7, h8⟩ := hM
        refine ⟨h1, h2, h3, h4, h5, T, hTn, t1, fun i hi => ?_⟩
        show ∃ k, k ≤ T ∧ upd (mmt m) j (nI T) i = nI k
        rw [upd_if]
        by_cases e : i = j
        · rw [if_pos e]
          exact ⟨T, Nat.le_refl _, rfl⟩
        · rw [if_neg e]
          exact (t2 i hi).1
      · show (∃ k, k ≤ T ∧ upd (mmt m) j (nI T) i = nI k) ∧ (upd (mmt m) j (nI T) i = nI T ↔ _)
        rw [upd_if, List.mem_append, List.mem_singleton]
        by_cases e : i = j
        · subst e
          rw [if_pos rfl]
          exact ⟨⟨T, Nat.le_refl _, rfl⟩, fun _ => Or.inr e2.symm, fun _ => rfl⟩
        · rw [if_neg e]
          refine ⟨(t2 i hi).1, fun q => Or.inl ((t2 i hi).2.mp q), ?_⟩
          rintro (w | w)
          · exact (t2 i hi).2.mpr w
          · rw [e2] at w
            exact absurd (nI_j (by omega) (by omega) w) e
    have hmem := (t2 j hj).2
    rw [← e2] at hmem
    by_cases hc : mmt m j = nI T
    · refine G.brt rfl hc ?_
      iterate 2 (refine G.st rfl rfl ?_)
      refine after 0 ?_
      rw [nD_s v9, if_pos (hmem.mp hc)]
    · refine G.brf rfl hc ?_
      iterate 1 (refine G.st rfl rfl ?_)
      refine after 1 ?_
      rw [nD_s v9, if_neg (fun w => hc (hmem.mpr w))]
  intro rest
  induction rest with
  | nil =>
    intro q l0 m u4 hM hT0 hTn hA
    refine step q [] l0 m u4 _ hM hT0 hTn hA (fun m' x hM' _ hA' => ?_)
    iterate 2 (refine G.st rfl rfl ?_)
    refine G.call rfl rfl (Nat.le_of_ble_eq_true rfl) (Sp.up (s7_nextL X hS hM' hl hA') (Nat.le_of_ble_eq_true rfl)) ?_
    rintro v h' (⟨-, rfl, rfl⟩ | ⟨q', r, e, -⟩)
    · iterate 3 (refine G.st rfl rfl ?_)
      refine G.brt rfl rfl ?_
      iterate 1 (refine G.st rfl rfl ?_)
      exact G.ret rfl rfl ⟨rfl, m', rfl, hM'⟩
    · cases e
  | cons q2 rest ih =>
    intro q l0 m u4 hM hT0 hTn hA
    refine step q (q2 :: rest) l0 m u4 _ hM hT0 hTn hA (fun m' x hM' hT' hA' => ?_)
    iterate 2 (refine G.st rfl rfl ?_)
    refine G.call rfl rfl (Nat.le_of_ble_eq_true rfl) (Sp.up (s7_nextL X hS hM' hl hA') (Nat.le_of_ble_eq_true rfl)) ?_
    rintro v h' (⟨e, -⟩ | ⟨q', r, e, rfl, m2, rfl, hM2, hk2, hA2⟩)
    · cases e
    · cases e
      iterate 2 (refine G.st rfl rfl ?_)
      have hT2 : MET m2 T (l0 ++ [wq (zW s) (zL s l) q]) := by
        unfold MET
        rw [hk2.1, hk2.2.1]
        exact hT'
      have := ih q2 (l0 ++ [wq (zW s) (zL s l) q]) m2 (.int x) hM2 hT2 hTn hA2
      rw [List.append_assoc] at this
      exact this
theorem p7_worths (X : aX) (line : Int32) (hS : SOk s) (hM : MR n m s) (hn : n < 2 ^ 29) : Sp X 11 kX7_worths [.ref 81, .int line] (HR c m) (MP c (n + 1) (S_worths s line)) := by
  unfold Sp S_worths
  show G X 11 kX7_worths 0 [.ref 81, .int line, .double 0, .double 0, .double 0] [] _ _
  have up : ∀ m', MR n m' s → MR (n + 1) m' s := by
    rintro m' ⟨h1, h2, h3, h4, h5, T, h6, h7⟩
    exact ⟨h1, h2, h3, h4, h5, T, by omega, h7⟩
  iterate 1 (refine G.st rfl rfl ?_)
  refine G.call rfl rfl (Nat.le_of_ble_eq_true rfl) (Sp.up (s7_isLine X line _) (Nat.le_of_ble_eq_true rfl)) ?_
  rintro _ _ ⟨rfl, rfl⟩
  by_cases hl : 0 ≤ line ∧ line ≤ 3
  case neg =>
    rw [if_neg hl]
    refine G.brt rfl (bI_0.mpr hl) ?_
    iterate 2 (refine G.st rfl rfl ?_)
    refine G.call rfl rfl (Nat.le_of_ble_eq_true rfl) (Sp.up (c7_f0 X (up m hM)) (Nat.le_of_ble_eq_true rfl)) ?_
    rintro _ _ ⟨rfl, hci⟩
    exact G.ret rfl rfl ⟨rfl, hci⟩
  rw [if_pos hl]
  refine G.brf rfl (bI_n hl) ?_
  obtain ⟨l, hl4, rfl⟩ := lok_n hl
  rw [ln_nI (by omega)]
  obtain ⟨h1, h2, h3, h4, h5, T, h6, h7, h8⟩ := id hM
  iterate 4 (refine G.st rfl rfl ?_)
  show G X 11 kX7_worths 20 [.ref 81, .int (nI l), .double 0, .double 0, .double 0] [.int 1, .int (mti m), .ref 81] (HR c m) _
  rw [h7]
  iterate 1 (refine G.st rfl rfl ?_)
  rw [nI_1]
  iterate 1 (refine G.st rfl rfl ?_)
  show G X 11 kX7_worths 24 [.ref 81, .int (nI l), .double 0, .double 0, .double 0] [] (HR c (mSti m (nI (T + 1)))) _
  have hM1 : MR (n + 1) (mSti m (nI (T + 1))) s := ⟨h1, h2, h3, h4, h5, T + 1, by omega, rfl, fun i hi => by obtain ⟨k, hk, e⟩ := h8 i hi; exact ⟨k, by omega, e⟩⟩
  have hT1 : MET (mSti m (nI (T + 1))) (T + 1) [] := by
    refine ⟨rfl, fun j hj => ?_⟩
    obtain ⟨k, hk, e⟩ := h8 j hj
    refine ⟨⟨k, by omega, e⟩, fun q => ?_, fun q => by cases q⟩
    have e2 : nI k = nI (T + 1) := e.symm.trans q
    have := (nI_eq (by omega) (by omega)).mp e2
    omega
  generalize mSti m (nI (T + 1)) = m1 at hM1 hT1
  iterate 4 (refine G.st rfl rfl ?_)
  refine G.call rfl rfl (Nat.le_of_ble_eq_true rfl) (Sp.up (s7_beginL X hS hM1 hl4) (Nat.le_of_ble_eq_true rfl)) ?_
  rintro _ _ ⟨rfl, m', q, rest, rfl, hM', hk, hp, hA⟩
  have hT2 : MET m' (T + 1) [] := by
    unfold MET
    rw [hk.1, hk.2.1]
    exact hT1
  iterate 2 (refine G.st rfl rfl ?_)
  have := l7_worths X (c := c) (n := n + 1) hS hl4 (show T + 1 < 2 ^ 30 by omega) rest q [] m' (.double 0) hM' hT2 (by omega) hA
  rw [List.nil_append, ← hp, nD_nil] at this
  rw [ordL_prm (hS.gk hl4), List.map_map, show ((fun x : Lf => x.1) ∘ fun q => (wq (zW s) (zL s l) q, q)) = wq (zW s) (zL s l) from rfl]
  generalize nD ((prm (zL s l).length (List.range (zL s l).length)).map (wq (zW s) (zL s l))) = d at this ⊢
  exact G.up this (by omega)
theorem l7_can (X : aX) {l : Nat} (hS : SOk s) (hl : l < 4) (hr : ∀ v, ∃ b, rd (zN s) v = some b) : ∀ (rest : List (List Nat)) (q : List Nat) (k : Nat) (m : sM), MR n m s → ATQ m (zL s l) q rest → G X 10 kX7_can 38 [.ref 81, .int (nI l), .int (nI k), .int 1] [] (HR c m) (MP c n (nI (((q :: rest).map (wq (zW s) (zL s l))).foldl (fun s' v => s' ||| mbit (zN s) v) k), s)) := by
  have step : ∀ (q : List Nat) (rest : List (List Nat)) (k : Nat) (m : sM) (Q : Option Value → aH → Prop), MR n m s → ATQ m (zL s l) q rest → G X 10 kX7_can 55 [.ref 81, .int (nI l), .int (nI (k ||| mbit (zN s) (wq (zW s) (zL s l) q))), .int 1] [] (HR c m) Q → G X 10 kX7_can 38 [.ref 81, .int (nI l), .int (nI k), .int 1] [] (HR c m) Q := by
    intro q rest k m Q hM hA hq
    iterate 1 (refine G.st rfl rfl ?_)
    refine G.brf rfl (by decide) ?_
    iterate 4 (refine G.st rfl rfl ?_)
    refine G.call rfl rfl (Nat.le_of_ble_eq_true rfl) (Sp.up (s7_wq X hS hM hl hA) (Nat.le_of_ble_eq_true rfl)) ?_
    rintro _ _ ⟨rfl, rfl⟩
    refine G.call rfl rfl (Nat.le_of_ble_eq_true rfl) (Sp.up (s7_readAs X hM) (Nat.le_of_ble_eq_true rfl)) ?_
    rintro _ _ ⟨rfl, rfl⟩
    obtain ⟨b, hb⟩ := hr (wq (zW s) (zL s l) q)
    have hb10 := rd_lt hb
    have hmb : mbit (zN s) (wq (zW s) (zL s l) q) = 2 ^ b := by unfold mbit; rw [hb]
    rw [hb]
    show G X 10 kX7_can 52 [.ref 81, .int (nI l), .int (nI k), .int 1] [.int (nI b), .int 1, .int (nI k)] (HR c m) Q
    iterate 1 (refine G.st rfl rfl ?_)
    rw [shl_10 b (by omega)]
    iterate 1 (refine G.st rfl rfl ?_)
    rw [nI_or, ← hmb]
    iterate 1 (refine G.st rfl rfl ?_)
    exact hq
  intro rest
  induction rest with
  | nil =>
    intro q k m hM hA
    refine step q [] k m _ hM hA ?_
    iterate 2 (refine G.st rfl rfl ?_)
    refine G.call rfl rfl (Nat.le_of_ble_eq_true rfl) (Sp.up (s7_nextL X hS hM hl hA) (Nat.le_of_ble_eq_true rfl)) ?_
    rintro v h' (⟨-, rfl, rfl⟩ | ⟨q', r, e, -⟩)
    · iterate 3 (refine G.st rfl rfl ?_)
      refine G.brt rfl rfl ?_
      iterate 1 (refine G.st rfl rfl ?_)
      exact G.ret rfl rfl ⟨rfl, m, rfl, hM⟩
    · cases e
  | cons q2 rest ih =>
    intro q k m hM hA
    refine step q (q2 :: rest) k m _ hM hA ?_
    iterate 2 (refine G.st rfl rfl ?_)
    refine G.call rfl rfl (Nat.le_of_ble_eq_true rfl) (Sp.up (s7_nextL X hS hM hl hA) (Nat.le_of_ble_eq_true rfl)) ?_
    rintro v h' (⟨e, -⟩ | ⟨q', r, e, rfl, m2, rfl, hM2, -, hA2⟩)
    · cases e
    · cases e
      iterate 2 (refine G.st rfl rfl ?_)
      exact ih q2 _ m2 hM2 hA2
theorem rd_some {nm : Nat → Option Int32} {v : Int32} : rd nm v = none ↔ toldN nm 10 = 0 := by
  have key : ∀ k, rdN nm v k = none ↔ toldN nm k = 0 := by
    intro k
    induction k with
    | zero => exact ⟨fun _ => rfl, fun _ => rfl⟩
    | succ k ih =>
      unfold rdN rdStep toldN
      cases hx : nm k with
      | none => simpa [hx] using ih
      | some x =>
        cases hb : rdN nm v k with
        | none => simp
        | some b =>
          simp
          split <;> simp
  exact key 10
theorem p7_can (X : aX) (line : Int32) (hS : SOk s) (hM : MR n m s) : Sp X 11 kX7_can [.ref 81, .int line] (HR c m) (MP c n (S_can s line)) := by
  unfold Sp S_can
  show G X 11 kX7_can 0 [.ref 81, .int line, .double 0, .double 0] [] _ _
  iterate 1 (refine G.st rfl rfl ?_)
  refine G.call rfl rfl (Nat.le_of_ble_eq_true rfl) (Sp.up (s7_isLine X line _) (Nat.le_of_ble_eq_true rfl)) ?_
  rintro _ _ ⟨rfl, rfl⟩
  by_cases hl : 0 ≤ line ∧ line ≤ 3
  case neg =>
    rw [if_neg hl]
    refine G.brt rfl (bI_0.mpr hl) ?_
    iterate 2 (refine G.st rfl rfl ?_)
    refine G.call rfl rfl (Nat.le_of_ble_eq_true rfl) (Sp.up (c7_f0 X hM) (Nat.le_of_ble_eq_true rfl)) ?_
    rintro _ _ ⟨rfl, hci⟩
    exact G.ret rfl rfl ⟨rfl, hci⟩
  rw [if_pos hl]
  refine G.brf rfl (bI_n hl) ?_
  obtain ⟨l, hl4, rfl⟩ := lok_n hl
  rw [ln_nI (by omega)]
  iterate 2 (refine G.st rfl rfl ?_)
  refine G.call rfl rfl (Nat.le_of_ble_eq_true rfl) (Sp.up (s7_readAs X hM) (Nat.le_of_ble_eq_true rfl)) ?_
  rintro _ _ ⟨rfl, rfl⟩
  by_cases h0 : toldN (zN s) 10 = 0
  · rw [if_pos h0, (rd_some (v := 0)).mpr h0]
    refine G.brf rfl (by decide) ?_
    iterate 2 (refine G.st rfl rfl ?_)
    refine G.call rfl rfl (Nat.le_of_ble_eq_true rfl) (Sp.up (c7_f3 X hM) (Nat.le_of_ble_eq_true rfl)) ?_
    rintro _ _ ⟨rfl, hci⟩
    exact G.ret rfl rfl ⟨rfl, hci⟩
  rw [if_neg h0]
  have hr : ∀ v, ∃ b, rd (zN s) v = some b := by
    intro v
    cases h : rd (zN s) v with
    | none => exact absurd (rd_some.mp h) h0
    | some b => exact ⟨b, rfl⟩
  obtain ⟨b, hb⟩ := hr 0
  rw [hb]
  refine G.brt rfl (nI_pos' (show b < 2 ^ 31 by have := rd_lt hb; omega)) ?_
  iterate 4 (refine G.st rfl rfl ?_)
  refine G.call rfl rfl (Nat.le_of_ble_eq_true rfl) (Sp.up (s7_beginL X hS hM hl4) (Nat.le_of_ble_eq_true rfl)) ?_
  rintro _ _ ⟨rfl, m', q, rest, rfl, hM', -, hp, hA⟩
  iterate 2 (refine G.st rfl rfl ?_)
  have := l7_can X (c := c) hS hl4 hr rest q 0 m' hM' hA
  rw [← hp] at this
  rw [ordL_prm (hS.gk hl4), List.map_map]
  exact G.up this (by omega)
end RCAN
