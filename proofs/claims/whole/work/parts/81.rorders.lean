/-! ===== the reference: orders, most, least ===== -/
theorem all_prm (say : Nat → Int32) : ∀ (k : Nat) (R : List Nat) (a : Acc), allO say k R a = (prm k R).map (fun q => ((q.foldl (fun a p => eff (say p) a) a).1, q))
  | 0, R, a => rfl
  | k + 1, R, a => by
    show R.flatMap (fun p => (allO say k (R.erase p) (eff (say p) a)).map (pfx p)) = (R.flatMap (fun p => (prm k (R.erase p)).map (p :: ·))).map _
    rw [List.map_flatMap]
    congr 1
    funext p
    rw [all_prm say k (R.erase p), List.map_map, List.map_map]
    rfl
theorem prm_perm : ∀ (k : Nat) (R q : List Nat), R.length = k → q ∈ prm k R → q.Perm R
  | 0, R, q, hk, hq => by
    rw [show prm 0 R = [[]] from rfl, List.mem_singleton] at hq
    rw [hq, List.length_eq_zero_iff.mp hk]
  | k + 1, R, q, hk, hq => by
    rw [show prm (k + 1) R = R.flatMap (fun p => (prm k (R.erase p)).map (p :: ·)) from rfl] at hq
    obtain ⟨p, hp, hq⟩ := List.mem_flatMap.mp hq
    obtain ⟨r, hr, rfl⟩ := List.mem_map.mp hq
    have := prm_perm k (R.erase p) r (by rw [List.length_erase_of_mem hp]; omega) hr
    exact (this.cons p).trans (List.perm_cons_erase hp).symm
theorem fold_hear {w : Int32} {g : List Gar} (hg : gKs g) : ∀ (q : List Nat) (a : Acc), (∀ p ∈ q, p < g.length) → q.foldl (fun a p => eff (sy w g p) a) a = hearL w a (q.map (gD g))
  | [], a, _ => rfl
  | p :: q, a, h => by
    rw [List.foldl_cons, show sy w g p = sayI w (gD g p) from rfl, eff_say (gK_at hg (h p List.mem_cons_self))]
    exact fold_hear hg q _ (fun x hx => h x (List.mem_cons_of_mem _ hx))
/-- the worth by an order -/
def wq (w : Int32) (g : List Gar) (q : List Nat) : Int32 := wlst w (q.map (gD g))
theorem ordL_prm {w : Int32} {g : List Gar} (hg : gKs g) : ordL w g = (prm g.length (List.range g.length)).map (fun q => (wq w g q, q)) := by
  unfold ordL
  rw [all_prm]
  apply List.map_congr_left
  intro q hq
  have hp := prm_perm _ _ q List.length_range hq
  rw [fold_hear hg q (0, 0) (fun p hpq => List.mem_range.mp (hp.mem_iff.mp hpq))]
  rfl
theorem prm_head : ∀ n, n < 8 → (prm n (List.range n)).head? = some (List.range n) := by decide +kernel
theorem prm_cons {n : Nat} (hn : n < 8) : ∃ rest, prm n (List.range n) = List.range n :: rest := by
  have := prm_head n hn
  cases h : prm n (List.range n) with
  | nil => rw [h] at this; cases this
  | cons q r =>
    rw [h] at this
    cases this
    exact ⟨r, rfl⟩
theorem tof_at {q : List Nat} {i : Nat} (h : i < q.length) : tof q i = q[i] := by
  unfold tof
  rw [List.getD_eq_getElem?_getD, List.getElem?_eq_getElem h]
  rfl
theorem same7_at {o o' : Nat → Nat} (h : same7 o o' = true) {i : Nat} (hi : i < 7) : o i = o' i := by
  unfold same7 at h
  rw [List.all_eq_true] at h
  exact Nat.eq_of_beq_eq_true (h i (List.mem_range.mpr hi))
section RORD
variable {c : Nat → aC} {m : sM} {s : Sg} {n : Nat}
theorem ORD.eq {g : List Gar} {o o' : Nat → Nat} (h : ORD m g o) (h7 : g.length ≤ 7) (e : ∀ i, i < 7 → o i = o' i) : ORD m g o' := by
  obtain ⟨h1, h2, h3⟩ := h
  exact ⟨fun i hi => by rw [← e i hi]; exact h1 i hi, h2, fun i hi => by rw [← e i (by omega)]; exact h3 i hi⟩
/-- at the order q, with the rest behind it -/
def ATQ (m : sM) (g : List Gar) (q : List Nat) (rest : List (List Nat)) : Prop := chkL g.length (q :: rest) = true ∧ (∀ x ∈ q :: rest, x.Perm (List.range g.length)) ∧ ORD m g (tof q)
theorem ATQ.rw {g : List Gar} {q : List Nat} {rest : List (List Nat)} (h : ATQ m g q rest) : RW m (q.map (gD g)) ∧ mrn m = nI (q.map (gD g)).length := by
  obtain ⟨-, h2, h3⟩ := h
  have hl : q.length = g.length := by rw [(h2 q List.mem_cons_self).length_eq, List.length_range]
  refine ⟨fun p hp => ?_, by rw [List.length_map, hl]; exact h3.2.1⟩
  rw [List.length_map] at hp
  rw [h3.2.2 p (by omega), tof_at hp]
  conv => rhs; unfold gD
  rw [List.getD_eq_getElem?_getD, List.getElem?_map, List.getElem?_eq_getElem hp]
  rfl
theorem ATQ.gk {g : List Gar} {q : List Nat} {rest : List (List Nat)} (h : ATQ m g q rest) (hg : gKs g) : gKs (q.map (gD g)) ∧ (q.map (gD g)).length = g.length := by
  obtain ⟨-, h2, -⟩ := h
  have hp := h2 q List.mem_cons_self
  refine ⟨fun y hy => ?_, by rw [List.length_map, hp.length_eq, List.length_range]⟩
  obtain ⟨i, hi, rfl⟩ := List.mem_map.mp hy
  exact gK_at hg (List.mem_range.mp (hp.mem_iff.mp hi))
theorem s7_wq (X : aX) {l : Nat} {q : List Nat} {rest : List (List Nat)} (hS : SOk s) (hM : MR n m s) (hl : l < 4) (h : ATQ m (zL s l) q rest) : Sp X 2 kX7_worthAside [.ref 81] (HR c m) (An (some (.int (wq (zW s) (zL s l) q))) (HR c m)) := by
  have h7 := hS.len hl
  obtain ⟨a1, a2⟩ := h.rw
  obtain ⟨b1, b2⟩ := h.gk (hS.gk hl)
  exact s7_worthAside X hM a1 a2 b1 (by omega)
theorem wq_9 (w : Int32) (g : List Gar) (q : List Nat) : W9 (wq w g q) := wlst_9 _ _
theorem s7_nextL (X : aX) {l : Nat} {q : List Nat} {rest : List (List Nat)} (hS : SOk s) (hM : MR n m s) (hl : l < 4) (h : ATQ m (zL s l) q rest) : Sp X 3 kX7_hasNext [.ref 81, .int (nI l)] (HR c m) (fun v h' => (rest = [] ∧ v = some (.int 0) ∧ h' = HR c m) ∨ ∃ q' r, rest = q' :: r ∧ v = some (.int 1) ∧ ∃ m', h' = HR c m' ∧ MR n m' s ∧ kp m m' ∧ ATQ m' (zL s l) q' r) := by
  have h7 := hS.len hl
  obtain ⟨h1, h2, h3⟩ := h
  cases rest with
  | nil =>
    have hno : nextF (zL s l).length (tof q) = none := by
      have : (nextF (zL s l).length (tof q)).isNone = true := h1
      simpa using this
    refine (s7_hasNext X hS hM hl h3 (fun o' e => by rw [hno] at e; cases e)).imp ?_
    rintro v h' (⟨-, rfl, rfl⟩ | ⟨o', e, -⟩)
    · exact Or.inl ⟨rfl, rfl, rfl⟩
    · rw [hno] at e
      cases e
  | cons q' r =>
    have h1' : ((match nextF (zL s l).length (tof q) with | none => false | some o => same7 o (tof q')) && chkL (zL s l).length (q' :: r)) = true := h1
    obtain ⟨c1, c2⟩ := Bool.and_eq_true_iff.mp h1'
    cases hnx : nextF (zL s l).length (tof q) with
    | none => rw [hnx] at c1; cases c1
    | some o =>
      rw [hnx] at c1
      have hs := fun i (hi : i < 7) => same7_at c1 hi
      have hp := h2 q' (List.mem_cons_of_mem _ List.mem_cons_self)
      have hl' : q'.length = (zL s l).length := by rw [hp.length_eq, List.length_range]
      refine (s7_hasNext X hS hM hl h3 (fun o' e i hi => ?_)).imp ?_
      · rw [hnx] at e
        cases e
        rw [hs i (by omega), tof_at (by omega)]
        exact List.mem_range.mp (hp.mem_iff.mp (List.getElem_mem _))
      · rintro v h' (⟨e, -⟩ | ⟨o', e, rfl, m', rfl, hM', hkp, hO⟩)
        · rw [hnx] at e
          cases e
        · rw [hnx] at e
          cases e
          exact Or.inr ⟨q', r, rfl, rfl, m', rfl, hM', hkp, c2, fun x hx => h2 x (List.mem_cons_of_mem _ hx), hO.eq h7 hs⟩
theorem s7_beginL (X : aX) {l : Nat} (hS : SOk s) (hM : MR n m s) (hl : l < 4) : Sp X 2 kX7_beginsOrders [.ref 81, .int (nI l)] (HR c m) (fun v h' => v = none ∧ ∃ m' q rest, h' = HR c m' ∧ MR n m' s ∧ kp m m' ∧ prm (zL s l).length (List.range (zL s l).length) = q :: rest ∧ ATQ m' (zL s l) q rest) := by
  have h7 := hS.len hl
  obtain ⟨rest, hp⟩ := prm_cons (show (zL s l).length < 8 by omega)
  refine (s7_beginsOrders X hS hM hl).imp ?_
  rintro _ _ ⟨rfl, m', rfl, hM', hkp, hO⟩
  refine ⟨rfl, m', _, rest, rfl, hM', hkp, hp, ?_, fun x hx => ?_, ?_⟩
  · rw [← hp]
    exact chk_all _ (by omega)
  · rw [← hp] at hx
    exact prm_perm _ _ x List.length_range hx
  · refine hO.eq h7 (fun i hi => ?_)
    unfold tof
    by_cases h : i < (zL s l).length
    · simp [h]
    · simp [h]
theorem l7_orders (X : aX) {l b : Nat} (hS : SOk s) (hl : l < 4) (hb : b < 10) : ∀ (rest : List (List Nat)) (q : List Nat) (k : Nat) (m : sM), MR n m s → ATQ m (zL s l) q rest → G X 10 kX7_orders 50 [.ref 81, .int (nI l), .int (nI b), .int (nI k), .int 1] [] (HR c m) (MP c n (nI (k + (q :: rest).countP (fun q => decide (rd (zN s) (wq (zW s) (zL s l) q) = some b))), s)) := by
  intro rest
  induction rest with
  | nil =>
    intro q k m hM hA
    iterate 1 (refine G.st rfl rfl ?_)
    refine G.brf rfl (by decide) ?_
    iterate 3 (refine G.st rfl rfl ?_)
    refine G.call rfl rfl (Nat.le_of_ble_eq_true rfl) (Sp.up (s7_wq X hS hM hl hA) (Nat.le_of_ble_eq_true rfl)) ?_
    rintro _ _ ⟨rfl, rfl⟩
    refine G.call rfl rfl (Nat.le_of_ble_eq_true rfl) (Sp.up (s7_readAs X hM) (Nat.le_of_ble_eq_true rfl)) ?_
    rintro _ _ ⟨rfl, rfl⟩
    iterate 1 (refine G.st rfl rfl ?_)
    have out : ∀ x : Nat, k + ([q] : List (List Nat)).countP (fun q => decide (rd (zN s) (wq (zW s) (zL s l) q) = some b)) = k + x → G X 10 kX7_orders 73 [.ref 81, .int (nI l), .int (nI b), .int (nI k), .int 1] [.int (nI x), .int (nI k)] (HR c m) (MP c n (nI (k + ([q] : List (List Nat)).countP (fun q => decide (rd (zN s) (wq (zW s) (zL s l) q) = some b))), s)) := by
      intro x e
      rw [e]
      iterate 1 (refine G.st rfl rfl ?_)
      rw [nI_add]
      iterate 3 (refine G.st rfl rfl ?_)
      refine G.call rfl rfl (Nat.le_of_ble_eq_true rfl) (Sp.up (s7_nextL X hS hM hl hA) (Nat.le_of_ble_eq_true rfl)) ?_
      rintro v h' (⟨-, rfl, rfl⟩ | ⟨q', r, e, -⟩)
      · iterate 3 (refine G.st rfl rfl ?_)
        refine G.brt rfl rfl ?_
        iterate 1 (refine G.st rfl rfl ?_)
        exact G.ret rfl rfl ⟨rfl, m, rfl, hM⟩
      · cases e
    by_cases hc : rdI (rd (zN s) (wq (zW s) (zL s l) q)) = nI b
    · refine G.brt rfl hc ?_
      iterate 2 (refine G.st rfl rfl ?_)
      refine out 1 ?_
      rw [List.countP_cons, List.countP_nil, if_pos (by simpa using (rdI_iff (fun x hx => rd_lt hx) hb).mp hc)]
    · refine G.brf rfl hc ?_
      iterate 1 (refine G.st rfl rfl ?_)
      refine out 0 ?_
      rw [List.countP_cons, List.countP_nil, if_neg (by simpa using fun e => hc ((rdI_iff (fun x hx => rd_lt hx) hb).mpr e))]
  | cons q2 rest ih =>
    intro q k m hM hA
    iterate 1 (refine G.st rfl rfl ?_)
    refine G.brf rfl (by decide) ?_
    iterate 3 (refine G.st rfl rfl ?_)
    refine G.call rfl rfl (Nat.le_of_ble_eq_true rfl) (Sp.up (s7_wq X hS hM hl hA) (Nat.le_of_ble_eq_true rfl)) ?_
    rintro _ _ ⟨rfl, rfl⟩
    refine G.call rfl rfl (Nat.le_of_ble_eq_true rfl) (Sp.up (s7_readAs X hM) (Nat.le_of_ble_eq_true rfl)) ?_
    rintro _ _ ⟨rfl, rfl⟩
    iterate 1 (refine G.st rfl rfl ?_)
    have out : ∀ x : Nat, k + (q :: q2 :: rest).countP (fun q => decide (rd (zN s) (wq (zW s) (zL s l) q) = some b)) = k + x + (q2 :: rest).countP (fun q => decide (rd (zN s) (wq (zW s) (zL s l) q) = some b)) → G X 10 kX7_orders 73 [.ref 81, .int (nI l), .int (nI b), .int (nI k), .int 1] [.int (nI x), .int (nI k)] (HR c m) (MP c n (nI (k + (q :: q2 :: rest).countP (fun q => decide (rd (zN s) (wq (zW s) (zL s l) q) = some b))), s)) := by
      intro x e
      rw [e]
      iterate 1 (refine G.st rfl rfl ?_)
      rw [nI_add]
      iterate 3 (refine G.st rfl rfl ?_)
      refine G.call rfl rfl (Nat.le_of_ble_eq_true rfl) (Sp.up (s7_nextL X hS hM hl hA) (Nat.le_of_ble_eq_true rfl)) ?_
      rintro v h' (⟨e, -⟩ | ⟨q', r, e, rfl, m', rfl, hM', -, hA'⟩)
      · cases e
      · cases e
        iterate 2 (refine G.st rfl rfl ?_)
        exact ih q2 (k + x) m' hM' hA'
    by_cases hc : rdI (rd (zN s) (wq (zW s) (zL s l) q)) = nI b
    · refine G.brt rfl hc ?_
      iterate 2 (refine G.st rfl rfl ?_)
      refine out 1 ?_
      rw [List.countP_cons, if_pos (by simpa using (rdI_iff (fun x hx => rd_lt hx) hb).mp hc)]
      omega
    · refine G.brf rfl hc ?_
      iterate 1 (refine G.st rfl rfl ?_)
      refine out 0 ?_
      rw [List.countP_cons, if_neg (by simpa using fun e => hc ((rdI_iff (fun x hx => rd_lt hx) hb).mpr e))]
      omega
theorem p7_orders (X : aX) (line mn : Int32) (hS : SOk s) (hM : MR n m s) : Sp X 10 kX7_orders [.ref 81, .int line, .int mn] (HR c m) (MP c n (S_orders s line mn)) := by
  unfold Sp S_orders
  show G X 10 kX7_orders 0 [.ref 81, .int line, .int mn, .double 0, .double 0] [] _ _
  have bad : G X 10 kX7_orders 14 [.ref 81, .int line, .int mn, .double 0, .double 0] [] (HR c m) (MP c n (fin 0 s)) := by
    iterate 2 (refine G.st rfl rfl ?_)
    refine G.call rfl rfl (Nat.le_of_ble_eq_true rfl) (Sp.up (c7_f0 X hM) (Nat.le_of_ble_eq_true rfl)) ?_
    rintro _ _ ⟨rfl, hci⟩
    exact G.ret rfl rfl ⟨rfl, hci⟩
  iterate 1 (refine G.st rfl rfl ?_)
  refine G.call rfl rfl (Nat.le_of_ble_eq_true rfl) (Sp.up (s7_isLine X line _) (Nat.le_of_ble_eq_true rfl)) ?_
  rintro _ _ ⟨rfl, rfl⟩
  by_cases hl : 0 ≤ line ∧ line ≤ 3
  case neg =>
    rw [if_neg (fun q => hl q.1)]
    exact G.brt rfl (bI_0.mpr hl) bad
  refine G.brf rfl (bI_n hl) ?_
  iterate 1 (refine G.st rfl rfl ?_)
  refine G.call rfl rfl (Nat.le_of_ble_eq_true rfl) (Sp.up (s7_isMeaning X mn _) (Nat.le_of_ble_eq_true rfl)) ?_
  rintro _ _ ⟨rfl, rfl⟩
  by_cases hm : 0 ≤ mn ∧ mn ≤ 9
  case neg =>
    rw [if_neg (fun q => hm q.2)]
    exact G.brt rfl (bI_0.mpr hm) bad
  refine G.brf rfl (bI_n hm) ?_
  rw [if_pos ⟨hl, hm⟩]
  obtain ⟨l, hl4, rfl⟩ := lok_n hl
  obtain ⟨b, hb, rfl⟩ := mok_n hm
  rw [ln_nI (by omega), ln_nI (by omega)]
  iterate 5 (refine G.st rfl rfl ?_)
  refine G.iald rfl rfl (ixa (k := 6) rfl (show 6 + b < 110 by omega) (by omega)) ?_
  rw [hM.has hb]
  cases hz : zN s b with
  | none =>
    refine G.brt rfl (bI_0.mpr (by simp)) ?_
    iterate 2 (refine G.st rfl rfl ?_)
    refine G.call rfl rfl (Nat.le_of_ble_eq_true rfl) (Sp.up (c7_f3 X hM) (Nat.le_of_ble_eq_true rfl)) ?_
    rintro _ _ ⟨rfl, hci⟩
    exact G.ret rfl rfl ⟨rfl, hci⟩
  | some x =>
    refine G.brf rfl (bI_n (by simp)) ?_
    iterate 4 (refine G.st rfl rfl ?_)
    refine G.call rfl rfl (Nat.le_of_ble_eq_true rfl) (Sp.up (s7_beginL X hS hM hl4) (Nat.le_of_ble_eq_true rfl)) ?_
    rintro _ _ ⟨rfl, m', q, rest, rfl, hM', -, hp, hA⟩
    iterate 2 (refine G.st rfl rfl ?_)
    have := l7_orders X (c := c) hS hl4 hb rest q 0 m' hM' hA
    rw [Nat.zero_add, ← hp] at this
    refine G.imp this ?_
    rintro v h' ⟨rfl, hci⟩
    refine ⟨?_, hci⟩
    rw [ordL_prm (hS.gk hl4), List.countP_map]
    rfl
theorem l7_most (X : aX) {l : Nat} (hS : SOk s) (hl : l < 4) : ∀ (rest : List (List Nat)) (q : List Nat) (b : Int32) (m : sM), W9 b → MR n m s → ATQ m (zL s l) q rest → G X 4 kX7_furthest 10 [.ref 81, .int (nI l), .int (1), .int b] [] (HR c m) (MP c n (((rest.map (wq (zW s) (zL s l))).foldl mxS (some b)).getD 0, s)) := by
  intro rest
  induction rest with
  | nil =>
    intro q b m h9 hM hA
    iterate 2 (refine G.st rfl rfl ?_)
    refine G.call rfl rfl (Nat.le_of_ble_eq_true rfl) (Sp.up (s7_nextL X hS hM hl hA) (Nat.le_of_ble_eq_true rfl)) ?_
    rintro v h' (⟨-, rfl, rfl⟩ | ⟨q', r, e, -⟩)
    · refine G.brt rfl rfl ?_
      iterate 1 (refine G.st rfl rfl ?_)
      exact G.ret rfl rfl ⟨rfl, m, rfl, hM⟩
    · cases e
  | cons q2 rest ih =>
    intro q b m h9 hM hA
    iterate 2 (refine G.st rfl rfl ?_)
    refine G.call rfl rfl (Nat.le_of_ble_eq_true rfl) (Sp.up (s7_nextL X hS hM hl hA) (Nat.le_of_ble_eq_true rfl)) ?_
    rintro v h' (⟨e, -⟩ | ⟨q', r, e, rfl, m', rfl, hM', -, hA'⟩)
    · cases e
    · cases e
      have v9 := wq_9 (zW s) (zL s l) q2
      refine G.brf rfl (by decide) ?_
      iterate 2 (refine G.st rfl rfl ?_)
      refine G.call rfl rfl (Nat.le_of_ble_eq_true rfl) (Sp.up (s7_wq X hS hM' hl hA') (Nat.le_of_ble_eq_true rfl)) ?_
      rintro _ _ ⟨rfl, rfl⟩
      iterate 4 (refine G.st rfl rfl ?_)
      rw [List.map_cons, List.foldl_cons, show mxS (some b) (wq (zW s) (zL s l) q2) = some (if b < wq (zW s) (zL s l) q2 then wq (zW s) (zL s l) q2 else b) from rfl]
      by_cases hc : b < wq (zW s) (zL s l) q2
      · rw [if_pos hc]
        refine G.brf rfl (by unfold W9 at v9 h9; grind) ?_
        iterate 1 (refine G.st rfl rfl ?_)
        refine G.call rfl rfl (Nat.le_of_ble_eq_true rfl) (Sp.up (s7_wq X hS hM' hl hA') (Nat.le_of_ble_eq_true rfl)) ?_
        rintro _ _ ⟨rfl, rfl⟩
        iterate 3 (refine G.st rfl rfl ?_)
        exact ih q2 _ m' v9 hM' hA'
      · rw [if_neg hc]
        refine G.brt rfl (by unfold W9 at v9 h9; grind) ?_
        iterate 3 (refine G.st rfl rfl ?_)
        exact ih q2 b m' h9 hM' hA'
theorem p7_most (X : aX) (line : Int32) (hS : SOk s) (hM : MR n m s) : Sp X 10 kX7_most [.ref 81, .int line] (HR c m) (MP c n (S_most s line)) := by
  unfold Sp S_most
  show G X 10 kX7_most 0 [.ref 81, .int line] [] _ _
  iterate 1 (refine G.st rfl rfl ?_)
  refine G.call rfl rfl (Nat.le_of_ble_eq_true rfl) (Sp.up (s7_isLine X line _) (Nat.le_of_ble_eq_true rfl)) ?_
  rintro _ _ ⟨rfl, rfl⟩
  by_cases hl : 0 ≤ line ∧ line ≤ 3
  case neg =>
    rw [if_neg hl]
    refine G.brt rfl (bI_0.mpr hl) ?_
    iterate 2 (refine G.st rfl rfl ?_)
    refine G.call rfl rfl (Nat.le_of_ble_eq_true rfl) (Sp.up (c7_f0 X hM) (Nat.le_of_ble_eq_true rfl)) ?_
    rintro _ _ ⟨rfl, hci⟩
    exact G.ret rfl rfl ⟨rfl, hci⟩
  rw [if_pos hl]
  refine G.brf rfl (bI_n hl) ?_
  obtain ⟨l, hl4, rfl⟩ := lok_n hl
  rw [ln_nI (by omega)]
  have key : Sp X 4 kX7_furthest [.ref 81, .int (nI l), .int (1)] (HR c m) (MP c n ((mxL ((ordL (zW s) (zL s l)).map (·.1))).getD 0, s)) := by
    unfold Sp
    iterate 2 (refine G.st rfl rfl ?_)
    refine G.call rfl rfl (Nat.le_of_ble_eq_true rfl) (Sp.up (s7_beginL X hS hM hl4) (Nat.le_of_ble_eq_true rfl)) ?_
    rintro _ _ ⟨rfl, m', q, rest, rfl, hM', -, hp, hA⟩
    iterate 1 (refine G.st rfl rfl ?_)
    refine G.call rfl rfl (Nat.le_of_ble_eq_true rfl) (Sp.up (s7_wq X hS hM' hl4 hA) (Nat.le_of_ble_eq_true rfl)) ?_
    rintro _ _ ⟨rfl, rfl⟩
    iterate 1 (refine G.st rfl rfl ?_)
    have := l7_most X (c := c) hS hl4 rest q (wq (zW s) (zL s l) q) m' (wq_9 _ _ _) hM' hA
    rw [show (ordL (zW s) (zL s l)).map (·.1) = (q :: rest).map (wq (zW s) (zL s l)) by rw [ordL_prm (hS.gk hl4), List.map_map, ← hp]; rfl]
    exact this
  iterate 3 (refine G.st rfl rfl ?_)
  refine G.call rfl rfl (Nat.le_of_ble_eq_true rfl) (Sp.up (key) (Nat.le_of_ble_eq_true rfl)) ?_
  rintro _ _ ⟨rfl, hci⟩
  iterate 1 (refine G.st rfl rfl ?_)
  exact G.ret rfl rfl ⟨rfl, hci⟩
theorem l7_least (X : aX) {l : Nat} (hS : SOk s) (hl : l < 4) : ∀ (rest : List (List Nat)) (q : List Nat) (b : Int32) (m : sM), W9 b → MR n m s → ATQ m (zL s l) q rest → G X 4 kX7_furthest 10 [.ref 81, .int (nI l), .int (-1), .int b] [] (HR c m) (MP c n (((rest.map (wq (zW s) (zL s l))).foldl mnS (some b)).getD 0, s)) := by
  intro rest
  induction rest with
  | nil =>
    intro q b m h9 hM hA
    iterate 2 (refine G.st rfl rfl ?_)
    refine G.call rfl rfl (Nat.le_of_ble_eq_true rfl) (Sp.up (s7_nextL X hS hM hl hA) (Nat.le_of_ble_eq_true rfl)) ?_
    rintro v h' (⟨-, rfl, rfl⟩ | ⟨q', r, e, -⟩)
    · refine G.brt rfl rfl ?_
      iterate 1 (refine G.st rfl rfl ?_)
      exact G.ret rfl rfl ⟨rfl, m, rfl, hM⟩
    · cases e
  | cons q2 rest ih =>
    intro q b m h9 hM hA
    iterate 2 (refine G.st rfl rfl ?_)
    refine G.call rfl rfl (Nat.le_of_ble_eq_true rfl) (Sp.up (s7_nextL X hS hM hl hA) (Nat.le_of_ble_eq_true rfl)) ?_
    rintro v h' (⟨e, -⟩ | ⟨q', r, e, rfl, m', rfl, hM', -, hA'⟩)
    · cases e
    · cases e
      have v9 := wq_9 (zW s) (zL s l) q2
      refine G.brf rfl (by decide) ?_
      iterate 2 (refine G.st rfl rfl ?_)
      refine G.call rfl rfl (Nat.le_of_ble_eq_true rfl) (Sp.up (s7_wq X hS hM' hl hA') (Nat.le_of_ble_eq_true rfl)) ?_
      rintro _ _ ⟨rfl, rfl⟩
      iterate 4 (refine G.st rfl rfl ?_)
      rw [List.map_cons, List.foldl_cons, show mnS (some b) (wq (zW s) (zL s l) q2) = some (if wq (zW s) (zL s l) q2 < b then wq (zW s) (zL s l) q2 else b) from rfl]
      by_cases hc : wq (zW s) (zL s l) q2 < b
      · rw [if_pos hc]
        refine G.brf rfl (by unfold W9 at v9 h9; grind) ?_
        iterate 1 (refine G.st rfl rfl ?_)
        refine G.call rfl rfl (Nat.le_of_ble_eq_true rfl) (Sp.up (s7_wq X hS hM' hl hA') (Nat.le_of_ble_eq_true rfl)) ?_
        rintro _ _ ⟨rfl, rfl⟩
        iterate 3 (refine G.st rfl rfl ?_)
        exact ih q2 _ m' v9 hM' hA'
      · rw [if_neg hc]
        refine G.brt rfl (by unfold W9 at v9 h9; grind) ?_
        iterate 3 (refine G.st rfl rfl ?_)
        exact ih q2 b m' h9 hM' hA'
theorem p7_least (X : aX) (line : Int32) (hS : SOk s) (hM : MR n m s) : Sp X 10 kX7_least [.ref 81, .int line] (HR c m) (MP c n (S_least s line)) := by
  unfold Sp S_least
  show G X 10 kX7_least 0 [.ref 81, .int line] [] _ _
  iterate 1 (refine G.st rfl rfl ?_)
  refine G.call rfl rfl (Nat.le_of_ble_eq_true rfl) (Sp.up (s7_isLine X line _) (Nat.le_of_ble_eq_true rfl)) ?_
  rintro _ _ ⟨rfl, rfl⟩
  by_cases hl : 0 ≤ line ∧ line ≤ 3
  case neg =>
    rw [if_neg hl]
    refine G.brt rfl (bI_0.mpr hl) ?_
    iterate 2 (refine G.st rfl rfl ?_)
    refine G.call rfl rfl (Nat.le_of_ble_eq_true rfl) (Sp.up (c7_f0 X hM) (Nat.le_of_ble_eq_true rfl)) ?_
    rintro _ _ ⟨rfl, hci⟩
    exact G.ret rfl rfl ⟨rfl, hci⟩
  rw [if_pos hl]
  refine G.brf rfl (bI_n hl) ?_
  obtain ⟨l, hl4, rfl⟩ := lok_n hl
  rw [ln_nI (by omega)]
  have key : Sp X 4 kX7_furthest [.ref 81, .int (nI l), .int (-1)] (HR c m) (MP c n ((mnL ((ordL (zW s) (zL s l)).map (·.1))).getD 0, s)) := by
    unfold Sp
    iterate 2 (refine G.st rfl rfl ?_)
    refine G.call rfl rfl (Nat.le_of_ble_eq_true rfl) (Sp.up (s7_beginL X hS hM hl4) (Nat.le_of_ble_eq_true rfl)) ?_
    rintro _ _ ⟨rfl, m', q, rest, rfl, hM', -, hp, hA⟩
    iterate 1 (refine G.st rfl rfl ?_)
    refine G.call rfl rfl (Nat.le_of_ble_eq_true rfl) (Sp.up (s7_wq X hS hM' hl4 hA) (Nat.le_of_ble_eq_true rfl)) ?_
    rintro _ _ ⟨rfl, rfl⟩
    iterate 1 (refine G.st rfl rfl ?_)
    have := l7_least X (c := c) hS hl4 rest q (wq (zW s) (zL s l) q) m' (wq_9 _ _ _) hM' hA
    rw [show (ordL (zW s) (zL s l)).map (·.1) = (q :: rest).map (wq (zW s) (zL s l)) by rw [ordL_prm (hS.gk hl4), List.map_map, ← hp]; rfl]
    exact this
  iterate 3 (refine G.st rfl rfl ?_)
  refine G.call rfl rfl (Nat.le_of_ble_eq_true rfl) (Sp.up (key) (Nat.le_of_ble_eq_true rfl)) ?_
  rintro _ _ ⟨rfl, hci⟩
  iterate 1 (refine G.st rfl rfl ?_)
  exact G.ret rfl rfl ⟨rfl, hci⟩
end RORD
