/-! ===== a row of garments: the object at r, its arrays at r + 1, r + 2, r + 3 ===== -/
abbrev Gar : Type := Int32 × Int32 × Int32
abbrev sR : Type := (Nat → Int32) × (Nat → Int32) × (Nat → Int32) × Nat
abbrev iA (n : Nat) (f : Nat → Int32) : aC := .inr (.inl (n, f))
abbrev lA (n : Nat) (f : Nat → Int64) : aC := .inr (.inr (.inl (n, f)))
abbrev rObj (r n : Nat) : aC := .inl (1, [.ref (r + 1), .ref (r + 2), .ref (r + 3), .int (nI n)])
def RowAt (h : aH) (r : Nat) (q : sR) : Prop := h[r]? = some (rObj r q.2.2.2) ∧ h[r + 1]? = some (iA 7 q.1) ∧ h[r + 2]? = some (iA 7 q.2.1) ∧ h[r + 3]? = some (iA 7 q.2.2.1)
def rset (h : aH) (r : Nat) (q : sR) : aH := (((h.set r (rObj r q.2.2.2)).set (r + 1) (iA 7 q.1)).set (r + 2) (iA 7 q.2.1)).set (r + 3) (iA 7 q.2.2.1)
theorem set_same {α : Type} {l : List α} {i : Nat} {a : α} (h : l[i]? = some a) : l.set i a = l := by
  apply List.ext_getElem?
  intro j
  by_cases e : j = i
  · subst e
    rw [List.getElem?_set_self (List.getElem?_eq_some_iff.mp h).1, h]
  · rw [List.getElem?_set_ne (Ne.symm e)]
theorem RowAt.set {h : aH} {r : Nat} {q : sR} (hr : RowAt h r q) (q' : sR) : RowAt (rset h r q') r q' := by
  obtain ⟨h0, h1, h2, h3⟩ := hr
  have l0 := (List.getElem?_eq_some_iff.mp h0).1
  have l1 := (List.getElem?_eq_some_iff.mp h1).1
  have l2 := (List.getElem?_eq_some_iff.mp h2).1
  have l3 := (List.getElem?_eq_some_iff.mp h3).1
  unfold RowAt rset
  refine ⟨?_, ?_, ?_, ?_⟩ <;> simp only [List.getElem?_set] <;> grind
theorem rset_at {h : aH} {r x : Nat} {q : sR} (hx : x < r ∨ r + 4 ≤ x) : (rset h r q)[x]? = h[x]? := by
  unfold rset
  rw [List.getElem?_set_ne (by omega), List.getElem?_set_ne (by omega), List.getElem?_set_ne (by omega), List.getElem?_set_ne (by omega)]
theorem RowAt.ne {h : aH} {r r2 : Nat} {q q2 : sR} (hr : RowAt h r q) (hx : r + 4 ≤ r2 ∨ r2 + 4 ≤ r) : RowAt (rset h r2 q2) r q := by
  obtain ⟨h0, h1, h2, h3⟩ := hr
  exact ⟨by rw [rset_at (by omega)]; exact h0, by rw [rset_at (by omega)]; exact h1, by rw [rset_at (by omega)]; exact h2, by rw [rset_at (by omega)]; exact h3⟩
theorem rset_rset {h : aH} {r : Nat} {q q' : sR} : rset (rset h r q) r q' = rset h r q' := by
  apply List.ext_getElem?
  intro i
  unfold rset
  simp only [List.getElem?_set, List.length_set]
  grind
theorem rset_self {h : aH} {r : Nat} {q : sR} (hr : RowAt h r q) : rset h r q = h := by
  obtain ⟨h0, h1, h2, h3⟩ := hr
  unfold rset
  rw [set_same h0, set_same h1, set_same h2, set_same h3]
def rput (q : sR) (j : Nat) (g : Gar) : sR := (upd q.1 j g.1, upd q.2.1 j g.2.1, upd q.2.2.1 j g.2.2, q.2.2.2)
theorem rset3 {h : aH} {r : Nat} {q : sR} (hr : RowAt h r q) (a b c : Nat → Int32) : ((h.set (r + 1) (iA 7 a)).set (r + 2) (iA 7 b)).set (r + 3) (iA 7 c) = rset h r (a, b, c, q.2.2.2) := by
  unfold rset
  rw [set_same hr.1]
/-- the garments of a row -/
def Rep (q : sR) (g : List Gar) : Prop := q.2.2.2 = g.length ∧ g.length ≤ 7 ∧ ∀ i (hi : i < g.length), (q.1 i, q.2.1 i, q.2.2.1 i) = g[i]
theorem Rep.at {q : sR} {g : List Gar} (h : Rep q g) {i : Nat} (hi : i < g.length) : q.1 i = g[i].1 ∧ q.2.1 i = g[i].2.1 ∧ q.2.2.1 i = g[i].2.2 := by
  have := h.2.2 i hi
  rw [← this]
  exact ⟨rfl, rfl, rfl⟩
theorem upd_s {f : Nat → Int32} {k : Nat} {x : Int32} : upd f k x k = x := pk_us
theorem upd_n {f : Nat → Int32} {k j : Nat} {x : Int32} (h : j ≠ k) : upd f k x j = f j := pk_un h
theorem upd_id {f : Nat → Int32} {k : Nat} : upd f k (f k) = f := by
  funext j
  by_cases h : j = k
  · rw [h, upd_s]
  · rw [upd_n h]
theorem upd_if {f : Nat → Int32} {k j : Nat} {x : Int32} : upd f k x j = if j = k then x else f j := by
  by_cases h : j = k
  · rw [if_pos h, h, upd_s]
  · rw [if_neg h, upd_n h]
theorem s1_put (X : aX) {r j : Nat} {q : sR} {k s w : Int32} {h : aH} (hr : RowAt h r q) (hj : j < 7) : Sp X 0 kX1_put [.ref r, .int (nI j), .int k, .int s, .int w] h (An none (rset h r (rput q j (k, s, w)))) := by
  unfold Sp
  have hx := ix_nI hj (by omega)
  iterate 1 (refine G.st rfl rfl ?_)
  refine G.get rfl hr.1 rfl ?_
  iterate 2 (refine G.st rfl rfl ?_)
  refine G.iast rfl hr.2.1 hx ?_
  iterate 1 (refine G.st rfl rfl ?_)
  refine G.get rfl (by rw [List.getElem?_set_ne (by omega)]; exact hr.1) rfl ?_
  iterate 2 (refine G.st rfl rfl ?_)
  refine G.iast rfl (by rw [List.getElem?_set_ne (by omega)]; exact hr.2.2.1) hx ?_
  iterate 1 (refine G.st rfl rfl ?_)
  refine G.get rfl (by rw [List.getElem?_set_ne (by omega), List.getElem?_set_ne (by omega)]; exact hr.1) rfl ?_
  iterate 2 (refine G.st rfl rfl ?_)
  refine G.iast rfl (by rw [List.getElem?_set_ne (by omega), List.getElem?_set_ne (by omega)]; exact hr.2.2.2) hx ?_
  refine G.ret rfl rfl ⟨rfl, ?_⟩
  rw [rset3 hr]
  rfl
theorem s1_clear (X : aX) {r : Nat} {q : sR} {h : aH} (hr : RowAt h r q) : Sp X 0 kX1_clear [.ref r] h (An none (rset h r (q.1, q.2.1, q.2.2.1, 0))) := by
  unfold Sp
  iterate 2 (refine G.st rfl rfl ?_)
  refine G.put rfl hr.1 (Nat.le_of_ble_eq_true rfl) rfl ?_
  refine G.ret rfl rfl ⟨rfl, ?_⟩
  unfold rset
  rw [set_same (l := h.set r _) (i := r + 1) (by rw [List.getElem?_set_ne (by omega)]; exact hr.2.1), set_same (i := r + 2) (by rw [List.getElem?_set_ne (by omega)]; exact hr.2.2.1), set_same (i := r + 3) (by rw [List.getElem?_set_ne (by omega)]; exact hr.2.2.2)]
  rfl
theorem Rep.clear {q : sR} : Rep (q.1, q.2.1, q.2.2.1, 0) [] := ⟨rfl, by simp, fun i hi => by simp at hi⟩
theorem Rep.put {q : sR} {g : List Gar} {x : Gar} (h : Rep q g) (hl : g.length < 7) : Rep ((rput q g.length x).1, (rput q g.length x).2.1, (rput q g.length x).2.2.1, g.length + 1) (g ++ [x]) := by
  refine ⟨by simp, by simp; omega, fun i hi => ?_⟩
  simp only [rput, upd_if]
  by_cases e : i = g.length
  · subst e
    simp
  · have hi2 : i < g.length := by simp at hi; omega
    have := h.2.2 i hi2
    simp only [e, if_false]
    rw [List.getElem_append_left hi2]
    exact this
theorem s1_add (X : aX) {r : Nat} {q : sR} {g : List Gar} {k s w : Int32} {h : aH} (hr : RowAt h r q) (hg : Rep q g) (hl : g.length < 7) : Sp X 1 kX1_add [.ref r, .int k, .int s, .int w] h (fun v h' => v = none ∧ ∃ q', h' = rset h r q' ∧ Rep q' (g ++ [(k, s, w)])) := by
  obtain ⟨ks, ss, wt, n⟩ := q
  obtain ⟨e, hg1, hg2⟩ := id hg
  simp only at e
  subst e
  unfold Sp
  iterate 1 (refine G.st rfl rfl ?_)
  refine G.get rfl hr.1 rfl ?_
  iterate 1 (refine G.st rfl rfl ?_)
  refine G.br rfl (fun hc => ?_) (fun hc => ?_)
  · have : nI 7 ≤ nI g.length := hc
    rw [nI_leI (by omega) (by omega)] at this
    omega
  iterate 2 (refine G.st rfl rfl ?_)
  refine G.get rfl hr.1 rfl ?_
  iterate 3 (refine G.st rfl rfl ?_)
  refine G.callv rfl rfl rfl (hr.1) (Nat.le_of_ble_eq_true rfl) rfl (Nat.le_of_ble_eq_true rfl) (Sp.up (s1_put X hr hl) (Nat.le_of_ble_eq_true rfl)) ?_
  rintro _ _ ⟨rfl, rfl⟩
  have hr2 := hr.set (rput (ks, ss, wt, g.length) g.length (k, s, w))
  iterate 2 (refine G.st rfl rfl ?_)
  refine G.get rfl hr2.1 rfl ?_
  iterate 2 (refine G.st rfl rfl ?_)
  refine G.put rfl hr2.1 (Nat.le_of_ble_eq_true rfl) rfl ?_
  refine G.ret rfl rfl ⟨rfl, (upd ks g.length k, upd ss g.length s, upd wt g.length w, g.length + 1), ?_, hg.put hl (x := (k, s, w))⟩
  rw [nI_1]
  apply List.ext_getElem?
  intro i
  unfold rset rput
  simp only [List.getElem?_set, List.length_set, List.set]
  grind
theorem s1_isSeenAt (X : aX) {r j : Nat} {q : sR} {w : Int32} {h : aH} (hr : RowAt h r q) (hj : j < 7) (hk : K6 (q.1 j)) : Sp X 1 kX1_isSeenAt [.ref r, .int (nI j), .int w] h (An (some (.int (bI (seenB w (q.1 j) (q.2.1 j) (q.2.2.1 j) = true)))) h) := by
  unfold Sp
  have hx := ix_nI hj (by omega)
  iterate 1 (refine G.st rfl rfl ?_)
  refine G.get rfl hr.1 rfl ?_
  iterate 1 (refine G.st rfl rfl ?_)
  refine G.iald rfl hr.2.1 hx ?_
  iterate 1 (refine G.st rfl rfl ?_)
  refine G.get rfl hr.1 rfl ?_
  iterate 1 (refine G.st rfl rfl ?_)
  refine G.iald rfl hr.2.2.1 hx ?_
  iterate 1 (refine G.st rfl rfl ?_)
  refine G.get rfl hr.1 rfl ?_
  iterate 1 (refine G.st rfl rfl ?_)
  refine G.iald rfl hr.2.2.2 hx ?_
  iterate 1 (refine G.st rfl rfl ?_)
  refine G.call rfl rfl (Nat.le_of_ble_eq_true rfl) (Sp.up (s6_isSeen X _ _ _ _ hk _) (Nat.le_of_ble_eq_true rfl)) ?_
  rintro _ _ ⟨rfl, rfl⟩
  exact G.ret rfl bI_ok ⟨rfl, rfl⟩
theorem rput_at {q : sR} {j i : Nat} {g : Gar} : ((rput q j g).1 i, (rput q j g).2.1 i, (rput q j g).2.2.1 i) = if i = j then g else (q.1 i, q.2.1 i, q.2.2.1 i) := by
  simp only [rput, upd_if]
  split <;> rfl
/-- remove's loop: from i on, those behind j have come one place ahead up to i -/
theorem l1_remove (X : aX) {r j n : Nat} {h : aH} {Q : Option Value → aH → Prop} (hn : n ≤ 7) (f : Nat → Gar) (hq : ∀ q' : sR, RowAt (rset h r q') r q' → (∀ i, i < n - 1 → (q'.1 i, q'.2.1 i, q'.2.2.1 i) = if i < j then f i else f (i + 1)) → q'.2.2.2 = n - 1 → Q none (rset h r q')) : ∀ (m i : Nat) (q : sR), i + m = n → j < i → i ≤ n → RowAt (rset h r q) r q → q.2.2.2 = n → (∀ k, k < n → (q.1 k, q.2.1 k, q.2.2.1 k) = if k < j then f k else if k + 1 < i then f (k + 1) else f k) → G X 2 kX1_remove 4 [.ref r, .int (nI j), .int (nI i)] [] (rset h r q) Q
  | 0, i, q, hi, hji, hin, hr, hqn, hf => by
    iterate 2 (refine G.st rfl rfl ?_)
    refine G.get rfl hr.1 rfl ?_
    refine G.brt rfl (by rw [hqn, nI_leI (by omega) (by omega)]; omega) ?_
    iterate 2 (refine G.st rfl rfl ?_)
    refine G.get rfl hr.1 rfl ?_
    iterate 2 (refine G.st rfl rfl ?_)
    refine G.put rfl hr.1 (Nat.le_of_ble_eq_true rfl) rfl ?_
    refine G.ret rfl rfl ?_
    have e1 : (rset h r q).set r (.inl (1, List.set [.ref (r + 1), .ref (r + 2), .ref (r + 3), .int (nI q.2.2.2)] 3 (.int (nI q.2.2.2 - 1)))) = rset h r (q.1, q.2.1, q.2.2.1, n - 1) := by
      rw [hqn, nI_p (by omega)]
      apply List.ext_getElem?
      intro x
      unfold rset
      simp only [List.getElem?_set, List.length_set, List.set]
      grind
    rw [e1]
    refine hq _ ?_ (fun k hk => ?_) rfl
    · have := hr.set (q.1, q.2.1, q.2.2.1, n - 1)
      rwa [rset_rset] at this
    · have := hf k (by omega)
      rw [show ((q.1, q.2.1, q.2.2.1, n - 1) : sR).1 = q.1 from rfl, show ((q.1, q.2.1, q.2.2.1, n - 1) : sR).2.1 = q.2.1 from rfl, show ((q.1, q.2.1, q.2.2.1, n - 1) : sR).2.2.1 = q.2.2.1 from rfl, this]
      split
      · rfl
      · rw [if_pos (by omega)]
  | m + 1, i, q, hi, hji, hin, hr, hqn, hf => by
    have hx := ix_nI (show i < 7 by omega) (by omega)
    iterate 2 (refine G.st rfl rfl ?_)
    refine G.get rfl hr.1 rfl ?_
    refine G.brf rfl (by rw [hqn, nI_leI (by omega) (by omega)]; omega) ?_
    iterate 5 (refine G.st rfl rfl ?_)
    refine G.get rfl hr.1 rfl ?_
    iterate 1 (refine G.st rfl rfl ?_)
    refine G.iald rfl hr.2.1 hx ?_
    iterate 1 (refine G.st rfl rfl ?_)
    refine G.get rfl hr.1 rfl ?_
    iterate 1 (refine G.st rfl rfl ?_)
    refine G.iald rfl hr.2.2.1 hx ?_
    iterate 1 (refine G.st rfl rfl ?_)
    refine G.get rfl hr.1 rfl ?_
    iterate 1 (refine G.st rfl rfl ?_)
    refine G.iald rfl hr.2.2.2 hx ?_
    rw [nI_p (by omega)]
    refine G.callv rfl rfl rfl (hr.1) (Nat.le_of_ble_eq_true rfl) rfl (Nat.le_of_ble_eq_true rfl) (Sp.up (s1_put X hr (show i - 1 < 7 by omega)) (Nat.le_of_ble_eq_true rfl)) ?_
    rintro _ _ ⟨rfl, rfl⟩
    iterate 1 (refine G.st rfl rfl ?_)
    rw [nI_1, rset_rset]
    iterate 1 (refine G.st rfl rfl ?_)
    refine l1_remove X hn f hq m (i + 1) (rput q (i - 1) (q.1 i, q.2.1 i, q.2.2.1 i)) (by omega) (by omega) (by omega) ?_ hqn ?_
    · have := hr.set (rput q (i - 1) (q.1 i, q.2.1 i, q.2.2.1 i))
      rwa [rset_rset] at this
    · intro k hk
      rw [rput_at]
      have h1 := hf k hk
      have h2 := hf i (by omega)
      rw [if_neg (by omega), if_neg (by omega)] at h2
      by_cases e : k = i - 1
      · rw [if_pos e, h2, if_neg (by omega), if_pos (by omega)]
        congr 1
        omega
      · rw [if_neg e, h1]
        split
        · rfl
        · split
          · rw [if_pos (by omega)]
          · rw [if_neg (by omega)]
theorem s1_remove (X : aX) {r j : Nat} {q : sR} {g : List Gar} {h : aH} (hr : RowAt h r q) (hg : Rep q g) (hj : j < g.length) : Sp X 2 kX1_remove [.ref r, .int (nI j)] h (fun v h' => v = none ∧ ∃ q', h' = rset h r q' ∧ Rep q' (g.eraseIdx j)) := by
  unfold Sp
  iterate 3 (refine G.st rfl rfl ?_)
  rw [nI_1]
  iterate 1 (refine G.st rfl rfl ?_)
  have hh : rset h r q = h := rset_self hr
  obtain ⟨h1, h2, h3⟩ := id hg
  have := l1_remove X (r := r) (j := j) (n := g.length) (h := h) (Q := fun v h' => v = none ∧ ∃ q', h' = rset h r q' ∧ Rep q' (g.eraseIdx j)) h2 (fun i => (q.1 i, q.2.1 i, q.2.2.1 i)) ?_ (g.length - (j + 1)) (j + 1) q (by omega) (by omega) (by omega) (by rw [hh]; exact hr) h1 ?_
  · rw [hh] at this
    exact this
  · intro q' hr' hf hn
    refine ⟨rfl, q', rfl, by rw [hn, List.length_eraseIdx_of_lt hj], by rw [List.length_eraseIdx_of_lt hj]; omega, fun i hi => ?_⟩
    rw [List.length_eraseIdx_of_lt hj] at hi
    rw [hf i hi, List.getElem_eraseIdx]
    split
    · rename_i hlt
      exact h3 i (by omega)
    · rename_i hlt
      exact h3 (i + 1) (by omega)
  · intro k hk
    split
    · rfl
    · rw [if_neg (by omega)]
theorem s1_exchange (X : aX) {r a b : Nat} {q : sR} {g : List Gar} {h : aH} (hr : RowAt h r q) (hg : Rep q g) (ha : a < g.length) (hb : b < g.length) : Sp X 1 kX1_exchange [.ref r, .int (nI a), .int (nI b)] h (fun v h' => v = none ∧ ∃ q', h' = rset h r q' ∧ Rep q' ((g.set a g[b]).set b g[a])) := by
  unfold Sp
  obtain ⟨h1, h2, h3⟩ := id hg
  have hx := ix_nI (show a < 7 by omega) (by omega)
  have hy := ix_nI (show b < 7 by omega) (by omega)
  iterate 1 (refine G.st rfl rfl ?_)
  refine G.get rfl hr.1 rfl ?_
  iterate 1 (refine G.st rfl rfl ?_)
  refine G.iald rfl hr.2.1 hx ?_
  iterate 2 (refine G.st rfl rfl ?_)
  refine G.get rfl hr.1 rfl ?_
  iterate 1 (refine G.st rfl rfl ?_)
  refine G.iald rfl hr.2.2.1 hx ?_
  iterate 2 (refine G.st rfl rfl ?_)
  refine G.get rfl hr.1 rfl ?_
  iterate 1 (refine G.st rfl rfl ?_)
  refine G.iald rfl hr.2.2.2 hx ?_
  iterate 4 (refine G.st rfl rfl ?_)
  refine G.get rfl hr.1 rfl ?_
  iterate 1 (refine G.st rfl rfl ?_)
  refine G.iald rfl hr.2.1 hy ?_
  iterate 1 (refine G.st rfl rfl ?_)
  refine G.get rfl hr.1 rfl ?_
  iterate 1 (refine G.st rfl rfl ?_)
  refine G.iald rfl hr.2.2.1 hy ?_
  iterate 1 (refine G.st rfl rfl ?_)
  refine G.get rfl hr.1 rfl ?_
  iterate 1 (refine G.st rfl rfl ?_)
  refine G.iald rfl hr.2.2.2 hy ?_
  refine G.callv rfl rfl rfl (hr.1) (Nat.le_of_ble_eq_true rfl) rfl (Nat.le_of_ble_eq_true rfl) (Sp.up (s1_put X hr (show a < 7 by omega)) (Nat.le_of_ble_eq_true rfl)) ?_
  rintro _ _ ⟨rfl, rfl⟩
  have hr2 := hr.set (rput q a (q.1 b, q.2.1 b, q.2.2.1 b))
  iterate 5 (refine G.st rfl rfl ?_)
  refine G.callv rfl rfl rfl (hr2.1) (Nat.le_of_ble_eq_true rfl) rfl (Nat.le_of_ble_eq_true rfl) (Sp.up (s1_put X hr2 (show b < 7 by omega)) (Nat.le_of_ble_eq_true rfl)) ?_
  rintro _ _ ⟨rfl, rfl⟩
  refine G.ret rfl rfl ⟨rfl, rput (rput q a (q.1 b, q.2.1 b, q.2.2.1 b)) b (q.1 a, q.2.1 a, q.2.2.1 a), rset_rset, ?_⟩
  refine ⟨by rw [List.length_set, List.length_set]; exact h1, by rw [List.length_set, List.length_set]; exact h2, fun i hi => ?_⟩
  rw [rput_at, rput_at]
  simp only [List.getElem_set, List.length_set] at hi ⊢
  have e1 := h3 a ha
  have e2 := h3 b hb
  by_cases hib : i = b
  · rw [if_pos hib, if_pos hib.symm, e1]
  · rw [if_neg hib, if_neg (Ne.symm hib)]
    by_cases hia : i = a
    · rw [if_pos hia, if_pos hia.symm, e2]
    · rw [if_neg hia, if_neg (Ne.symm hia)]
      exact h3 i hi
/-- become's loop -/
theorem l1_become (X : aX) {r r2 : Nat} {g : List Gar} {h : aH} {Q : Option Value → aH → Prop} (hq : ∀ q' : sR, Rep q' g → Q none (rset h r q')) (hg7 : g.length ≤ 7) : ∀ (m i : Nat) (q q2 : sR), i + m = g.length → RowAt (rset h r q) r q → RowAt (rset h r q) r2 q2 → Rep q2 g → ((r2 = r ∧ q2 = q) ∨ r + 4 ≤ r2 ∨ r2 + 4 ≤ r) → (∀ k (hk : k < g.length), k < i → (q.1 k, q.2.1 k, q.2.2.1 k) = g[k]) → G X 2 kX1_become 2 [.ref r, .ref r2, .int (nI i)] [] (rset h r q) Q
  | 0, i, q, q2, hi, hr, hr2, hg, hne, hf => by
    have hg1 := hg.1
    iterate 2 (refine G.st rfl rfl ?_)
    refine G.get rfl hr2.1 rfl ?_
    refine G.brt rfl (by rw [hg1, nI_leI (by omega) (by omega)]; omega) ?_
    iterate 2 (refine G.st rfl rfl ?_)
    refine G.get rfl hr2.1 rfl ?_
    refine G.put rfl hr.1 (Nat.le_of_ble_eq_true rfl) rfl ?_
    refine G.ret rfl rfl ?_
    have e1 : (rset h r q).set r (.inl (1, List.set [.ref (r + 1), .ref (r + 2), .ref (r + 3), .int (nI q.2.2.2)] 3 (.int (nI q2.2.2.2)))) = rset h r (q.1, q.2.1, q.2.2.1, g.length) := by
      rw [hg1]
      apply List.ext_getElem?
      intro x
      unfold rset
      simp only [List.getElem?_set, List.length_set, List.set]
      grind
    rw [e1]
    exact hq _ ⟨rfl, hg7, fun k hk => hf k hk (by omega)⟩
  | m + 1, i, q, q2, hi, hr, hr2, hg, hne, hf => by
    have hg1 := hg.1
    have hx := ix_nI (show i < 7 by omega) (by omega)
    iterate 2 (refine G.st rfl rfl ?_)
    refine G.get rfl hr2.1 rfl ?_
    refine G.brf rfl (by rw [hg1, nI_leI (by omega) (by omega)]; omega) ?_
    iterate 3 (refine G.st rfl rfl ?_)
    refine G.get rfl hr2.1 rfl ?_
    iterate 1 (refine G.st rfl rfl ?_)
    refine G.iald rfl hr2.2.1 hx ?_
    iterate 1 (refine G.st rfl rfl ?_)
    refine G.get rfl hr2.1 rfl ?_
    iterate 1 (refine G.st rfl rfl ?_)
    refine G.iald rfl hr2.2.2.1 hx ?_
    iterate 1 (refine G.st rfl rfl ?_)
    refine G.get rfl hr2.1 rfl ?_
    iterate 1 (refine G.st rfl rfl ?_)
    refine G.iald rfl hr2.2.2.2 hx ?_
    refine G.callv rfl rfl rfl (hr.1) (Nat.le_of_ble_eq_true rfl) rfl (Nat.le_of_ble_eq_true rfl) (Sp.up (s1_put X hr (show i < 7 by omega)) (Nat.le_of_ble_eq_true rfl)) ?_
    rintro _ _ ⟨rfl, rfl⟩
    iterate 1 (refine G.st rfl rfl ?_)
    rw [nI_1, rset_rset]
    iterate 1 (refine G.st rfl rfl ?_)
    have hset := hr.set (rput q i (q2.1 i, q2.2.1 i, q2.2.2.1 i))
    rw [rset_rset] at hset
    have hgi := hg.2.2 i (by omega)
    have hfn : ∀ k (hk : k < g.length), k < i + 1 → ((rput q i (q2.1 i, q2.2.1 i, q2.2.2.1 i)).1 k, (rput q i (q2.1 i, q2.2.1 i, q2.2.2.1 i)).2.1 k, (rput q i (q2.1 i, q2.2.1 i, q2.2.2.1 i)).2.2.1 k) = g[k] := by
      intro k hk hki
      rw [rput_at]
      by_cases e : k = i
      · subst e
        rw [if_pos rfl]
        exact hgi
      · rw [if_neg e]
        exact hf k hk (by omega)
    rcases hne with ⟨rfl, hqq⟩ | hne
    · subst hqq
      have hid : rput q2 i (q2.1 i, q2.2.1 i, q2.2.2.1 i) = q2 := by
        unfold rput
        simp only [upd_id]
      rw [hid] at hset hfn ⊢
      exact l1_become X hq hg7 m (i + 1) q2 q2 (by omega) hset hset hg (Or.inl ⟨rfl, rfl⟩) hfn
    · refine l1_become X hq hg7 m (i + 1) _ q2 (by omega) hset ?_ hg (Or.inr hne) hfn
      have := hr2.ne (r2 := r) (q2 := rput q i (q2.1 i, q2.2.1 i, q2.2.2.1 i)) (by omega)
      rwa [rset_rset] at this
theorem s1_become (X : aX) {r r2 : Nat} {q q2 : sR} {g : List Gar} {h : aH} (hr : RowAt h r q) (hr2 : RowAt h r2 q2) (hg : Rep q2 g) (hne : (r2 = r ∧ q2 = q) ∨ r + 4 ≤ r2 ∨ r2 + 4 ≤ r) : Sp X 2 kX1_become [.ref r, .ref r2] h (fun v h' => v = none ∧ ∃ q', h' = rset h r q' ∧ Rep q' g) := by
  unfold Sp
  iterate 2 (refine G.st rfl rfl ?_)
  have hh : rset h r q = h := rset_self hr
  have := l1_become X (r := r) (r2 := r2) (g := g) (h := h) (Q := fun v h' => v = none ∧ ∃ q', h' = rset h r q' ∧ Rep q' g) (fun q' hq' => ⟨rfl, q', rfl, hq'⟩) hg.2.1 g.length 0 q q2 (by omega) (by rw [hh]; exact hr) (by rw [hh]; exact hr2) hg hne (fun k hk h0 => absurd h0 (by omega))
  rw [hh] at this
  exact this
/-- how many are alike, of the first n -/
def likeN (a b : Nat → Gar) : Nat → Nat
  | 0 => 0
  | n + 1 => likeN a b n + (if (a n).1 = (b n).1 ∧ (a n).2.1 = (b n).2.1 then 1 else 0)
theorem likeN_le (a b : Nat → Gar) : ∀ n, likeN a b n ≤ n
  | 0 => Nat.le_refl 0
  | n + 1 => by
    have := likeN_le a b n
    unfold likeN
    split <;> omega
def gD (g : List Gar) (i : Nat) : Gar := g.getD i (0, 0, 0)
theorem gD_at {g : List Gar} {i : Nat} (hi : i < g.length) : gD g i = g[i] := by
  unfold gD
  rw [List.getD_eq_getElem?_getD, List.getElem?_eq_getElem hi]
  rfl
theorem Rep.gD {q : sR} {g : List Gar} (h : Rep q g) {i : Nat} (hi : i < g.length) : q.1 i = (gD g i).1 ∧ q.2.1 i = (gD g i).2.1 ∧ q.2.2.1 i = (gD g i).2.2 := by
  rw [gD_at hi]
  exact h.at hi
theorem l1_pegsLike (X : aX) {r r2 e : Nat} {q q2 : sR} {g g2 : List Gar} {h : aH} (hr : RowAt h r q) (hr2 : RowAt h r2 q2) (hg : Rep q g) (hg2 : Rep q2 g2) (he : e ≤ g.length) (he2 : e ≤ g2.length) : ∀ (m i : Nat), i + m = e → G X 0 kX1_pegsLike 17 [.ref r, .ref r2, .int (nI (likeN (gD g) (gD g2) i)), .int (nI e), .int (nI i)] [] h (An (some (.int (nI (likeN (gD g) (gD g2) e)))) h)
  | 0, i, hi => by
    have := hg.2.1
    iterate 2 (refine G.st rfl rfl ?_)
    refine G.brt rfl (by rw [nI_leI (by omega) (by omega)]; omega) ?_
    iterate 1 (refine G.st rfl rfl ?_)
    refine G.ret rfl rfl ⟨?_, rfl⟩
    rw [show i = e by omega]
  | m + 1, i, hi => by
    have h7 := hg.2.1
    have hx := ix_nI (show i < 7 by omega) (by omega)
    obtain ⟨a1, a2, a3⟩ := hg.gD (show i < g.length by omega)
    obtain ⟨b1, b2, b3⟩ := hg2.gD (show i < g2.length by omega)
    iterate 2 (refine G.st rfl rfl ?_)
    refine G.brf rfl (by rw [nI_leI (by omega) (by omega)]; omega) ?_
    iterate 1 (refine G.st rfl rfl ?_)
    refine G.get rfl hr.1 rfl ?_
    iterate 1 (refine G.st rfl rfl ?_)
    refine G.iald rfl hr.2.1 hx ?_
    iterate 1 (refine G.st rfl rfl ?_)
    refine G.get rfl hr2.1 rfl ?_
    iterate 1 (refine G.st rfl rfl ?_)
    refine G.iald rfl hr2.2.1 hx ?_
    rw [a1, b1]
    have rest : ∀ c, c = likeN (gD g) (gD g2) (i + 1) → G X 0 kX1_pegsLike 60 [.ref r, .ref r2, .int (nI c), .int (nI e), .int (nI i)] [] h (An (some (.int (nI (likeN (gD g) (gD g2) e)))) h) := by
      intro c hc
      iterate 1 (refine G.st rfl rfl ?_)
      rw [nI_1, hc]
      iterate 1 (refine G.st rfl rfl ?_)
      exact l1_pegsLike X hr hr2 hg hg2 he he2 m (i + 1) (by omega)
    refine G.br rfl (fun hc => ?_) (fun hc => ?_)
    · iterate 1 (refine G.st rfl rfl ?_)
      refine G.get rfl hr.1 rfl ?_
      iterate 1 (refine G.st rfl rfl ?_)
      refine G.iald rfl hr.2.2.1 hx ?_
      iterate 1 (refine G.st rfl rfl ?_)
      refine G.get rfl hr2.1 rfl ?_
      iterate 1 (refine G.st rfl rfl ?_)
      refine G.iald rfl hr2.2.2.1 hx ?_
      rw [a2, b2]
      refine G.br rfl (fun hc2 => ?_) (fun hc2 => ?_)
      · iterate 1 (refine G.st rfl rfl ?_)
        rw [nI_1]
        refine rest _ ?_
        conv => rhs; unfold likeN
        rw [if_pos ⟨hc, hc2⟩]
      · refine rest _ ?_
        conv => rhs; unfold likeN
        rw [if_neg (fun q => hc2 q.2), Nat.add_zero]
    · refine rest _ ?_
      conv => rhs; unfold likeN
      rw [if_neg (fun q => hc q.1), Nat.add_zero]
theorem s1_pegsLike (X : aX) {r r2 : Nat} {q q2 : sR} {g g2 : List Gar} {h : aH} (hr : RowAt h r q) (hr2 : RowAt h r2 q2) (hg : Rep q g) (hg2 : Rep q2 g2) : Sp X 0 kX1_pegsLike [.ref r, .ref r2] h (An (some (.int (nI (likeN (gD g) (gD g2) (min g.length g2.length))))) h) := by
  unfold Sp
  have h7 := hg.2.1
  have h8 := hg2.2.1
  iterate 3 (refine G.st rfl rfl ?_)
  refine G.get rfl hr.1 rfl ?_
  iterate 1 (refine G.st rfl rfl ?_)
  refine G.get rfl hr2.1 rfl ?_
  rw [hg.1, hg2.1]
  iterate 1 (refine G.st rfl rfl ?_)
  have e1 : (if nI g2.length < nI g.length then nI g2.length else nI g.length) = nI (min g.length g2.length) := by
    by_cases hlt : g2.length < g.length
    · rw [if_pos ((nI_ltI (by omega) (by omega)).mpr hlt), Nat.min_eq_right (by omega)]
    · rw [if_neg (fun q => hlt ((nI_ltI (by omega) (by omega)).mp q)), Nat.min_eq_left (by omega)]
  rw [e1]
  iterate 3 (refine G.st rfl rfl ?_)
  exact l1_pegsLike X hr hr2 hg hg2 (Nat.min_le_left _ _) (Nat.min_le_right _ _) (min g.length g2.length) 0 (by omega)
/-- what a garment is after n days -/
def dryG (n : Int32) (g : Gar) : Gar := (g.1, g.2.1, if 0 < g.2.2 - n then g.2.2 - n else 0)
def dryN (n : Int32) (g : List Gar) : Nat → Nat
  | 0 => 0
  | i + 1 => dryN n g i + (if (dryG n (gD g i)).2.2 = 0 then 1 else 0)
theorem l1_dry (X : aX) {r : Nat} {n : Int32} {g : List Gar} {h : aH} (h7 : g.length ≤ 7) : ∀ (m i : Nat) (q : sR), i + m = g.length → RowAt (rset h r q) r q → q.2.2.2 = g.length → (∀ k, k < g.length → (q.1 k, q.2.1 k, q.2.2.1 k) = if k < i then dryG n (gD g k) else gD g k) → G X 0 kX1_dry 4 [.ref r, .int n, .int (nI (dryN n g i)), .int (nI i)] [] (rset h r q) (fun v h' => v = some (.int (nI (dryN n g g.length))) ∧ ∃ q', h' = rset h r q' ∧ Rep q' (g.map (dryG n)))
  | 0, i, q, hi, hr, hn, hf => by
    iterate 2 (refine G.st rfl rfl ?_)
    refine G.get rfl hr.1 rfl ?_
    refine G.brt rfl (by rw [hn, nI_leI (by omega) (by omega)]; omega) ?_
    iterate 1 (refine G.st rfl rfl ?_)
    refine G.ret rfl rfl ⟨by rw [show i = g.length by omega], q, rfl, by rw [hn, List.length_map], by rw [List.length_map]; exact h7, fun k hk => ?_⟩
    rw [List.length_map] at hk
    rw [hf k hk, if_pos (by omega), gD_at hk, List.getElem_map]
  | m + 1, i, q, hi, hr, hn, hf => by
    have hx := ix_nI (show i < 7 by omega) (by omega)
    iterate 2 (refine G.st rfl rfl ?_)
    refine G.get rfl hr.1 rfl ?_
    refine G.brf rfl (by rw [hn, nI_leI (by omega) (by omega)]; omega) ?_
    iterate 1 (refine G.st rfl rfl ?_)
    refine G.get rfl hr.1 rfl ?_
    iterate 3 (refine G.st rfl rfl ?_)
    refine G.get rfl hr.1 rfl ?_
    iterate 1 (refine G.st rfl rfl ?_)
    refine G.iald rfl hr.2.2.2 hx ?_
    have hfi := hf i (by omega)
    rw [if_neg (Nat.lt_irrefl i)] at hfi
    have hw : q.2.2.1 i = (gD g i).2.2 := by rw [← hfi]
    rw [hw]
    iterate 3 (refine G.st rfl rfl ?_)
    refine G.iast rfl hr.2.2.2 hx ?_
    have e1 : (rset h r q).set (r + 3) (iA 7 (upd q.2.2.1 i (if 0 < (gD g i).2.2 - n then (gD g i).2.2 - n else 0))) = rset h r (rput q i (dryG n (gD g i))) := by
      have hk : (dryG n (gD g i)).1 = q.1 i := by rw [show (dryG n (gD g i)).1 = (gD g i).1 from rfl, ← hfi]
      have hs : (dryG n (gD g i)).2.1 = q.2.1 i := by rw [show (dryG n (gD g i)).2.1 = (gD g i).2.1 from rfl, ← hfi]
      unfold rput
      rw [hk, hs, upd_id, upd_id]
      unfold rset
      rw [List.set_set]
      rfl
    rw [e1]
    have hset := hr.set (rput q i (dryG n (gD g i)))
    rw [rset_rset] at hset
    iterate 1 (refine G.st rfl rfl ?_)
    refine G.get rfl hset.1 rfl ?_
    iterate 1 (refine G.st rfl rfl ?_)
    refine G.iald rfl hset.2.2.2 hx ?_
    have ew : (rput q i (dryG n (gD g i))).2.2.1 i = (dryG n (gD g i)).2.2 := upd_s
    rw [ew]
    have rest : ∀ c, c = dryN n g (i + 1) → G X 0 kX1_dry 42 [.ref r, .int n, .int (nI c), .int (nI i)] [] (rset h r (rput q i (dryG n (gD g i)))) (fun v h' => v = some (.int (nI (dryN n g g.length))) ∧ ∃ q', h' = rset h r q' ∧ Rep q' (g.map (dryG n))) := by
      intro c hc
      iterate 1 (refine G.st rfl rfl ?_)
      rw [nI_1, hc]
      iterate 1 (refine G.st rfl rfl ?_)
      refine l1_dry X h7 m (i + 1) _ (by omega) hset hn (fun k hk => ?_)
      rw [rput_at]
      by_cases e : k = i
      · subst e
        rw [if_pos rfl, if_pos (by omega)]
      · rw [if_neg e, hf k hk]
        by_cases hki : k < i
        · rw [if_pos hki, if_pos (by omega)]
        · rw [if_neg hki, if_neg (by omega)]
    refine G.br rfl (fun hc => ?_) (fun hc => ?_)
    · iterate 1 (refine G.st rfl rfl ?_)
      rw [nI_1]
      refine rest _ ?_
      conv => rhs; unfold dryN
      rw [if_pos hc]
    · refine rest _ ?_
      conv => rhs; unfold dryN
      rw [if_neg hc, Nat.add_zero]
theorem s1_dry (X : aX) {r : Nat} {q : sR} {g : List Gar} {n : Int32} {h : aH} (hr : RowAt h r q) (hg : Rep q g) : Sp X 0 kX1_dry [.ref r, .int n] h (fun v h' => v = some (.int (nI (dryN n g g.length))) ∧ ∃ q', h' = rset h r q' ∧ Rep q' (g.map (dryG n))) := by
  unfold Sp
  iterate 4 (refine G.st rfl rfl ?_)
  have hh : rset h r q = h := rset_self hr
  have := l1_dry X (r := r) (n := n) (g := g) (h := h) hg.2.1 g.length 0 q (by omega) (by rw [hh]; exact hr) hg.1 (fun k hk => by rw [if_neg (Nat.not_lt_zero k), gD_at hk]; exact hg.2.2 k hk)
  rw [hh] at this
  exact this
