/-! ===== the reference: apart ===== -/
/-- both have numbers, this far apart -/
def pV (nm : Nat → Option Int32) (i j : Nat) (v : Int32) : Prop := ∃ x y, nm i = some x ∧ nm j = some y ∧ v = apI x y
theorem apI_b1 {x y : Int32} (hx : -999 ≤ x ∧ x ≤ 9999) (hy : -999 ≤ y ∧ y ≤ 9999) : 0 ≤ apI x y ∧ apI x y ≤ 10998 := by
  unfold apI
  grind
theorem apI_b2 {x y : Int32} : apI x y = apI y x := by
  unfold apI
  by_cases h : x < y
  · rw [if_pos h, if_neg (Int32.not_lt.mpr (Int32.le_of_lt h))]
  · rw [if_neg h]
    by_cases h2 : y < x
    · rw [if_pos h2]
    · rw [if_neg h2, Int32.le_antisymm (Int32.not_lt.mp h) (Int32.not_lt.mp h2)]
theorem apI_b3 {x y : Int32} (hx : -999 ≤ x ∧ x ≤ 9999) (hy : -999 ≤ y ∧ y ≤ 9999) : abI (x - y) = apI x y := by
  unfold abI
  exact abs_ap hx.1 hx.2 ⟨Int32.le_trans (by decide) hy.1, hy.2⟩
theorem apI_b {x y : Int32} (hx : -999 ≤ x ∧ x ≤ 9999) (hy : -999 ≤ y ∧ y ≤ 9999) : 0 ≤ apI x y ∧ apI x y ≤ 10998 ∧ apI x y = apI y x ∧ abI (x - y) = apI x y := ⟨(apI_b1 hx hy).1, (apI_b1 hx hy).2, apI_b2, apI_b3 hx hy⟩
def NOk (nm : Nat → Option Int32) : Prop := ∀ j x, j < 10 → nm j = some x → -999 ≤ x ∧ x ≤ 9999
/-- the least of the pairs in D, or u if there is none -/
def LeastP (nm : Nat → Option Int32) (D : Nat → Nat → Prop) (a : Int32) : Prop := (a = -1 ∧ ∀ i j v, D i j → ¬ pV nm i j v) ∨ ((∃ i j, D i j ∧ pV nm i j a) ∧ ∀ i j v, D i j → pV nm i j v → a ≤ v)
def LeastQ (nm : Nat → Option Int32) (D : Nat → Nat → Prop) (a : Int32) : Prop := (a = 10998 ∨ ∃ i j, D i j ∧ pV nm i j a) ∧ ∀ i j v, D i j → pV nm i j v → a ≤ v
theorem prN_q {nm : Nat → Option Int32} (hn : NOk nm) {D : Nat → Nat → Prop} {i j : Nat} {a : Int32} (hi : i < 10) (hj : j < 10) (h : LeastQ nm D a) (ha : a ≤ 10998) : LeastQ nm (fun p q => D p q ∨ (p = i ∧ q = j)) (prN nm i j a) ∧ prN nm i j a ≤ 10998 := by
  obtain ⟨h1, h2⟩ := h
  unfold prN
  cases hx : nm i with
  | none =>
    rw [if_neg (fun q => by simp at q)]
    refine ⟨⟨?_, ?_⟩, ha⟩
    · rcases h1 with h1 | ⟨p, q, d, e⟩
      · exact Or.inl h1
      · exact Or.inr ⟨p, q, Or.inl d, e⟩
    · rintro p q v (d | ⟨rfl, rfl⟩) hv
      · exact h2 p q v d hv
      · obtain ⟨x, y, e, _⟩ := hv
        rw [hx] at e
        cases e
  | some x =>
    cases hy : nm j with
    | none =>
      rw [if_neg (fun q => by simp at q)]
      refine ⟨⟨?_, ?_⟩, ha⟩
      · rcases h1 with h1 | ⟨p, q, d, e⟩
        · exact Or.inl h1
        · exact Or.inr ⟨p, q, Or.inl d, e⟩
      · rintro p q v (d | ⟨rfl, rfl⟩) hv
        · exact h2 p q v d hv
        · obtain ⟨x, y, _, e, _⟩ := hv
          rw [hy] at e
          cases e
    | some y =>
      obtain ⟨b1, b2, b3, b4⟩ := apI_b (hn i x hi hx) (hn j y hj hy)
      rw [if_pos ⟨rfl, rfl⟩]
      show LeastQ nm _ (if abI (x - y) < a then abI (x - y) else a) ∧ (if abI (x - y) < a then abI (x - y) else a) ≤ 10998
      rw [b4]
      by_cases hc : apI x y < a
      · rw [if_pos hc]
        refine ⟨⟨Or.inr ⟨i, j, Or.inr ⟨rfl, rfl⟩, x, y, hx, hy, rfl⟩, ?_⟩, b2⟩
        rintro p q v (d | ⟨rfl, rfl⟩) hv
        · exact Int32.le_trans (Int32.le_of_lt hc) (h2 p q v d hv)
        · obtain ⟨x', y', e1, e2, rfl⟩ := hv
          rw [hx] at e1
          rw [hy] at e2
          cases e1
          cases e2
          exact Int32.le_refl _
      · rw [if_neg hc]
        refine ⟨⟨?_, ?_⟩, ha⟩
        · rcases h1 with h1 | ⟨p, q, d, e⟩
          · exact Or.inl h1
          · exact Or.inr ⟨p, q, Or.inl d, e⟩
        · rintro p q v (d | ⟨rfl, rfl⟩) hv
          · exact h2 p q v d hv
          · obtain ⟨x', y', e1, e2, rfl⟩ := hv
            rw [hx] at e1
            rw [hy] at e2
            cases e1
            cases e2
            exact Int32.not_lt.mp hc
theorem LeastQ.mono {nm : Nat → Option Int32} {D D' : Nat → Nat → Prop} {a : Int32} (h : LeastQ nm D a) (e : ∀ i j, D i j ↔ D' i j) : LeastQ nm D' a := by
  obtain ⟨h1, h2⟩ := h
  refine ⟨?_, fun i j v d => h2 i j v ((e i j).mpr d)⟩
  rcases h1 with h1 | ⟨p, q, d, f⟩
  · exact Or.inl h1
  · exact Or.inr ⟨p, q, (e p q).mp d, f⟩
theorem dIn_q {nm : Nat → Option Int32} (hn : NOk nm) {i : Nat} (hi : i < 10) : ∀ (k j : Nat) (a : Int32) (D : Nat → Nat → Prop), j + k = 10 → LeastQ nm D a → a ≤ 10998 → LeastQ nm (fun p q => D p q ∨ (p = i ∧ j ≤ q ∧ q < 10)) (dIn nm i k j a) ∧ dIn nm i k j a ≤ 10998
  | 0, j, a, D, hj, h, ha => ⟨h.mono (fun p q => ⟨Or.inl, fun d => d.elim id (fun x => by omega)⟩), ha⟩
  | k + 1, j, a, D, hj, h, ha => by
    obtain ⟨h1, h2⟩ := prN_q hn hi (show j < 10 by omega) h ha
    obtain ⟨h3, h4⟩ := dIn_q hn hi k (j + 1) (prN nm i j a) _ (by omega) h1 h2
    refine ⟨h3.mono (fun p q => ?_), h4⟩
    constructor
    · rintro ((d | ⟨rfl, rfl⟩) | d)
      · exact Or.inl d
      · exact Or.inr (by omega)
      · exact Or.inr (by omega)
    · rintro (d | ⟨rfl, d1, d2⟩)
      · exact Or.inl (Or.inl d)
      · by_cases e : q = j
        · exact Or.inl (Or.inr ⟨rfl, e⟩)
        · exact Or.inr (by omega)
theorem dOut_q {nm : Nat → Option Int32} (hn : NOk nm) : ∀ (k i : Nat) (a : Int32) (D : Nat → Nat → Prop), i + k = 10 → LeastQ nm D a → a ≤ 10998 → LeastQ nm (fun p q => D p q ∨ (i ≤ p ∧ p < q ∧ q < 10)) (dOut nm k i a)
  | 0, i, a, D, hi, h, ha => h.mono (fun p q => ⟨Or.inl, fun d => d.elim id (fun x => by omega)⟩)
  | k + 1, i, a, D, hi, h, ha => by
    obtain ⟨h1, h2⟩ := dIn_q hn (show i < 10 by omega) k (i + 1) a D (by omega) h ha
    have h3 := dOut_q hn k (i + 1) (dIn nm i k (i + 1) a) _ (by omega) h1 h2
    refine h3.mono (fun p q => ?_)
    constructor
    · rintro ((d | d) | d)
      · exact Or.inl d
      · exact Or.inr (by omega)
      · exact Or.inr (by omega)
    · rintro (d | d)
      · exact Or.inl (Or.inl d)
      · by_cases e : p = i
        · exact Or.inl (Or.inr (by omega))
        · exact Or.inr (by omega)
theorem told1 (nm : Nat → Option Int32) : ∀ k, 1 ≤ toldN nm k ↔ ∃ i, i < k ∧ (nm i).isSome = true
  | 0 => by simp [toldN]
  | k + 1 => by
    have ih := told1 nm k
    unfold toldN
    by_cases h : (nm k).isSome = true
    · rw [if_pos h]
      exact ⟨fun _ => ⟨k, by omega, h⟩, fun _ => by omega⟩
    · rw [if_neg h, Nat.add_zero, ih]
      constructor
      · rintro ⟨i, h1, h2⟩
        exact ⟨i, by omega, h2⟩
      · rintro ⟨i, h1, h2⟩
        by_cases e : i = k
        · subst e; exact absurd h2 h
        · exact ⟨i, by omega, h2⟩
theorem told2 (nm : Nat → Option Int32) : ∀ k, 2 ≤ toldN nm k ↔ ∃ i j, i < j ∧ j < k ∧ (nm i).isSome = true ∧ (nm j).isSome = true
  | 0 => by simp [toldN]
  | k + 1 => by
    have ih := told2 nm k
    have i1 := told1 nm k
    unfold toldN
    by_cases h : (nm k).isSome = true
    · rw [if_pos h]
      constructor
      · intro q
        obtain ⟨i, h1, h2⟩ := i1.mp (by omega)
        exact ⟨i, k, h1, by omega, h2, h⟩
      · rintro ⟨i, j, h1, h2, h3, h4⟩
        have := i1.mpr ⟨i, by omega, h3⟩
        omega
    · rw [if_neg h, Nat.add_zero, ih]
      constructor
      · rintro ⟨i, j, h1, h2, h3, h4⟩
        exact ⟨i, j, h1, by omega, h3, h4⟩
      · rintro ⟨i, j, h1, h2, h3, h4⟩
        by_cases e : j = k
        · subst e; exact absurd h4 h
        · exact ⟨i, j, h1, by omega, h3, h4⟩
section RAPART
variable {c : Nat → aC} {m : sM} {s : Sg} {n : Nat}
theorem LeastP.mono {nm : Nat → Option Int32} {D D' : Nat → Nat → Prop} {a : Int32} (h : LeastP nm D a) (e : ∀ i j, D i j ↔ D' i j) : LeastP nm D' a := by
  rcases h with ⟨h1, h2⟩ | ⟨⟨p, q, d, f⟩, h2⟩
  · exact Or.inl ⟨h1, fun i j v d => h2 i j v ((e i j).mpr d)⟩
  · exact Or.inr ⟨⟨p, q, (e p q).mp d, f⟩, fun i j v d => h2 i j v ((e i j).mpr d)⟩
theorem LeastP.pos {nm : Nat → Option Int32} (hn : NOk nm) {D : Nat → Nat → Prop} (hD : ∀ i j, D i j → i < 10 ∧ j < 10) {a : Int32} (h : LeastP nm D a) : a = -1 ∨ 0 ≤ a := by
  rcases h with ⟨h1, h2⟩ | ⟨⟨p, q, d, x, y, e1, e2, rfl⟩, h2⟩
  · exact Or.inl h1
  · obtain ⟨u, v⟩ := hD p q d
    exact Or.inr (apI_b (hn p x u e1) (hn q y v e2)).1
theorem l7_apIn (X : aX) {i : Nat} {Q : Option Value → aH → Prop} (hS : SOk s) (hM : MR n m s) (hi : i < 10) (D : Nat → Nat → Prop) (hD : ∀ i j, D i j → i < 10 ∧ j < 10) (hq : ∀ a (u : Value), LeastP (zN s) (fun p q => D p q ∨ (p = i ∧ q < i)) a → G X 10 kX7_apart 86 [.ref 81, .int a, .int (nI i), .int (nI i), u] [] (HR c m) Q) : ∀ (k j : Nat) (a : Int32) (u : Value), j + k = i → LeastP (zN s) (fun p q => D p q ∨ (p = i ∧ q < j)) a → G X 10 kX7_apart 12 [.ref 81, .int a, .int (nI i), .int (nI j), u] [] (HR c m) Q := by
  have hn : NOk (zN s) := fun j x hj hx => hS.1.2.1 j x hj hx
  intro k
  induction k with
  | zero =>
    intro j a u hj ha
    iterate 2 (refine G.st rfl rfl ?_)
    refine G.brt rfl (by rw [nI_leI (by omega) (by omega)]; omega) ?_
    obtain rfl : j = i := by omega
    exact hq a u ha
  | succ k ih =>
    intro j a u hj ha
    have hpos := ha.pos hn (fun p q d => d.elim (hD p q) (fun x => by omega))
    iterate 2 (refine G.st rfl rfl ?_)
    refine G.brf rfl (by rw [nI_leI (by omega) (by omega)]; omega) ?_
    iterate 5 (refine G.st rfl rfl ?_)
    refine G.iald rfl rfl (ixa (k := 16) (l := i) rfl (show 16 + i < 110 by omega) (by omega)) ?_
    iterate 5 (refine G.st rfl rfl ?_)
    refine G.iald rfl rfl (ixa (k := 16) (l := j) rfl (show 16 + j < 110 by omega) (by omega)) ?_
    refine G.call rfl rfl (Nat.le_of_ble_eq_true rfl) (Sp.up (s7_apartBy X _ _ _) (Nat.le_of_ble_eq_true rfl)) ?_
    rintro _ _ ⟨rfl, rfl⟩
    iterate 1 (refine G.st rfl rfl ?_)
    iterate 5 (refine G.st rfl rfl ?_)
    refine G.iald rfl rfl (ixa (k := 6) (l := i) rfl (show 6 + i < 110 by omega) (by omega)) ?_
    rw [hM.has hi]
    iterate 5 (refine G.st rfl rfl ?_)
    refine G.iald rfl rfl (ixa (k := 6) (l := j) rfl (show 6 + j < 110 by omega) (by omega)) ?_
    rw [hM.has (by omega)]
    show G X 10 kX7_apart 58 [.ref 81, .int a, .int (nI i), .int (nI j), .int (apI (ms m (16 + i)) (ms m (16 + j)))] [.int (bI ((zN s j).isSome = true)), .int (bI ((zN s i).isSome = true))] (HR c m) Q
    have rest : ∀ b u', LeastP (zN s) (fun p q => D p q ∨ (p = i ∧ q < j + 1)) b → G X 10 kX7_apart 79 [.ref 81, .int a, .int (nI i), .int (nI j), .int u'] [.int b] (HR c m) Q := by
      intro b u' hb
      iterate 2 (refine G.st rfl rfl ?_)
      rw [nI_1]
      iterate 1 (refine G.st rfl rfl ?_)
      exact ih (j + 1) b (.int u') (by omega) hb
    have same : ∀ u', (∀ v, ¬ pV (zN s) i j v ∨ (a ≤ v ∧ ¬ a = -1)) → G X 10 kX7_apart 78 [.ref 81, .int a, .int (nI i), .int (nI j), .int u'] [] (HR c m) Q := by
      intro u' hno
      iterate 1 (refine G.st rfl rfl ?_)
      refine rest a u' ?_
      rcases ha with ⟨h1, h2⟩ | ⟨⟨p, q, d, f⟩, h2⟩
      · refine Or.inl ⟨h1, ?_⟩
        rintro p q v (d | ⟨rfl, d⟩) hv
        · exact h2 p q v (Or.inl d) hv
        · by_cases e : q = j
          · subst e
            rcases hno v with w | w
            · exact w hv
            · exact w.2 h1
          · exact h2 p q v (Or.inr (by omega)) hv
      · refine Or.inr ⟨⟨p, q, d.elim Or.inl (fun x => Or.inr (by omega)), f⟩, ?_⟩
        rintro p q v (d | ⟨rfl, d⟩) hv
        · exact h2 p q v (Or.inl d) hv
        · by_cases e : q = j
          · subst e
            rcases hno v with w | w
            · exact absurd hv w
            · exact w.1
          · exact h2 p q v (Or.inr (by omega)) hv
    iterate 2 (refine G.st rfl rfl ?_)
    cases hx : zN s i with
    | none =>
      refine G.brf rfl ?_ ?_
      · intro q
        rw [bI_f (show ¬ (none : Option Int32).isSome = true by simp), Int32.zero_add] at q
        by_cases w : (zN s j).isSome = true
        · rw [bI_t w] at q; exact absurd q (by decide)
        · rw [bI_f w] at q; exact absurd q (by decide)
      · refine same _ (fun v => Or.inl ?_)
        rintro ⟨x, y, e, _⟩
        rw [hx] at e
        cases e
    | some x =>
      cases hy : zN s j with
      | none =>
        refine G.brf rfl ?_ ?_
        · intro q
          rw [bI_t (show (some x).isSome = true from rfl), bI_f (show ¬ (none : Option Int32).isSome = true by simp)] at q
          exact absurd q (by decide)
        · refine same _ (fun v => Or.inl ?_)
          rintro ⟨x, y, _, e, _⟩
          rw [hy] at e
          cases e
      | some y =>
        obtain ⟨b1, b2, b3, b4⟩ := apI_b (hn i x hi hx) (hn j y (by omega) hy)
        refine G.brt rfl (by rw [bI_t (show (some x).isSome = true from rfl), bI_t (show (some y).isSome = true from rfl)]; decide) ?_
        rw [hM.num hi hx, hM.num (by omega) hy]
        have take : (a = -1 ∨ apI x y < a) → G X 10 kX7_apart 73 [.ref 81, .int a, .int (nI i), .int (nI j), .int (apI x y)] [] (HR c m) Q := by
          intro hc
          iterate 2 (refine G.st rfl rfl ?_)
          refine rest (apI x y) _ (Or.inr ⟨⟨i, j, Or.inr (by omega), x, y, hx, hy, rfl⟩, ?_⟩)
          rintro p q v (d | ⟨rfl, d⟩) hv
          · rcases ha with ⟨h1, h2⟩ | ⟨⟨p', q', d', f'⟩, h2⟩
            · exact absurd hv (h2 p q v (Or.inl d))
            · rcases hc with hc | hc
              · obtain ⟨x2, y2, f1, f2, f3⟩ := f'
                have hd' : p' < 10 ∧ q' < 10 := d'.elim (hD p' q') (fun x => by omega)
                have := (apI_b (hn p' x2 hd'.1 f1) (hn q' y2 hd'.2 f2)).1
                rw [← f3, hc] at this
                exact absurd this (by decide)
              · exact Int32.le_trans (Int32.le_of_lt hc) (h2 p q v (Or.inl d) hv)
          · by_cases e : q = j
            · subst e
              obtain ⟨x', y', e1, e2, rfl⟩ := hv
              rw [hx] at e1
              rw [hy] at e2
              cases e1
              cases e2
              exact Int32.le_refl _
            · rcases ha with ⟨h1, h2⟩ | ⟨⟨p', q', d', f'⟩, h2⟩
              · exact absurd hv (h2 p q v (Or.inr (by omega)))
              · rcases hc with hc | hc
                · obtain ⟨x2, y2, f1, f2, f3⟩ := f'
                  have hd' : p' < 10 ∧ q' < 10 := d'.elim (hD p' q') (fun x => by omega)
                  have := (apI_b (hn p' x2 hd'.1 f1) (hn q' y2 hd'.2 f2)).1
                  rw [← f3, hc] at this
                  exact absurd this (by decide)
                · exact Int32.le_trans (Int32.le_of_lt hc) (h2 p q v (Or.inr (by omega)) hv)
        iterate 1 (refine G.st rfl rfl ?_)
        by_cases h0 : a < 0
        · refine G.brt rfl h0 (take (Or.inl ?_))
          rcases hpos with h | h
          · exact h
          · exact absurd h0 (Int32.not_lt.mpr h)
        refine G.brf rfl h0 ?_
        iterate 2 (refine G.st rfl rfl ?_)
        by_cases hc : a ≤ apI x y
        · refine G.brt rfl hc ?_
          refine same _ (fun v => ?_)
          by_cases hv : pV (zN s) i j v
          · right
            obtain ⟨x', y', e1, e2, rfl⟩ := hv
            rw [hx] at e1
            rw [hy] at e2
            cases e1
            cases e2
            exact ⟨hc, fun q => h0 (by rw [q]; decide)⟩
          · exact Or.inl hv
        · exact G.brf rfl hc (take (Or.inr (Int32.not_le.mp hc)))
theorem l7_apOut (X : aX) (hS : SOk s) (hM : MR n m s) : ∀ (k i : Nat) (a : Int32) (u3 u4 : Value), i + k = 10 → LeastP (zN s) (fun p q => q < p ∧ p < i) a → G X 10 kX7_apart 4 [.ref 81, .int a, .int (nI i), u3, u4] [] (HR c m) (fun v h' => ∃ a, LeastP (zN s) (fun p q => q < p ∧ p < 10) a ∧ MP c n (if 0 ≤ a then (a, s) else fin 3 s) v h') := by
  intro k
  induction k with
  | zero =>
    intro i a u3 u4 hi ha
    iterate 2 (refine G.st rfl rfl ?_)
    refine G.brt rfl (le_nI (k := 10) rfl (by omega) (by omega)) ?_
    iterate 2 (refine G.st rfl rfl ?_)
    refine G.call rfl rfl (Nat.le_of_ble_eq_true rfl) (Sp.up (c7_orI X a hM) (Nat.le_of_ble_eq_true rfl)) ?_
    rintro _ _ ⟨rfl, hci⟩
    obtain rfl : i = 10 := by omega
    exact G.ret rfl rfl ⟨a, ha, rfl, hci⟩
  | succ k ih =>
    intro i a u3 u4 hi ha
    iterate 2 (refine G.st rfl rfl ?_)
    refine G.brf rfl (nle_nI (k := 10) rfl (by omega) (by omega)) ?_
    iterate 2 (refine G.st rfl rfl ?_)
    refine l7_apIn X (i := i) hS hM (by omega) (fun p q => q < p ∧ p < i) (fun p q d => by omega) (fun a u ha' => ?_) i 0 a u4 (by omega) ?_
    · iterate 1 (refine G.st rfl rfl ?_)
      rw [nI_1]
      iterate 1 (refine G.st rfl rfl ?_)
      refine ih (i + 1) a (.int (nI i)) u (by omega) (ha'.mono (fun p q => ?_))
      constructor
      · rintro (d | d) <;> omega
      · intro d
        by_cases e : p = i
        · exact Or.inr (by omega)
        · exact Or.inl (by omega)
    · exact ha.mono (fun p q => ⟨Or.inl, fun d => d.elim id (fun x => by omega)⟩)
theorem p7_apart (X : aX) (hS : SOk s) (hM : MR n m s) : Sp X 10 kX7_apart [.ref 81] (HR c m) (MP c n (S_apart s)) := by
  unfold Sp S_apart
  have hn : NOk (zN s) := fun j x hj hx => hS.1.2.1 j x hj hx
  iterate 4 (refine G.st rfl rfl ?_)
  refine (l7_apOut X hS hM 10 0 (-1) (.double 0) (.double 0) (by omega) (Or.inl ⟨rfl, fun i j v d => by omega⟩)).imp ?_
  rintro v h' ⟨a, ha, hq⟩
  have hQ := dOut_q hn 10 0 10998 (fun _ _ => False) rfl ⟨Or.inl rfl, fun i j v d => d.elim⟩ (by decide)
  obtain ⟨q1, q2⟩ := hQ
  have sw : ∀ i j v, i < 10 → j < 10 → pV (zN s) i j v → pV (zN s) j i v := by
    rintro i j v hi hj ⟨x, y, e1, e2, rfl⟩
    exact ⟨y, x, e2, e1, (apI_b (hn i x hi e1) (hn j y hj e2)).2.2.1⟩
  by_cases ht : 2 ≤ toldN (zN s) 10
  · rw [if_pos ht]
    obtain ⟨i, j, h1, h2, h3, h4⟩ := (told2 (zN s) 10).mp ht
    obtain ⟨x, hx⟩ := Option.isSome_iff_exists.mp h3
    obtain ⟨y, hy⟩ := Option.isSome_iff_exists.mp h4
    have hb := apI_b (hn i x (by omega) hx) (hn j y h2 hy)
    have hp : pV (zN s) i j (apI x y) := ⟨x, y, hx, hy, rfl⟩
    rcases ha with ⟨e, h⟩ | ⟨⟨p, q, d, f⟩, h⟩
    · exact absurd (sw i j _ (by omega) h2 hp) (h j i _ ⟨h1, h2⟩)
    · obtain ⟨x2, y2, f1, f2, f3⟩ := id f
      have hb2 := apI_b (hn p x2 (by omega) f1) (hn q y2 (by omega) f2)
      have e : a = dOut (zN s) 10 0 10998 := by
        apply Int32.le_antisymm
        · rcases q1 with e | ⟨p', q', d', f'⟩
          · rw [e, f3]
            exact hb2.2.1
          · rcases d' with d' | d'
            · exact d'.elim
            · exact h q' p' _ ⟨by omega, by omega⟩ (sw p' q' _ (by omega) (by omega) f')
        · exact q2 q p a (Or.inr (by omega)) (sw p q a (by omega) (by omega) f)
      rw [if_pos (by rw [f3]; exact hb2.1), e] at hq
      exact hq
  · rw [if_neg ht]
    rcases ha with ⟨e, h⟩ | ⟨⟨p, q, d, x, y, f1, f2, f3⟩, h⟩
    · rw [if_neg (by rw [e]; decide)] at hq
      exact hq
    · exact absurd ((told2 (zN s) 10).mpr ⟨q, p, by omega, by omega, by rw [f2]; rfl, by rw [f1]; rfl⟩) ht
end RAPART
