/-! ===== the reference: what a row says ===== -/
theorem ix3 {p n : Nat} (h : 3 * p < n) (hn : n ≤ 2147483647) : ix (3 * nI p) n (3 * p) := by
  rw [show (3 : Int32) = nI 3 from rfl, nI_mul]
  exact ix_nI h hn
theorem ix3a {p n k : Nat} {x : Int32} (hx : x = nI k) (h : 3 * p + k < n) (hn : n ≤ 2147483647) : ix (3 * nI p + x) n (3 * p + k) := by
  rw [show (3 : Int32) = nI 3 from rfl, nI_mul, hx, nI_add]
  exact ix_nI h hn
/-- what lies aside -/
def RW (m : sM) (g : List Gar) : Prop := ∀ p, p < g.length → G3 (mrw m) (3 * p) = gD g p
def bB (v st k s : Int32) : Int32 := if k = 1 then v + 10 * s else if k = 2 then v + 1 + st else if k = 3 then 2 * v else if k = 4 then v - 10 * s else if k = 5 then (if v - v / 2 * 2 = 0 then v else v + 1 + st) else v + s
theorem odd0 : ∀ i, i < 313 → ∀ b, b < 64 → ((nI (64 * i + b) - 9999) - (nI (64 * i + b) - 9999) / 2 * 2 = 0 ↔ (nI (64 * i + b) - 9999) &&& 1 = 0) := by decide +kernel
theorem odd1 {v : Int32} (h : W9 v) : v - v / 2 * 2 = 0 ↔ v &&& 1 = 0 := by
  obtain ⟨j, hj, -, e⟩ := W9_j h
  have := odd0 (j / 64) (by omega) (j % 64) (by omega)
  rw [show 64 * (j / 64) + j % 64 = j by omega, ← e] at this
  exact this
theorem heldI_id {v : Int32} (h : W9 v) : heldI v = v := by
  unfold W9 at h
  unfold heldI
  grind
theorem bB_w {v st k s : Int32} (hv : W9 v) (hk : K6 k) : heldI (bB v st k s) = wAft v st k s := by
  have ho := odd1 hv
  have hi := heldI_id hv
  unfold bB wAft
  rcases hk with rfl | rfl | rfl | rfl | rfl | rfl
  · simp
  · simp
  · simp
  · simp
  · simp
  · simp only [if_pos]
    by_cases h : v &&& 1 = 0
    · simp [h, ho.mpr h, hi]
    · have h2 : ¬ v - v / 2 * 2 = 0 := fun q => h (ho.mp q)
      simp [h, h2]
theorem G3_at {f : Nat → Int32} {i : Nat} {x : Gar} (h : G3 f i = x) : f i = x.1 ∧ f (i + 1) = x.2.1 ∧ f (i + 2) = x.2.2 := by
  rw [← h]
  exact ⟨rfl, rfl, rfl⟩
section RWORTH
variable {c : Nat → aC} {m : sM} {s : Sg} {n : Nat} {g : List Gar}
theorem s7_isSeen (X : aX) {p : Nat} {k z t w : Int32} (hp : p < 15) (hg : G3 (mrw m) (3 * p) = (k, z, t)) (hk : K6 k) : Sp X 0 kX7_isSeen [.ref 81, .int (nI p), .int w] (HR c m) (An (some (.int (bI (seenB w k z t = true)))) (HR c m)) := by
  obtain ⟨g1, g2, g3⟩ := G3_at hg
  unfold Sp
  show G X 0 kX7_isSeen 0 [.ref 81, .int (nI p), .int w, .double 0] [] _ _
  iterate 7 (refine G.st rfl rfl ?_)
  refine G.iald rfl rfl (ix3a (k := 1) rfl (show 3 * p + 1 < 45 by omega) (by omega)) ?_
  iterate 7 (refine G.st rfl rfl ?_)
  refine G.iald rfl rfl (ix3a (k := 2) rfl (show 3 * p + 2 < 45 by omega) (by omega)) ?_
  rw [g2, g3]
  iterate 7 (refine G.st rfl rfl ?_)
  refine G.iald rfl rfl (ix3 (show 3 * p < 45 by omega) (by omega)) ?_
  rw [g1]
  show G X 0 kX7_isSeen 30 [.ref 81, .int (nI p), .int w, .int (z + t)] [.int k] (HR c m) _
  generalize HR c m = h
  rcases hk with rfl | rfl | rfl | rfl | rfl | rfl
  all_goals repeat' (first | refine G.st rfl rfl ?_ | refine G.br rfl (fun hc => ?_) (fun hc => ?_) | refine G.ret rfl rfl ?_)
  all_goals (refine ⟨?_, rfl⟩; unfold bI seenB; grind)
theorem s7_becomesBy (X : aX) {p : Nat} {k z t v st : Int32} (hp : p < 15) (hg : G3 (mrw m) (3 * p) = (k, z, t)) (hk : K6 k) : Sp X 0 kX7_becomesBy [.ref 81, .int (nI p), .int v, .int st] (HR c m) (An (some (.int (bB v st k z))) (HR c m)) := by
  obtain ⟨g1, g2, g3⟩ := G3_at hg
  unfold Sp
  show G X 0 kX7_becomesBy 0 [.ref 81, .int (nI p), .int v, .int st, .double 0] [] _ _
  iterate 7 (refine G.st rfl rfl ?_)
  refine G.iald rfl rfl (ix3a (k := 1) rfl (show 3 * p + 1 < 45 by omega) (by omega)) ?_
  rw [g2]
  iterate 6 (refine G.st rfl rfl ?_)
  refine G.iald rfl rfl (ix3 (show 3 * p < 45 by omega) (by omega)) ?_
  rw [g1]
  show G X 0 kX7_becomesBy 20 [.ref 81, .int (nI p), .int v, .int st, .int z] [.int k] (HR c m) _
  generalize HR c m = h
  rcases hk with rfl | rfl | rfl | rfl | rfl | rfl
  all_goals repeat' (first | refine G.st rfl rfl ?_ | refine G.br rfl (fun hc => ?_) (fun hc => ?_) | refine G.ret rfl rfl ?_)
  all_goals (refine ⟨?_, rfl⟩; unfold bB; grind)
theorem l7_worth (X : aX) {q : Nat} {w : Int32} (hg : RW m g) (hgk : gKs g) (hq : q ≤ g.length) (h15 : g.length ≤ 15) : ∀ (k p : Nat) (a : Acc), p + k = q → a = hearL w (0, 0) (g.take p) → G X 1 kX7_worthOfFirst 8 [.ref 81, .int (nI q), .int w, .int a.1, .int a.2, .int (nI p)] [] (HR c m) (An (some (.int (wlst w (g.take q)))) (HR c m))
  | 0, p, a, hp, ha => by
    iterate 2 (refine G.st rfl rfl ?_)
    refine G.brt rfl (by rw [nI_leI (by omega) (by omega)]; omega) ?_
    iterate 1 (refine G.st rfl rfl ?_)
    refine G.ret rfl rfl ⟨?_, rfl⟩
    rw [ha, show p = q by omega]
    rfl
  | k + 1, p, a, hp, ha => by
    have hpg : p < g.length := by omega
    have hk := gK_at hgk hpg
    have hgp := hg p hpg
    have hnext : hearL w (0, 0) (g.take (p + 1)) = hearG w a (gD g p) := by
      rw [List.take_succ_eq_append_getElem hpg, hearL_app, ← ha, gD_at hpg]
      rfl
    have h9 : W9 a.1 := by rw [ha]; exact hearL_9 _ _ W9_0
    obtain ⟨g1, g2, g3⟩ := G3_at hgp
    iterate 2 (refine G.st rfl rfl ?_)
    refine G.brf rfl (by rw [nI_leI (by omega) (by omega)]; omega) ?_
    iterate 3 (refine G.st rfl rfl ?_)
    refine G.call rfl rfl (Nat.le_of_ble_eq_true rfl) (Sp.up (s7_isSeen X (p := p) (show p < 15 by omega) (show G3 (mrw m) (3 * p) = ((gD g p).1, (gD g p).2.1, (gD g p).2.2) from hgp) hk.1) (Nat.le_of_ble_eq_true rfl)) ?_
    rintro _ _ ⟨rfl, rfl⟩
    by_cases hs : seenB w (gD g p).1 (gD g p).2.1 (gD g p).2.2 = true
    case neg =>
      refine G.brt rfl (bI_0.mpr hs) ?_
      iterate 1 (refine G.st rfl rfl ?_)
      rw [nI_1]
      iterate 1 (refine G.st rfl rfl ?_)
      refine l7_worth X hg hgk hq h15 k (p + 1) a (by omega) ?_
      rw [hnext]
      unfold hearG
      rw [if_neg hs]
    refine G.brf rfl (bI_n hs) ?_
    iterate 4 (refine G.st rfl rfl ?_)
    refine G.call rfl rfl (Nat.le_of_ble_eq_true rfl) (Sp.up (s7_becomesBy X (p := p) (show p < 15 by omega) (show G3 (mrw m) (3 * p) = ((gD g p).1, (gD g p).2.1, (gD g p).2.2) from hgp) hk.1) (Nat.le_of_ble_eq_true rfl)) ?_
    rintro _ _ ⟨rfl, rfl⟩
    refine G.call rfl rfl (Nat.le_of_ble_eq_true rfl) (Sp.up (s7_kept X _ _) (Nat.le_of_ble_eq_true rfl)) ?_
    rintro _ _ ⟨rfl, rfl⟩
    rw [bB_w h9 hk.1]
    iterate 6 (refine G.st rfl rfl ?_)
    refine G.iald rfl rfl (ix3 (show 3 * p < 45 by omega) (by omega)) ?_
    rw [g1]
    refine G.call rfl rfl (Nat.le_of_ble_eq_true rfl) (Sp.up (s7_isStocking X _ _) (Nat.le_of_ble_eq_true rfl)) ?_
    rintro _ _ ⟨rfl, rfl⟩
    have hh : hearL w (0, 0) (g.take (p + 1)) = (wAft a.1 a.2 (gD g p).1 (gD g p).2.1, sAft a.2 (gD g p).1) := by
      rw [hnext]
      unfold hearG
      rw [if_pos hs]
    show G X 1 kX7_worthOfFirst 49 [.ref 81, .int (nI q), .int w, .int (wAft a.1 a.2 (gD g p).1 (gD g p).2.1), .int a.2, .int (nI p)] [.int (bI ((gD g p).1 = 2 ∨ (gD g p).1 = 5))] (HR c m) _
    by_cases h2 : (gD g p).1 = 2 ∨ (gD g p).1 = 5
    · refine G.brf rfl (bI_n h2) ?_
      iterate 6 (refine G.st rfl rfl ?_)
      rw [nI_1]
      iterate 1 (refine G.st rfl rfl ?_)
      refine l7_worth X hg hgk hq h15 k (p + 1) (wAft a.1 a.2 (gD g p).1 (gD g p).2.1, a.2 + 1) (by omega) ?_
      rw [hh]
      unfold sAft
      rw [if_pos h2]
    · refine G.brt rfl (bI_0.mpr h2) ?_
      iterate 3 (refine G.st rfl rfl ?_)
      rw [nI_1]
      iterate 1 (refine G.st rfl rfl ?_)
      refine l7_worth X hg hgk hq h15 k (p + 1) (wAft a.1 a.2 (gD g p).1 (gD g p).2.1, 0) (by omega) ?_
      rw [hh]
      unfold sAft
      rw [if_neg h2]
theorem s7_worthOfFirst (X : aX) {q : Nat} {w : Int32} (hg : RW m g) (hgk : gKs g) (hq : q ≤ g.length) (h15 : g.length ≤ 15) : Sp X 1 kX7_worthOfFirst [.ref 81, .int (nI q), .int w] (HR c m) (An (some (.int (wlst w (g.take q)))) (HR c m)) := by
  unfold Sp
  iterate 6 (refine G.st rfl rfl ?_)
  exact l7_worth X hg hgk hq h15 q 0 (0, 0) (by omega) rfl
/-- what lies aside may have changed -/
def ra (m m' : sM) : Prop := ∃ f r, m' = mSrn (mSrw m f) r
theorem ra.MR {m' : sM} (h : ra m m') (hM : MR n m s) : MR n m' s := by
  obtain ⟨f, r, rfl⟩ := h
  exact hM
theorem ra.tr {m' m2 : sM} (h : ra m m') (h2 : ra m' m2) : ra m m2 := by
  obtain ⟨f, r, rfl⟩ := h
  obtain ⟨f2, r2, rfl⟩ := h2
  exact ⟨f2, r2, rfl⟩
theorem ra.refl (m : sM) : ra m m := ⟨mrw m, mrn m, rfl⟩
theorem l7_lays (X : aX) {l L : Nat} (hl : l < 4) (hL : L ≤ 7) (hr : mrn m = nI L) : ∀ (k i : Nat) (f : Nat → Int32), i + k = 3 * L → (∀ j, j < i → f j = ms m (pl l 0 + j)) → G X 1 kX7_lays 14 [.ref 81, .int (nI l), .int (nI i)] [] (HR c (mSrw m f)) (fun v h' => v = none ∧ ∃ f', h' = HR c (mSrw m f') ∧ ∀ j, j < 3 * L → f' j = ms m (pl l 0 + j))
  | 0, i, f, hi, hf => by
    iterate 4 (refine G.st rfl rfl ?_)
    show G X 1 kX7_lays 20 [.ref 81, .int (nI l), .int (nI i)] [.int (mrn m), .int 3, .int (nI i)] (HR c (mSrw m f)) _
    rw [hr]
    iterate 1 (refine G.st rfl rfl ?_)
    rw [show (3 : Int32) = nI 3 from rfl, nI_mul]
    refine G.brt rfl (by rw [nI_leI (by omega) (by omega)]; omega) ?_
    exact G.ret rfl rfl ⟨rfl, f, rfl, fun j hj => hf j (by omega)⟩
  | k + 1, i, f, hi, hf => by
    have h0 := pl_lt hl (show 0 < 7 by omega)
    have hpl : pl l 0 + i < 110 := by unfold pl at *; omega
    iterate 4 (refine G.st rfl rfl ?_)
    show G X 1 kX7_lays 20 [.ref 81, .int (nI l), .int (nI i)] [.int (mrn m), .int 3, .int (nI i)] (HR c (mSrw m f)) _
    rw [hr]
    iterate 1 (refine G.st rfl rfl ?_)
    rw [show (3 : Int32) * nI L = nI (3 * L) from nI_mul 3 L]
    refine G.brf rfl (by rw [nI_leI (by omega) (by omega)]; omega) ?_
    iterate 7 (refine G.st rfl rfl ?_)
    refine G.call rfl rfl (Nat.le_of_ble_eq_true rfl) (Sp.up (s7_pl X l 0 _) (Nat.le_of_ble_eq_true rfl)) ?_
    rintro _ _ ⟨rfl, rfl⟩
    show G X 1 kX7_lays 38 [.ref 81, .int (nI l), .int (nI i)] [.int (nI (pl l 0)), .ref 82, .int (nI i), .ref 90] (HR c (mSrw m f)) _
    iterate 2 (refine G.st rfl rfl ?_)
    rw [nI_add]
    refine G.iald rfl rfl (ix_nI hpl (by omega)) ?_
    refine G.rst rfl (ix_nI (show i < 45 by omega) (by omega)) ?_
    iterate 1 (refine G.st rfl rfl ?_)
    rw [nI_1]
    iterate 1 (refine G.st rfl rfl ?_)
    refine l7_lays X hl hL hr k (i + 1) (upd f i (ms m (pl l 0 + i))) (by omega) (fun j hj => ?_)
    rw [upd_if]
    by_cases e : j = i
    · rw [if_pos e, e]
    · rw [if_neg e]
      exact hf j (by omega)
theorem s7_lays (X : aX) {l : Nat} (hS : SOk s) (hM : MR n m s) (hl : l < 4) : Sp X 1 kX7_lays [.ref 81, .int (nI l)] (HR c m) (fun v h' => v = none ∧ ∃ m', h' = HR c m' ∧ ra m m' ∧ RW m' (zL s l) ∧ mrn m' = nI (zL s l).length) := by
  unfold Sp
  have h7 := hS.len hl
  iterate 6 (refine G.st rfl rfl ?_)
  refine G.iald rfl rfl (ix0 (show l < 110 by omega) (by omega)) ?_
  rw [hM.len hl]
  iterate 3 (refine G.st rfl rfl ?_)
  show G X 1 kX7_lays 14 [.ref 81, .int (nI l), .int (nI 0)] [] (HR c (mSrw (mSrn m (nI (zL s l).length)) (mrw m))) _
  refine (l7_lays X (m := mSrn m (nI (zL s l).length)) hl h7 rfl (3 * (zL s l).length) 0 (mrw m) (by omega) (fun j hj => absurd hj (Nat.not_lt_zero j))).imp ?_
  rintro _ _ ⟨rfl, f', rfl, hf⟩
  refine ⟨rfl, _, rfl, ⟨f', nI (zL s l).length, rfl⟩, fun p hp => ?_, rfl⟩
  obtain ⟨g1, g2, g3⟩ := hM.gar hl hp
  show (f' (3 * p), f' (3 * p + 1), f' (3 * p + 2)) = _
  rw [hf _ (by omega), hf _ (by omega), hf _ (by omega)]
  show (ms m (pl l 0 + 3 * p), ms m (pl l 0 + (3 * p + 1)), ms m (pl l 0 + (3 * p + 2))) = _
  rw [show pl l 0 + 3 * p = pl l p by unfold pl; omega, show pl l 0 + (3 * p + 1) = pl l p + 1 by unfold pl; omega, show pl l 0 + (3 * p + 2) = pl l p + 2 by unfold pl; omega, g1, g2, g3]
theorem s7_worthBy (X : aX) {l : Nat} {w : Int32} (hS : SOk s) (hM : MR n m s) (hl : l < 4) : Sp X 2 kX7_worthBy [.ref 81, .int (nI l), .int w] (HR c m) (fun v h' => v = some (.int (wlst w (zL s l))) ∧ ∃ m', h' = HR c m' ∧ ra m m' ∧ RW m' (zL s l) ∧ mrn m' = nI (zL s l).length) := by
  unfold Sp
  have h7 := hS.len hl
  iterate 2 (refine G.st rfl rfl ?_)
  refine G.call rfl rfl (Nat.le_of_ble_eq_true rfl) (Sp.up (s7_lays X hS hM hl) (Nat.le_of_ble_eq_true rfl)) ?_
  rintro _ _ ⟨rfl, m', rfl, hra, hrw, hrn⟩
  iterate 3 (refine G.st rfl rfl ?_)
  show G X 2 kX7_worthBy 10 [.ref 81, .int (nI l), .int w] [.int (mrn m'), .ref 81] (HR c m') _
  rw [hrn]
  iterate 1 (refine G.st rfl rfl ?_)
  refine G.call rfl rfl (Nat.le_of_ble_eq_true rfl) (Sp.up (s7_worthOfFirst X hrw (hS.gk hl) (Nat.le_refl _) (by omega)) (Nat.le_of_ble_eq_true rfl)) ?_
  rintro _ _ ⟨rfl, rfl⟩
  rw [List.take_length]
  exact G.ret rfl rfl ⟨rfl, m', rfl, hra, hrw, hrn⟩
theorem s7_worthAside (X : aX) (hM : MR n m s) (hg : RW m g) (hr : mrn m = nI g.length) (hgk : gKs g) (h15 : g.length ≤ 15) : Sp X 2 kX7_worthAside [.ref 81] (HR c m) (An (some (.int (wlst (zW s) g))) (HR c m)) := by
  unfold Sp
  iterate 6 (refine G.st rfl rfl ?_)
  refine G.iald rfl rfl (j := 4) ⟨by decide, rfl, by decide⟩ ?_
  show G X 2 kX7_worthAside 11 [.ref 81] [.int (ms m 4), .int (mrn m), .ref 81] (HR c m) _
  rw [hM.1.2.1, hr]
  refine G.call rfl rfl (Nat.le_of_ble_eq_true rfl) (Sp.up (s7_worthOfFirst X hg hgk (Nat.le_refl _) h15) (Nat.le_of_ble_eq_true rfl)) ?_
  rintro _ _ ⟨rfl, rfl⟩
  rw [List.take_length]
  exact G.ret rfl rfl ⟨rfl, rfl⟩
theorem MR.has (h : MR n m s) {j : Nat} (hj : j < 10) : ms m (6 + j) = bI ((zN s j).isSome = true) := (h.1.2.2.2 j hj).1
theorem MR.num (h : MR n m s) {j : Nat} (hj : j < 10) {x : Int32} (hx : zN s j = some x) : ms m (16 + j) = x := (h.1.2.2.2 j hj).2 x hx
theorem bI_1 {p : Prop} [Decidable p] : bI p = 1 ↔ p := by
  by_cases h : p
  · simp [bI, h]
  · simp [bI, h]
theorem l7_readAs (X : aX) {v : Int32} (hM : MR n m s) : ∀ (k i : Nat) (u : Value), i + k = 10 → G X 1 kX7_readAs 4 [.ref 81, .int v, .int (rdI (rdN (zN s) v i)), .int (nI i), u] [] (HR c m) (An (some (.int (rdI (rd (zN s) v)))) (HR c m))
  | 0, i, u, hi => by
    iterate 2 (refine G.st rfl rfl ?_)
    refine G.brt rfl (le_nI (k := 10) rfl (by omega) (by omega)) ?_
    iterate 1 (refine G.st rfl rfl ?_)
    refine G.ret rfl rfl ⟨?_, rfl⟩
    rw [show i = 10 by omega]
    rfl
  | k + 1, i, u, hi => by
    have skip : ∀ u', rdN (zN s) v (i + 1) = rdN (zN s) v i → G X 1 kX7_readAs 60 [.ref 81, .int v, .int (rdI (rdN (zN s) v i)), .int (nI i), u'] [] (HR c m) (An (some (.int (rdI (rd (zN s) v)))) (HR c m)) := by
      intro u' e
      iterate 3 (refine G.st rfl rfl ?_)
      refine G.brt rfl rfl ?_
      iterate 3 (refine G.st rfl rfl ?_)
      rw [nI_1]
      iterate 1 (refine G.st rfl rfl ?_)
      have := l7_readAs X (v := v) hM k (i + 1) (.int 0) (by omega)
      rw [e] at this
      exact this
    have take : ∀ u', rdN (zN s) v (i + 1) = some i → G X 1 kX7_readAs 56 [.ref 81, .int v, .int (rdI (rdN (zN s) v i)), .int (nI i), u'] [] (HR c m) (An (some (.int (rdI (rd (zN s) v)))) (HR c m)) := by
      intro u' e
      iterate 4 (refine G.st rfl rfl ?_)
      refine G.brf rfl (by decide) ?_
      iterate 4 (refine G.st rfl rfl ?_)
      rw [nI_1]
      iterate 1 (refine G.st rfl rfl ?_)
      have := l7_readAs X (v := v) hM k (i + 1) (.int 1) (by omega)
      rw [e] at this
      exact this
    iterate 2 (refine G.st rfl rfl ?_)
    refine G.brf rfl (nle_nI (k := 10) rfl (by omega) (by omega)) ?_
    iterate 5 (refine G.st rfl rfl ?_)
    refine G.iald rfl rfl (ixa (k := 6) rfl (show 6 + i < 110 by omega) (by omega)) ?_
    rw [hM.has (by omega)]
    iterate 1 (refine G.st rfl rfl ?_)
    cases hx : zN s i with
    | none =>
      refine G.brf rfl (fun q => by have := bI_1.mp q; simp at this) ?_
      refine skip u ?_
      conv => lhs; unfold rdN rdStep
      rw [hx]
    | some x =>
      refine G.brt rfl (bI_1.mpr rfl) ?_
      iterate 1 (refine G.st rfl rfl ?_)
      cases hb : rdN (zN s) v i with
      | none =>
        rw [hb] at take
        refine G.brt rfl (by decide) ?_
        refine take u ?_
        conv => lhs; unfold rdN rdStep
        rw [hx, hb]
      | some b =>
        rw [hb] at take skip
        have hbin := rdN_in (zN s) v i b hb
        obtain ⟨xb, hxb⟩ := Option.isSome_iff_exists.mp hbin.2
        refine G.brf rfl (nI_pos (show b < 2 ^ 31 by omega)) ?_
        iterate 5 (refine G.st rfl rfl ?_)
        refine G.iald rfl rfl (ixa (k := 16) rfl (show 16 + i < 110 by omega) (by omega)) ?_
        rw [hM.num (by omega) hx]
        iterate 1 (refine G.st rfl rfl ?_)
        refine G.call rfl rfl (Nat.le_of_ble_eq_true rfl) (Sp.up (s7_apartBy X _ _ _) (Nat.le_of_ble_eq_true rfl)) ?_
        rintro _ _ ⟨rfl, rfl⟩
        iterate 5 (refine G.st rfl rfl ?_)
        refine G.iald rfl rfl (ixa (k := 16) (l := b) rfl (show 16 + b < 110 by omega) (by omega)) ?_
        rw [hM.num (by omega) hxb]
        iterate 1 (refine G.st rfl rfl ?_)
        refine G.call rfl rfl (Nat.le_of_ble_eq_true rfl) (Sp.up (s7_apartBy X _ _ _) (Nat.le_of_ble_eq_true rfl)) ?_
        rintro _ _ ⟨rfl, rfl⟩
        have e0 : rdN (zN s) v (i + 1) = if apI x v < apI xb v then some i else some b := by
          conv => lhs; unfold rdN rdStep
          rw [hx, hb]
          dsimp only
          rw [hxb]
          rfl
        refine G.br rfl (fun hc => ?_) (fun hc => ?_)
        · exact skip u (by rw [e0, if_neg (Int32.not_lt.mpr hc)])
        · exact take u (by rw [e0, if_pos (Int32.not_le.mp hc)])
theorem s7_readAs (X : aX) {v : Int32} (hM : MR n m s) : Sp X 1 kX7_readAs [.ref 81, .int v] (HR c m) (An (some (.int (rdI (rd (zN s) v)))) (HR c m)) := by
  unfold Sp
  iterate 4 (refine G.st rfl rfl ?_)
  exact l7_readAs X hM 10 0 (.double 0) rfl
theorem c7_orNone (X : aX) {o : Option Nat} (hM : MR n m s) (ho : ∀ b, o = some b → b < 2 ^ 31) : Sp X 1 kX7_orNone [.ref 81, .int (rdI o)] (HR c m) (MP c n (match o with | none => fin 3 s | some b => (nI b, s))) := by
  unfold Sp
  iterate 1 (refine G.st rfl rfl ?_)
  cases o with
  | none =>
    refine G.brf rfl (by decide) ?_
    iterate 2 (refine G.st rfl rfl ?_)
    refine G.call rfl rfl (Nat.le_of_ble_eq_true rfl) (Sp.up (c7_f3 X hM) (Nat.le_of_ble_eq_true rfl)) ?_
    rintro _ _ ⟨rfl, hci⟩
    iterate 1 (refine G.st rfl rfl ?_)
    exact G.ret rfl rfl ⟨rfl, hci⟩
  | some b =>
    refine G.brt rfl (nI_pos' (ho b rfl)) ?_
    iterate 1 (refine G.st rfl rfl ?_)
    exact G.ret rfl rfl ⟨rfl, m, rfl, hM⟩
end RWORTH
