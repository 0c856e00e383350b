theorem upd_upd {f : Nat → Int32} {k : Nat} {x y : Int32} : upd (upd f k x) k y = upd f k y := by
  funext j
  rw [upd_if, upd_if, upd_if]
  split <;> rfl
section TWINS
variable {rw : Nat → sR} {nu : Nat → Nat → Int32} {wd : Nat → Int32 × Int32} {vo : sV} {od : sO} {tp : sP} {sh : Nat → sS} {fi : Nat → Int32} {ik : Int32} {m : sM} {nm : Nat → Option Int32} {g : List Gar}
theorem l0_twin (X : aX) {say : Nat → Int32} {i : Nat} {Q : Option Value → aH → Prop} (hi : i < 7) (hs : ∀ p, p ≤ i → osy od p = say p) (hq : ∀ t, Tw say i i t → G X 3 kX0_findTwins 76 [.ref 59, .int (nI i), .int (nI (1 + cntP say (say i) i)), .int (nI i)] [] (H rw nu wd vo (oStw od (upd (otw od) i t)) tp sh fi ik m) Q) : ∀ (c j : Nat) (t : Int32), j + c = i → Tw say i j t → G X 3 kX0_findTwins 40 [.ref 59, .int (nI i), .int (nI (1 + cntP say (say i) j)), .int (nI j)] [] (H rw nu wd vo (oStw od (upd (otw od) i t)) tp sh fi ik m) Q
  | 0, j, t, hj, ht => by
    iterate 2 (refine G.st rfl rfl ?_)
    refine G.brt rfl (by rw [nI_leI (by omega) (by omega)]; omega) ?_
    obtain rfl : j = i := by omega
    exact hq t ht
  | c + 1, j, t, hj, ht => by
    have hx := ix_nI (show j < 7 by omega) (by omega)
    have hy := ix_nI hi (by omega)
    iterate 2 (refine G.st rfl rfl ?_)
    refine G.brf rfl (by rw [nI_leI (by omega) (by omega)]; omega) ?_
    iterate 3 (refine G.st rfl rfl ?_)
    refine G.iald rfl rfl hx ?_
    iterate 3 (refine G.st rfl rfl ?_)
    refine G.iald rfl rfl hy ?_
    show G X 3 kX0_findTwins 57 [.ref 59, .int (nI i), .int (nI (1 + cntP say (say i) j)), .int (nI j)] [.int (osy od i), .int (osy od j)] (H rw nu wd vo (oStw od (upd (otw od) i t)) tp sh fi ik m) Q
    rw [hs i (Nat.le_refl i), hs j (by omega)]
    refine G.br rfl (fun hc => ?_) (fun hc => ?_)
    · iterate 4 (refine G.st rfl rfl ?_)
      refine G.iast rfl rfl hy ?_
      show G X 3 kX0_findTwins 67 [.ref 59, .int (nI i), .int (nI (1 + cntP say (say i) j)), .int (nI j)] [] (H rw nu wd vo (oStw od (upd (upd (otw od) i t) i (nI j))) tp sh fi ik m) Q
      rw [upd_upd]
      iterate 2 (refine G.st rfl rfl ?_)
      rw [nI_1, nI_1]
      iterate 1 (refine G.st rfl rfl ?_)
      have := l0_twin X hi hs hq c (j + 1) (nI j) (by omega) (Or.inr ⟨j, by omega, rfl, hc, fun r h1 h2 => by omega⟩)
      rw [cntP_s, if_pos hc] at this
      exact this
    · iterate 1 (refine G.st rfl rfl ?_)
      rw [nI_1]
      iterate 1 (refine G.st rfl rfl ?_)
      have ht2 : Tw say i (j + 1) t := by
        rcases ht with ⟨e, h1⟩ | ⟨q, hq1, e, h1, h2⟩
        · refine Or.inl ⟨e, fun q hq2 => ?_⟩
          by_cases eq : q = j
          · subst eq; exact hc
          · exact h1 q (by omega)
        · refine Or.inr ⟨q, by omega, e, h1, fun r h3 h4 => ?_⟩
          by_cases eq : r = j
          · subst eq; exact hc
          · exact h2 r h3 (by omega)
      have := l0_twin X hi hs hq c (j + 1) t (by omega) ht2
      rw [cntP_s, if_neg hc, Nat.add_zero] at this
      exact this
abbrev sy (w : Int32) (g : List Gar) : Nat → Int32 := fun p => sayI w (gD g p)
theorem l0_twins (X : aX) {Q : Option Value → aH → Prop} (hg : Rep (rw 12) g) (hgk : gKs g) (hq : ∀ fs ft, (∀ p, p < g.length → fs p = sy (wd 0).1 g p ∧ Tw (sy (wd 0).1 g) p p (ft p)) → Q none (H rw nu wd vo (oSwt (oStw (oSsy od fs) ft) (nI (wtP (sy (wd 0).1 g) g.length))) tp sh fi ik m)) : ∀ (c i : Nat) (fs ft : Nat → Int32) (u2 u3 : Value), i + c = g.length → (∀ p, p < i → fs p = sy (wd 0).1 g p ∧ Tw (sy (wd 0).1 g) p p (ft p)) → G X 3 kX0_findTwins 7 [.ref 59, .int (nI i), u2, u3] [] (H rw nu wd vo (oSwt (oStw (oSsy od fs) ft) (nI (wtP (sy (wd 0).1 g) i))) tp sh fi ik m) Q
  | 0, i, fs, ft, u2, u3, hi, hf => by
    have h7 := hg.2.1
    iterate 3 (refine G.st rfl rfl ?_)
    refine G.get rfl (H_row (i := 12) (by omega)).1 rfl ?_
    rw [hg.1]
    refine G.brt rfl (by rw [nI_leI (by omega) (by omega)]; omega) ?_
    obtain rfl : i = g.length := by omega
    exact G.ret rfl rfl (hq fs ft hf)
  | c + 1, i, fs, ft, u2, u3, hi, hf => by
    have h7 := hg.2.1
    have hx := ix_nI (show i < 7 by omega) (by omega)
    iterate 3 (refine G.st rfl rfl ?_)
    refine G.get rfl (H_row (i := 12) (by omega)).1 rfl ?_
    rw [hg.1]
    refine G.brf rfl (by rw [nI_leI (by omega) (by omega)]; omega) ?_
    iterate 5 (refine G.st rfl rfl ?_)
    refine G.call rfl rfl (Nat.le_of_ble_eq_true rfl) (Sp.up (s0_saying X hg hgk (show i < g.length by omega)) (Nat.le_of_ble_eq_true rfl)) ?_
    rintro _ _ ⟨rfl, rfl⟩
    refine G.iast rfl rfl hx ?_
    show G X 3 kX0_findTwins 29 [.ref 59, .int (nI i), u2, u3] [] (H rw nu wd vo (oSwt (oStw (oSsy od (upd fs i (sy (wd 0).1 g i))) ft) (nI (wtP (sy (wd 0).1 g) i))) tp sh fi ik m) Q
    iterate 4 (refine G.st rfl rfl ?_)
    refine G.iast rfl rfl hx ?_
    show G X 3 kX0_findTwins 36 [.ref 59, .int (nI i), u2, u3] [] (H rw nu wd vo (oStw (oSwt (oStw (oSsy od (upd fs i (sy (wd 0).1 g i))) ft) (nI (wtP (sy (wd 0).1 g) i))) (upd ft i (-1))) tp sh fi ik m) Q
    iterate 4 (refine G.st rfl rfl ?_)
    refine l0_twin X (say := sy (wd 0).1 g) (od := oSwt (oStw (oSsy od (upd fs i (sy (wd 0).1 g i))) ft) (nI (wtP (sy (wd 0).1 g) i))) (show i < 7 by omega) (fun p hp => ?_) (fun t ht => ?_) i 0 (-1) (by omega) (Or.inl ⟨rfl, fun q hq => absurd hq (Nat.not_lt_zero q)⟩)
    · show upd fs i (sy (wd 0).1 g i) p = _
      rw [upd_if]
      by_cases e : p = i
      · rw [if_pos e, e]
      · rw [if_neg e]
        exact (hf p (by omega)).1
    · iterate 5 (refine G.st rfl rfl ?_)
      rw [show (nI (wtP (sy (wd 0).1 g) i) * nI (1 + cntP (sy (wd 0).1 g) (sy (wd 0).1 g i) i)) = nI (wtP (sy (wd 0).1 g) (i + 1)) by rw [nI_mul, wtP_s]]
      iterate 2 (refine G.st rfl rfl ?_)
      rw [nI_1]
      iterate 1 (refine G.st rfl rfl ?_)
      refine l0_twins X hg hgk hq c (i + 1) (upd fs i (sy (wd 0).1 g i)) (upd ft i t) _ _ (by omega) (fun p hp => ?_)
      rw [upd_if, upd_if]
      by_cases e : p = i
      · subst e
        rw [if_pos rfl, if_pos rfl]
        exact ⟨rfl, ht⟩
      · rw [if_neg e, if_neg e]
        exact hf p (by omega)
theorem s0_findTwins (X : aX) (hg : Rep (rw 12) g) (hgk : gKs g) : Sp X 3 kX0_findTwins [.ref 59] (H rw nu wd vo od tp sh fi ik m) (fun v h' => v = none ∧ ∃ fs ft, h' = H rw nu wd vo (oSwt (oStw (oSsy od fs) ft) (nI (wtP (sy (wd 0).1 g) g.length))) tp sh fi ik m ∧ ∀ p, p < g.length → fs p = sy (wd 0).1 g p ∧ Tw (sy (wd 0).1 g) p p (ft p)) := by
  unfold Sp
  iterate 5 (refine G.st rfl rfl ?_)
  exact l0_twins X hg hgk (Q := fun v h' => v = none ∧ ∃ fs ft, h' = H rw nu wd vo (oSwt (oStw (oSsy od fs) ft) (nI (wtP (sy (wd 0).1 g) g.length))) tp sh fi ik m ∧ ∀ p, p < g.length → fs p = sy (wd 0).1 g p ∧ Tw (sy (wd 0).1 g) p p (ft p)) (fun fs ft hf => ⟨rfl, fs, ft, rfl, hf⟩) g.length 0 (osy od) (otw od) (.double 0) (.double 0) (by omega) (fun p hp => absurd hp (Nat.not_lt_zero p))
end TWINS
