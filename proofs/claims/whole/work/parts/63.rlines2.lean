/-! ===== the reference: promises 8 to 20 ===== -/
section RLINES2
variable {c : Nat → aC} {m : sM} {s : Sg} {n : Nat}
theorem l7_swap (X : aX) {l a b : Nat} (hl : l < 4) (ha : a < 7) (hb : b < 7) (f0 : Nat → Int32) : ∀ (k i : Nat) (f : Nat → Int32), i + k = 3 → (∀ x, f x = if pl l a ≤ x ∧ x < pl l a + i then f0 (x - pl l a + pl l b) else if pl l b ≤ x ∧ x < pl l b + i then f0 (x - pl l b + pl l a) else f0 x) → G X 10 kX7_swap 28 [.ref 81, .int (nI l), .int (nI a), .int (nI b), .int (nI i)] [] (HR c (mSs m f)) (fun v h' => v = some (.int (apI (nI a) (nI b))) ∧ ∃ f', h' = HR c (mSs m f') ∧ ∀ x, f' x = if pl l a ≤ x ∧ x < pl l a + 3 then f0 (x - pl l a + pl l b) else if pl l b ≤ x ∧ x < pl l b + 3 then f0 (x - pl l b + pl l a) else f0 x) := by
  have hpa := pl_lt hl ha
  have hpb := pl_lt hl hb
  have hab : a = b ∨ pl l a + 3 ≤ pl l b ∨ pl l b + 3 ≤ pl l a := by unfold pl; omega
  intro k
  induction k with
  | zero =>
    intro i f hi hf
    iterate 2 (refine G.st rfl rfl ?_)
    refine G.brt rfl (by show nI 3 ≤ nI i; rw [nI_leI (by omega) (by omega)]; omega) ?_
    iterate 2 (refine G.st rfl rfl ?_)
    refine G.call rfl rfl (Nat.le_of_ble_eq_true rfl) (Sp.up (s7_apartBy X _ _ _) (Nat.le_of_ble_eq_true rfl)) ?_
    rintro _ _ ⟨rfl, rfl⟩
    refine G.ret rfl rfl ⟨rfl, f, rfl, ?_⟩
    rw [← show i = 3 by omega]
    exact hf
  | succ k ih =>
    intro i f hi hf
    have fa : f (pl l a + i) = f0 (pl l a + i) := by
      rw [hf, if_neg (by omega)]
      rcases hab with rfl | h | h
      · rw [if_neg (by omega)]
      · rw [if_neg (by omega)]
      · rw [if_neg (by omega)]
    have fb : f (pl l b + i) = f0 (pl l b + i) := by
      rw [hf]
      rcases hab with rfl | h | h
      · rw [if_neg (by omega), if_neg (by omega)]
      · rw [if_neg (by omega), if_neg (by omega)]
      · rw [if_neg (by omega), if_neg (by omega)]
    iterate 2 (refine G.st rfl rfl ?_)
    refine G.brf rfl (by show ¬ nI 3 ≤ nI i; rw [nI_leI (by omega) (by omega)]; omega) ?_
    iterate 4 (refine G.st rfl rfl ?_)
    refine G.call rfl rfl (Nat.le_of_ble_eq_true rfl) (Sp.up (s7_pl X l a _) (Nat.le_of_ble_eq_true rfl)) ?_
    rintro _ _ ⟨rfl, rfl⟩
    iterate 2 (refine G.st rfl rfl ?_)
    rw [nI_add]
    iterate 3 (refine G.st rfl rfl ?_)
    refine G.call rfl rfl (Nat.le_of_ble_eq_true rfl) (Sp.up (s7_pl X l b _) (Nat.le_of_ble_eq_true rfl)) ?_
    rintro _ _ ⟨rfl, rfl⟩
    iterate 2 (refine G.st rfl rfl ?_)
    rw [nI_add]
    iterate 4 (refine G.st rfl rfl ?_)
    refine G.call rfl rfl (Nat.le_of_ble_eq_true rfl) (Sp.up (s7_pl X l a _) (Nat.le_of_ble_eq_true rfl)) ?_
    rintro _ _ ⟨rfl, rfl⟩
    iterate 2 (refine G.st rfl rfl ?_)
    rw [nI_add]
    refine G.iald rfl rfl (ix_nI (show pl l a + i < 110 by omega) (by omega)) ?_
    show G X 10 kX7_swap 68 [.ref 81, .int (nI l), .int (nI a), .int (nI b), .int (nI i)] [.int (f (pl l a + i)), .int (nI (pl l b + i)), .ref 81, .int (nI (pl l a + i)), .ref 82] (HR c (mSs m f)) _
    refine G.call rfl rfl (Nat.le_of_ble_eq_true rfl) (Sp.up (s7_becomes X (ix_nI (show pl l b + i < 110 by omega) (by omega))) (Nat.le_of_ble_eq_true rfl)) ?_
    rintro _ _ ⟨rfl, rfl⟩
    refine G.sst rfl (ix_nI (show pl l a + i < 110 by omega) (by omega)) ?_
    show G X 10 kX7_swap 72 [.ref 81, .int (nI l), .int (nI a), .int (nI b), .int (nI i)] [] (HR c (mSs m (upd (upd f (pl l b + i) (f (pl l a + i))) (pl l a + i) (f (pl l b + i))))) _
    iterate 1 (refine G.st rfl rfl ?_)
    rw [nI_1]
    iterate 1 (refine G.st rfl rfl ?_)
    refine ih (i + 1) _ (by omega) (fun x => ?_)
    rw [upd_if, upd_if, fa, fb]
    by_cases e : x = pl l a + i
    · rw [if_pos e, if_pos (by omega), e]
      congr 1
      omega
    · rw [if_neg e]
      by_cases e2 : x = pl l b + i
      · rw [if_pos e2]
        by_cases h3 : pl l a ≤ x ∧ x < pl l a + (i + 1)
        · rcases hab with h | h | h
          · subst h
            exact absurd e2 e
          · omega
          · omega
        · rw [if_neg h3, if_pos (by omega), e2]
          congr 1
          omega
      · rw [if_neg e2, hf x]
        by_cases h3 : pl l a ≤ x ∧ x < pl l a + i
        · rw [if_pos h3, if_pos (by omega)]
        · rw [if_neg h3, if_neg (show ¬ (pl l a ≤ x ∧ x < pl l a + (i + 1)) by omega)]
          by_cases h4 : pl l b ≤ x ∧ x < pl l b + i
          · rw [if_pos h4, if_pos (by omega)]
          · rw [if_neg h4, if_neg (show ¬ (pl l b ≤ x ∧ x < pl l b + (i + 1)) by omega)]
theorem p7_swap (X : aX) (line one other : Int32) (hS : SOk s) (hM : MR n m s) : Sp X 10 kX7_swap [.ref 81, .int line, .int one, .int other] (HR c m) (MP c n (S_swap s line one other)) := by
  unfold Sp S_swap
  show G X 10 kX7_swap 0 [.ref 81, .int line, .int one, .int other, .double 0] [] _ _
  have bad : G X 10 kX7_swap 18 [.ref 81, .int line, .int one, .int other, .double 0] [] (HR c m) (MP c n (fin 0 s)) := by
    iterate 2 (refine G.st rfl rfl ?_)
    refine G.call rfl rfl (Nat.le_of_ble_eq_true rfl) (Sp.up (c7_f0 X hM) (Nat.le_of_ble_eq_true rfl)) ?_
    rintro _ _ ⟨rfl, hci⟩
    exact G.ret rfl rfl ⟨rfl, hci⟩
  iterate 3 (refine G.st rfl rfl ?_)
  refine G.call rfl rfl (Nat.le_of_ble_eq_true rfl) (Sp.up (s7_isPeg X hS hM line one) (Nat.le_of_ble_eq_true rfl)) ?_
  rintro _ _ ⟨rfl, rfl⟩
  by_cases hp : pegOk s line one
  case neg =>
    rw [if_neg (fun q => hp q.1)]
    exact G.brt rfl (bI_0.mpr hp) bad
  refine G.brf rfl (bI_n hp) ?_
  iterate 3 (refine G.st rfl rfl ?_)
  refine G.call rfl rfl (Nat.le_of_ble_eq_true rfl) (Sp.up (s7_isPeg X hS hM line other) (Nat.le_of_ble_eq_true rfl)) ?_
  rintro _ _ ⟨rfl, rfl⟩
  by_cases hp2 : pegOk s line other
  case neg =>
    rw [if_neg (fun q => hp2 q.2)]
    exact G.brt rfl (bI_0.mpr hp2) bad
  refine G.brf rfl (bI_n hp2) ?_
  rw [if_pos ⟨hp, hp2⟩]
  obtain ⟨l, a, hl, rfl, ha, ha7, rfl⟩ := peg_n hS hp
  obtain ⟨l2, b, hl2, e, hb, hb7, rfl⟩ := peg_n hS hp2
  obtain rfl : l = l2 := (nI_eq (by omega) (by omega)).mp e
  have h7 := hS.len hl
  rw [ln_nI (by omega), ln_nI (by omega), ln_nI (by omega)]
  iterate 2 (refine G.st rfl rfl ?_)
  refine (l7_swap X hl ha7 hb7 (ms m) 3 0 (ms m) (by omega) (fun x => ?_)).imp ?_
  · rw [if_neg (by omega), if_neg (by omega)]
  · rintro _ _ ⟨rfl, f', rfl, hf⟩
    refine ⟨rfl, _, rfl, ?_⟩
    have hlen : (((zL s l).set a (gD (zL s l) b)).set b (gD (zL s l) a)).length = (zL s l).length := by rw [List.length_set, List.length_set]
    refine hM.line hS hl (by rw [hlen]; exact h7) (fun i hi hbk => ?_) ?_ (fun p hpp => ?_)
    · rw [hf i, if_neg (by unfold pl at *; omega), if_neg (by unfold pl at *; omega)]
    · rw [hf l, if_neg (by unfold pl at *; omega), if_neg (by unfold pl at *; omega), hM.len hl, hlen]
    · rw [hlen] at hpp
      rw [gD_set (by rw [List.length_set]; exact hb), gD_set ha]
      have hab : a = b ∨ pl l a + 3 ≤ pl l b ∨ pl l b + 3 ≤ pl l a := by unfold pl; omega
      obtain ⟨q1, q2, q3⟩ := hM.gar hl hpp
      obtain ⟨a1, a2, a3⟩ := hM.gar hl ha
      obtain ⟨b1, b2, b3⟩ := hM.gar hl hb
      unfold G3
      by_cases ea : p = a
      · subst ea
        rw [hf, hf, hf, if_pos (by omega), if_pos (by omega), if_pos (by omega), show pl l p - pl l p + pl l b = pl l b by omega, show pl l p + 1 - pl l p + pl l b = pl l b + 1 by omega, show pl l p + 2 - pl l p + pl l b = pl l b + 2 by omega, b1, b2, b3]
        by_cases eb : p = b
        · subst eb
          rw [if_pos rfl]
        · rw [if_neg eb, if_pos rfl]
      · have hpa : p = a ∨ pl l p + 3 ≤ pl l a ∨ pl l a + 3 ≤ pl l p := by unfold pl; omega
        by_cases eb : p = b
        · subst eb
          rw [hf, hf, hf, if_neg (by omega), if_pos (by omega), if_neg (by omega), if_pos (by omega), if_neg (by omega), if_pos (by omega), show pl l p - pl l p + pl l a = pl l a by omega, show pl l p + 1 - pl l p + pl l a = pl l a + 1 by omega, show pl l p + 2 - pl l p + pl l a = pl l a + 2 by omega, a1, a2, a3, if_pos rfl]
        · have hpb : p = b ∨ pl l p + 3 ≤ pl l b ∨ pl l b + 3 ≤ pl l p := by unfold pl; omega
          rw [hf, hf, hf, if_neg (by omega), if_neg (by omega), if_neg (by omega), if_neg (by omega), if_neg (by omega), if_neg (by omega), q1, q2, q3, if_neg eb, if_neg ea]
theorem p7_take (X : aX) (line : Int32) (hS : SOk s) (hM : MR n m s) : Sp X 10 kX7_take [.ref 81, .int line] (HR c m) (MP c n (S_take s line)) := by
  unfold Sp S_take
  show G X 10 kX7_take 0 [.ref 81, .int line] [] _ _
  iterate 1 (refine G.st rfl rfl ?_)
  refine G.call rfl rfl (Nat.le_of_ble_eq_true rfl) (Sp.up (s7_isLine X line _) (Nat.le_of_ble_eq_true rfl)) ?_
  rintro _ _ ⟨rfl, rfl⟩
  by_cases hl : 0 ≤ line ∧ line ≤ 3
  case neg =>
    rw [if_neg hl]
    refine G.brt rfl (bI_0.mpr hl) ?_
    iterate 2 (refine G.st rfl rfl ?_)
    refine G.call rfl rfl (Nat.le_of_ble_eq_true rfl) (Sp.up (c7_f0 X hM) (Nat.le_of_ble_eq_true rfl)) ?_
    rintro _ _ ⟨rfl, hci⟩
    exact G.ret rfl rfl ⟨rfl, hci⟩
  rw [if_pos hl]
  refine G.brf rfl (bI_n hl) ?_
  obtain ⟨l, hl4, rfl⟩ := lok_n hl
  rw [ln_nI (by omega)]
  iterate 5 (refine G.st rfl rfl ?_)
  refine G.call rfl rfl (Nat.le_of_ble_eq_true rfl) (Sp.up (s7_becomes X (ix0 (show l < 110 by omega) (by omega))) (Nat.le_of_ble_eq_true rfl)) ?_
  rintro _ _ ⟨rfl, rfl⟩
  iterate 1 (refine G.st rfl rfl ?_)
  refine G.ret rfl rfl ⟨by rw [hM.len hl4], _, rfl, ?_⟩
  exact hM.line hS hl4 (by simp) (fun i hi _ => upd_n hi) upd_s (fun p hp => absurd hp (Nat.not_lt_zero p))
theorem l7_aside (X : aX) {l L : Nat} (hl : l < 4) (hL : L ≤ 7) (hr : mrn m = nI L) (f0 : Nat → Int32) : ∀ (k i : Nat) (f : Nat → Int32), i + k = 3 * L → (∀ x, f x = if pl l 0 ≤ x ∧ x < pl l 0 + i then mrw m (x - pl l 0) else if x = l then nI L else f0 x) → G X 1 kX7_hangsAside 14 [.ref 81, .int (nI l), .int (nI i)] [] (HR c (mSs m f)) (fun v h' => v = none ∧ ∃ f', h' = HR c (mSs m f') ∧ ∀ x, f' x = if pl l 0 ≤ x ∧ x < pl l 0 + 3 * L then mrw m (x - pl l 0) else if x = l then nI L else f0 x) := by
  have hpl0 : pl l 0 = 26 + 21 * l := by unfold pl; omega
  intro k
  induction k with
  | zero =>
    intro i f hi hf
    iterate 4 (refine G.st rfl rfl ?_)
    show G X 1 kX7_hangsAside 20 [.ref 81, .int (nI l), .int (nI i)] [.int (mrn m), .int 3, .int (nI i)] (HR c (mSs m f)) _
    rw [hr]
    iterate 1 (refine G.st rfl rfl ?_)
    rw [show (3 : Int32) * nI L = nI (3 * L) from nI_mul 3 L]
    refine G.brt rfl (by rw [nI_leI (by omega) (by omega)]; omega) ?_
    refine G.ret rfl rfl ⟨rfl, f, rfl, ?_⟩
    rw [← show i = 3 * L by omega]
    exact hf
  | succ k ih =>
    intro i f hi hf
    iterate 4 (refine G.st rfl rfl ?_)
    show G X 1 kX7_hangsAside 20 [.ref 81, .int (nI l), .int (nI i)] [.int (mrn m), .int 3, .int (nI i)] (HR c (mSs m f)) _
    rw [hr]
    iterate 1 (refine G.st rfl rfl ?_)
    rw [show (3 : Int32) * nI L = nI (3 * L) from nI_mul 3 L]
    refine G.brf rfl (by rw [nI_leI (by omega) (by omega)]; omega) ?_
    iterate 4 (refine G.st rfl rfl ?_)
    refine G.call rfl rfl (Nat.le_of_ble_eq_true rfl) (Sp.up (s7_pl X l 0 _) (Nat.le_of_ble_eq_true rfl)) ?_
    rintro _ _ ⟨rfl, rfl⟩
    iterate 2 (refine G.st rfl rfl ?_)
    rw [nI_add]
    iterate 3 (refine G.st rfl rfl ?_)
    refine G.iald rfl rfl (ix_nI (show i < 45 by omega) (by omega)) ?_
    refine G.sst rfl (ix_nI (show pl l 0 + i < 110 by omega) (by omega)) ?_
    show G X 1 kX7_hangsAside 42 [.ref 81, .int (nI l), .int (nI i)] [] (HR c (mSs m (upd f (pl l 0 + i) (mrw m i)))) _
    iterate 1 (refine G.st rfl rfl ?_)
    rw [nI_1]
    iterate 1 (refine G.st rfl rfl ?_)
    refine ih (i + 1) _ (by omega) (fun x => ?_)
    rw [upd_if]
    by_cases e : x = pl l 0 + i
    · rw [if_pos e, if_pos (by omega), e]
      congr 1
      omega
    · rw [if_neg e, hf x]
      by_cases h2 : pl l 0 ≤ x ∧ x < pl l 0 + i
      · rw [if_pos h2, if_pos (by omega)]
      · rw [if_neg h2, if_neg (show ¬ (pl l 0 ≤ x ∧ x < pl l 0 + (i + 1)) by omega)]
theorem s7_hangsAside (X : aX) {l : Nat} {g : List Gar} (hS : SOk s) (hM : MR n m s) (hl : l < 4) (hg : RW m g) (hr : mrn m = nI g.length) (h7 : g.length ≤ 7) : Sp X 1 kX7_hangsAside [.ref 81, .int (nI l)] (HR c m) (fun v h' => v = none ∧ ∃ m', h' = HR c m' ∧ MR n m' (zSL s (va_up (zL s) l g)) ∧ mrn m' = nI g.length) := by
  unfold Sp
  have hpl0 : pl l 0 = 26 + 21 * l := by unfold pl; omega
  iterate 7 (refine G.st rfl rfl ?_)
  show G X 1 kX7_hangsAside 11 [.ref 81, .int (nI l), .double 0] [.int (mrn m), .int (0 + nI l), .ref 82] (HR c m) _
  rw [hr]
  refine G.sst rfl (ix0 (show l < 110 by omega) (by omega)) ?_
  iterate 2 (refine G.st rfl rfl ?_)
  refine (l7_aside X (c := c) (m := m) hl h7 hr (ms m) (3 * g.length) 0 (upd (ms m) l (nI g.length)) (by omega) (fun x => ?_)).imp ?_
  · rw [upd_if, if_neg (show ¬ (pl l 0 ≤ x ∧ x < pl l 0 + 0) by omega)]
  · rintro _ _ ⟨rfl, f', rfl, hf⟩
    refine ⟨rfl, _, rfl, ?_, hr⟩
    refine hM.line hS hl h7 (fun i hi hb => ?_) ?_ (fun p hp => ?_)
    · rw [hf i, if_neg (by unfold pl at *; omega), if_neg hi]
    · rw [hf l, if_neg (by omega), if_pos rfl]
    · obtain ⟨g1, g2, g3⟩ := G3_at (hg p hp)
      have e : pl l p = pl l 0 + 3 * p := by unfold pl; omega
      unfold G3
      rw [hf, hf, hf, if_pos (by omega), if_pos (by omega), if_pos (by omega), e, show pl l 0 + 3 * p - pl l 0 = 3 * p by omega, show pl l 0 + 3 * p + 1 - pl l 0 = 3 * p + 1 by omega, show pl l 0 + 3 * p + 2 - pl l 0 = 3 * p + 2 by omega, g1, g2, g3]
theorem p7_like (X : aX) (line other : Int32) (hS : SOk s) (hM : MR n m s) : Sp X 10 kX7_like [.ref 81, .int line, .int other] (HR c m) (MP c n (S_like s line other)) := by
  unfold Sp S_like
  show G X 10 kX7_like 0 [.ref 81, .int line, .int other] [] _ _
  have bad : G X 10 kX7_like 14 [.ref 81, .int line, .int other] [] (HR c m) (MP c n (fin 0 s)) := by
    iterate 2 (refine G.st rfl rfl ?_)
    refine G.call rfl rfl (Nat.le_of_ble_eq_true rfl) (Sp.up (c7_f0 X hM) (Nat.le_of_ble_eq_true rfl)) ?_
    rintro _ _ ⟨rfl, hci⟩
    exact G.ret rfl rfl ⟨rfl, hci⟩
  iterate 1 (refine G.st rfl rfl ?_)
  refine G.call rfl rfl (Nat.le_of_ble_eq_true rfl) (Sp.up (s7_isLine X line _) (Nat.le_of_ble_eq_true rfl)) ?_
  rintro _ _ ⟨rfl, rfl⟩
  by_cases hl : 0 ≤ line ∧ line ≤ 3
  case neg =>
    rw [if_neg (fun q => hl q.1)]
    exact G.brt rfl (bI_0.mpr hl) bad
  refine G.brf rfl (bI_n hl) ?_
  iterate 1 (refine G.st rfl rfl ?_)
  refine G.call rfl rfl (Nat.le_of_ble_eq_true rfl) (Sp.up (s7_isLine X other _) (Nat.le_of_ble_eq_true rfl)) ?_
  rintro _ _ ⟨rfl, rfl⟩
  by_cases hm : 0 ≤ other ∧ other ≤ 3
  case neg =>
    rw [if_neg (fun q => hm q.2)]
    exact G.brt rfl (bI_0.mpr hm) bad
  refine G.brf rfl (bI_n hm) ?_
  rw [if_pos ⟨hl, hm⟩]
  obtain ⟨l, hl4, rfl⟩ := lok_n hl
  obtain ⟨l2, hl42, rfl⟩ := lok_n hm
  have h7 := hS.len hl42
  rw [ln_nI (by omega), ln_nI (by omega)]
  iterate 2 (refine G.st rfl rfl ?_)
  refine G.call rfl rfl (Nat.le_of_ble_eq_true rfl) (Sp.up (s7_lays X hS hM hl42) (Nat.le_of_ble_eq_true rfl)) ?_
  rintro _ _ ⟨rfl, m', rfl, hra, hrw, hrn⟩
  iterate 2 (refine G.st rfl rfl ?_)
  refine G.call rfl rfl (Nat.le_of_ble_eq_true rfl) (Sp.up (s7_hangsAside X hS (hra.MR hM) hl4 hrw hrn h7) (Nat.le_of_ble_eq_true rfl)) ?_
  rintro _ _ ⟨rfl, m2, rfl, hM2, hrn2⟩
  iterate 2 (refine G.st rfl rfl ?_)
  exact G.ret rfl rfl ⟨by show some (Value.int (mrn m2)) = _; rw [hrn2], m2, rfl, hM2⟩
end RLINES2
