/-! ===== the reference: best, more, days ===== -/
section RBEST
variable {c : Nat → aC} {m : sM} {s : Sg} {n : Nat}
theorem c7_orI (X : aX) (x : Int32) (hM : MR n m s) : Sp X 1 kX7_orNone [.ref 81, .int x] (HR c m) (MP c n (if 0 ≤ x then (x, s) else fin 3 s)) := by
  unfold Sp
  iterate 1 (refine G.st rfl rfl ?_)
  by_cases h : 0 ≤ x
  · rw [if_pos h]
    refine G.brt rfl h ?_
    iterate 1 (refine G.st rfl rfl ?_)
    exact G.ret rfl rfl ⟨rfl, m, rfl, hM⟩
  · rw [if_neg h]
    refine G.brf rfl h ?_
    iterate 2 (refine G.st rfl rfl ?_)
    refine G.call rfl rfl (Nat.le_of_ble_eq_true rfl) (Sp.up (c7_f3 X hM) (Nat.le_of_ble_eq_true rfl)) ?_
    rintro _ _ ⟨rfl, hci⟩
    iterate 1 (refine G.st rfl rfl ?_)
    exact G.ret rfl rfl ⟨rfl, hci⟩
theorem bestN_none {b : Nat} (hb : b < 10) (h : zN s b = none) : ∀ k, bestN s (nI b) k = (-1, 0)
  | 0 => rfl
  | k + 1 => by
    unfold bestN
    rw [wndN_none hb h, bestN_none hb h k]
    exact if_pos (by decide)
theorem l7_best (X : aX) {b : Nat} (hS : SOk s) (hb : b < 10) (hx : (zN s b).isSome = true) : ∀ (k l : Nat) (m : sM) (u5 : Value), l + k = 4 → MR n m s → G X 10 kX7_best 21 [.ref 81, .int (nI b), .int (bestN s (nI b) l).1, .int (bestN s (nI b) l).2, .int (nI l), u5] [] (HR c m) (MP c n (if 0 ≤ (bestN s (nI b) 4).1 then ((bestN s (nI b) 4).1, s) else fin 3 s)) := by
  intro k
  induction k with
  | zero =>
    intro l m u5 hl hM
    iterate 2 (refine G.st rfl rfl ?_)
    refine G.brt rfl (by show nI 4 ≤ nI l; rw [nI_leI (by omega) (by omega)]; omega) ?_
    iterate 2 (refine G.st rfl rfl ?_)
    refine G.call rfl rfl (Nat.le_of_ble_eq_true rfl) (Sp.up (c7_orI X _ hM) (Nat.le_of_ble_eq_true rfl)) ?_
    rintro _ _ ⟨rfl, hci⟩
    obtain rfl : l = 4 := by omega
    exact G.ret rfl rfl ⟨rfl, hci⟩
  | succ k ih =>
    intro l m u5 hl hM
    iterate 2 (refine G.st rfl rfl ?_)
    refine G.brf rfl (by show ¬ nI 4 ≤ nI l; rw [nI_leI (by omega) (by omega)]; omega) ?_
    iterate 5 (refine G.st rfl rfl ?_)
    refine G.iald rfl rfl (ixa (k := 6) rfl (show 6 + b < 110 by omega) (by omega)) ?_
    rw [hM.has hb]
    iterate 1 (refine G.st rfl rfl ?_)
    refine G.brt rfl (bI_1.mpr hx) ?_
    iterate 3 (refine G.st rfl rfl ?_)
    refine G.call rfl rfl (Nat.le_of_ble_eq_true rfl) (Sp.up (s7_windsOf X hS hM (show l < 4 by omega)) (Nat.le_of_ble_eq_true rfl)) ?_
    rintro _ _ ⟨rfl, m', rfl, hM'⟩
    obtain ⟨w, hw1, hw2⟩ := wnd_n (nm := zN s) (g := zL s l) (mn := nI b) 21 (by omega)
    have hbc : bcI (wndN (zN s) (zL s l) (nI b) 21) = nI (popR 32 w) := by rw [hw2, bcI_pop, tnI_nI (by omega)]
    rw [hw2]
    refine G.call rfl rfl (Nat.le_of_ble_eq_true rfl) (Sp.up (s7_manyIn X (show w < 2 ^ 31 by omega) _) (Nat.le_of_ble_eq_true rfl)) ?_
    rintro _ _ ⟨rfl, rfl⟩
    rw [← hbc]
    have := ih (l + 1) m' (.int (bcI (wndN (zN s) (zL s l) (nI b) 21))) (by omega) hM'
    iterate 3 (refine G.st rfl rfl ?_)
    by_cases hc : bcI (wndN (zN s) (zL s l) (nI b) 21) ≤ (bestN s (nI b) l).2
    · have e : bestN s (nI b) (l + 1) = bestN s (nI b) l := by
        conv => lhs; unfold bestN
        exact if_pos hc
      rw [e] at this
      refine G.brt rfl hc ?_
      iterate 4 (refine G.st rfl rfl ?_)
      refine G.brt rfl hc ?_
      iterate 3 (refine G.st rfl rfl ?_)
      rw [nI_1]
      iterate 1 (refine G.st rfl rfl ?_)
      exact this
    · have e : bestN s (nI b) (l + 1) = (nI l, bcI (wndN (zN s) (zL s l) (nI b) 21)) := by
        conv => lhs; unfold bestN
        exact if_neg hc
      rw [e] at this
      refine G.brf rfl hc ?_
      iterate 5 (refine G.st rfl rfl ?_)
      refine G.brf rfl hc ?_
      iterate 4 (refine G.st rfl rfl ?_)
      rw [nI_1]
      iterate 1 (refine G.st rfl rfl ?_)
      exact this
theorem p7_best (X : aX) (mn : Int32) (hS : SOk s) (hM : MR n m s) : Sp X 10 kX7_best [.ref 81, .int mn] (HR c m) (MP c n (S_best s mn)) := by
  unfold Sp S_best
  show G X 10 kX7_best 0 [.ref 81, .int mn, .double 0, .double 0, .double 0, .double 0] [] _ _
  iterate 1 (refine G.st rfl rfl ?_)
  refine G.call rfl rfl (Nat.le_of_ble_eq_true rfl) (Sp.up (s7_isMeaning X mn _) (Nat.le_of_ble_eq_true rfl)) ?_
  rintro _ _ ⟨rfl, rfl⟩
  by_cases hm : 0 ≤ mn ∧ mn ≤ 9
  case neg =>
    rw [if_neg hm]
    refine G.brt rfl (bI_0.mpr hm) ?_
    iterate 2 (refine G.st rfl rfl ?_)
    refine G.call rfl rfl (Nat.le_of_ble_eq_true rfl) (Sp.up (c7_f0 X hM) (Nat.le_of_ble_eq_true rfl)) ?_
    rintro _ _ ⟨rfl, hci⟩
    exact G.ret rfl rfl ⟨rfl, hci⟩
  rw [if_pos hm]
  refine G.brf rfl (bI_n hm) ?_
  obtain ⟨b, hb, rfl⟩ := mok_n hm
  iterate 6 (refine G.st rfl rfl ?_)
  by_cases hx : (zN s b).isSome = true
  · exact l7_best X hS hb hx 4 0 m (.double 0) (by omega) hM
  · have hn : zN s b = none := by simpa using hx
    rw [bestN_none hb hn 4]
    iterate 2 (refine G.st rfl rfl ?_)
    refine G.brf rfl (by decide) ?_
    iterate 5 (refine G.st rfl rfl ?_)
    refine G.iald rfl rfl (ixa (k := 6) rfl (show 6 + b < 110 by omega) (by omega)) ?_
    rw [hM.has hb]
    iterate 1 (refine G.st rfl rfl ?_)
    refine G.brf rfl (fun q => hx (bI_1.mp q)) ?_
    iterate 2 (refine G.st rfl rfl ?_)
    refine G.call rfl rfl (Nat.le_of_ble_eq_true rfl) (Sp.up (c7_orI X _ hM) (Nat.le_of_ble_eq_true rfl)) ?_
    rintro _ _ ⟨rfl, hci⟩
    exact G.ret rfl rfl ⟨rfl, hci⟩
theorem moreF_none {nm : Nat → Option Int32} {w : Int32} {g : List Gar} {b : Nat} (hb : b < 10) (h : nm b = none) : ∀ k q, moreF nm w g (nI b) k q = none
  | 0, _ => rfl
  | k + 1, q => by
    unfold moreF
    rw [if_neg (fun x => rd_none hb h _ x.2)]
    exact moreF_none hb h k (q + 1)
theorem code60 : ∀ k, k < 60 → 0 < k → ((nI k - nI k / 10 * 10 ≤ 0 ↔ nI k - nI k / 10 * 10 = 0) ∧ (nI k - nI k / 10 * 10 ≠ 0 → (0 ≤ nI k / 10 ∧ nI k / 10 ≤ 5) ∧ 1 ≤ nI k - nI k / 10 * 10 ∧ nI k - nI k / 10 * 10 ≤ 9)) := by decide +kernel
theorem l7_more (X : aX) {l b : Nat} {m0 : sM} (hS : SOk s) (hl : l < 4) (hb : b < 10) (hx : (zN s b).isSome = true) (hM : MR n m0 s) (hrn : mrn m0 = nI ((zL s l).length + 1)) (hra : ∀ f, MR n (mSrw m0 f) s) : ∀ (k q : Nat) (f : Nat → Int32), q + k = 60 → 0 < q → (∀ p, p < (zL s l).length → G3 f (3 * p) = gD (zL s l) p) → f (3 * (zL s l).length + 2) = 0 → G X 10 kX7_more 55 [.ref 81, .int (nI l), .int (nI b), .int (nI (3 * (zL s l).length)), .int (nI q)] [] (HR c (mSrw m0 f)) (MP c n (oNo s (moreF (zN s) (zW s) (zL s l) (nI b) k q))) := by
  have h7 := hS.len hl
  intro k
  induction k with
  | zero =>
    intro q f hq hq0 hf hf2
    iterate 2 (refine G.st rfl rfl ?_)
    refine G.brt rfl (le_nI (k := 60) rfl (by omega) (by omega)) ?_
    iterate 2 (refine G.st rfl rfl ?_)
    refine G.call rfl rfl (Nat.le_of_ble_eq_true rfl) (Sp.up (c7_f3 X (hra f)) (Nat.le_of_ble_eq_true rfl)) ?_
    rintro _ _ ⟨rfl, hci⟩
    exact G.ret rfl rfl ⟨rfl, hci⟩
  | succ k ih =>
    intro q f hq hq0 hf hf2
    obtain ⟨c1, c2⟩ := code60 q (by omega) hq0
    have e10 : ¬ (10 : Int32) = 0 := by decide
    iterate 2 (refine G.st rfl rfl ?_)
    refine G.brf rfl (nle_nI (k := 60) rfl (by omega) (by omega)) ?_
    iterate 5 (refine G.st rfl rfl ?_)
    refine G.iald rfl rfl (ixa (k := 6) rfl (show 6 + b < 110 by omega) (by omega)) ?_
    rw [(hra f).has hb]
    iterate 1 (refine G.st rfl rfl ?_)
    refine G.brt rfl (bI_1.mpr hx) ?_
    iterate 6 (refine G.st rfl rfl ?_)
    refine G.rst rfl (ix_nI (show 3 * (zL s l).length < 45 by omega) (by omega)) ?_
    iterate 5 (refine G.st rfl rfl ?_)
    rw [nI_1]
    iterate 3 (refine G.st rfl rfl ?_)
    refine G.rst rfl (ix_nI (show 3 * (zL s l).length + 1 < 45 by omega) (by omega)) ?_
    show G X 10 kX7_more 99 [.ref 81, .int (nI l), .int (nI b), .int (nI (3 * (zL s l).length)), .int (nI q)] [] (HR c (mSrw m0 (upd (upd f (3 * (zL s l).length) (nI q / 10)) (3 * (zL s l).length + 1) (nI q - nI q / 10 * 10)))) _
    generalize hf' : upd (upd f (3 * (zL s l).length) (nI q / 10)) (3 * (zL s l).length + 1) (nI q - nI q / 10 * 10) = f'
    have f1 : ∀ p, p < (zL s l).length → G3 f' (3 * p) = gD (zL s l) p := by
      intro p hp
      rw [← hf', ← hf p hp]
      unfold G3
      rw [upd_n (by omega), upd_n (by omega), upd_n (by omega), upd_n (by omega), upd_n (by omega), upd_n (by omega)]
    have f2 : f' (3 * (zL s l).length + 2) = 0 := by
      rw [← hf', upd_n (by omega), upd_n (by omega)]
      exact hf2
    have fg : G3 f' (3 * (zL s l).length) = (nI q / 10, nI q - nI q / 10 * 10, 0) := by
      unfold G3
      rw [f2, ← hf', upd_n (by omega), upd_s, upd_s]
    have next : G X 10 kX7_more 122 [.ref 81, .int (nI l), .int (nI b), .int (nI (3 * (zL s l).length)), .int (nI q)] [] (HR c (mSrw m0 f')) (MP c n (oNo s (moreF (zN s) (zW s) (zL s l) (nI b) k (q + 1)))) := by
      iterate 1 (refine G.st rfl rfl ?_)
      rw [nI_1]
      iterate 1 (refine G.st rfl rfl ?_)
      exact ih (q + 1) f' (by omega) (by omega) f1 f2
    iterate 3 (refine G.st rfl rfl ?_)
    unfold moreF
    by_cases hz : nI q - nI q / 10 * 10 = 0
    · rw [if_neg (fun w => w.1 hz)]
      exact G.brt rfl (c1.mpr hz) next
    refine G.brf rfl (fun w => hz (c1.mp w)) ?_
    obtain ⟨k1, k2⟩ := c2 hz
    have hRW : RW (mSrw m0 f') (zL s l ++ [(nI q / 10, nI q - nI q / 10 * 10, 0)]) := by
      intro p hp
      rw [List.length_append, List.length_singleton] at hp
      rw [gD_app]
      by_cases e : p = (zL s l).length
      · rw [if_pos e, e]
        exact fg
      · rw [if_neg e]
        exact f1 p (by omega)
    have hgk := gKs_app (hS.gk hl) (gK_new k1 k2)
    iterate 2 (refine G.st rfl rfl ?_)
    refine G.call rfl rfl (Nat.le_of_ble_eq_true rfl) (Sp.up (s7_worthAside X (hra f') hRW (by rw [List.length_append, List.length_singleton]; exact hrn) hgk (by rw [List.length_append, List.length_singleton]; omega)) (Nat.le_of_ble_eq_true rfl)) ?_
    rintro _ _ ⟨rfl, rfl⟩
    refine G.call rfl rfl (Nat.le_of_ble_eq_true rfl) (Sp.up (s7_readAs X (hra f')) (Nat.le_of_ble_eq_true rfl)) ?_
    rintro _ _ ⟨rfl, rfl⟩
    iterate 1 (refine G.st rfl rfl ?_)
    by_cases hc : rdI (rd (zN s) (wlst (zW s) (zL s l ++ [(nI q / 10, nI q - nI q / 10 * 10, 0)]))) = nI b
    · rw [if_pos ⟨hz, hc⟩]
      refine G.brt rfl hc ?_
      iterate 1 (refine G.st rfl rfl ?_)
      exact G.ret rfl rfl ⟨rfl, _, rfl, hra f'⟩
    · rw [if_neg (fun w => hc w.2)]
      exact G.brf rfl hc next
theorem p7_more (X : aX) (line mn : Int32) (hS : SOk s) (hM : MR n m s) : Sp X 10 kX7_more [.ref 81, .int line, .int mn] (HR c m) (MP c n (S_more s line mn)) := by
  unfold Sp S_more
  show G X 10 kX7_more 0 [.ref 81, .int line, .int mn, .double 0, .double 0] [] _ _
  have bad : G X 10 kX7_more 14 [.ref 81, .int line, .int mn, .double 0, .double 0] [] (HR c m) (MP c n (fin 0 s)) := by
    iterate 2 (refine G.st rfl rfl ?_)
    refine G.call rfl rfl (Nat.le_of_ble_eq_true rfl) (Sp.up (c7_f0 X hM) (Nat.le_of_ble_eq_true rfl)) ?_
    rintro _ _ ⟨rfl, hci⟩
    exact G.ret rfl rfl ⟨rfl, hci⟩
  iterate 1 (refine G.st rfl rfl ?_)
  refine G.call rfl rfl (Nat.le_of_ble_eq_true rfl) (Sp.up (s7_isLine X line _) (Nat.le_of_ble_eq_true rfl)) ?_
  rintro _ _ ⟨rfl, rfl⟩
  by_cases hl : 0 ≤ line ∧ line ≤ 3
  case neg =>
    rw [if_neg (fun q => hl q.1)]
    exact G.brt rfl (bI_0.mpr hl) bad
  refine G.brf rfl (bI_n hl) ?_
  iterate 1 (refine G.st rfl rfl ?_)
  refine G.call rfl rfl (Nat.le_of_ble_eq_true rfl) (Sp.up (s7_isMeaning X mn _) (Nat.le_of_ble_eq_true rfl)) ?_
  rintro _ _ ⟨rfl, rfl⟩
  by_cases hm : 0 ≤ mn ∧ mn ≤ 9
  case neg =>
    rw [if_neg (fun q => hm q.2)]
    exact G.brt rfl (bI_0.mpr hm) bad
  refine G.brf rfl (bI_n hm) ?_
  rw [if_pos ⟨hl, hm⟩]
  obtain ⟨l, hl4, rfl⟩ := lok_n hl
  obtain ⟨b, hb, rfl⟩ := mok_n hm
  have h7 := hS.len hl4
  rw [ln_nI (by omega)]
  iterate 2 (refine G.st rfl rfl ?_)
  refine G.call rfl rfl (Nat.le_of_ble_eq_true rfl) (Sp.up (s7_lays X hS hM hl4) (Nat.le_of_ble_eq_true rfl)) ?_
  rintro _ _ ⟨rfl, m', rfl, hra, hrw, hrn⟩
  have hM' := hra.MR hM
  iterate 3 (refine G.st rfl rfl ?_)
  show G X 10 kX7_more 31 [.ref 81, .int (nI l), .int (nI b), .double 0, .double 0] [.int (mrn m'), .int 3] (HR c m') _
  rw [hrn]
  iterate 1 (refine G.st rfl rfl ?_)
  rw [show (3 : Int32) * nI (zL s l).length = nI (3 * (zL s l).length) from nI_mul 3 _]
  iterate 5 (refine G.st rfl rfl ?_)
  show G X 10 kX7_more 39 [.ref 81, .int (nI l), .int (nI b), .int (nI (3 * (zL s l).length)), .double 0] [.int 1, .int (mrn m'), .ref 81] (HR c m') _
  rw [hrn]
  iterate 1 (refine G.st rfl rfl ?_)
  rw [nI_1]
  iterate 1 (refine G.st rfl rfl ?_)
  show G X 10 kX7_more 43 [.ref 81, .int (nI l), .int (nI b), .int (nI (3 * (zL s l).length)), .double 0] [] (HR c (mSrn m' (nI ((zL s l).length + 1)))) _
  have hm1 : MR n (mSrn m' (nI ((zL s l).length + 1))) s := hM'
  have hm2 : ∀ f, MR n (mSrw (mSrn m' (nI ((zL s l).length + 1))) f) s := fun _ => hM'
  have hm3 : mrn (mSrn m' (nI ((zL s l).length + 1))) = nI ((zL s l).length + 1) := rfl
  have hm4 : RW (mSrn m' (nI ((zL s l).length + 1))) (zL s l) := hrw
  generalize mSrn m' (nI ((zL s l).length + 1)) = m0 at hm1 hm2 hm3 hm4 ⊢
  iterate 5 (refine G.st rfl rfl ?_)
  rw [show (2 : Int32) = nI 2 from rfl, nI_add]
  iterate 1 (refine G.st rfl rfl ?_)
  refine G.rst rfl (ix_nI (show 3 * (zL s l).length + 2 < 45 by omega) (by omega)) ?_
  iterate 2 (refine G.st rfl rfl ?_)
  by_cases hx : (zN s b).isSome = true
  · refine (l7_more X hS hl4 hb hx hm1 hm3 hm2 59 1 _ (by omega) (by omega) (fun p hp => ?_) upd_s).imp ?_
    · rw [← hm4 p hp]
      unfold G3
      rw [upd_n (by omega), upd_n (by omega), upd_n (by omega)]
    · intro v h' hq
      exact hq
  · have hn : zN s b = none := by simpa using hx
    rw [moreF_none hb hn]
    iterate 2 (refine G.st rfl rfl ?_)
    refine G.brf rfl (by decide) ?_
    iterate 5 (refine G.st rfl rfl ?_)
    refine G.iald rfl rfl (ixa (k := 6) rfl (show 6 + b < 110 by omega) (by omega)) ?_
    rw [(hm2 _).has hb]
    iterate 1 (refine G.st rfl rfl ?_)
    refine G.brf rfl (fun q => hx (bI_1.mp q)) ?_
    iterate 2 (refine G.st rfl rfl ?_)
    refine G.call rfl rfl (Nat.le_of_ble_eq_true rfl) (Sp.up (c7_f3 X (hm2 _)) (Nat.le_of_ble_eq_true rfl)) ?_
    rintro _ _ ⟨rfl, hci⟩
    exact G.ret rfl rfl ⟨rfl, hci⟩
end RBEST
