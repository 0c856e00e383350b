/-! ===== the reference: copy, lays, show, check ===== -/
section RSHEET2
variable {c : Nat → aC} {m : sM} {s : Sg} {n : Nat}
theorem len_I (hS : SOk s) {t : Nat} (ht : t < 4) : 0 ≤ nI (zS s t).2.length ∧ nI (zS s t).2.length ≤ 40 := by
  have := (hS.2.2.2 t ht).1
  refine ⟨nI_pos' (by omega), ?_⟩
  show _ ≤ nI 40
  rw [nI_leI (by omega) (by omega)]
  exact this
theorem p7_copy (X : aX) (a p b q k : Int32) (hS : SOk s) (hM : MR n m s) : Sp X 10 kX7_copy [.ref 81, .int a, .int p, .int b, .int q, .int k] (HR c m) (MP c n (S_copy s a p b q k)) := by
  unfold Sp S_copy
  show G X 10 kX7_copy 0 [.ref 81, .int a, .int p, .int b, .int q, .int k, .double 0, .double 0, .double 0, .double 0] [] _ _
  have bad : G X 10 kX7_copy 14 [.ref 81, .int a, .int p, .int b, .int q, .int k, .double 0, .double 0, .double 0, .double 0] [] (HR c m) (MP c n (fin 0 s)) := by
    iterate 2 (refine G.st rfl rfl ?_)
    refine G.call rfl rfl (Nat.le_of_ble_eq_true rfl) (Sp.up (c7_f0 X hM) (Nat.le_of_ble_eq_true rfl)) ?_
    rintro _ _ ⟨rfl, hci⟩
    exact G.ret rfl rfl ⟨rfl, hci⟩
  iterate 1 (refine G.st rfl rfl ?_)
  refine G.call rfl rfl (Nat.le_of_ble_eq_true rfl) (Sp.up (s7_isSheet X a _) (Nat.le_of_ble_eq_true rfl)) ?_
  rintro _ _ ⟨rfl, rfl⟩
  by_cases hl : 0 ≤ a ∧ a ≤ 3
  case neg =>
    rw [if_neg (fun q => hl q.1)]
    exact G.brt rfl (bI_0.mpr hl) bad
  refine G.brf rfl (bI_n hl) ?_
  iterate 1 (refine G.st rfl rfl ?_)
  refine G.call rfl rfl (Nat.le_of_ble_eq_true rfl) (Sp.up (s7_isSheet X b _) (Nat.le_of_ble_eq_true rfl)) ?_
  rintro _ _ ⟨rfl, rfl⟩
  by_cases hl2 : 0 ≤ b ∧ b ≤ 3
  case neg =>
    rw [if_neg (fun q => hl2 q.2)]
    exact G.brt rfl (bI_0.mpr hl2) bad
  refine G.brf rfl (bI_n hl2) ?_
  rw [if_pos ⟨hl, hl2⟩]
  obtain ⟨t, ht, rfl⟩ := lok_n hl
  obtain ⟨u, hu, rfl⟩ := lok_n hl2
  rw [ln_nI (by omega), ln_nI (by omega)]
  obtain ⟨t1, t2⟩ := hM.bits hS ht
  obtain ⟨u1, u2⟩ := hM.bits hS hu
  have hx := ix_nI (show t < 4 by omega) (by omega)
  have hy := ix_nI (show u < 4 by omega) (by omega)
  have miss : G X 10 kX7_copy 39 [.ref 81, .int (nI t), .int p, .int (nI u), .int q, .int k, .double 0, .double 0, .double 0, .double 0] [] (HR c m) (MP c n (fin 5 s)) := by
    iterate 2 (refine G.st rfl rfl ?_)
    refine G.call rfl rfl (Nat.le_of_ble_eq_true rfl) (Sp.up (c7_f5 X hM) (Nat.le_of_ble_eq_true rfl)) ?_
    rintro _ _ ⟨rfl, hci⟩
    exact G.ret rfl rfl ⟨rfl, hci⟩
  iterate 3 (refine G.st rfl rfl ?_)
  refine G.iald rfl rfl hx ?_
  by_cases ha0 : (zS s t).1 = 0
  · rw [if_pos (Or.inl ha0)]
    exact G.brt rfl (t1.mpr ha0) miss
  refine G.brf rfl (fun w => ha0 (t1.mp w)) ?_
  iterate 3 (refine G.st rfl rfl ?_)
  refine G.iald rfl rfl hy ?_
  by_cases hb0 : (zS s u).1 = 0
  · rw [if_pos (Or.inr hb0)]
    exact G.brf rfl (Int32.not_le.mpr (u1.mpr hb0)) miss
  rw [if_neg (fun w => w.elim ha0 hb0)]
  refine G.brt rfl (Int32.not_lt.mp (fun w => hb0 (u1.mp w))) ?_
  iterate 3 (refine G.st rfl rfl ?_)
  refine G.iald rfl rfl hx ?_
  iterate 3 (refine G.st rfl rfl ?_)
  refine G.iald rfl rfl hy ?_
  rw [t2 ha0, u2 hb0]
  by_cases hk : (zS s t).1 = (zS s u).1
  case neg =>
    rw [if_neg hk]
    refine G.brf rfl hk ?_
    iterate 2 (refine G.st rfl rfl ?_)
    refine G.call rfl rfl (Nat.le_of_ble_eq_true rfl) (Sp.up (c7_f2 X hM) (Nat.le_of_ble_eq_true rfl)) ?_
    rintro _ _ ⟨rfl, hci⟩
    exact G.ret rfl rfl ⟨rfl, hci⟩
  rw [if_pos hk]
  refine G.brt rfl hk ?_
  have h40 := (hS.2.2.2 t ht).1
  have h41 := (hS.2.2.2 u hu).1
  obtain ⟨q1, q2, q3⟩ := hM.2.2.2.1 t ht
  obtain ⟨r1, r2, r3⟩ := hM.2.2.2.1 u hu
  have e1 := rngI (p := p) (k := k) (len_I hS ht)
  have e2 := rngI (p := q) (k := k) (len_I hS hu)
  have bad2 : ¬ (rngOk (zS s t) p k ∧ rngOk (zS s u) q k) → G X 10 kX7_copy 110 [.ref 81, .int (nI t), .int p, .int (nI u), .int q, .int k, .double 0, .double 0, .double 0, .double 0] [] (HR c m) (MP c n (if rngOk (zS s t) p k ∧ rngOk (zS s u) q k then (k, zSS s (va_up (zS s) u ((zS s u).1, cpyL (zS s t).2 (zS s u).2 (ln p) (ln q) (ln k)))) else fin 0 s)) := by
    intro hno
    rw [if_neg hno]
    iterate 2 (refine G.st rfl rfl ?_)
    refine G.call rfl rfl (Nat.le_of_ble_eq_true rfl) (Sp.up (c7_f0 X hM) (Nat.le_of_ble_eq_true rfl)) ?_
    rintro _ _ ⟨rfl, hci⟩
    exact G.ret rfl rfl ⟨rfl, hci⟩
  iterate 1 (refine G.st rfl rfl ?_)
  by_cases hp0 : p < 0
  · exact G.brt rfl hp0 (bad2 (fun w => absurd hp0 (Int32.not_lt.mpr w.1.1)))
  refine G.brf rfl hp0 ?_
  iterate 1 (refine G.st rfl rfl ?_)
  by_cases hq0 : q < 0
  · exact G.brt rfl hq0 (bad2 (fun w => absurd hq0 (Int32.not_lt.mpr w.2.1)))
  refine G.brf rfl hq0 ?_
  iterate 1 (refine G.st rfl rfl ?_)
  by_cases hk0 : k < 0
  · exact G.brt rfl hk0 (bad2 (fun w => absurd hk0 (Int32.not_lt.mpr w.1.2.1)))
  refine G.brf rfl hk0 ?_
  iterate 4 (refine G.st rfl rfl ?_)
  refine G.iald rfl rfl hx ?_
  rw [q2]
  iterate 2 (refine G.st rfl rfl ?_)
  by_cases hA : nI (zS s t).2.length - p < k
  · exact G.brt rfl hA (bad2 (fun w => absurd hA (Int32.not_lt.mpr (e1.mp w.1).2.2)))
  refine G.brf rfl hA ?_
  iterate 4 (refine G.st rfl rfl ?_)
  refine G.iald rfl rfl hy ?_
  rw [r2]
  iterate 2 (refine G.st rfl rfl ?_)
  by_cases hB : k ≤ nI (zS s u).2.length - q
  case neg => exact G.brf rfl hB (bad2 (fun w => hB (e2.mp w.2).2.2))
  refine G.brt rfl hB ?_
  have ok1 : rngOk (zS s t) p k := e1.mpr ⟨Int32.not_lt.mp hp0, Int32.not_lt.mp hk0, Int32.not_lt.mp hA⟩
  have ok2 : rngOk (zS s u) q k := e2.mpr ⟨Int32.not_lt.mp hq0, Int32.not_lt.mp hk0, hB⟩
  rw [if_pos ⟨ok1, ok2⟩]
  obtain ⟨pp, N, rfl, rfl, hpN⟩ := rng_n h40 ok1
  obtain ⟨qq, N2, rfl, eN, hqN⟩ := rng_n h41 ok2
  obtain rfl : N = N2 := (nI_eq (by omega) (by omega)).mp eN
  rw [ln_nI (by omega), ln_nI (by omega), ln_nI (by omega)]
  iterate 5 (refine G.st rfl rfl ?_)
  rw [show (40 : Int32) * nI t + nI pp = nI (40 * t + pp) by rw [show (40 : Int32) = nI 40 from rfl, nI_mul, nI_add]]
  iterate 6 (refine G.st rfl rfl ?_)
  rw [show (40 : Int32) * nI u + nI qq = nI (40 * u + qq) by rw [show (40 : Int32) = nI 40 from rfl, nI_mul, nI_add]]
  iterate 3 (refine G.st rfl rfl ?_)
  refine (l7_copy X (c := c) (m := m) (a := 40 * t + pp) (b := 40 * u + qq) (N := N) (by omega) (by omega) (by omega) (mnu m) N 0 (mnu m) (.double 0) (by omega) (fun x => ?_)).imp ?_
  · split
    · rw [if_neg (by omega)]
    · rw [if_neg (by omega)]
  · rintro _ _ ⟨rfl, f', rfl, hf⟩
    obtain ⟨h1, h2, h3, h4, h5⟩ := hM
    refine ⟨rfl, _, rfl, h1, h2, h3, ?_, h5⟩
    have hlen : (cpyL (zS s t).2 (zS s u).2 pp qq N).length = (zS s u).2.length := by unfold cpyL; rw [List.length_map, List.length_range]
    refine h4.up hu (bo := mbo m) (si := msi m) (fun k hk => ?_) (fun k hk => ?_) (fun k hk => (hS.2.2.2 k hk).1) (fun i hi => by rw [hf i, if_neg (by omega)]) (fun i hi => ?_)
    · by_cases e : k = u
      · rw [if_pos e, e]; exact r1
      · rw [if_neg e]
    · by_cases e : k = u
      · rw [if_pos e, e, r2, hlen]
      · rw [if_neg e]
    · have hi2 : i < (zS s u).2.length := by
        have : i < (cpyL (zS s t).2 (zS s u).2 pp qq N).length := hi
        rw [hlen] at this
        exact this
      show f' (40 * u + i) = (cpyL (zS s t).2 (zS s u).2 pp qq N).getD i 0
      rw [hf]
      unfold cpyL
      rw [List.getD_eq_getElem?_getD, List.getElem?_map, List.getElem?_range hi2]
      show _ = if qq ≤ i ∧ i < qq + N then (zS s t).2.getD (pp + (i - qq)) 0 else (zS s u).2.getD i 0
      by_cases h : qq ≤ i ∧ i < qq + N
      · rw [if_pos h, if_pos (by omega), show 40 * u + i - (40 * u + qq) + (40 * t + pp) = 40 * t + (pp + (i - qq)) by omega]
        exact q3 _ (by omega)
      · rw [if_neg h, if_neg (by omega)]
        exact r3 i hi2
theorem s7_wants (X : aX) (a : Int32) (hS : SOk s) (hM : MR n m s) : Sp X 1 kX7_wants [.ref 81, .int a] (HR c m) (An (some (.int (shF s a))) (HR c m)) := by
  unfold Sp shF
  iterate 1 (refine G.st rfl rfl ?_)
  refine G.call rfl rfl (Nat.le_of_ble_eq_true rfl) (Sp.up (s7_isSheet X a _) (Nat.le_of_ble_eq_true rfl)) ?_
  rintro _ _ ⟨rfl, rfl⟩
  by_cases hl : 0 ≤ a ∧ a ≤ 3
  case neg =>
    rw [if_neg hl]
    refine G.brt rfl (bI_0.mpr hl) ?_
    iterate 2 (refine G.st rfl rfl ?_)
    exact G.ret rfl rfl ⟨rfl, rfl⟩
  rw [if_pos hl]
  refine G.brf rfl (bI_n hl) ?_
  obtain ⟨t, ht, rfl⟩ := lok_n hl
  rw [ln_nI (by omega)]
  obtain ⟨t1, t2⟩ := hM.bits hS ht
  iterate 3 (refine G.st rfl rfl ?_)
  refine G.iald rfl rfl (ix_nI (show t < 4 by omega) (by omega)) ?_
  by_cases ha0 : (zS s t).1 = 0
  · rw [if_pos ha0]
    refine G.brf rfl (Int32.not_le.mpr (t1.mpr ha0)) ?_
    iterate 2 (refine G.st rfl rfl ?_)
    exact G.ret rfl rfl ⟨rfl, rfl⟩
  · rw [if_neg ha0]
    refine G.brt rfl (Int32.not_lt.mp (fun w => ha0 (t1.mp w))) ?_
    iterate 1 (refine G.st rfl rfl ?_)
    exact G.ret rfl rfl ⟨rfl, rfl⟩
theorem c7_shl (X : aX) (a b : Int32) (hM : MR n m s) (h0 : ¬ shlF s a b = 0) : Sp X 0 kX7_finds [.ref 81, .int (shlF s a b)] (HR c m) (MP c n (fin (shlK s a) s)) := by
  unfold shlF at h0 ⊢
  unfold shlK
  by_cases h1 : shF s a = 0
  · rw [if_pos h1] at h0 ⊢
    rw [if_pos h1]
    by_cases h2 : 0 ≤ b ∧ b ≤ 3
    · rw [if_pos h2] at h0
      exact absurd rfl h0
    · rw [if_neg h2]
      exact c7_f0 X hM
  · rw [if_neg h1, if_neg h1]
    unfold shF at h1 ⊢
    by_cases h2 : 0 ≤ a ∧ a ≤ 3
    · rw [if_pos h2] at h1
      rw [if_pos h2, if_pos h2]
      by_cases h3 : (zS s (ln a)).1 = 0
      · rw [if_pos h3]
        exact c7_f5 X hM
      · rw [if_neg h3] at h1
        exact absurd rfl h1
    · rw [if_neg h2, if_neg h2]
      exact c7_f0 X hM
theorem h7_lays_ (X : aX) (a b : Int32) (hS : SOk s) (hM : MR n m s) {Q : Option Value → aH → Prop} (lo : List Value) (hlo : lo = [.ref 81, .int a, .int b, .double 0, .double 0, .double 0, .double 0]) (h0 : shlF s a b = 0 → G X 10 kX7_lays_ 40 [.ref 81, .int a, .int b, .int 0, .double 0, .double 0, .double 0] [] (HR c m) Q) (h1 : ¬ shlF s a b = 0 → ∀ v h', MP c n (fin (shlK s a) s) v h' → Q v h') : G X 10 kX7_lays_ 0 lo [] (HR c m) Q := by
  subst hlo
  have r29 : ∀ x, x = shlF s a b → G X 10 kX7_lays_ 29 [.ref 81, .int a, .int b, .double 0, .double 0, .double 0, .double 0] [.int x] (HR c m) Q := by
    rintro _ rfl
    iterate 2 (refine G.st rfl rfl ?_)
    by_cases hz : shlF s a b = 0
    · refine G.brt rfl hz ?_
      rw [hz]
      exact h0 hz
    · refine G.brf rfl hz ?_
      iterate 2 (refine G.st rfl rfl ?_)
      refine G.call rfl rfl (Nat.le_of_ble_eq_true rfl) (Sp.up (c7_shl X a b hM hz) (Nat.le_of_ble_eq_true rfl)) ?_
      rintro _ _ ⟨rfl, hci⟩
      exact G.ret rfl rfl (h1 hz _ _ ⟨rfl, hci⟩)
  iterate 2 (refine G.st rfl rfl ?_)
  refine G.call rfl rfl (Nat.le_of_ble_eq_true rfl) (Sp.up (s7_wants X a hS hM) (Nat.le_of_ble_eq_true rfl)) ?_
  rintro _ _ ⟨rfl, rfl⟩
  by_cases hw : shF s a = 0
  case neg =>
    refine G.brf rfl hw ?_
    iterate 2 (refine G.st rfl rfl ?_)
    refine G.call rfl rfl (Nat.le_of_ble_eq_true rfl) (Sp.up (s7_wants X a hS hM) (Nat.le_of_ble_eq_true rfl)) ?_
    rintro _ _ ⟨rfl, rfl⟩
    iterate 1 (refine G.st rfl rfl ?_)
    refine r29 _ ?_
    unfold shlF
    rw [if_neg hw]
  refine G.brt rfl hw ?_
  iterate 1 (refine G.st rfl rfl ?_)
  refine G.call rfl rfl (Nat.le_of_ble_eq_true rfl) (Sp.up (s7_isLine X b _) (Nat.le_of_ble_eq_true rfl)) ?_
  rintro _ _ ⟨rfl, rfl⟩
  by_cases hl : 0 ≤ b ∧ b ≤ 3
  · refine G.brf rfl (bI_n hl) ?_
    iterate 2 (refine G.st rfl rfl ?_)
    refine r29 _ ?_
    unfold shlF
    rw [if_pos hw, if_pos hl]
  · refine G.brt rfl (bI_0.mpr hl) ?_
    iterate 1 (refine G.st rfl rfl ?_)
    refine r29 _ ?_
    unfold shlF
    rw [if_pos hw, if_neg hl]
theorem h7_show (X : aX) (a b : Int32) (hS : SOk s) (hM : MR n m s) {Q : Option Value → aH → Prop} (lo : List Value) (hlo : lo = [.ref 81, .int a, .int b, .double 0, .double 0, .double 0]) (h0 : shlF s a b = 0 → G X 10 kX7_show 40 [.ref 81, .int a, .int b, .int 0, .double 0, .double 0] [] (HR c m) Q) (h1 : ¬ shlF s a b = 0 → ∀ v h', MP c n (fin (shlK s a) s) v h' → Q v h') : G X 10 kX7_show 0 lo [] (HR c m) Q := by
  subst hlo
  have r29 : ∀ x, x = shlF s a b → G X 10 kX7_show 29 [.ref 81, .int a, .int b, .double 0, .double 0, .double 0] [.int x] (HR c m) Q := by
    rintro _ rfl
    iterate 2 (refine G.st rfl rfl ?_)
    by_cases hz : shlF s a b = 0
    · refine G.brt rfl hz ?_
      rw [hz]
      exact h0 hz
    · refine G.brf rfl hz ?_
      iterate 2 (refine G.st rfl rfl ?_)
      refine G.call rfl rfl (Nat.le_of_ble_eq_true rfl) (Sp.up (c7_shl X a b hM hz) (Nat.le_of_ble_eq_true rfl)) ?_
      rintro _ _ ⟨rfl, hci⟩
      exact G.ret rfl rfl (h1 hz _ _ ⟨rfl, hci⟩)
  iterate 2 (refine G.st rfl rfl ?_)
  refine G.call rfl rfl (Nat.le_of_ble_eq_true rfl) (Sp.up (s7_wants X a hS hM) (Nat.le_of_ble_eq_true rfl)) ?_
  rintro _ _ ⟨rfl, rfl⟩
  by_cases hw : shF s a = 0
  case neg =>
    refine G.brf rfl hw ?_
    iterate 2 (refine G.st rfl rfl ?_)
    refine G.call rfl rfl (Nat.le_of_ble_eq_true rfl) (Sp.up (s7_wants X a hS hM) (Nat.le_of_ble_eq_true rfl)) ?_
    rintro _ _ ⟨rfl, rfl⟩
    iterate 1 (refine G.st rfl rfl ?_)
    refine r29 _ ?_
    unfold shlF
    rw [if_neg hw]
  refine G.brt rfl hw ?_
  iterate 1 (refine G.st rfl rfl ?_)
  refine G.call rfl rfl (Nat.le_of_ble_eq_true rfl) (Sp.up (s7_isLine X b _) (Nat.le_of_ble_eq_true rfl)) ?_
  rintro _ _ ⟨rfl, rfl⟩
  by_cases hl : 0 ≤ b ∧ b ≤ 3
  · refine G.brf rfl (bI_n hl) ?_
    iterate 2 (refine G.st rfl rfl ?_)
    refine r29 _ ?_
    unfold shlF
    rw [if_pos hw, if_pos hl]
  · refine G.brt rfl (bI_0.mpr hl) ?_
    iterate 1 (refine G.st rfl rfl ?_)
    refine r29 _ ?_
    unfold shlF
    rw [if_pos hw, if_neg hl]
theorem h7_check (X : aX) (a b : Int32) (hS : SOk s) (hM : MR n m s) {Q : Option Value → aH → Prop} (lo : List Value) (hlo : lo = [.ref 81, .int a, .int b, .double 0, .double 0]) (h0 : shlF s a b = 0 → G X 10 kX7_check 40 [.ref 81, .int a, .int b, .int 0, .double 0] [] (HR c m) Q) (h1 : ¬ shlF s a b = 0 → ∀ v h', MP c n (fin (shlK s a) s) v h' → Q v h') : G X 10 kX7_check 0 lo [] (HR c m) Q := by
  subst hlo
  have r29 : ∀ x, x = shlF s a b → G X 10 kX7_check 29 [.ref 81, .int a, .int b, .double 0, .double 0] [.int x] (HR c m) Q := by
    rintro _ rfl
    iterate 2 (refine G.st rfl rfl ?_)
    by_cases hz : shlF s a b = 0
    · refine G.brt rfl hz ?_
      rw [hz]
      exact h0 hz
    · refine G.brf rfl hz ?_
      iterate 2 (refine G.st rfl rfl ?_)
      refine G.call rfl rfl (Nat.le_of_ble_eq_true rfl) (Sp.up (c7_shl X a b hM hz) (Nat.le_of_ble_eq_true rfl)) ?_
      rintro _ _ ⟨rfl, hci⟩
      exact G.ret rfl rfl (h1 hz _ _ ⟨rfl, hci⟩)
  iterate 2 (refine G.st rfl rfl ?_)
  refine G.call rfl rfl (Nat.le_of_ble_eq_true rfl) (Sp.up (s7_wants X a hS hM) (Nat.le_of_ble_eq_true rfl)) ?_
  rintro _ _ ⟨rfl, rfl⟩
  by_cases hw : shF s a = 0
  case neg =>
    refine G.brf rfl hw ?_
    iterate 2 (refine G.st rfl rfl ?_)
    refine G.call rfl rfl (Nat.le_of_ble_eq_true rfl) (Sp.up (s7_wants X a hS hM) (Nat.le_of_ble_eq_true rfl)) ?_
    rintro _ _ ⟨rfl, rfl⟩
    iterate 1 (refine G.st rfl rfl ?_)
    refine r29 _ ?_
    unfold shlF
    rw [if_neg hw]
  refine G.brt rfl hw ?_
  iterate 1 (refine G.st rfl rfl ?_)
  refine G.call rfl rfl (Nat.le_of_ble_eq_true rfl) (Sp.up (s7_isLine X b _) (Nat.le_of_ble_eq_true rfl)) ?_
  rintro _ _ ⟨rfl, rfl⟩
  by_cases hl : 0 ≤ b ∧ b ≤ 3
  · refine G.brf rfl (bI_n hl) ?_
    iterate 2 (refine G.st rfl rfl ?_)
    refine r29 _ ?_
    unfold shlF
    rw [if_pos hw, if_pos hl]
  · refine G.brt rfl (bI_0.mpr hl) ?_
    iterate 1 (refine G.st rfl rfl ?_)
    refine r29 _ ?_
    unfold shlF
    rw [if_pos hw, if_neg hl]
end RSHEET2
