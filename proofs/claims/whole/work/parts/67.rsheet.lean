/-! ===== the reference: write, copy ===== -/
section RSHEET
variable {c : Nat → aC} {m : sM} {s : Sg} {n : Nat}
theorem MR.bits (hM : MR n m s) (hS : SOk s) {t : Nat} (ht : t < 4) : (mbo m t < 0 ↔ (zS s t).1 = 0) ∧ (¬ (zS s t).1 = 0 → mbo m t = (zS s t).1) := by
  have h1 := (hM.2.2.2.1 t ht).1
  have h2 := (hS.2.2.2 t ht).2.1
  by_cases e : (zS s t).1 = 0
  · rw [if_pos e] at h1
    refine ⟨⟨fun _ => e, fun _ => by rw [h1]; decide⟩, fun q => absurd e q⟩
  · rw [if_neg e] at h1
    refine ⟨⟨fun q => ?_, fun q => absurd q e⟩, fun _ => h1⟩
    rw [h1] at q
    rcases h2 with h | h | h | h
    · exact h
    · rw [h] at q; exact absurd q (by decide)
    · rw [h] at q; exact absurd q (by decide)
    · rw [h] at q; exact absurd q (by decide)
abbrev MPL (c : Nat → aC) (n : Nat) (r : Int64 × Sg) : Option Value → aH → Prop := fun v h' => v = some (.long r.1) ∧ ∃ m', h' = HR c m' ∧ MR n m' r.2
theorem w7_end (X : aX) (pc : Nat) (hpc : pc = 13 ∨ pc = 31 ∨ pc = 57) (lo : List Value) (w : Int32 × Sg) {h : aH} (hci : ∃ m', h = HR c m' ∧ MR n m' w.2) : G X 10 kX7_write pc lo [.int w.1] h (MPL c n (i2 w)) := by
  rcases hpc with rfl | rfl | rfl
  · iterate 1 (refine G.st rfl rfl ?_)
    exact G.ret rfl rfl ⟨rfl, hci⟩
  · iterate 1 (refine G.st rfl rfl ?_)
    exact G.ret rfl rfl ⟨rfl, hci⟩
  · iterate 1 (refine G.st rfl rfl ?_)
    exact G.ret rfl rfl ⟨rfl, hci⟩
theorem nar_of {b x : Int32} {v : Int64} (h : ¬ b = 0) (hx : x = if b = 0 then -1 else b) : narI x v = narI b v := by rw [hx, if_neg h]
theorem MR.shp (hM : MR n m s) (hS : SOk s) {t j : Nat} {v : Int64} (ht : t < 4) (hj : j < (zS s t).2.length) (hb : ¬ (zS s t).1 = 0) : MR n (mSnu m (vp_updL (mnu m) (40 * t + j) (narI (mbo m t) v))) (zSS s (va_up (zS s) t (shPut (zS s t) j v))) := by
  have hbb := (hM.bits hS ht).2 hb
  have h40 := (hS.2.2.2 t ht).1
  obtain ⟨h1, h2, h3, h4, h5⟩ := hM
  refine ⟨h1, h2, h3, ?_, h5⟩
  obtain ⟨q1, q2, q3⟩ := h4 t ht
  refine h4.up ht (bo := mbo m) (si := msi m) (fun k hk => ?_) (fun k hk => ?_) (fun k hk => (hS.2.2.2 k hk).1) (fun i hi => pk_uLn (by omega)) (fun i hi => ?_)
  · by_cases e : k = t
    · rw [if_pos e, e]; exact q1
    · rw [if_neg e]
  · by_cases e : k = t
    · rw [if_pos e, e, q2, shPut_len]
    · rw [if_neg e]
  · rw [shPut_len] at hi
    show _ = ((zS s t).2.set j (narI (zS s t).1 v)).getD i 0
    rw [List.getD_eq_getElem?_getD, List.getElem?_set, hbb]
    by_cases e : i = j
    · subst e
      rw [pk_uLs, if_pos rfl, if_pos hi]
      rfl
    · rw [pk_uLn (by omega), if_neg (fun q => e q.symm), q3 i hi, List.getD_eq_getElem?_getD]
theorem p7_write (X : aX) (a p : Int32) (v : Int64) (hS : SOk s) (hM : MR n m s) : Sp X 10 kX7_write [.ref 81, .int a, .int p, .long v] (HR c m) (MPL c n (S_write s a p v)) := by
  unfold Sp S_write
  show G X 10 kX7_write 0 [.ref 81, .int a, .int p, .long v, .double 0, .double 0, .double 0] [] _ _
  iterate 1 (refine G.st rfl rfl ?_)
  refine G.call rfl rfl (Nat.le_of_ble_eq_true rfl) (Sp.up (s7_isSheet X a _) (Nat.le_of_ble_eq_true rfl)) ?_
  rintro _ _ ⟨rfl, rfl⟩
  by_cases hl : 0 ≤ a ∧ a ≤ 3
  case neg =>
    rw [if_neg (fun q => hl (shF_0.mp q).1), if_neg hl]
    refine G.brt rfl (bI_0.mpr hl) ?_
    iterate 2 (refine G.st rfl rfl ?_)
    refine G.call rfl rfl (Nat.le_of_ble_eq_true rfl) (Sp.up (c7_f0 X hM) (Nat.le_of_ble_eq_true rfl)) ?_
    rintro _ _ ⟨rfl, hci⟩
    exact w7_end X 13 (Or.inl rfl) _ (fin 0 s) hci
  refine G.brf rfl (bI_n hl) ?_
  obtain ⟨t, ht, rfl⟩ := lok_n hl
  obtain ⟨b1, b2⟩ := hM.bits hS ht
  have hx := ix_nI (show t < 4 by omega) (by omega)
  iterate 3 (refine G.st rfl rfl ?_)
  refine G.iald rfl rfl hx ?_
  by_cases hb : (zS s t).1 = 0
  · rw [if_neg (fun q => by have := (shF_0.mp q).2; rw [ln_nI (by omega)] at this; exact this hb), if_pos hl]
    refine G.brf rfl (Int32.not_le.mpr (b1.mpr hb)) ?_
    iterate 2 (refine G.st rfl rfl ?_)
    refine G.call rfl rfl (Nat.le_of_ble_eq_true rfl) (Sp.up (c7_f5 X hM) (Nat.le_of_ble_eq_true rfl)) ?_
    rintro _ _ ⟨rfl, hci⟩
    exact w7_end X 31 (Or.inr (Or.inl rfl)) _ (fin 5 s) hci
  rw [if_pos (shF_0.mpr ⟨hl, by rw [ln_nI (by omega)]; exact hb⟩), ln_nI (by omega)]
  refine G.brt rfl (Int32.not_lt.mp (fun q => hb (b1.mp q))) ?_
  have h40 := (hS.2.2.2 t ht).1
  obtain ⟨q1, q2, q3⟩ := hM.2.2.2.1 t ht
  iterate 6 (refine G.st rfl rfl ?_)
  refine G.iald rfl rfl hx ?_
  rw [q2]
  iterate 3 (refine G.st rfl rfl ?_)
  refine G.call rfl rfl (Nat.le_of_ble_eq_true rfl) (Sp.up (s7_isInI X p 0 (nI (zS s t).2.length - 1) _) (Nat.le_of_ble_eq_true rfl)) ?_
  rintro _ _ ⟨rfl, rfl⟩
  by_cases hp : 0 ≤ p ∧ p ≤ nI (zS s t).2.length - 1
  case neg =>
    rw [if_neg hp]
    refine G.brt rfl (bI_0.mpr hp) ?_
    iterate 2 (refine G.st rfl rfl ?_)
    refine G.call rfl rfl (Nat.le_of_ble_eq_true rfl) (Sp.up (c7_f0 X hM) (Nat.le_of_ble_eq_true rfl)) ?_
    rintro _ _ ⟨rfl, hci⟩
    exact w7_end X 57 (Or.inr (Or.inr rfl)) _ (fin 0 s) hci
  rw [if_pos hp]
  refine G.brf rfl (bI_n hp) ?_
  obtain ⟨j, hj, rfl⟩ := idx_lt h40 hp
  rw [ln_nI (by omega)]
  iterate 7 (refine G.st rfl rfl ?_)
  refine G.lald rfl rfl (ix40 ht (show j < 40 by omega)) ?_
  rw [q3 j hj]
  show G X 10 kX7_write 70 [.ref 81, .int (nI t), .int (nI j), .long v, .double 0, .double 0, .double 0] [.long ((zS s t).2.getD j 0)] (HR c m) _
  iterate 1 (refine G.st rfl rfl ?_)
  show G X 10 kX7_write 72 [.ref 81, .int (nI t), .int (nI j), .long v, .double 0, .long ((zS s t).2.getD j 0), .double 0] [] (HR c m) _
  iterate 10 (refine G.st rfl rfl ?_)
  refine G.iald rfl rfl hx ?_
  iterate 1 (refine G.st rfl rfl ?_)
  refine G.call rfl rfl (Nat.le_of_ble_eq_true rfl) (Sp.up (s7_narrow X _ _ _) (Nat.le_of_ble_eq_true rfl)) ?_
  rintro _ _ ⟨rfl, rfl⟩
  refine G.last rfl rfl (ix40 ht (show j < 40 by omega)) ?_
  iterate 1 (refine G.st rfl rfl ?_)
  exact G.ret rfl rfl ⟨rfl, _, rfl, hM.shp hS ht hj hb⟩
theorem rngI {len p k : Int32} (hl : 0 ≤ len ∧ len ≤ 40) : (0 ≤ p ∧ 0 ≤ k ∧ k ≤ len ∧ p ≤ len - k) ↔ (0 ≤ p ∧ 0 ≤ k ∧ k ≤ len - p) := by
  constructor
  · rintro ⟨h1, h2, h3, h4⟩
    exact ⟨h1, h2, by grind⟩
  · rintro ⟨h1, h2, h3⟩
    exact ⟨h1, h2, by grind, by grind⟩
theorem l7_copy (X : aX) {a b N : Nat} {u1 u2 u3 u4 : Int32} (hN : N ≤ 40) (ha : a + N ≤ 160) (hb : b + N ≤ 160) (f0 : Nat → Int64) : ∀ (k i : Nat) (f : Nat → Int64) (u9 : Value), i + k = N → (∀ x, f x = if a < b then (if b + N - i ≤ x ∧ x < b + N then f0 (x - b + a) else f0 x) else (if b ≤ x ∧ x < b + i then f0 (x - b + a) else f0 x)) → G X 10 kX7_copy 137 [.ref 81, .int u1, .int u2, .int u3, .int u4, .int (nI N), .int (nI a), .int (nI b), .int (nI i), u9] [] (HR c (mSnu m f)) (fun v h' => v = some (.int (nI N)) ∧ ∃ f', h' = HR c (mSnu m f') ∧ ∀ x, f' x = if b ≤ x ∧ x < b + N then f0 (x - b + a) else f0 x) := by
  intro k
  induction k with
  | zero =>
    intro i f u9 hi hf
    iterate 2 (refine G.st rfl rfl ?_)
    refine G.brt rfl (by rw [nI_leI (by omega) (by omega)]; omega) ?_
    iterate 1 (refine G.st rfl rfl ?_)
    refine G.ret rfl rfl ⟨rfl, f, rfl, fun x => ?_⟩
    rw [hf x, show i = N by omega, Nat.add_sub_cancel]
    split <;> rfl
  | succ k ih =>
    intro i f u9 hi hf
    iterate 2 (refine G.st rfl rfl ?_)
    refine G.brf rfl (by rw [nI_leI (by omega) (by omega)]; omega) ?_
    have step : ∀ q : Nat, q < N → f (a + q) = f0 (a + q) → (∀ x, vp_updL f (b + q) (f0 (a + q)) x = if a < b then (if b + N - (i + 1) ≤ x ∧ x < b + N then f0 (x - b + a) else f0 x) else (if b ≤ x ∧ x < b + (i + 1) then f0 (x - b + a) else f0 x)) → G X 10 kX7_copy 163 [.ref 81, .int u1, .int u2, .int u3, .int u4, .int (nI N), .int (nI a), .int (nI b), .int (nI i), u9] [.int (nI q)] (HR c (mSnu m f)) (fun v h' => v = some (.int (nI N)) ∧ ∃ f', h' = HR c (mSnu m f') ∧ ∀ x, f' x = if b ≤ x ∧ x < b + N then f0 (x - b + a) else f0 x) := by
      intro q hq hfa hfx
      iterate 6 (refine G.st rfl rfl ?_)
      rw [nI_add]
      iterate 5 (refine G.st rfl rfl ?_)
      rw [nI_add]
      refine G.lald rfl rfl (ix_nI (show a + q < 160 by omega) (by omega)) ?_
      show G X 10 kX7_copy 184 [.ref 81, .int u1, .int u2, .int u3, .int u4, .int (nI N), .int (nI a), .int (nI b), .int (nI i), .int (nI q)] [.long (f (a + q)), .int (nI (b + q)), .ref 89] (HR c (mSnu m f)) _
      rw [hfa]
      refine G.last rfl rfl (ix_nI (show b + q < 160 by omega) (by omega)) ?_
      show G X 10 kX7_copy 185 [.ref 81, .int u1, .int u2, .int u3, .int u4, .int (nI N), .int (nI a), .int (nI b), .int (nI i), .int (nI q)] [] (HR c (mSnu m (vp_updL f (b + q) (f0 (a + q))))) _
      iterate 1 (refine G.st rfl rfl ?_)
      rw [nI_1]
      iterate 1 (refine G.st rfl rfl ?_)
      exact ih (i + 1) _ _ (by omega) hfx
    iterate 2 (refine G.st rfl rfl ?_)
    by_cases hab : a < b
    · refine G.brf rfl (by rw [nI_leI (by omega) (by omega)]; omega) ?_
      iterate 5 (refine G.st rfl rfl ?_)
      rw [nI_p (by omega), show nI (N - 1) - nI i = nI (N - 1 - i) by
        obtain ⟨d, hd⟩ : ∃ d, N - 1 = d + i := ⟨N - 1 - i, by omega⟩
        rw [hd, ← nI_add, Nat.add_sub_cancel]
        grind]
      iterate 1 (refine G.st rfl rfl ?_)
      refine step (N - 1 - i) (by omega) ?_ (fun x => ?_)
      · rw [hf, if_pos hab, if_neg (by omega)]
      · rw [if_pos hab]
        skip
        by_cases e : x = b + (N - 1 - i)
        · rw [e, pk_uLs, if_pos (by omega)]
          congr 1
          omega
        · rw [pk_uLn e, hf x, if_pos hab]
          by_cases h2 : b + N - i ≤ x ∧ x < b + N
          · rw [if_pos h2, if_pos (by omega)]
          · rw [if_neg h2, if_neg (by omega)]
    · refine G.brt rfl (by rw [nI_leI (by omega) (by omega)]; omega) ?_
      iterate 1 (refine G.st rfl rfl ?_)
      refine step i (by omega) ?_ (fun x => ?_)
      · rw [hf, if_neg hab, if_neg (by omega)]
      · rw [if_neg hab]
        skip
        by_cases e : x = b + i
        · rw [e, pk_uLs, if_pos (by omega)]
          congr 1
          omega
        · rw [pk_uLn e, hf x, if_neg hab]
          by_cases h2 : b ≤ x ∧ x < b + i
          · rw [if_pos h2, if_pos (by omega)]
          · rw [if_neg h2, if_neg (by omega)]
end RSHEET
