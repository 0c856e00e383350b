/-! ===== the reference: feed, sheet, write ===== -/
theorem ss255 (x : BitVec 32) (k : Nat) (hk : k ≤ 24) : x.sshiftRight k &&& 255#32 = x >>> k &&& 255#32 := by
  apply BitVec.eq_of_getLsbD_eq
  intro i hi
  rw [BitVec.getLsbD_and, BitVec.getLsbD_and, BitVec.getLsbD_sshiftRight, BitVec.getLsbD_ushiftRight]
  by_cases h : i < 8
  · rw [if_pos (by omega)]
    have : ¬ 32 ≤ i := by omega
    simp [this]
  · have e : ∀ i, i < 32 → ¬ i < 8 → (255#32).getLsbD i = false := by decide
    rw [e i hi h]
    simp
theorem us_bv (x y : Int32) (k : Nat) (h : (y.toUInt32 &&& Int32.toUInt32 31).toNat % 32 = k) : (usI x y).toBitVec = x.toBitVec >>> k := by
  apply BitVec.eq_of_toNat_eq
  have := tnI_us (x := x) h
  unfold tnI at this
  rw [this, BitVec.toNat_ushiftRight, Nat.shiftRight_eq_div_pow]
theorem shr_by (v : Int32) {i : Nat} (hi : i < 4) : (v >>> ((8 * nI i) &&& 31)) &&& 255 = byI v i := by
  apply Int32.toBitVec_inj.mp
  unfold byI
  show _ = (usI v (8 * nI i)).toBitVec &&& 255#32
  rw [us_bv v (8 * nI i) (8 * i) (by rcases (show i = 0 ∨ i = 1 ∨ i = 2 ∨ i = 3 by omega) with rfl | rfl | rfl | rfl <;> decide), ← ss255 _ _ (by omega)]
  rcases (show i = 0 ∨ i = 1 ∨ i = 2 ∨ i = 3 by omega) with rfl | rfl | rfl | rfl <;> rfl
theorem ix40 {t i : Nat} (ht : t < 4) (hi : i < 40) : ix (40 * nI t + nI i) 160 (40 * t + i) := by
  rw [show (40 : Int32) = nI 40 from rfl, nI_mul, nI_add]
  exact ix_nI (by omega) (by omega)
section RFEED
variable {c : Nat → aC} {m : sM} {s : Sg} {n : Nat}
theorem bt_app {t : List Int32} {x : Int32} {j : Nat} : bt (t ++ [x]) j = if j = t.length then x else bt t j := by
  unfold bt
  by_cases e : j = t.length
  · subst e
    rw [if_pos rfl]
    simp
  · rw [if_neg e]
    by_cases h : j < t.length
    · simp [List.getElem?_append_left h]
    · simp [List.getElem?_append_right (show t.length ≤ j by omega), List.getElem?_eq_none (show t.length ≤ j by omega)]
      rw [List.getElem?_eq_none (by simp; omega)]
      rfl
theorem l7_feed (X : aX) {v u : Int32} : ∀ (k : Nat) (m : sM) (s : Sg), MR n m s → k ≤ 4 → (zT s).length + k ≤ 120 → G X 10 kX7_feed 41 [.ref 81, .int v, .int u, .int (nI k - 1)] [] (HR c m) (MP c n (nI (zT s ++ fdL v k).length, zST s (zT s ++ fdL v k))) := by
  intro k
  induction k with
  | zero =>
    intro m s hM hk hl
    iterate 1 (refine G.st rfl rfl ?_)
    refine G.brt rfl (show nI 0 - 1 < 0 by decide) ?_
    iterate 2 (refine G.st rfl rfl ?_)
    unfold fdL
    rw [List.append_nil]
    refine G.ret rfl rfl ⟨?_, m, rfl, hM⟩
    show some (Value.int (mtd m)) = _
    rw [hM.2.2.1.1]
  | succ k ih =>
    intro m s hM hk hl
    rw [nI_p (by omega), Nat.add_sub_cancel]
    iterate 1 (refine G.st rfl rfl ?_)
    refine G.brf rfl (Int32.not_lt.mpr (nI_pos' (by omega))) ?_
    iterate 11 (refine G.st rfl rfl ?_)
    rw [shr_by v (by omega)]
    show G X 10 kX7_feed 63 [.ref 81, .int v, .int u, .int (nI k)] [.int (byI v k), .int (mtd m), .ref 86] (HR c m) _
    rw [hM.2.2.1.1]
    refine G.iast rfl rfl (ix_nI (show (zT s).length < 120 by omega) (by omega)) ?_
    show G X 10 kX7_feed 64 [.ref 81, .int v, .int u, .int (nI k)] [] (HR c (mStp m (upd (mtp m) (zT s).length (byI v k)))) _
    iterate 4 (refine G.st rfl rfl ?_)
    show G X 10 kX7_feed 70 [.ref 81, .int v, .int u, .int (nI k)] [.int 1, .int (mtd m), .ref 81] (HR c (mStp m (upd (mtp m) (zT s).length (byI v k)))) _
    rw [hM.2.2.1.1]
    iterate 1 (refine G.st rfl rfl ?_)
    rw [nI_1]
    iterate 2 (refine G.st rfl rfl ?_)
    rw [show nI k + -1 = nI k - 1 by grind]
    iterate 1 (refine G.st rfl rfl ?_)
    have hM' : MR n (mStd (mStp m (upd (mtp m) (zT s).length (byI v k))) (nI ((zT s).length + 1))) (zST s (zT s ++ [byI v k])) := by
      obtain ⟨h1, h2, ⟨h3, h3'⟩, h4⟩ := hM
      refine ⟨h1, h2, ⟨?_, fun j hj => ?_⟩, h4⟩
      · show nI ((zT s).length + 1) = nI (zT s ++ [byI v k]).length
        rw [List.length_append, List.length_singleton]
      · have hj2 : j < (zT s).length + 1 := by
          have : j < (zT s ++ [byI v k]).length := hj
          rw [List.length_append, List.length_singleton] at this
          exact this
        show upd (mtp m) (zT s).length (byI v k) j = bt (zT s ++ [byI v k]) j
        rw [bt_app, upd_if]
        by_cases e : j = (zT s).length
        · rw [if_pos e, if_pos e]
        · rw [if_neg e, if_neg e]
          exact h3' j (by omega)
    have := ih _ _ hM' (by omega) (by show (zT s ++ [byI v k]).length + k ≤ 120; rw [List.length_append, List.length_singleton]; omega)
    rw [show zT (zST s (zT s ++ [byI v k])) = zT s ++ [byI v k] from rfl, List.append_assoc] at this
    exact this
theorem p7_feed (X : aX) (v k : Int32) (hS : SOk s) (hM : MR n m s) : Sp X 10 kX7_feed [.ref 81, .int v, .int k] (HR c m) (MP c n (S_feed s v k)) := by
  unfold Sp S_feed
  show G X 10 kX7_feed 0 [.ref 81, .int v, .int k, .double 0] [] _ _
  iterate 4 (refine G.st rfl rfl ?_)
  refine G.call rfl rfl (Nat.le_of_ble_eq_true rfl) (Sp.up (s7_isInI X k 1 4 _) (Nat.le_of_ble_eq_true rfl)) ?_
  rintro _ _ ⟨rfl, rfl⟩
  by_cases hl : 1 ≤ k ∧ k ≤ 4
  case neg =>
    rw [if_neg hl]
    refine G.brt rfl (bI_0.mpr hl) ?_
    iterate 2 (refine G.st rfl rfl ?_)
    refine G.call rfl rfl (Nat.le_of_ble_eq_true rfl) (Sp.up (c7_f0 X hM) (Nat.le_of_ble_eq_true rfl)) ?_
    rintro _ _ ⟨rfl, hci⟩
    exact G.ret rfl rfl ⟨rfl, hci⟩
  rw [if_pos hl]
  refine G.brf rfl (bI_n hl) ?_
  obtain ⟨k, hk, rfl⟩ := nI_arg (k := 4) rfl (by omega) (Int32.le_trans (by decide) hl.1) hl.2
  rw [ln_nI (by omega)]
  have h120 := hS.2.2.1.1
  iterate 3 (refine G.st rfl rfl ?_)
  show G X 10 kX7_feed 24 [.ref 81, .int v, .int (nI k), .double 0] [.int (nI k), .int (mtd m)] (HR c m) _
  rw [hM.2.2.1.1]
  iterate 1 (refine G.st rfl rfl ?_)
  rw [nI_add]
  iterate 1 (refine G.st rfl rfl ?_)
  by_cases h1 : (zT s).length + k ≤ 120
  case neg =>
    rw [if_neg h1]
    refine G.brf rfl (by rw [show (120 : Int32) = nI 120 from rfl, nI_leI (by omega) (by omega)]; omega) ?_
    iterate 2 (refine G.st rfl rfl ?_)
    refine G.call rfl rfl (Nat.le_of_ble_eq_true rfl) (Sp.up (c7_f1 X hM) (Nat.le_of_ble_eq_true rfl)) ?_
    rintro _ _ ⟨rfl, hci⟩
    exact G.ret rfl rfl ⟨rfl, hci⟩
  rw [if_pos h1]
  refine G.brt rfl (by rw [show (120 : Int32) = nI 120 from rfl, nI_leI (by omega) (by omega)]; omega) ?_
  iterate 4 (refine G.st rfl rfl ?_)
  exact l7_feed X k m s hM hk h1
theorem MSh.up {S : Nat → Int32 × List Int64} (h : MSh m S) {t : Nat} (ht : t < 4) {bo si : Nat → Int32} {f : Nat → Int64} {q : Int32 × List Int64} (hbo : ∀ k, k < 4 → bo k = if k = t then (if q.1 = 0 then -1 else q.1) else mbo m k) (hsi : ∀ k, k < 4 → si k = if k = t then nI q.2.length else msi m k) (hl : ∀ k, k < 4 → (S k).2.length ≤ 40) (hf : ∀ j, ¬ (40 * t ≤ j ∧ j < 40 * t + 40) → f j = mnu m j) (hq : ∀ j, j < q.2.length → f (40 * t + j) = q.2.getD j 0) : MSh (mSnu (mSsi (mSbo m bo) si) f) (va_up S t q) := by
  intro k hk
  show bo k = (if (va_up S t q k).1 = 0 then -1 else (va_up S t q k).1) ∧ si k = nI (va_up S t q k).2.length ∧ ∀ j, j < (va_up S t q k).2.length → f (40 * k + j) = (va_up S t q k).2.getD j 0
  by_cases e : k = t
  · subst e
    rw [va_up_s, hbo k hk, hsi k hk, if_pos rfl, if_pos rfl]
    exact ⟨rfl, rfl, hq⟩
  · rw [va_up_n e, hbo k hk, hsi k hk, if_neg e, if_neg e]
    obtain ⟨a, b, d⟩ := h k hk
    refine ⟨a, b, fun j hj => ?_⟩
    have := hl k hk
    rw [hf _ (by omega)]
    exact d j hj
theorem l7_sheet (X : aX) {t : Nat} {u2 u3 : Int32} {r : Int32} (ht : t < 4) (f0 : Nat → Int64) (hr : msi m t = r) : ∀ (k i : Nat) (f : Nat → Int64), i + k = 40 → (∀ j, f j = if 40 * t ≤ j ∧ j < 40 * t + i then 0 else f0 j) → G X 10 kX7_sheet 94 [.ref 81, .int (nI t), .int u2, .int u3, .int (nI i)] [] (HR c (mSnu m f)) (fun v h' => v = some (.int r) ∧ ∃ f', h' = HR c (mSnu m f') ∧ ∀ j, f' j = if 40 * t ≤ j ∧ j < 40 * t + 40 then 0 else f0 j) := by
  intro k
  induction k with
  | zero =>
    intro i f hi hf
    iterate 2 (refine G.st rfl rfl ?_)
    refine G.brt rfl (le_nI (k := 40) rfl (by omega) (by omega)) ?_
    iterate 3 (refine G.st rfl rfl ?_)
    refine G.iald rfl rfl (ix_nI (show t < 4 by omega) (by omega)) ?_
    refine G.ret rfl rfl ⟨?_, f, rfl, ?_⟩
    · show some (Value.int (msi m t)) = _
      rw [hr]
    · intro j
      have := hf j
      rw [show i = 40 by omega] at this
      exact this
  | succ k ih =>
    intro i f hi hf
    iterate 2 (refine G.st rfl rfl ?_)
    refine G.brf rfl (nle_nI (k := 40) rfl (by omega) (by omega)) ?_
    iterate 8 (refine G.st rfl rfl ?_)
    refine G.last rfl rfl (ix40 ht (show i < 40 by omega)) ?_
    show G X 10 kX7_sheet 114 [.ref 81, .int (nI t), .int u2, .int u3, .int (nI i)] [] (HR c (mSnu m (vp_updL f (40 * t + i) 0))) _
    iterate 1 (refine G.st rfl rfl ?_)
    rw [nI_1]
    iterate 1 (refine G.st rfl rfl ?_)
    refine ih (i + 1) _ (by omega) (fun j => ?_)
    by_cases e : j = 40 * t + i
    · rw [e, pk_uLs, if_pos (by omega)]
    · rw [pk_uLn e, hf j]
      by_cases h2 : 40 * t ≤ j ∧ j < 40 * t + i
      · rw [if_pos h2, if_pos (by omega)]
      · rw [if_neg h2, if_neg (by omega)]
theorem p7_sheet (X : aX) (a b k : Int32) (hS : SOk s) (hM : MR n m s) : Sp X 10 kX7_sheet [.ref 81, .int a, .int b, .int k] (HR c m) (MP c n (S_sheet s a b k)) := by
  unfold Sp S_sheet
  show G X 10 kX7_sheet 0 [.ref 81, .int a, .int b, .int k, .double 0] [] _ _
  have bad : G X 10 kX7_sheet 29 [.ref 81, .int a, .int b, .int k, .double 0] [] (HR c m) (MP c n (fin 0 s)) := by
    iterate 2 (refine G.st rfl rfl ?_)
    refine G.call rfl rfl (Nat.le_of_ble_eq_true rfl) (Sp.up (c7_f0 X hM) (Nat.le_of_ble_eq_true rfl)) ?_
    rintro _ _ ⟨rfl, hci⟩
    exact G.ret rfl rfl ⟨rfl, hci⟩
  iterate 1 (refine G.st rfl rfl ?_)
  refine G.call rfl rfl (Nat.le_of_ble_eq_true rfl) (Sp.up (s7_isSheet X a _) (Nat.le_of_ble_eq_true rfl)) ?_
  rintro _ _ ⟨rfl, rfl⟩
  by_cases hl : 0 ≤ a ∧ a ≤ 3
  case neg =>
    rw [if_neg (fun q => hl q.1)]
    exact G.brt rfl (bI_0.mpr hl) bad
  refine G.brf rfl (bI_n hl) ?_
  have good : (b = 0 ∨ b = 8 ∨ b = 16 ∨ b = 64) → G X 10 kX7_sheet 36 [.ref 81, .int a, .int b, .int k, .double 0] [] (HR c m) (MP c n (if (0 ≤ a ∧ a ≤ 3) ∧ (b = 0 ∨ b = 8 ∨ b = 16 ∨ b = 64) then (if k < 0 then fin 6 s else if k ≤ 40 then (nI (shNew b k).2.length, zSS s (va_up (zS s) (ln a) (shNew b k))) else fin 0 s) else fin 0 s)) := by
    intro hb
    rw [if_pos ⟨hl, hb⟩]
    iterate 1 (refine G.st rfl rfl ?_)
    by_cases hk0 : k < 0
    · rw [if_pos hk0]
      refine G.brf rfl (Int32.not_le.mpr hk0) ?_
      iterate 2 (refine G.st rfl rfl ?_)
      refine G.call rfl rfl (Nat.le_of_ble_eq_true rfl) (Sp.up (c7_f6 X hM) (Nat.le_of_ble_eq_true rfl)) ?_
      rintro _ _ ⟨rfl, hci⟩
      exact G.ret rfl rfl ⟨rfl, hci⟩
    rw [if_neg hk0]
    refine G.brt rfl (Int32.not_lt.mp hk0) ?_
    iterate 2 (refine G.st rfl rfl ?_)
    by_cases hk4 : k ≤ 40
    case neg =>
      rw [if_neg hk4]
      refine G.brf rfl hk4 ?_
      iterate 2 (refine G.st rfl rfl ?_)
      refine G.call rfl rfl (Nat.le_of_ble_eq_true rfl) (Sp.up (c7_f0 X hM) (Nat.le_of_ble_eq_true rfl)) ?_
      rintro _ _ ⟨rfl, hci⟩
      exact G.ret rfl rfl ⟨rfl, hci⟩
    rw [if_pos hk4]
    refine G.brt rfl hk4 ?_
    obtain ⟨t, ht, rfl⟩ := lok_n hl
    obtain ⟨q, hq, rfl⟩ := nI_arg (k := 40) rfl (by omega) (Int32.not_lt.mp hk0) hk4
    rw [ln_nI (by omega)]
    have hx := ix_nI (show t < 4 by omega) (by omega)
    have fin' : ∀ (bo si : Nat → Int32), bo = upd (mbo m) t (if b = 0 then -1 else b) → si = upd (msi m) t (nI (shNew b (nI q)).2.length) → G X 10 kX7_sheet 91 [.ref 81, .int (nI t), .int b, .int (nI q), .double 0] [] (HR c (mSsi (mSbo m bo) si)) (MP c n (nI (shNew b (nI q)).2.length, zSS s (va_up (zS s) t (shNew b (nI q))))) := by
      rintro _ _ rfl rfl
      iterate 2 (refine G.st rfl rfl ?_)
      refine (l7_sheet X (c := c) (m := mSsi (mSbo m (upd (mbo m) t (if b = 0 then -1 else b))) (upd (msi m) t (nI (shNew b (nI q)).2.length))) (r := nI (shNew b (nI q)).2.length) ht (mnu m) upd_s 40 0 (mnu m) (by omega) (fun j => by rw [if_neg (by omega)])).imp ?_
      rintro _ _ ⟨rfl, f', rfl, hf⟩
      obtain ⟨h1, h2, h3, h4, h5⟩ := hM
      refine ⟨rfl, _, rfl, h1, h2, h3, ?_, h5⟩
      refine h4.up ht (fun k hk => upd_if) (fun k hk => upd_if) (fun k hk => (hS.2.2.2 k hk).1) (fun j hj => by rw [hf j, if_neg hj]) (fun j hj => ?_)
      rw [hf]
      unfold shNew at hj ⊢
      dsimp only at hj ⊢
      by_cases hb0 : b = 0
      · rw [if_pos hb0] at hj
        exact absurd hj (Nat.not_lt_zero j)
      · rw [if_neg hb0] at hj ⊢
        rw [ln_nI (by omega), List.length_replicate] at hj
        rw [if_pos (by omega), ln_nI (by omega)]
        simp [hj]
    iterate 4 (refine G.st rfl rfl ?_)
    by_cases hb0 : b = 0
    · refine G.brt rfl hb0 ?_
      iterate 2 (refine G.st rfl rfl ?_)
      refine G.iast rfl rfl hx ?_
      iterate 4 (refine G.st rfl rfl ?_)
      refine G.brt rfl hb0 ?_
      iterate 2 (refine G.st rfl rfl ?_)
      refine G.iast rfl rfl hx ?_
      refine fin' (upd (mbo m) t (-1)) (upd (msi m) t 0) (by rw [if_pos hb0]) ?_
      unfold shNew
      rw [if_pos hb0]
      rfl
    · refine G.brf rfl hb0 ?_
      iterate 1 (refine G.st rfl rfl ?_)
      refine G.iast rfl rfl hx ?_
      iterate 4 (refine G.st rfl rfl ?_)
      refine G.brf rfl hb0 ?_
      iterate 1 (refine G.st rfl rfl ?_)
      refine G.iast rfl rfl hx ?_
      refine fin' (upd (mbo m) t b) (upd (msi m) t (nI q)) (by rw [if_neg hb0]) ?_
      unfold shNew
      rw [if_neg hb0, List.length_replicate, ln_nI (by omega)]
  iterate 1 (refine G.st rfl rfl ?_)
  by_cases b0 : b = 0
  · exact G.brt rfl b0 (good (Or.inl b0))
  refine G.brf rfl b0 ?_
  iterate 2 (refine G.st rfl rfl ?_)
  by_cases b8 : b = 8
  · exact G.brt rfl b8 (good (Or.inr (Or.inl b8)))
  refine G.brf rfl b8 ?_
  iterate 2 (refine G.st rfl rfl ?_)
  by_cases b16 : b = 16
  · exact G.brt rfl b16 (good (Or.inr (Or.inr (Or.inl b16))))
  refine G.brf rfl b16 ?_
  iterate 2 (refine G.st rfl rfl ?_)
  by_cases b64 : b = 64
  · exact G.brt rfl b64 (good (Or.inr (Or.inr (Or.inr b64))))
  refine G.brf rfl b64 ?_
  rw [if_neg (fun q => q.2.elim b0 (fun q => q.elim b8 (fun q => q.elim b16 b64)))]
  exact bad
end RFEED
