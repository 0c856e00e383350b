/-! ===== the reference: images, counts, the tape's ends ===== -/
section RIMG
variable {c : Nat → aC} {m : sM} {s : Sg} {n : Nat}
theorem l7_copyRow (X : aX) {a b : Nat} {fa : Nat → Int32} {h : aH} (ha : h[a]? = some (iA 110 fa)) (hb : b < h.length) (hab : a ≠ b) : ∀ (k i : Nat) (f : Nat → Int32), i + k = 110 → (∀ j, j < i → f j = fa j) → G X 0 kX7_copyRow 2 [.ref a, .ref b, .int (nI i)] [] (h.set b (iA 110 f)) (fun v h' => v = none ∧ ∃ f', h' = h.set b (iA 110 f') ∧ ∀ j, j < 110 → f' j = fa j)
  | 0, i, f, hi, hf => by
    iterate 2 (refine G.st rfl rfl ?_)
    refine G.brt rfl (le_nI (k := 110) rfl (by omega) (by omega)) ?_
    exact G.ret rfl rfl ⟨rfl, f, rfl, fun j hj => hf j (by omega)⟩
  | k + 1, i, f, hi, hf => by
    have hx := ix_nI (show i < 110 by omega) (by omega)
    iterate 2 (refine G.st rfl rfl ?_)
    refine G.brf rfl (nle_nI (k := 110) rfl (by omega) (by omega)) ?_
    iterate 4 (refine G.st rfl rfl ?_)
    refine G.iald rfl (by rw [List.getElem?_set_ne (Ne.symm hab)]; exact ha) hx ?_
    refine G.iast rfl (by rw [List.getElem?_set_self hb]) hx ?_
    rw [List.set_set]
    iterate 1 (refine G.st rfl rfl ?_)
    rw [nI_1]
    iterate 1 (refine G.st rfl rfl ?_)
    refine l7_copyRow X ha hb hab k (i + 1) (upd f i (fa i)) (by omega) (fun j hj => ?_)
    rw [upd_if]
    by_cases e : j = i
    · rw [if_pos e, e]
    · rw [if_neg e]
      exact hf j (by omega)
theorem s7_copyRow (X : aX) {a b : Nat} {fa fb : Nat → Int32} {h : aH} (ha : h[a]? = some (iA 110 fa)) (hb : h[b]? = some (iA 110 fb)) (hab : a ≠ b) : Sp X 0 kX7_copyRow [.ref a, .ref b] h (fun v h' => v = none ∧ ∃ f', h' = h.set b (iA 110 f') ∧ ∀ j, j < 110 → f' j = fa j) := by
  unfold Sp
  iterate 2 (refine G.st rfl rfl ?_)
  have := l7_copyRow X ha (List.getElem?_eq_some_iff.mp hb).1 hab 110 0 fb rfl (fun j hj => absurd hj (Nat.not_lt_zero j))
  rw [set_same hb] at this
  exact this
theorem MT.eq {f f' : Nat → Int32} {T : Twn} (h : MT f T) (h7 : ∀ l, l < 4 → (T.1 l).length ≤ 7) (hf : ∀ j, j < 110 → f' j = f j) : MT f' T := by
  refine ⟨fun l hl => ⟨?_, fun p hp => ?_⟩, ?_, ?_, fun j hj => ?_⟩
  · rw [hf l (by omega)]; exact (h.1 l hl).1
  · rw [← show G3 f (pl l p) = gD (T.1 l) p from (h.1 l hl).2 p hp]
    have h1 := h7 l hl
    have h2 := pl_lt hl (show p < 7 by omega)
    unfold G3
    rw [hf _ (by omega), hf _ (by omega), hf _ (by omega)]
  · rw [hf _ (by omega)]; exact h.2.1
  · rw [hf _ (by omega)]; exact h.2.2.1
  · rw [hf _ (by omega), hf _ (by omega)]; exact h.2.2.2 j hj
theorem p7_image (X : aX) (hS : SOk s) (hM : MR n m s) : Sp X 10 kX7_image [.ref 81] (HR c m) (MP c n (S_image s)) := by
  unfold Sp S_image
  iterate 4 (refine G.st rfl rfl ?_)
  refine G.call rfl rfl (Nat.le_of_ble_eq_true rfl) (Sp.up (s7_copyRow X (h := HR c m) (a := 82) (b := 83) (fa := ms m) (fb := mkp m) rfl rfl (by decide)) (Nat.le_of_ble_eq_true rfl)) ?_
  rintro _ _ ⟨rfl, f', rfl, hf⟩
  show G X 10 kX7_image 11 [.ref 81] [] (HR c (mSkp m f')) _
  iterate 4 (refine G.st rfl rfl ?_)
  refine G.ret rfl rfl ⟨rfl, mSik (mSkp m f') 1, rfl, ?_⟩
  obtain ⟨h1, h2, h3⟩ := hM
  exact ⟨h1, ⟨rfl, h1.eq (fun l hl => hS.len hl) hf⟩, h3⟩
theorem s7_garments (X : aX) {m : sM} {T : Twn} (h : MT (ms m) T) : Sp X 0 kX7_garments [.ref 81] (HR c m) (An (some (.int (nI (garN T.1)))) (HR c m)) := by
  unfold Sp
  iterate 3 (refine G.st rfl rfl ?_)
  refine G.iald rfl rfl (j := 0) ⟨by decide, rfl, by decide⟩ ?_
  iterate 3 (refine G.st rfl rfl ?_)
  refine G.iald rfl rfl (j := 1) ⟨by decide, rfl, by decide⟩ ?_
  iterate 4 (refine G.st rfl rfl ?_)
  refine G.iald rfl rfl (j := 2) ⟨by decide, rfl, by decide⟩ ?_
  iterate 4 (refine G.st rfl rfl ?_)
  refine G.iald rfl rfl (j := 3) ⟨by decide, rfl, by decide⟩ ?_
  rw [(h.1 0 (by omega)).1, (h.1 1 (by omega)).1, (h.1 2 (by omega)).1, (h.1 3 (by omega)).1]
  iterate 1 (refine G.st rfl rfl ?_)
  refine G.ret rfl rfl ⟨?_, rfl⟩
  rw [nI_add, nI_add, nI_add]
  rfl
theorem p7_undo (X : aX) (hS : SOk s) (hM : MR n m s) : Sp X 10 kX7_undo [.ref 81] (HR c m) (MP c n (S_undo s)) := by
  unfold Sp S_undo
  iterate 2 (refine G.st rfl rfl ?_)
  cases hk : zK s with
  | none =>
    have h2 := hM.2.1
    rw [hk] at h2
    refine G.brt rfl h2 ?_
    iterate 2 (refine G.st rfl rfl ?_)
    refine G.call rfl rfl (Nat.le_of_ble_eq_true rfl) (Sp.up (c7_f3 X hM) (Nat.le_of_ble_eq_true rfl)) ?_
    rintro _ _ ⟨rfl, hci⟩
    exact G.ret rfl rfl ⟨rfl, hci⟩
  | some k =>
    have h2 := hM.2.1
    rw [hk] at h2
    refine G.brf rfl (by rw [show mik m = 1 from h2.1]; decide) ?_
    iterate 4 (refine G.st rfl rfl ?_)
    refine G.call rfl rfl (Nat.le_of_ble_eq_true rfl) (Sp.up (s7_copyRow X (h := HR c m) (a := 83) (b := 82) (fa := mkp m) (fb := ms m) rfl rfl (by decide)) (Nat.le_of_ble_eq_true rfl)) ?_
    rintro _ _ ⟨rfl, f', rfl, hf⟩
    show G X 10 kX7_undo 25 [.ref 81] [] (HR c (mSs m f')) _
    have hT : MT f' k := h2.2.eq (fun l hl => ((hS.2.1 k hk).1 l hl).2) hf
    iterate 1 (refine G.st rfl rfl ?_)
    refine G.call rfl rfl (Nat.le_of_ble_eq_true rfl) (Sp.up (s7_garments X (m := mSs m f') hT) (Nat.le_of_ble_eq_true rfl)) ?_
    rintro _ _ ⟨rfl, rfl⟩
    refine G.ret rfl rfl ⟨rfl, mSs m f', rfl, hT, ?_, hM.2.2⟩
    exact hM.2.1
theorem p7_tear (X : aX) (hS : SOk s) (hM : MR n m s) : Sp X 10 kX7_tear [.ref 81] (HR c m) (MP c n (S_tear s)) := by
  unfold Sp S_tear
  have h2 := hM.2.1
  iterate 7 (refine G.st rfl rfl ?_)
  cases hk : zK s with
  | none =>
    rw [hk] at h2
    refine G.brt rfl h2 ?_
    iterate 1 (refine G.st rfl rfl ?_)
    exact G.ret rfl rfl ⟨rfl, mSik m 0, rfl, hM.1, rfl, hM.2.2⟩
  | some k =>
    rw [hk] at h2
    refine G.brf rfl (by show ¬ mik m = 0; rw [h2.1]; decide) ?_
    iterate 2 (refine G.st rfl rfl ?_)
    exact G.ret rfl rfl ⟨rfl, mSik m 0, rfl, hM.1, rfl, hM.2.2⟩
theorem p7_wipe (X : aX) (hS : SOk s) (hM : MR n m s) : Sp X 10 kX7_wipe [.ref 81] (HR c m) (MP c n (S_wipe s)) := by
  unfold Sp S_wipe
  obtain ⟨h1, h2, ⟨h3, h3'⟩, h4⟩ := hM
  iterate 7 (refine G.st rfl rfl ?_)
  refine G.ret rfl rfl ⟨?_, mStd m 0, rfl, h1, h2, ⟨rfl, fun j hj => absurd hj (Nat.not_lt_zero j)⟩, h4⟩
  show some (Value.int (mtd m)) = _
  rw [h3]
theorem l7_count (X : aX) {u : Int32} (hM : MR n m s) : ∀ (k i : Nat), i + k = 10 → G X 10 kX7_count 43 [.ref 81, .int u, .int (nI (toldN (zN s) i)), .int (nI i)] [] (HR c m) (MP c n (nI (toldN (zN s) 10), s))
  | 0, i, hi => by
    iterate 2 (refine G.st rfl rfl ?_)
    refine G.brt rfl (le_nI (k := 10) rfl (by omega) (by omega)) ?_
    iterate 1 (refine G.st rfl rfl ?_)
    obtain rfl : i = 10 := by omega
    exact G.ret rfl rfl ⟨rfl, m, rfl, hM⟩
  | k + 1, i, hi => by
    iterate 2 (refine G.st rfl rfl ?_)
    refine G.brf rfl (nle_nI (k := 10) rfl (by omega) (by omega)) ?_
    iterate 6 (refine G.st rfl rfl ?_)
    refine G.iald rfl rfl (ixa (k := 6) rfl (show 6 + i < 110 by omega) (by omega)) ?_
    rw [hM.has (by omega)]
    iterate 1 (refine G.st rfl rfl ?_)
    have e : nI (toldN (zN s) i) + bI ((zN s i).isSome = true) = nI (toldN (zN s) (i + 1)) := by
      conv => rhs; unfold toldN
      by_cases h : (zN s i).isSome = true
      · rw [bI_t h, if_pos h, nI_1]
      · rw [bI_f h, if_neg h, Nat.add_zero, Int32.add_zero]
    rw [e]
    iterate 2 (refine G.st rfl rfl ?_)
    rw [nI_1]
    iterate 1 (refine G.st rfl rfl ?_)
    exact l7_count X hM k (i + 1) (by omega)
theorem tsw_in {pc : Nat} {d : Int} {os : Array Int} {q : Nat} {u : Int} (hq : (q : Int) ≤ u) (hq2 : q < 2 ^ 31) : tsw pc d 0 u os (nI q) = ((pc : Int) + os.getD q 0).toNat := by
  unfold tsw
  rw [nI_toInt hq2, if_neg (by omega)]
  simp
theorem p7_count (X : aX) (k : Int32) (hS : SOk s) (hM : MR n m s) : Sp X 10 kX7_count [.ref 81, .int k] (HR c m) (MP c n (S_count s k)) := by
  unfold Sp S_count
  show G X 10 kX7_count 0 [.ref 81, .int k, .double 0, .double 0] [] _ _
  iterate 3 (refine G.st rfl rfl ?_)
  by_cases hk : 0 ≤ k ∧ k ≤ 4
  case neg =>
    rw [if_neg (fun q => hk (by rw [q]; decide)), if_neg (fun q => hk (by rw [q]; decide)), if_neg (fun q => hk (by rw [q]; decide)), if_neg (fun q => hk (by rw [q]; decide)), if_neg (fun q => hk (by rw [q]; decide))]
    refine G.tsw (t := 88) rfl ((tsw_out ?_).trans rfl) ?_
    · by_cases h0 : k.toInt < 0
      · exact Or.inl h0
      · right
        apply Classical.byContradiction
        intro h4
        apply hk
        refine ⟨Int32.le_iff_toInt_le.mpr ?_, Int32.le_iff_toInt_le.mpr ?_⟩
        · show (0 : Int) ≤ k.toInt; omega
        · show k.toInt ≤ (4 : Int); omega
    · iterate 2 (refine G.st rfl rfl ?_)
      refine G.call rfl rfl (Nat.le_of_ble_eq_true rfl) (Sp.up (c7_f0 X hM) (Nat.le_of_ble_eq_true rfl)) ?_
      rintro _ _ ⟨rfl, hci⟩
      exact G.ret rfl rfl ⟨rfl, hci⟩
  obtain ⟨q, hq, rfl⟩ := nI_arg (k := 4) rfl (by omega) hk.1 hk.2
  rcases (show q = 0 ∨ q = 1 ∨ q = 2 ∨ q = 3 ∨ q = 4 by omega) with rfl | rfl | rfl | rfl | rfl
  · rw [if_pos (by decide)]
    refine G.tsw (t := 36) rfl (by decide +kernel) ?_
    iterate 1 (refine G.st rfl rfl ?_)
    refine G.call rfl rfl (Nat.le_of_ble_eq_true rfl) (Sp.up (s7_garments X hM.1) (Nat.le_of_ble_eq_true rfl)) ?_
    rintro _ _ ⟨rfl, rfl⟩
    exact G.ret rfl rfl ⟨rfl, m, rfl, hM⟩
  · rw [if_neg (by decide), if_pos (by decide)]
    refine G.tsw (t := 41) rfl (by decide +kernel) ?_
    iterate 2 (refine G.st rfl rfl ?_)
    exact l7_count X hM 10 0 rfl
  · rw [if_neg (by decide), if_neg (by decide), if_pos (by decide)]
    refine G.tsw (t := 69) rfl (by decide +kernel) ?_
    iterate 2 (refine G.st rfl rfl ?_)
    refine G.ret rfl rfl ⟨?_, m, rfl, hM⟩
    show some (Value.int (mtd m)) = _
    rw [hM.2.2.1.1]
  · rw [if_neg (by decide), if_neg (by decide), if_neg (by decide), if_pos (by decide)]
    refine G.tsw (t := 74) rfl (by decide +kernel) ?_
    iterate 3 (refine G.st rfl rfl ?_)
    refine G.iald rfl rfl (j := 4) ⟨by decide, rfl, by decide⟩ ?_
    rw [hM.1.2.1]
    exact G.ret rfl rfl ⟨rfl, m, rfl, hM⟩
  · rw [if_neg (by decide), if_neg (by decide), if_neg (by decide), if_neg (by decide), if_pos (by decide)]
    refine G.tsw (t := 81) rfl (by decide +kernel) ?_
    iterate 3 (refine G.st rfl rfl ?_)
    refine G.iald rfl rfl (j := 5) ⟨by decide, rfl, by decide⟩ ?_
    rw [hM.1.2.2.1]
    exact G.ret rfl rfl ⟨rfl, m, rfl, hM⟩
theorem p7_status (X : aX) (k : Int32) (hS : SOk s) (hM : MR n m s) : Sp X 10 kX7_status [.ref 81, .int k] (HR c m) (MP c n (S_status s k)) := by
  unfold Sp S_status
  show G X 10 kX7_status 0 [.ref 81, .int k] [] _ _
  iterate 4 (refine G.st rfl rfl ?_)
  refine G.call rfl rfl (Nat.le_of_ble_eq_true rfl) (Sp.up (s7_isInI X k (-1) 6 _) (Nat.le_of_ble_eq_true rfl)) ?_
  rintro _ _ ⟨rfl, rfl⟩
  by_cases hk : -1 ≤ k ∧ k ≤ 6
  case neg =>
    rw [if_neg hk]
    refine G.brt rfl (bI_0.mpr hk) ?_
    iterate 2 (refine G.st rfl rfl ?_)
    refine G.call rfl rfl (Nat.le_of_ble_eq_true rfl) (Sp.up (c7_f0 X hM) (Nat.le_of_ble_eq_true rfl)) ?_
    rintro _ _ ⟨rfl, hci⟩
    exact G.ret rfl rfl ⟨rfl, hci⟩
  rw [if_pos hk]
  refine G.brf rfl (bI_n hk) ?_
  iterate 5 (refine G.st rfl rfl ?_)
  by_cases h0 : k < 0
  · rw [if_pos h0]
    have e : k = -1 := by have := hk.1; grind
    subst e
    refine G.iald rfl rfl (j := 0) ⟨by decide, rfl, by decide⟩ ?_
    iterate 1 (refine G.st rfl rfl ?_)
    refine G.ret rfl rfl ⟨?_, m, rfl, hM⟩
    rw [hM.2.2.2.2.1.1]
    unfold sum7
    simp [sumF]
  · rw [if_neg h0]
    obtain ⟨j, hj, rfl⟩ := nI_arg (k := 6) rfl (by omega) (Int32.not_lt.mp h0) hk.2
    rw [ln_nI (by omega), nI_1]
    refine G.iald rfl rfl (ix_nI (show j + 1 < 8 by omega) (by omega)) ?_
    rw [hM.2.2.2.2.1.2 j (by omega)]
    iterate 1 (refine G.st rfl rfl ?_)
    exact G.ret rfl rfl ⟨rfl, m, rfl, hM⟩
end RIMG
