/-! ===== the reference: the next token ===== -/
/-- what the reader's own cells leave as it was -/
def Pc (P : sM → Prop) : Prop := ∀ m x, P m → P (mSfr m x) ∧ P (mStk m x) ∧ P (mSto m x) ∧ P (mSva m x) ∧ P (mSfa m x)
theorem Pc_TPR (t : List Int32) : Pc (fun m => TPR m t) := fun _ _ h => ⟨h, h, h, h, h⟩
section RNEXTK
variable {c : Nat → aC} {m : sM} {t : List Int32}
theorem rbt_in {i : Nat} (h : i < t.length) : rbt t i = bt t i := if_pos h
theorem rbt_out {i : Nat} (h : ¬ i < t.length) : rbt t i = -1 := if_neg h
theorem k7_a0 (X : aX) {e : Nat} {u : Value} {Q : Option Value → aH → Prop} (he : mto m = nI e) (hQ : G X 1 kX7_nextToken 8 [.ref 81, u] [] (HR c (mSfr m (nI e))) Q) : G X 1 kX7_nextToken 0 [.ref 81, u] [] (HR c m) Q := by
  iterate 3 (refine G.st rfl rfl ?_)
  show G X 1 kX7_nextToken 5 [.ref 81, u] [.int (mto m), .ref 81] (HR c m) Q
  rw [he]
  iterate 1 (refine G.st rfl rfl ?_)
  exact hQ
theorem k7_a1 (X : aX) {i : Nat} {u : Value} {Q : Option Value → aH → Prop} (hf : mfr m = nI i) (hQ : G X 1 kX7_nextToken 8 [.ref 81, u] [] (HR c (mSfr m (nI (i + 1)))) Q) : G X 1 kX7_nextToken 21 [.ref 81, u] [] (HR c m) Q := by
  iterate 4 (refine G.st rfl rfl ?_)
  show G X 1 kX7_nextToken 27 [.ref 81, u] [.int 1, .int (mfr m), .ref 81] (HR c m) Q
  rw [hf]
  iterate 1 (refine G.st rfl rfl ?_)
  rw [nI_1]
  iterate 2 (refine G.st rfl rfl ?_)
  exact hQ
theorem l7_skip (X : aX) {u : Value} {Q : Option Value → aH → Prop} {P : sM → Prop} (hP : ∀ m x, P m → P (mSfr m x)) (hTP : ∀ m, P m → TPR m t) : ∀ (k i : Nat) (m : sM), i + k = t.length → P m → mfr m = nI i → (∀ m', P m' → mfr m' = nI (skB t k i) → G X 1 kX7_nextToken 34 [.ref 81, u] [] (HR c m') Q) → G X 1 kX7_nextToken 8 [.ref 81, u] [] (HR c m) Q := by
  intro k
  induction k with
  | zero =>
    intro i m hi hPm hf hq
    have hT := hTP m hPm
    have h120 := hT.2.1
    iterate 3 (refine G.st rfl rfl ?_)
    show G X 1 kX7_nextToken 13 [.ref 81, u] [.int (mfr m), .ref 81] (HR c m) Q
    rw [hf]
    refine G.call rfl rfl (Nat.le_of_ble_eq_true rfl) (Sp.up (s7_byteAt X (show i < 2 ^ 30 by omega) hT) (Nat.le_of_ble_eq_true rfl)) ?_
    rintro _ _ ⟨rfl, rfl⟩
    rw [rbt_out (by omega)]
    iterate 1 (refine G.st rfl rfl ?_)
    refine G.brf rfl (by decide) ?_
    exact hq m hPm hf
  | succ k ih =>
    intro i m hi hPm hf hq
    have hT := hTP m hPm
    have h120 := hT.2.1
    iterate 3 (refine G.st rfl rfl ?_)
    show G X 1 kX7_nextToken 13 [.ref 81, u] [.int (mfr m), .ref 81] (HR c m) Q
    rw [hf]
    refine G.call rfl rfl (Nat.le_of_ble_eq_true rfl) (Sp.up (s7_byteAt X (show i < 2 ^ 30 by omega) hT) (Nat.le_of_ble_eq_true rfl)) ?_
    rintro _ _ ⟨rfl, rfl⟩
    rw [rbt_in (by omega)]
    iterate 1 (refine G.st rfl rfl ?_)
    by_cases hc : bt t i = 32
    · have e : skB t (k + 1) i = skB t k (i + 1) := if_pos hc
      rw [e] at hq
      refine G.brt rfl hc ?_
      refine k7_a1 X hf ?_
      exact ih (i + 1) _ (by omega) (hP m _ hPm) rfl hq
    · have e : skB t (k + 1) i = i := if_neg hc
      rw [e] at hq
      refine G.brf rfl hc ?_
      exact hq m hPm hf
theorem k7_b1 (X : aX) {st : Nat} {u : Value} {Q : Option Value → aH → Prop} (hf : mfr m = nI st) (hQ : G X 1 kX7_nextToken 42 [.ref 81, u] [] (HR c (mSto m (nI st))) Q) : G X 1 kX7_nextToken 34 [.ref 81, u] [] (HR c m) Q := by
  iterate 3 (refine G.st rfl rfl ?_)
  show G X 1 kX7_nextToken 39 [.ref 81, u] [.int (mfr m), .ref 81] (HR c m) Q
  rw [hf]
  iterate 1 (refine G.st rfl rfl ?_)
  exact hQ
/-- the token's number at a place -/
def tkv (t : List Int32) (st : Nat) : Int32 := if st < t.length then tkc (srt (bt t st)) else 0
theorem k7_b2 (X : aX) {st : Nat} {u : Value} {Q : Option Value → aH → Prop} (hT : TPR m t) (hst : st ≤ t.length) (hf : mfr m = nI st) (hQ : ∀ x : Int32, G X 1 kX7_nextToken 103 [.ref 81, .int x] [.int (tkv t st), .ref 81] (HR c m) Q) : G X 1 kX7_nextToken 42 [.ref 81, u] [] (HR c m) Q := by
  have h120 := hT.2.1
  iterate 3 (refine G.st rfl rfl ?_)
  show G X 1 kX7_nextToken 47 [.ref 81, u] [.int (mfr m), .ref 81] (HR c m) Q
  rw [hf]
  refine G.call rfl rfl (Nat.le_of_ble_eq_true rfl) (Sp.up (s7_byteAt X (show st < 2 ^ 30 by omega) hT) (Nat.le_of_ble_eq_true rfl)) ?_
  rintro _ _ ⟨rfl, rfl⟩
  iterate 1 (refine G.st rfl rfl ?_)
  have hQ' := hQ (rbt t st)
  unfold tkv at hQ'
  by_cases h : st < t.length
  case neg =>
    rw [if_neg h] at hQ'
    rw [rbt_out h] at hQ' ⊢
    iterate 2 (refine G.st rfl rfl ?_)
    refine G.brf rfl (by decide) ?_
    iterate 2 (refine G.st rfl rfl ?_)
    exact hQ'
  rw [if_pos h] at hQ'
  rw [rbt_in h] at hQ' ⊢
  have hb := (hT.2.2 st h).2
  iterate 2 (refine G.st rfl rfl ?_)
  refine G.brt rfl hb.1 ?_
  iterate 1 (refine G.st rfl rfl ?_)
  refine G.call rfl rfl (Nat.le_of_ble_eq_true rfl) (Sp.up (s7_isLetter X _ _) (Nat.le_of_ble_eq_true rfl)) ?_
  rintro _ _ ⟨rfl, rfl⟩
  generalize bt t st = x at hQ' hb ⊢
  by_cases h1 : 97 ≤ x ∧ x ≤ 122
  · have e : tkc (srt x) = 1 := by unfold srt; rw [if_pos h1]; decide
    rw [e] at hQ'
    refine G.brf rfl (bI_n h1) ?_
    iterate 2 (refine G.st rfl rfl ?_)
    exact hQ'
  refine G.brt rfl (bI_0.mpr h1) ?_
  iterate 1 (refine G.st rfl rfl ?_)
  refine G.call rfl rfl (Nat.le_of_ble_eq_true rfl) (Sp.up (s7_isDigit X _ _) (Nat.le_of_ble_eq_true rfl)) ?_
  rintro _ _ ⟨rfl, rfl⟩
  by_cases h2 : 48 ≤ x ∧ x ≤ 57
  · have e : tkc (srt x) = 2 := by unfold srt; rw [if_neg h1, if_pos h2]; decide
    rw [e] at hQ'
    refine G.brf rfl (bI_n h2) ?_
    iterate 2 (refine G.st rfl rfl ?_)
    exact hQ'
  refine G.brt rfl (bI_0.mpr h2) ?_
  iterate 2 (refine G.st rfl rfl ?_)
  by_cases h3 : x = 59
  · have e : tkc (srt x) = 3 := by unfold srt; rw [if_neg h1, if_neg h2, if_pos h3]; decide
    rw [e] at hQ'
    refine G.brt rfl h3 ?_
    iterate 2 (refine G.st rfl rfl ?_)
    exact hQ'
  refine G.brf rfl h3 ?_
  iterate 2 (refine G.st rfl rfl ?_)
  by_cases h4 : x = 45
  · have e : tkc (srt x) = 5 := by unfold srt; rw [if_neg h1, if_neg h2, if_neg h3, if_pos h4]; decide
    rw [e] at hQ'
    refine G.brt rfl h4 ?_
    iterate 2 (refine G.st rfl rfl ?_)
    exact hQ'
  refine G.brf rfl h4 ?_
  have e : tkc (srt x) = 4 := by unfold srt; rw [if_neg h1, if_neg h2, if_neg h3, if_neg h4]; decide
  rw [e] at hQ'
  iterate 1 (refine G.st rfl rfl ?_)
  exact hQ'
theorem k7_b3 (X : aX) {u : Value} {x : Int32} {Q : Option Value → aH → Prop} (hQ : G X 1 kX7_nextToken 106 [.ref 81, u] [] (HR c (mStk m x)) Q) : G X 1 kX7_nextToken 103 [.ref 81, u] [.int x, .ref 81] (HR c m) Q := by
  iterate 1 (refine G.st rfl rfl ?_)
  exact hQ
theorem k7_b4 (X : aX) {u : Value} {Q : Option Value → aH → Prop} (hQ : G X 1 kX7_nextToken 111 [.ref 81, u] [] (HR c (mSva m 0)) Q) : G X 1 kX7_nextToken 106 [.ref 81, u] [] (HR c m) Q := by
  iterate 3 (refine G.st rfl rfl ?_)
  exact hQ
theorem k7_c1 (X : aX) {i : Nat} {u : Value} {Q : Option Value → aH → Prop} (hf : mto m = nI i) (hQ : G X 1 kX7_nextToken 111 [.ref 81, u] [] (HR c (mSto m (nI (i + 1)))) Q) : G X 1 kX7_nextToken 133 [.ref 81, u] [] (HR c m) Q := by
  iterate 4 (refine G.st rfl rfl ?_)
  show G X 1 kX7_nextToken 139 [.ref 81, u] [.int 1, .int (mto m), .ref 81] (HR c m) Q
  rw [hf]
  iterate 1 (refine G.st rfl rfl ?_)
  rw [nI_1]
  iterate 2 (refine G.st rfl rfl ?_)
  exact hQ
theorem srt_let {x : Int32} : (97 ≤ x ∧ x ≤ 122) ↔ srt x = 1 := by
  unfold srt
  constructor
  · intro h; rw [if_pos h]
  · intro h
    apply Classical.byContradiction
    intro hn
    rw [if_neg hn] at h
    revert h
    repeat' split
    all_goals decide
theorem srt_dig {x : Int32} : (48 ≤ x ∧ x ≤ 57) ↔ srt x = 2 := by
  unfold srt
  constructor
  · intro h
    rw [if_neg (by grind), if_pos h]
  · intro h
    apply Classical.byContradiction
    intro hn
    rw [if_neg hn] at h
    revert h
    repeat' split
    all_goals decide
theorem l7_let (X : aX) {u : Value} {Q : Option Value → aH → Prop} {P : sM → Prop} (hP : ∀ m x, P m → P (mSto m x)) (hTP : ∀ m, P m → TPR m t ∧ mtk m = 1) : ∀ (k i : Nat) (m : sM), i + k = t.length → P m → mto m = nI i → (∀ m', P m' → mto m' = nI (rnB t 1 k i) → G X 1 kX7_nextToken 146 [.ref 81, u] [] (HR c m') Q) → G X 1 kX7_nextToken 111 [.ref 81, u] [] (HR c m) Q := by
  intro k
  induction k with
  | zero =>
    intro i m hi hPm hf hq
    obtain ⟨hT, hk⟩ := hTP m hPm
    have h120 := hT.2.1
    iterate 3 (refine G.st rfl rfl ?_)
    refine G.brt rfl hk ?_
    iterate 3 (refine G.st rfl rfl ?_)
    show G X 1 kX7_nextToken 124 [.ref 81, u] [.int (mto m), .ref 81] (HR c m) Q
    rw [hf]
    refine G.call rfl rfl (Nat.le_of_ble_eq_true rfl) (Sp.up (s7_byteAt X (show i < 2 ^ 30 by omega) hT) (Nat.le_of_ble_eq_true rfl)) ?_
    rintro _ _ ⟨rfl, rfl⟩
    rw [rbt_out (by omega)]
    refine G.call rfl rfl (Nat.le_of_ble_eq_true rfl) (Sp.up (s7_isLetter X _ _) (Nat.le_of_ble_eq_true rfl)) ?_
    rintro _ _ ⟨rfl, rfl⟩
    refine G.brt rfl (bI_0.mpr (by decide)) ?_
    exact hq m hPm hf
  | succ k ih =>
    intro i m hi hPm hf hq
    obtain ⟨hT, hk⟩ := hTP m hPm
    have h120 := hT.2.1
    iterate 3 (refine G.st rfl rfl ?_)
    refine G.brt rfl hk ?_
    iterate 3 (refine G.st rfl rfl ?_)
    show G X 1 kX7_nextToken 124 [.ref 81, u] [.int (mto m), .ref 81] (HR c m) Q
    rw [hf]
    refine G.call rfl rfl (Nat.le_of_ble_eq_true rfl) (Sp.up (s7_byteAt X (show i < 2 ^ 30 by omega) hT) (Nat.le_of_ble_eq_true rfl)) ?_
    rintro _ _ ⟨rfl, rfl⟩
    rw [rbt_in (by omega)]
    refine G.call rfl rfl (Nat.le_of_ble_eq_true rfl) (Sp.up (s7_isLetter X _ _) (Nat.le_of_ble_eq_true rfl)) ?_
    rintro _ _ ⟨rfl, rfl⟩
    by_cases hc : srt (bt t i) = 1
    · have e : rnB t 1 (k + 1) i = rnB t 1 k (i + 1) := if_pos hc
      rw [e] at hq
      refine G.brf rfl (bI_n (srt_let.mpr hc)) ?_
      refine k7_c1 X hf ?_
      exact ih (i + 1) _ (by omega) (hP m _ hPm) rfl hq
    · have e : rnB t 1 (k + 1) i = i := if_neg hc
      rw [e] at hq
      refine G.brt rfl (bI_0.mpr (fun q => hc (srt_let.mp q))) ?_
      exact hq m hPm hf
theorem k7_d1 (X : aX) {i : Nat} {u : Value} {x : Int32} {Q : Option Value → aH → Prop} (hf : mto m = nI i) (hQ : G X 1 kX7_nextToken 146 [.ref 81, u] [] (HR c (mSto (mSva m x) (nI (i + 1)))) Q) : G X 1 kX7_nextToken 205 [.ref 81, u] [.int x, .ref 81] (HR c m) Q := by
  iterate 1 (refine G.st rfl rfl ?_)
  show G X 1 kX7_nextToken 208 [.ref 81, u] [] (HR c (mSva m x)) Q
  have hf1 : mto (mSva m x) = nI i := hf
  generalize mSva m x = m1 at hf1 hQ ⊢
  iterate 4 (refine G.st rfl rfl ?_)
  show G X 1 kX7_nextToken 214 [.ref 81, u] [.int 1, .int (mto m1), .ref 81] (HR c m1) Q
  rw [hf1]
  iterate 1 (refine G.st rfl rfl ?_)
  rw [nI_1]
  iterate 2 (refine G.st rfl rfl ?_)
  exact hQ
theorem l7_dig (X : aX) {u : Value} {Q : Option Value → aH → Prop} {P : sM → Prop} (hP : ∀ m x y, P m → P (mSto (mSva m x) y)) (hTP : ∀ m, P m → TPR m t ∧ mtk m = 2) : ∀ (k i : Nat) (m : sM) (a : Int32), i + k = t.length → P m → mto m = nI i → mva m = a → (∀ m', P m' → mto m' = nI (rnB t 2 k i) → mva m' = numB t (rnB t 2 k i - i) i a → G X 1 kX7_nextToken 221 [.ref 81, u] [] (HR c m') Q) → G X 1 kX7_nextToken 146 [.ref 81, u] [] (HR c m) Q := by
  intro k
  induction k with
  | zero =>
    intro i m a hi hPm hf ha hq
    obtain ⟨hT, hk⟩ := hTP m hPm
    have h120 := hT.2.1
    iterate 3 (refine G.st rfl rfl ?_)
    refine G.brt rfl hk ?_
    iterate 3 (refine G.st rfl rfl ?_)
    show G X 1 kX7_nextToken 159 [.ref 81, u] [.int (mto m), .ref 81] (HR c m) Q
    rw [hf]
    refine G.call rfl rfl (Nat.le_of_ble_eq_true rfl) (Sp.up (s7_byteAt X (show i < 2 ^ 30 by omega) hT) (Nat.le_of_ble_eq_true rfl)) ?_
    rintro _ _ ⟨rfl, rfl⟩
    rw [rbt_out (by omega)]
    refine G.call rfl rfl (Nat.le_of_ble_eq_true rfl) (Sp.up (s7_isDigit X _ _) (Nat.le_of_ble_eq_true rfl)) ?_
    rintro _ _ ⟨rfl, rfl⟩
    refine G.brt rfl (bI_0.mpr (by decide)) ?_
    refine hq m hPm hf ?_
    rw [show rnB t 2 0 i - i = 0 from Nat.sub_self i]
    exact ha
  | succ k ih =>
    intro i m a hi hPm hf ha hq
    obtain ⟨hT, hk⟩ := hTP m hPm
    have h120 := hT.2.1
    iterate 3 (refine G.st rfl rfl ?_)
    refine G.brt rfl hk ?_
    iterate 3 (refine G.st rfl rfl ?_)
    show G X 1 kX7_nextToken 159 [.ref 81, u] [.int (mto m), .ref 81] (HR c m) Q
    rw [hf]
    refine G.call rfl rfl (Nat.le_of_ble_eq_true rfl) (Sp.up (s7_byteAt X (show i < 2 ^ 30 by omega) hT) (Nat.le_of_ble_eq_true rfl)) ?_
    rintro _ _ ⟨rfl, rfl⟩
    rw [rbt_in (by omega)]
    refine G.call rfl rfl (Nat.le_of_ble_eq_true rfl) (Sp.up (s7_isDigit X _ _) (Nat.le_of_ble_eq_true rfl)) ?_
    rintro _ _ ⟨rfl, rfl⟩
    by_cases hc : srt (bt t i) = 2
    case neg =>
      have e : rnB t 2 (k + 1) i = i := if_neg hc
      rw [e] at hq
      refine G.brt rfl (bI_0.mpr (fun q => hc (srt_dig.mp q))) ?_
      refine hq m hPm hf ?_
      rw [Nat.sub_self]
      exact ha
    have e : rnB t 2 (k + 1) i = rnB t 2 k (i + 1) := if_pos hc
    have hle := (rnB_in t 2 k (i + 1)).1
    rw [e] at hq
    refine G.brf rfl (bI_n (srt_dig.mpr hc)) ?_
    have next : ∀ x, x = (if 9999 < a then a else 10 * a + bt t i - 48) → G X 1 kX7_nextToken 205 [.ref 81, u] [.int x, .ref 81] (HR c m) Q := by
      intro x hx
      refine k7_d1 X hf ?_
      refine ih (i + 1) _ x (by omega) (hP m _ _ hPm) rfl rfl (fun m' h1 h2 h3 => hq m' h1 h2 ?_)
      rw [h3, show rnB t 2 k (i + 1) - i = (rnB t 2 k (i + 1) - (i + 1)) + 1 by omega, hx]
      rfl
    iterate 4 (refine G.st rfl rfl ?_)
    show G X 1 kX7_nextToken 176 [.ref 81, u] [.int 9999, .int (mva m), .ref 81] (HR c m) Q
    rw [ha]
    by_cases h9 : 9999 < a
    · refine G.brf rfl (Int32.not_le.mpr h9) ?_
      iterate 2 (refine G.st rfl rfl ?_)
      show G X 1 kX7_nextToken 183 [.ref 81, u] [.int (mva m), .ref 81] (HR c m) Q
      rw [ha]
      iterate 1 (refine G.st rfl rfl ?_)
      exact next a (by rw [if_pos h9])
    · refine G.brt rfl (Int32.not_lt.mp h9) ?_
      iterate 3 (refine G.st rfl rfl ?_)
      show G X 1 kX7_nextToken 192 [.ref 81, u] [.int (mva m), .int 10, .ref 81] (HR c m) Q
      rw [ha]
      iterate 4 (refine G.st rfl rfl ?_)
      show G X 1 kX7_nextToken 198 [.ref 81, u] [.int (mto m), .ref 81, .int (10 * a), .ref 81] (HR c m) Q
      rw [hf]
      refine G.call rfl rfl (Nat.le_of_ble_eq_true rfl) (Sp.up (s7_byteAt X (show i < 2 ^ 30 by omega) hT) (Nat.le_of_ble_eq_true rfl)) ?_
      rintro _ _ ⟨rfl, rfl⟩
      rw [rbt_in (by omega)]
      iterate 3 (refine G.st rfl rfl ?_)
      exact next _ (by rw [if_neg h9])
end RNEXTK
