/-- a step without a choice -/
theorem G.st {X : aX} {d : Nat} {mi : aM} {pc : Nat} {lo st : List Value} {h : aH} {Q : Option Value → aH → Prop} {pc' : Nat} {lo' st' : List Value} {h' : aH} (hs : sA X mi pc lo st h = some (.inl (pc', lo', st', h'))) (hb : Nat.ble pc' 9999 = true) (k : G X d mi pc' lo' st' h' Q) : G X d mi pc lo st h Q := G.go hs k
theorem G.brt {X : aX} {d : Nat} {mi : aM} {pc : Nat} {lo st : List Value} {h : aH} {Q : Option Value → aH → Prop} {c : Prop} {ic : Decidable c} {t f : Nat} {lo' st' : List Value} {h' : aH} (hs : sA X mi pc lo st h = some (.inl (if c then t else f, lo', st', h'))) (hc : c) (k : G X d mi t lo' st' h' Q) : G X d mi pc lo st h Q := G.br hs (fun _ => k) (fun q => absurd hc q)
theorem G.brf {X : aX} {d : Nat} {mi : aM} {pc : Nat} {lo st : List Value} {h : aH} {Q : Option Value → aH → Prop} {c : Prop} {ic : Decidable c} {t f : Nat} {lo' st' : List Value} {h' : aH} (hs : sA X mi pc lo st h = some (.inl (if c then t else f, lo', st', h'))) (hc : ¬ c) (k : G X d mi f lo' st' h' Q) : G X d mi pc lo st h Q := G.br hs (fun q => absurd q hc) (fun _ => k)
theorem nI_p {n : Nat} (h : 0 < n) : nI n - 1 = nI (n - 1) := by
  obtain ⟨k, rfl⟩ : ∃ k, n = k + 1 := ⟨n - 1, by omega⟩
  rw [nI_pred]
  rfl
/-- a call of an object's method, the object being any cell -/
theorem G.callv {X : aX} {d : Nat} {mi : aM} {pc : Nat} {lo st : List Value} {h : aH} {Q : Option Value → aH → Prop} {i nx y b ci x : Nat} {fs as : List Value} {my : aM} {Q' : Option Value → aH → Prop} (he : ent mi pc = some (.invokevirtual i, nx, y, b, .retAddr ci)) (hst : st[b - 1]? = some (.ref x)) (has : (st.take b).reverse = as) (hc : h[x]? = some (.inl (ci, fs))) (h8 : ((st.drop b).map Value.category).sum ≤ 8) (hy : mT y = some my) (hl : (elo as).length ≤ my.2.1) (kc : Sp X d my as h Q') (k : ∀ v h', Q' v h' → G X (d + 1) mi nx lo (v.toList ++ st.drop b) h' Q) : G X (d + 1) mi pc lo st h Q := by
  refine G.call (as := as) ?_ hy hl kc k
  simp only [sA, he, stp, hst, hc]
  rw [if_pos ⟨trivial, h8⟩, has]
/-- one or nought -/
def bI (c : Prop) [Decidable c] : Int32 := if c then 1 else 0
theorem bI_t {c : Prop} [Decidable c] (h : c) : bI c = 1 := if_pos h
theorem bI_f {c : Prop} [Decidable c] (h : ¬ c) : bI c = 0 := if_neg h
theorem bI_0 {c : Prop} [Decidable c] : bI c = 0 ↔ ¬ c := by
  by_cases h : c
  · simp [bI, h]
  · simp [bI, h]
theorem bI_ok {c : Prop} [Decidable c] : (bI c == 0 || bI c == 1) = true := by
  by_cases h : c
  · simp [bI, h]
  · simp [bI, h]
abbrev An (r : Option Value) (h : aH) : Option Value → aH → Prop := fun v h' => v = r ∧ h' = h
theorem s6_isWithin (X : aX) (v l u : Int32) (h : aH) : Sp X 0 kX6_isWithin [.int v, .int l, .int u] h (An (some (.int (bI (l ≤ v ∧ v ≤ u)))) h) := by
  unfold Sp
  repeat' (first | refine G.st rfl rfl ?_ | refine G.br rfl (fun hc => ?_) (fun hc => ?_) | refine G.ret rfl rfl ?_)
  all_goals (refine ⟨?_, rfl⟩; unfold bI; grind)
theorem s6_isLine (X : aX) (x : Int32) (h : aH) : Sp X 1 kX6_isLine [.int x] h (An (some (.int (bI (0 ≤ x ∧ x ≤ 3)))) h) := by
  unfold Sp
  repeat (refine G.st rfl rfl ?_)
  refine G.call rfl rfl (Nat.le_of_ble_eq_true rfl) (Sp.up (s6_isWithin X _ _ _ _) (Nat.le_of_ble_eq_true rfl)) ?_
  rintro _ _ ⟨rfl, rfl⟩
  exact G.ret rfl bI_ok ⟨rfl, rfl⟩
theorem s6_isKind (X : aX) (x : Int32) (h : aH) : Sp X 1 kX6_isKind [.int x] h (An (some (.int (bI (0 ≤ x ∧ x ≤ 5)))) h) := by
  unfold Sp
  repeat (refine G.st rfl rfl ?_)
  refine G.call rfl rfl (Nat.le_of_ble_eq_true rfl) (Sp.up (s6_isWithin X _ _ _ _) (Nat.le_of_ble_eq_true rfl)) ?_
  rintro _ _ ⟨rfl, rfl⟩
  exact G.ret rfl bI_ok ⟨rfl, rfl⟩
theorem s6_isSize (X : aX) (x : Int32) (h : aH) : Sp X 1 kX6_isSize [.int x] h (An (some (.int (bI (1 ≤ x ∧ x ≤ 9)))) h) := by
  unfold Sp
  repeat (refine G.st rfl rfl ?_)
  refine G.call rfl rfl (Nat.le_of_ble_eq_true rfl) (Sp.up (s6_isWithin X _ _ _ _) (Nat.le_of_ble_eq_true rfl)) ?_
  rintro _ _ ⟨rfl, rfl⟩
  exact G.ret rfl bI_ok ⟨rfl, rfl⟩
theorem s6_isWind (X : aX) (x : Int32) (h : aH) : Sp X 1 kX6_isWind [.int x] h (An (some (.int (bI (0 ≤ x ∧ x ≤ 20)))) h) := by
  unfold Sp
  repeat (refine G.st rfl rfl ?_)
  refine G.call rfl rfl (Nat.le_of_ble_eq_true rfl) (Sp.up (s6_isWithin X _ _ _ _) (Nat.le_of_ble_eq_true rfl)) ?_
  rintro _ _ ⟨rfl, rfl⟩
  exact G.ret rfl bI_ok ⟨rfl, rfl⟩
theorem s6_isMeaning (X : aX) (x : Int32) (h : aH) : Sp X 1 kX6_isMeaning [.int x] h (An (some (.int (bI (0 ≤ x ∧ x ≤ 9)))) h) := by
  unfold Sp
  repeat (refine G.st rfl rfl ?_)
  refine G.call rfl rfl (Nat.le_of_ble_eq_true rfl) (Sp.up (s6_isWithin X _ _ _ _) (Nat.le_of_ble_eq_true rfl)) ?_
  rintro _ _ ⟨rfl, rfl⟩
  exact G.ret rfl bI_ok ⟨rfl, rfl⟩
theorem s6_isWorth (X : aX) (x : Int32) (h : aH) : Sp X 1 kX6_isWorth [.int x] h (An (some (.int (bI (-9999 ≤ x ∧ x ≤ 9999)))) h) := by
  unfold Sp
  repeat (refine G.st rfl rfl ?_)
  refine G.call rfl rfl (Nat.le_of_ble_eq_true rfl) (Sp.up (s6_isWithin X _ _ _ _) (Nat.le_of_ble_eq_true rfl)) ?_
  rintro _ _ ⟨rfl, rfl⟩
  exact G.ret rfl bI_ok ⟨rfl, rfl⟩
theorem s6_isSheet (X : aX) (x : Int32) (h : aH) : Sp X 1 kX6_isSheet [.int x] h (An (some (.int (bI (0 ≤ x ∧ x ≤ 3)))) h) := by
  unfold Sp
  repeat (refine G.st rfl rfl ?_)
  refine G.call rfl rfl (Nat.le_of_ble_eq_true rfl) (Sp.up (s6_isWithin X _ _ _ _) (Nat.le_of_ble_eq_true rfl)) ?_
  rintro _ _ ⟨rfl, rfl⟩
  exact G.ret rfl bI_ok ⟨rfl, rfl⟩
theorem s7_isLine (X : aX) (x : Int32) (h : aH) : Sp X 0 kX7_isLine [.int x] h (An (some (.int (bI (0 ≤ x ∧ x ≤ 3)))) h) := by
  unfold Sp
  repeat' (first | refine G.st rfl rfl ?_ | refine G.br rfl (fun hc => ?_) (fun hc => ?_) | refine G.ret rfl rfl ?_)
  all_goals (refine ⟨?_, rfl⟩; unfold bI; grind)
theorem s7_isMeaning (X : aX) (x : Int32) (h : aH) : Sp X 0 kX7_isMeaning [.int x] h (An (some (.int (bI (0 ≤ x ∧ x ≤ 9)))) h) := by
  unfold Sp
  repeat' (first | refine G.st rfl rfl ?_ | refine G.br rfl (fun hc => ?_) (fun hc => ?_) | refine G.ret rfl rfl ?_)
  all_goals (refine ⟨?_, rfl⟩; unfold bI; grind)
theorem s7_isSheet (X : aX) (x : Int32) (h : aH) : Sp X 0 kX7_isSheet [.int x] h (An (some (.int (bI (0 ≤ x ∧ x ≤ 3)))) h) := by
  unfold Sp
  repeat' (first | refine G.st rfl rfl ?_ | refine G.br rfl (fun hc => ?_) (fun hc => ?_) | refine G.ret rfl rfl ?_)
  all_goals (refine ⟨?_, rfl⟩; unfold bI; grind)
/-! ===== what a garment says ===== -/
def heldI (v : Int32) : Int32 := if 9999 < v then 9999 else if v < -9999 then -9999 else v
def seenB (w k s t : Int32) : Bool := if k = 1 ∨ k = 4 then decide (w ≤ 2 * (s + t)) else if k = 2 then decide (w ≤ s + t + 3) else if k = 5 then true else decide (w ≤ s + t)
def wAft (v st k s : Int32) : Int32 := if k = 1 then heldI (v + 10 * s) else if k = 2 then heldI (v + 1 + st) else if k = 3 then heldI (2 * v) else if k = 4 then heldI (v - 10 * s) else if k = 5 then (if v &&& 1 = 0 then v else heldI (v + 1 + st)) else heldI (v + s)
def sAft (st k : Int32) : Int32 := if k = 2 ∨ k = 5 then st + 1 else 0
def K6 (k : Int32) : Prop := k = 0 ∨ k = 1 ∨ k = 2 ∨ k = 3 ∨ k = 4 ∨ k = 5
theorem K6_of {k : Int32} (h1 : 0 ≤ k) (h2 : k ≤ 5) : K6 k := by unfold K6; grind
abbrev undP (k w : Int32) : Prop := k = w ∨ w = 0 ∨ (w = 1 ∧ k = 4) ∨ (w = 2 ∧ k = 5)
theorem s6_isBits (X : aX) (x : Int32) (h : aH) : Sp X 0 kX6_isBits [.int x] h (An (some (.int (bI (x = 0 ∨ x = 8 ∨ x = 16 ∨ x = 64)))) h) := by
  unfold Sp
  repeat' (first | refine G.st rfl rfl ?_ | refine G.br rfl (fun hc => ?_) (fun hc => ?_) | refine G.ret rfl rfl ?_)
  all_goals (refine ⟨?_, rfl⟩; unfold bI; grind)
theorem s6_isGarmentCode (X : aX) (x : Int64) (h : aH) : Sp X 0 kX6_isGarmentCode [.long x] h (An (some (.int (bI (0 < x ∧ x < 60 ∧ x - x / 10 * 10 ≠ 0)))) h) := by
  unfold Sp
  repeat' (first | refine G.st rfl rfl ?_ | refine G.br rfl (fun hc => ?_) (fun hc => ?_) | refine G.ret rfl rfl ?_)
  all_goals
    refine ⟨?_, rfl⟩
    simp only [lg_cmp_le, lg_cmp_ge, lg_cmp_eq] at *
    unfold bI
    grind
theorem s6_held (X : aX) (v : Int32) (h : aH) : Sp X 0 kX6_held [.int v] h (An (some (.int (heldI v))) h) := by
  unfold Sp
  repeat' (first | refine G.st rfl rfl ?_ | refine G.br rfl (fun hc => ?_) (fun hc => ?_) | refine G.ret rfl rfl ?_)
  all_goals (refine ⟨?_, rfl⟩; unfold heldI; grind)
theorem s7_kept (X : aX) (v : Int32) (h : aH) : Sp X 0 kX7_kept [.int v] h (An (some (.int (heldI v))) h) := by
  unfold Sp
  repeat' (first | refine G.st rfl rfl ?_ | refine G.br rfl (fun hc => ?_) (fun hc => ?_) | refine G.ret rfl rfl ?_)
  all_goals (refine ⟨?_, rfl⟩; unfold heldI; grind)
theorem s6_stockingsAfter (X : aX) (st k : Int32) (h : aH) : Sp X 0 kX6_stockingsAfter [.int st, .int k] h (An (some (.int (sAft st k))) h) := by
  unfold Sp
  repeat' (first | refine G.st rfl rfl ?_ | refine G.br rfl (fun hc => ?_) (fun hc => ?_) | refine G.ret rfl rfl ?_)
  all_goals (refine ⟨?_, rfl⟩; unfold sAft; grind)
theorem s6_isSeen (X : aX) (k s t w : Int32) (hk : K6 k) (h : aH) : Sp X 0 kX6_isSeen [.int k, .int s, .int t, .int w] h (An (some (.int (bI (seenB w k s t = true)))) h) := by
  unfold Sp
  rcases hk with rfl | rfl | rfl | rfl | rfl | rfl
  all_goals repeat' (first | refine G.st rfl rfl ?_ | refine G.br rfl (fun hc => ?_) (fun hc => ?_) | refine G.ret rfl rfl ?_)
  all_goals (refine ⟨?_, rfl⟩; unfold bI seenB; grind)
theorem s6_worthAfter (X : aX) (v st k s : Int32) (hk : K6 k) (h : aH) : Sp X 1 kX6_worthAfter [.int v, .int st, .int k, .int s] h (An (some (.int (wAft v st k s))) h) := by
  unfold Sp
  rcases hk with rfl | rfl | rfl | rfl | rfl | rfl
  all_goals repeat' (first | refine G.st rfl rfl ?_ | refine G.br rfl (fun hc => ?_) (fun hc => ?_) | refine G.ret rfl rfl ?_)
  all_goals try
    refine G.call rfl rfl (Nat.le_of_ble_eq_true rfl) (Sp.up (s6_held X _ _) (Nat.le_of_ble_eq_true rfl)) ?_
    rintro _ _ ⟨rfl, rfl⟩
    refine G.ret rfl rfl ⟨?_, rfl⟩
    simp [wAft]
    done
  · refine ⟨?_, rfl⟩
    unfold wAft
    grind
  · refine G.call rfl rfl (Nat.le_of_ble_eq_true rfl) (Sp.up (s6_held X _ _) (Nat.le_of_ble_eq_true rfl)) ?_
    rintro _ _ ⟨rfl, rfl⟩
    refine G.ret rfl rfl ⟨?_, rfl⟩
    unfold wAft
    grind
theorem s6_isOfKind (X : aX) (k w : Int32) (hk : K6 k) (hw : K6 w) (h : aH) : Sp X 2 kX6_isOfKind [.int k, .int w] h (fun v h' => (∃ b : Int32, v = some (.int b) ∧ (b = 0 ↔ ¬ undP k w)) ∧ h' = h) := by
  unfold Sp
  rcases hk with rfl | rfl | rfl | rfl | rfl | rfl <;> rcases hw with rfl | rfl | rfl | rfl | rfl | rfl
  all_goals repeat (first | refine G.st rfl rfl ?_ | (refine G.call rfl rfl (Nat.le_of_ble_eq_true rfl) (Sp.up (s6_isKind X _ _) (Nat.le_of_ble_eq_true rfl)) ?_; rintro _ _ ⟨rfl, rfl⟩) | refine G.xald rfl rfl ⟨by decide, rfl, by decide⟩ ?_)
  all_goals (refine G.ret rfl rfl ⟨⟨_, rfl, ?_⟩, rfl⟩; unfold undP; decide)
/-! ===== the reference's leaves ===== -/
theorem s7_isIn (X : aX) (v l u : Int64) (h : aH) : Sp X 0 kX7_isIn [.long v, .long l, .long u] h (An (some (.int (bI (l ≤ v ∧ v ≤ u)))) h) := by
  unfold Sp
  repeat' (first | refine G.st rfl rfl ?_ | refine G.br rfl (fun hc => ?_) (fun hc => ?_) | refine G.ret rfl rfl ?_)
  all_goals
    refine ⟨?_, rfl⟩
    simp only [lg_cmp_lt, lg_cmp_gt] at *
    unfold bI
    grind
theorem wide_le (a b : Int32) : a.toInt64 ≤ b.toInt64 ↔ a ≤ b := by
  rw [Int64.le_iff_toInt_le, Int32.le_iff_toInt_le]
  simp
theorem s7_isInI (X : aX) (v l u : Int32) (h : aH) : Sp X 0 kX7_isIn [.long v.toInt64, .long l.toInt64, .long u.toInt64] h (An (some (.int (bI (l ≤ v ∧ v ≤ u)))) h) := by
  refine (s7_isIn X _ _ _ h).imp ?_
  rintro _ _ ⟨rfl, rfl⟩
  refine ⟨?_, rfl⟩
  simp only [bI, wide_le]
theorem s7_placeOf (X : aX) (l p : Int32) (h : aH) : Sp X 0 kX7_placeOf [.int l, .int p] h (An (some (.int (26 + 3 * (7 * l + p)))) h) := by
  unfold Sp
  repeat' (first | refine G.st rfl rfl ?_ | refine G.br rfl (fun hc => ?_) (fun hc => ?_) | refine G.ret rfl rfl ?_)
  exact ⟨rfl, rfl⟩
def apI (a b : Int32) : Int32 := if a < b then b - a else a - b
theorem s7_apartBy (X : aX) (a b : Int32) (h : aH) : Sp X 0 kX7_apartBy [.int a, .int b] h (An (some (.int (apI a b))) h) := by
  unfold Sp
  repeat' (first | refine G.st rfl rfl ?_ | refine G.br rfl (fun hc => ?_) (fun hc => ?_) | refine G.ret rfl rfl ?_)
  all_goals (refine ⟨?_, rfl⟩; unfold apI; grind)
theorem s7_isStocking (X : aX) (k : Int32) (h : aH) : Sp X 0 kX7_isStocking [.int k] h (An (some (.int (bI (k = 2 ∨ k = 5)))) h) := by
  unfold Sp
  repeat' (first | refine G.st rfl rfl ?_ | refine G.br rfl (fun hc => ?_) (fun hc => ?_) | refine G.ret rfl rfl ?_)
  all_goals (refine ⟨?_, rfl⟩; unfold bI; grind)
theorem s7_isUnder (X : aX) (k w : Int32) (h : aH) : Sp X 0 kX7_isUnder [.int k, .int w] h (fun v h' => (∃ b : Int32, v = some (.int b) ∧ (b = 0 ↔ ¬ undP k w)) ∧ h' = h) := by
  unfold Sp
  repeat' (first | refine G.st rfl rfl ?_ | refine G.br rfl (fun hc => ?_) (fun hc => ?_) | refine G.ret rfl rfl ?_)
  all_goals (refine ⟨⟨_, rfl, ?_⟩, rfl⟩; unfold undP; grind)
def narI (b : Int32) (v : Int64) : Int64 := if b = 8 then v.toInt32.toInt8.toInt32.toInt64 else if b = 16 then v.toInt32.toInt16.toInt32.toInt64 else v
theorem s7_narrow (X : aX) (b : Int32) (v : Int64) (h : aH) : Sp X 0 kX7_narrow [.int b, .long v] h (An (some (.long (narI b v))) h) := by
  unfold Sp
  repeat' (first | refine G.st rfl rfl ?_ | refine G.br rfl (fun hc => ?_) (fun hc => ?_) | refine G.ret rfl rfl ?_)
  all_goals (refine ⟨?_, rfl⟩; unfold narI; grind)
theorem s7_isGarment (X : aX) (k s : Int32) (h : aH) : Sp X 1 kX7_isGarment [.int k, .int s] h (An (some (.int (bI ((0 ≤ k ∧ k ≤ 5) ∧ 1 ≤ s ∧ s ≤ 9)))) h) := by
  unfold Sp
  repeat (refine G.st rfl rfl ?_)
  refine G.call rfl rfl (Nat.le_of_ble_eq_true rfl) (Sp.up (s7_isInI X k 0 5 h) (Nat.le_of_ble_eq_true rfl)) ?_
  rintro _ _ ⟨rfl, rfl⟩
  refine G.br rfl (fun hc => ?_) (fun hc => ?_)
  · repeat' (first | refine G.st rfl rfl ?_ | refine G.br rfl (fun hc => ?_) (fun hc => ?_) | refine G.ret rfl rfl ?_)
    refine ⟨?_, rfl⟩
    rw [bI_f (fun q => bI_0.mp hc q.1)]
  · repeat (refine G.st rfl rfl ?_)
    refine G.call rfl rfl (Nat.le_of_ble_eq_true rfl) (Sp.up (s7_isInI X s 1 9 _) (Nat.le_of_ble_eq_true rfl)) ?_
    rintro _ _ ⟨rfl, rfl⟩
    refine G.br rfl (fun hc2 => ?_) (fun hc2 => ?_)
    · repeat' (first | refine G.st rfl rfl ?_ | refine G.br rfl (fun hc => ?_) (fun hc => ?_) | refine G.ret rfl rfl ?_)
      refine ⟨?_, rfl⟩
      rw [bI_f (fun q => bI_0.mp hc2 q.2)]
    · repeat' (first | refine G.st rfl rfl ?_ | refine G.br rfl (fun hc => ?_) (fun hc => ?_) | refine G.ret rfl rfl ?_)
      refine ⟨?_, rfl⟩
      have h1 := mt bI_0.mpr hc
      have h2 := mt bI_0.mpr hc2
      rw [bI_t ⟨Classical.not_not.mp h1, Classical.not_not.mp h2⟩]
