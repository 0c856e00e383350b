/-! ===== orders: all of them, and those with like ones rising ===== -/
abbrev Acc : Type := Int32 × Int32
/-- what a saying makes of what was said -/
def eff (y : Int32) (a : Acc) : Acc := if y = 0 then a else (wAft a.1 a.2 (y / 10) (y - y / 10 * 10), sAft a.2 (y / 10))
abbrev Lf : Type := Int32 × List Nat
def pfx (p : Nat) (q : Lf) : Lf := (q.1, p :: q.2)
def allO (say : Nat → Int32) : Nat → List Nat → Acc → List Lf
  | 0, _, a => [(a.1, [])]
  | k + 1, R, a => R.flatMap (fun p => (allO say k (R.erase p) (eff (say p) a)).map (pfx p))
def fstO (say : Nat → Int32) (R : List Nat) (p : Nat) : Bool := R.all (fun q => !(decide (q < p) && decide (say q = say p)))
def canO (say : Nat → Int32) : Nat → List Nat → Acc → List Lf
  | 0, _, a => [(a.1, [])]
  | k + 1, R, a => (R.filter (fstO say R)).flatMap (fun p => (canO say k (R.erase p) (eff (say p) a)).map (pfx p))
theorem fstO_iff {say : Nat → Int32} {R : List Nat} {p : Nat} : fstO say R p = true ↔ ∀ q ∈ R, q < p → say q ≠ say p := by
  unfold fstO
  rw [List.all_eq_true]
  constructor
  · intro h q hq hlt e
    have := h q hq
    simp [hlt, e] at this
  · intro h q hq
    by_cases hlt : q < p
    · have := h q hq hlt
      simp [this]
    · simp [hlt]
def cF (P : Int32 → Bool) : Nat → List Int32 → Acc → Nat
  | 0, _, a => if P a.1 = true then 1 else 0
  | k + 1, L, a => (L.map (fun y => cF P k (L.erase y) (eff y a))).sum
theorem cF_perm (P : Int32 → Bool) : ∀ (k : Nat) (L L' : List Int32) (a : Acc), L.Perm L' → cF P k L a = cF P k L' a
  | 0, _, _, _, _ => rfl
  | k + 1, L, L', a, h => by
    show (L.map (fun y => cF P k (L.erase y) (eff y a))).sum = (L'.map (fun y => cF P k (L'.erase y) (eff y a))).sum
    rw [show (fun y => cF P k (L.erase y) (eff y a)) = (fun y => cF P k (L'.erase y) (eff y a)) from funext (fun y => cF_perm P k _ _ _ (h.erase y))]
    exact (h.map _).sum_nat
theorem map_eraseP {say : Nat → Int32} {R : List Nat} {p : Nat} (h : p ∈ R) : ((R.erase p).map say).Perm ((R.map say).erase (say p)) := by
  have h1 := ((List.perm_cons_erase h).map say).erase (say p)
  rw [List.map_cons, List.erase_cons_head] at h1
  exact h1.symm
theorem cnt_all (P : Int32 → Bool) (say : Nat → Int32) : ∀ (k : Nat) (R : List Nat) (a : Acc), (allO say k R a).countP (fun q => P q.1) = cF P k (R.map say) a
  | 0, R, a => by
    show List.countP (fun q : Lf => P q.1) [(a.1, [])] = if P a.1 = true then 1 else 0
    rw [List.countP_cons, List.countP_nil, Nat.zero_add]
  | k + 1, R, a => by
    show List.countP (fun q : Lf => P q.1) (R.flatMap (fun p => (allO say k (R.erase p) (eff (say p) a)).map (pfx p))) = ((R.map say).map (fun y => cF P k ((R.map say).erase y) (eff y a))).sum
    rw [List.countP_flatMap, List.map_map]
    congr 1
    apply List.map_congr_left
    intro p hp
    simp only [Function.comp, List.countP_map]
    rw [← cF_perm P k _ _ _ (map_eraseP hp)]
    exact cnt_all P say k (R.erase p) _
/-- how many orders one stands for -/
def wt : List Int32 → Nat
  | [] => 1
  | y :: L => (1 + L.count y) * wt L
theorem wt_perm {L L' : List Int32} (h : L.Perm L') : wt L = wt L' := by
  induction h with
  | nil => rfl
  | cons x h ih => unfold wt; rw [ih, h.count_eq]
  | swap x y l =>
    unfold wt
    unfold wt
    by_cases e : x = y
    · subst e; rfl
    · rw [List.count_cons_of_ne e, List.count_cons_of_ne (Ne.symm e), Nat.mul_left_comm]
  | trans _ _ h1 h2 => exact h1.trans h2
theorem wt_pos : ∀ (L : List Int32), 0 < wt L
  | [] => Nat.one_pos
  | y :: L => Nat.mul_pos (by omega) (wt_pos L)
theorem wt_erase {y : Int32} {L : List Int32} (h : y ∈ L) : wt L = L.count y * wt (L.erase y) := by
  have h1 := wt_perm (List.perm_cons_erase h)
  rw [h1]
  have h2 : 0 < L.count y := List.count_pos_iff.mpr h
  show (1 + (L.erase y).count y) * wt (L.erase y) = _
  rw [List.count_erase_self, show 1 + (L.count y - 1) = L.count y by omega]
theorem sum_split (c : Nat → Bool) (f : Nat → Nat) : ∀ R : List Nat, (R.map f).sum = ((R.filter c).map f).sum + ((R.filter (fun q => !c q)).map f).sum
  | [] => rfl
  | p :: R => by
    have ih := sum_split c f R
    rw [List.map_cons, List.sum_cons, ih]
    cases hc : c p
    · rw [List.filter_cons_of_neg (by simp [hc]), List.filter_cons_of_pos (by simp [hc]), List.map_cons, List.sum_cons]
      omega
    · rw [List.filter_cons_of_pos hc, List.filter_cons_of_neg (by simp [hc]), List.map_cons, List.sum_cons]
      omega
theorem mul_sumL (c : Nat) (f : Nat → Nat) : ∀ l : List Nat, (l.map (fun p => c * f p)).sum = c * (l.map f).sum
  | [] => rfl
  | p :: l => by rw [List.map_cons, List.sum_cons, List.map_cons, List.sum_cons, mul_sumL c f l, Nat.mul_add]
theorem fst_cons {say : Nat → Int32} {p : Nat} {R : List Nat} (h : (p :: R).Pairwise (· < ·)) : (p :: R).filter (fstO say (p :: R)) = p :: (R.filter (fun q => !decide (say q = say p))).filter (fstO say (R.filter (fun q => !decide (say q = say p)))) := by
  obtain ⟨h1, h2⟩ := List.pairwise_cons.mp h
  rw [List.filter_cons_of_pos, List.filter_filter]
  · congr 1
    apply List.filter_congr
    intro q hq
    rw [Bool.eq_iff_iff, Bool.and_eq_true, fstO_iff, fstO_iff]
    constructor
    · intro hh
      refine ⟨fun x hx hlt => hh x (List.mem_cons_of_mem _ (List.mem_filter.mp hx).1) hlt, ?_⟩
      have := hh p List.mem_cons_self (h1 q hq)
      simp [Ne.symm this]
    · rintro ⟨ha, hb⟩ x hx hlt
      have hb : ¬ say q = say p := by simpa using hb
      rcases List.mem_cons.mp hx with rfl | hx
      · exact fun e => hb e.symm
      · by_cases e : say x = say p
        · rw [e]; exact fun e2 => hb e2.symm
        · exact ha x (List.mem_filter.mpr ⟨hx, by simp [e]⟩) hlt
  · rw [fstO_iff]
    intro q hq hlt
    rcases List.mem_cons.mp hq with rfl | hq
    · omega
    · have := h1 q hq
      omega
theorem sum_const (say : Nat → Int32) (φ : Int32 → Nat) (y : Int32) : ∀ R : List Nat, ((R.filter (fun q => decide (say q = y))).map (fun p => φ (say p))).sum = (R.map say).count y * φ y
  | [] => by simp
  | p :: R => by
    have ih := sum_const say φ y R
    by_cases e : say p = y
    · rw [List.filter_cons_of_pos (by simp [e]), List.map_cons, List.sum_cons, ih, List.map_cons, e, List.count_cons_self, Nat.succ_mul]
      omega
    · rw [List.filter_cons_of_neg (by simp [e]), ih, List.map_cons, List.count_cons_of_ne e]
theorem count_flt (say : Nat → Int32) (y z : Int32) (hne : z ≠ y) : ∀ R : List Nat, ((R.filter (fun q => !decide (say q = y))).map say).count z = (R.map say).count z
  | [] => rfl
  | p :: R => by
    have ih := count_flt say y z hne R
    by_cases e : say p = y
    · rw [List.filter_cons_of_neg (by simp [e]), ih, List.map_cons, e, List.count_cons_of_ne (Ne.symm hne)]
    · rw [List.filter_cons_of_pos (by simp [e]), List.map_cons, List.map_cons, List.count_cons, List.count_cons, ih]
theorem sum_first (say : Nat → Int32) (φ : Int32 → Nat) : ∀ (n : Nat) (R : List Nat), R.length ≤ n → R.Pairwise (· < ·) → (R.map (fun p => φ (say p))).sum = ((R.filter (fstO say R)).map (fun p => (R.map say).count (say p) * φ (say p))).sum
  | 0, R, hn, _ => by
    rw [List.length_eq_zero_iff.mp (Nat.le_zero.mp hn)]
    rfl
  | n + 1, [], _, _ => rfl
  | n + 1, p :: R, hn, hs => by
    have hs2 : (R.filter (fun q => !decide (say q = say p))).Pairwise (· < ·) := (List.pairwise_cons.mp hs).2.filter _
    have hl : (R.filter (fun q => !decide (say q = say p))).length ≤ n := by
      have := List.length_filter_le (fun q => !decide (say q = say p)) R
      simp only [List.length_cons] at hn
      omega
    have ih := sum_first say φ n _ hl hs2
    rw [fst_cons hs, List.map_cons, List.sum_cons, List.map_cons, List.sum_cons, sum_split (fun q => decide (say q = say p)) (fun p => φ (say p)) R, ih, sum_const say φ (say p) R, List.map_cons, List.count_cons_self, Nat.succ_mul]
    have e : ((R.filter (fun q => !decide (say q = say p))).filter (fstO say (R.filter (fun q => !decide (say q = say p))))).map (fun q => ((R.filter (fun q => !decide (say q = say p))).map say).count (say q) * φ (say q)) = ((R.filter (fun q => !decide (say q = say p))).filter (fstO say (R.filter (fun q => !decide (say q = say p))))).map (fun q => (say p :: R.map say).count (say q) * φ (say q)) := by
      apply List.map_congr_left
      intro q hq
      have hq2 := (List.mem_filter.mp (List.mem_filter.mp hq).1).2
      have hne : say q ≠ say p := by simpa using hq2
      rw [count_flt say (say p) (say q) hne, List.count_cons_of_ne (Ne.symm hne)]
    rw [e]
    omega
theorem cnt_can (P : Int32 → Bool) (say : Nat → Int32) : ∀ (k : Nat) (R : List Nat) (a : Acc), R.length = k → R.Pairwise (· < ·) → cF P k (R.map say) a = wt (R.map say) * (canO say k R a).countP (fun q => P q.1)
  | 0, R, a, hk, _ => by
    rw [List.length_eq_zero_iff.mp hk]
    show (if P a.1 = true then 1 else 0) = 1 * List.countP (fun q : Lf => P q.1) [(a.1, [])]
    rw [List.countP_cons, List.countP_nil, Nat.zero_add, Nat.one_mul]
  | k + 1, R, a, hk, hs => by
    show ((R.map say).map (fun y => cF P k ((R.map say).erase y) (eff y a))).sum = wt (R.map say) * List.countP (fun q : Lf => P q.1) ((R.filter (fstO say R)).flatMap (fun p => (canO say k (R.erase p) (eff (say p) a)).map (pfx p)))
    rw [List.countP_flatMap, List.map_map]
    have e1 := sum_first say (fun y => cF P k ((R.map say).erase y) (eff y a)) R.length R (Nat.le_refl _) hs
    have e0 : R.map ((fun y => cF P k ((R.map say).erase y) (eff y a)) ∘ say) = R.map (fun p => cF P k ((R.map say).erase (say p)) (eff (say p) a)) := rfl
    rw [e0, e1, ← mul_sumL]
    congr 1
    apply List.map_congr_left
    intro p hp
    have hpR : p ∈ R := (List.mem_filter.mp hp).1
    have ih := cnt_can P say k (R.erase p) (eff (say p) a) (by rw [List.length_erase_of_mem hpR]; omega) (hs.sublist List.erase_sublist)
    rw [← cF_perm P k _ _ _ (map_eraseP hpR), ih, wt_erase (List.mem_map_of_mem hpR), ← wt_perm (map_eraseP hpR)]
    simp only [Function.comp, List.countP_map]
    rw [Nat.mul_assoc]
    rfl
theorem cnt_eq (P : Int32 → Bool) (say : Nat → Int32) {k : Nat} {R : List Nat} {a : Acc} (hk : R.length = k) (hs : R.Pairwise (· < ·)) : (allO say k R a).countP (fun q => P q.1) = wt (R.map say) * (canO say k R a).countP (fun q => P q.1) := by
  rw [cnt_all, cnt_can P say k R a hk hs]
theorem mem_cnt {l : List Lf} {v : Int32} : v ∈ l.map (·.1) ↔ 0 < l.countP (fun q => decide (q.1 = v)) := by
  rw [List.countP_pos_iff, List.mem_map]
  constructor
  · rintro ⟨q, h1, h2⟩; exact ⟨q, h1, by simpa using h2⟩
  · rintro ⟨q, h1, h2⟩; exact ⟨q, h1, by simpa using h2⟩
theorem mem_eq (say : Nat → Int32) {k : Nat} {R : List Nat} {a : Acc} (hk : R.length = k) (hs : R.Pairwise (· < ·)) {v : Int32} : v ∈ (allO say k R a).map (·.1) ↔ v ∈ (canO say k R a).map (·.1) := by
  rw [mem_cnt, mem_cnt, cnt_eq (fun x => decide (x = v)) say hk hs]
  have := wt_pos (R.map say)
  constructor
  · intro h; exact Nat.pos_of_mul_pos_left h
  · intro h; exact Nat.mul_pos this h
theorem mem_swap (say : Nat → Int32) {k : Nat} {R : List Nat} {p q : Nat} {a : Acc} (hp : p ∈ R) (hq : q ∈ R) (e : say q = say p) {v : Int32} : v ∈ (allO say k (R.erase p) a).map (·.1) ↔ v ∈ (allO say k (R.erase q) a).map (·.1) := by
  rw [mem_cnt, mem_cnt, cnt_all (fun x => decide (x = v)), cnt_all (fun x => decide (x = v)), cF_perm _ _ _ _ _ (map_eraseP hp), cF_perm _ _ _ _ _ (map_eraseP hq), e]
/-! ===== the nearest ===== -/
def dst (aim : Int32) (q : Lf) : Int := (apI q.1 aim).toInt
def cmb (aim : Int32) : Option Lf → Option Lf → Option Lf
  | none, y => y
  | some x, none => some x
  | some x, some y => if dst aim y < dst aim x then some y else some x
theorem cmb_none (aim : Int32) (x : Option Lf) : cmb aim x none = x := by cases x <;> rfl
theorem cmb_assoc (aim : Int32) (x y z : Option Lf) : cmb aim (cmb aim x y) z = cmb aim x (cmb aim y z) := by
  cases x with
  | none => rfl
  | some x =>
    cases y with
    | none => rfl
    | some y =>
      cases z with
      | none => rw [cmb_none, cmb_none]
      | some z =>
        simp only [cmb]
        by_cases h1 : dst aim y < dst aim x <;> by_cases h2 : dst aim z < dst aim y <;> by_cases h3 : dst aim z < dst aim x <;> simp only [h1, h2, h3, if_true, if_false, cmb] <;> omega
def bstL (aim : Int32) (l : List Lf) : Option Lf := l.foldl (fun b q => cmb aim b (some q)) none
theorem bst_acc (aim : Int32) : ∀ (l : List Lf) (b : Option Lf), l.foldl (fun b q => cmb aim b (some q)) b = cmb aim b (bstL aim l)
  | [], b => by rw [show bstL aim [] = none from rfl, cmb_none]; rfl
  | q :: l, b => by
    rw [List.foldl_cons, bst_acc aim l]
    unfold bstL
    rw [List.foldl_cons, bst_acc aim l (cmb aim none (some q)), cmb_assoc]
    rfl
theorem bst_app (aim : Int32) (l l2 : List Lf) : bstL aim (l ++ l2) = cmb aim (bstL aim l) (bstL aim l2) := by
  conv => lhs; unfold bstL
  rw [List.foldl_append, bst_acc]
  rfl
theorem bst_snoc (aim : Int32) (l : List Lf) (q : Lf) : bstL aim (l ++ [q]) = cmb aim (bstL aim l) (some q) := by
  rw [bst_app]; rfl
theorem bst_flat (aim : Int32) (f : Nat → List Lf) : ∀ (R : List Nat) (b : Option Lf), cmb aim b (bstL aim (R.flatMap f)) = R.foldl (fun b p => cmb aim b (bstL aim (f p))) b
  | [], b => cmb_none aim b
  | p :: R, b => by
    rw [List.flatMap_cons, bst_app, ← cmb_assoc, bst_flat aim f R, List.foldl_cons]
theorem bst_pfx (aim : Int32) (p : Nat) : ∀ (l : List Lf) (b : Option Lf), (l.map (pfx p)).foldl (fun b q => cmb aim b (some q)) (b.map (pfx p)) = (l.foldl (fun b q => cmb aim b (some q)) b).map (pfx p)
  | [], b => rfl
  | q :: l, b => by
    rw [List.map_cons, List.foldl_cons, List.foldl_cons, ← bst_pfx aim p l]
    congr 1
    cases b with
    | none => rfl
    | some b =>
      show (if dst aim (pfx p q) < dst aim (pfx p b) then _ else _) = Option.map (pfx p) (if dst aim q < dst aim b then _ else _)
      rw [show dst aim (pfx p q) = dst aim q from rfl, show dst aim (pfx p b) = dst aim b from rfl]
      split <;> rfl
theorem bst_map (aim : Int32) (p : Nat) (l : List Lf) : bstL aim (l.map (pfx p)) = (bstL aim l).map (pfx p) := bst_pfx aim p l none
theorem cmb_some (aim : Int32) (x : Option Lf) (y : Lf) : ∃ z, cmb aim x (some y) = some z ∧ dst aim z ≤ dst aim y ∧ (z = y ∨ x = some z) ∧ ∀ w, x = some w → dst aim z ≤ dst aim w := by
  cases x with
  | none => exact ⟨y, rfl, Int.le_refl _, Or.inl rfl, fun w h => by cases h⟩
  | some x =>
    by_cases h : dst aim y < dst aim x
    · exact ⟨y, by simp only [cmb, h, if_true], Int.le_refl _, Or.inl rfl, fun w e => by cases e; omega⟩
    · exact ⟨x, by simp only [cmb, h, if_false], by omega, Or.inr rfl, fun w e => by cases e; omega⟩
theorem bst_leA (aim : Int32) : ∀ (l : List Lf) (x : Option Lf) (b : Lf), l.foldl (fun b q => cmb aim b (some q)) x = some b → (b ∈ l ∨ x = some b) ∧ (∀ q ∈ l, dst aim b ≤ dst aim q) ∧ ∀ w, x = some w → dst aim b ≤ dst aim w
  | [], x, b, h => ⟨Or.inr h, (fun q hq => by cases hq), fun w hw => by rw [List.foldl_nil] at h; rw [h] at hw; cases hw; exact Int.le_refl _⟩
  | q :: l, x, b, h => by
    rw [List.foldl_cons] at h
    obtain ⟨h1, h2, h3⟩ := bst_leA aim l _ b h
    obtain ⟨z, z1, z2, z3, z4⟩ := cmb_some aim x q
    have h4 := h3 z z1
    refine ⟨?_, ?_, ?_⟩
    · rcases h1 with h1 | h1
      · exact Or.inl (List.mem_cons_of_mem _ h1)
      · rw [z1] at h1
        cases h1
        rcases z3 with rfl | z3
        · exact Or.inl List.mem_cons_self
        · exact Or.inr z3
    · intro r hr
      rcases List.mem_cons.mp hr with rfl | hr
      · omega
      · exact h2 r hr
    · intro w hw
      have := z4 w hw
      omega
theorem bst_le (aim : Int32) {l : List Lf} {b : Lf} (h : bstL aim l = some b) : b ∈ l ∧ ∀ q ∈ l, dst aim b ≤ dst aim q := by
  obtain ⟨h1, h2, _⟩ := bst_leA aim l none b h
  rcases h1 with h1 | h1
  · exact ⟨h1, h2⟩
  · cases h1
theorem bst_ex (aim : Int32) {l : List Lf} (h : l ≠ []) : ∃ b, bstL aim l = some b := by
  cases l with
  | nil => exact absurd rfl h
  | cons q l =>
    have := bst_app aim [q] l
    rw [List.singleton_append] at this
    rw [this, show bstL aim [q] = some q from rfl]
    cases bstL aim l with
    | none => exact ⟨q, rfl⟩
    | some y =>
      simp only [cmb]
      split
      · exact ⟨_, rfl⟩
      · exact ⟨_, rfl⟩
/-- like worths: like distance -/
theorem bst_same (aim : Int32) {l l2 : List Lf} (h : ∀ v, v ∈ l.map (·.1) ↔ v ∈ l2.map (·.1)) {b : Lf} (hb : bstL aim l = some b) : ∃ b2, bstL aim l2 = some b2 ∧ dst aim b2 ≤ dst aim b := by
  obtain ⟨h1, h2⟩ := bst_le aim hb
  obtain ⟨q, hq, e⟩ := List.mem_map.mp ((h b.1).mp (List.mem_map_of_mem h1))
  obtain ⟨b2, hb2⟩ := bst_ex aim (l := l2) (fun e2 => by rw [e2] at hq; cases hq)
  refine ⟨b2, hb2, ?_⟩
  have := (bst_le aim hb2).2 q hq
  have e3 : dst aim q = dst aim b := by unfold dst; rw [e]
  omega
/-- those with a like one ahead may be left out -/
theorem fold_drop (aim : Int32) (B : Nat → Option Lf) (c : Nat → Bool) (R : List Nat) (hR : R.Pairwise (· < ·)) (hc : ∀ p ∈ R, c p = false → ∃ q ∈ R, q < p ∧ ∀ b, B p = some b → ∃ b2, B q = some b2 ∧ dst aim b2 ≤ dst aim b) : ∀ (l2 l1 : List Nat) (acc : Option Lf), R = l1 ++ l2 → (∀ q ∈ l1, ∀ b, B q = some b → ∃ x, acc = some x ∧ dst aim x ≤ dst aim b) → l2.foldl (fun b p => cmb aim b (B p)) acc = (l2.filter c).foldl (fun b p => cmb aim b (B p)) acc
  | [], _, _, _, _ => rfl
  | p :: l2, l1, acc, hRl, hacc => by
    rw [List.foldl_cons]
    have hnext : R = (l1 ++ [p]) ++ l2 := by rw [hRl]; simp
    have hinv : ∀ q ∈ l1 ++ [p], ∀ b, B q = some b → ∃ x, cmb aim acc (B p) = some x ∧ dst aim x ≤ dst aim b := by
      intro q hq b hb
      cases hBp : B p with
      | none =>
        rw [cmb_none]
        rcases List.mem_append.mp hq with h | h
        · exact hacc q h b hb
        · rw [List.mem_singleton.mp h, hBp] at hb
          cases hb
      | some bp =>
        obtain ⟨z, z1, z2, z3, z4⟩ := cmb_some aim acc bp
        refine ⟨z, z1, ?_⟩
        rcases List.mem_append.mp hq with h | h
        · obtain ⟨x, hx1, hx2⟩ := hacc q h b hb
          have := z4 x hx1
          omega
        · rw [List.mem_singleton.mp h, hBp] at hb
          cases hb
          exact z2
    have ih := fold_drop aim B c R hR hc l2 (l1 ++ [p]) (cmb aim acc (B p)) hnext hinv
    rw [ih]
    cases hcp : c p with
    | true => rw [List.filter_cons_of_pos hcp, List.foldl_cons]
    | false =>
      rw [List.filter_cons_of_neg (by simp [hcp])]
      congr 1
      obtain ⟨q, hq, hqp, hD⟩ := hc p (by rw [hRl]; simp) hcp
      cases hBp : B p with
      | none => exact cmb_none aim acc
      | some bp =>
        obtain ⟨b2, hb2, hle⟩ := hD bp hBp
        have hq1 : q ∈ l1 := by
          rw [hRl] at hq hR
          rcases List.mem_append.mp hq with h | h
          · exact h
          · rcases List.mem_cons.mp h with rfl | h
            · omega
            · have := (List.pairwise_cons.mp (List.pairwise_append.mp hR).2.1).1 q h
              omega
        obtain ⟨x, hx1, hx2⟩ := hacc q hq1 b2 hb2
        rw [hx1]
        simp only [cmb]
        rw [if_neg (by omega)]
theorem foldl_cg {α β : Type} {f g : β → α → β} : ∀ {l : List α} {b : β}, (∀ b, ∀ p ∈ l, f b p = g b p) → l.foldl f b = l.foldl g b
  | [], _, _ => rfl
  | x :: l, b, h => by
    rw [List.foldl_cons, List.foldl_cons, h b x List.mem_cons_self]
    exact foldl_cg (fun b p hp => h b p (List.mem_cons_of_mem _ hp))
theorem bst_can (aim : Int32) (say : Nat → Int32) : ∀ (k : Nat) (R : List Nat) (a : Acc), R.length = k → R.Pairwise (· < ·) → bstL aim (allO say k R a) = bstL aim (canO say k R a)
  | 0, R, a, _, _ => rfl
  | k + 1, R, a, hk, hs => by
    show bstL aim (R.flatMap (fun p => (allO say k (R.erase p) (eff (say p) a)).map (pfx p))) = bstL aim ((R.filter (fstO say R)).flatMap (fun p => (canO say k (R.erase p) (eff (say p) a)).map (pfx p)))
    have e1 := bst_flat aim (fun p => (allO say k (R.erase p) (eff (say p) a)).map (pfx p)) R none
    have e2 := bst_flat aim (fun p => (canO say k (R.erase p) (eff (say p) a)).map (pfx p)) (R.filter (fstO say R)) none
    rw [show ∀ x, cmb aim none x = x from fun x => rfl] at e1 e2
    rw [e1, e2, fold_drop aim _ (fstO say R) R hs ?_ R [] none rfl (fun q hq => by cases hq)]
    · apply foldl_cg
      intro b p hp
      have hpR : p ∈ R := (List.mem_filter.mp hp).1
      rw [bst_map, bst_map, bst_can aim say k (R.erase p) _ (by rw [List.length_erase_of_mem hpR]; omega) (hs.sublist List.erase_sublist)]
    · intro p hp hc
      have hc2 : ¬ fstO say R p = true := by rw [hc]; decide
      rw [fstO_iff] at hc2
      have hc3 : ∃ q, q ∈ R ∧ q < p ∧ say q = say p := by
        apply Classical.byContradiction
        intro hno
        exact hc2 (fun q hq hlt e => hno ⟨q, hq, hlt, e⟩)
      obtain ⟨q, hq, hqp, e⟩ := hc3
      refine ⟨q, hq, hqp, fun b hb => ?_⟩
      rw [bst_map] at hb
      rw [bst_map, e]
      cases hB : bstL aim (allO say k (R.erase p) (eff (say p) a)) with
      | none => rw [hB] at hb; cases hb
      | some b0 =>
        rw [hB] at hb
        cases hb
        obtain ⟨b2, hb2, hle⟩ := bst_same aim (fun v => mem_swap say hp hq e) hB
        rw [hb2]
        exact ⟨_, rfl, hle⟩
theorem all_len (say : Nat → Int32) : ∀ (k : Nat) (R : List Nat) (a : Acc) (q : Lf), R.length = k → q ∈ allO say k R a → q.2.Perm R
  | 0, R, a, q, hk, hq => by
    rw [show allO say 0 R a = [(a.1, [])] from rfl, List.mem_singleton] at hq
    rw [hq, List.length_eq_zero_iff.mp hk]
  | k + 1, R, a, q, hk, hq => by
    rw [show allO say (k + 1) R a = R.flatMap (fun p => (allO say k (R.erase p) (eff (say p) a)).map (pfx p)) from rfl] at hq
    obtain ⟨p, hp, hq⟩ := List.mem_flatMap.mp hq
    obtain ⟨r, hr, rfl⟩ := List.mem_map.mp hq
    have := all_len say k (R.erase p) _ r (by rw [List.length_erase_of_mem hp]; omega) hr
    exact (this.cons p).trans (List.perm_cons_erase hp).symm
theorem can_mem (say : Nat → Int32) : ∀ (k : Nat) (R : List Nat) (a : Acc) (q : Lf), q ∈ canO say k R a → q ∈ allO say k R a
  | 0, _, _, _, h => h
  | k + 1, R, a, q, h => by
    rw [show canO say (k + 1) R a = (R.filter (fstO say R)).flatMap (fun p => (canO say k (R.erase p) (eff (say p) a)).map (pfx p)) from rfl] at h
    obtain ⟨p, hp, hq⟩ := List.mem_flatMap.mp h
    obtain ⟨r, hr, rfl⟩ := List.mem_map.mp hq
    rw [show allO say (k + 1) R a = R.flatMap (fun p => (allO say k (R.erase p) (eff (say p) a)).map (pfx p)) from rfl]
    exact List.mem_flatMap.mpr ⟨p, (List.mem_filter.mp hp).1, List.mem_map_of_mem (can_mem say k _ _ r hr)⟩
theorem all_ne (say : Nat → Int32) : ∀ (k : Nat) (R : List Nat) (a : Acc), R.length = k → allO say k R a ≠ []
  | 0, R, a, _ => by simp [allO]
  | k + 1, [], a, hk => by simp at hk
  | k + 1, p :: R, a, hk => by
    intro h
    have h2 := (List.flatMap_eq_nil_iff.mp (show (p :: R).flatMap (fun q => (allO say k ((p :: R).erase q) (eff (say q) a)).map (pfx q)) = [] from h)) p List.mem_cons_self
    have h3 := List.map_eq_nil_iff.mp h2
    exact all_ne say k _ _ (by rw [List.length_erase_of_mem List.mem_cons_self]; simp at hk ⊢; omega) h3
theorem can_ne (say : Nat → Int32) {k : Nat} {R : List Nat} {a : Acc} (hk : R.length = k) (hs : R.Pairwise (· < ·)) : canO say k R a ≠ [] := by
  intro h
  obtain ⟨q, hq⟩ := List.exists_mem_of_ne_nil _ (all_ne say k R a hk)
  have := (mem_eq say hk hs (v := q.1)).mp (List.mem_map_of_mem hq)
  rw [h] at this
  cases this
