/-! ===== worths, can: the class ===== -/
def nD (l : List Int32) : Nat := ((List.range 19999).filter (fun j => decide (nI j - 9999 ∈ l))).length
theorem nD_eq {l l2 : List Int32} (h : ∀ v, v ∈ l ↔ v ∈ l2) : nD l = nD l2 := by
  unfold nD
  exact congrArg List.length (List.filter_congr (fun j _ => by rw [decide_eq_decide, h]))
theorem popR_f : ∀ (n x : Nat), popR n x = ((List.range n).filter (fun b => x.testBit b)).length
  | 0, _ => rfl
  | n + 1, x => by
    rw [List.range_succ_eq_map]
    show x % 2 + popR n (x / 2) = _
    have e : ((List.map Nat.succ (List.range n)).filter (fun b => x.testBit b)).length = popR n (x / 2) := by
      rw [popR_f n (x / 2), List.filter_map, List.length_map]
      congr 1
      apply List.filter_congr
      intro b _
      show x.testBit (b + 1) = _
      rw [Nat.testBit_succ]
    by_cases h : x % 2 = 1
    · rw [List.filter_cons_of_pos (by rw [Nat.testBit_zero]; simp [h]), List.length_cons, e]
      omega
    · rw [List.filter_cons_of_neg (by rw [Nat.testBit_zero]; simp [h]), e]
      omega
/-- the bit of a place -/
def mBit (f : Nat → Int64) (j : Nat) : Bool := (f (j / 64)).toBitVec.getLsbD (j % 64)
def cw (f : Nat → Int64) (i : Nat) : Nat := ((List.range (64 * i)).filter (mBit f)).length
theorem cw_s (f : Nat → Int64) (i : Nat) : cw f (i + 1) = cw f i + popR 64 (tnL (f i)) := by
  unfold cw
  rw [Nat.mul_add, Nat.mul_one, List.range_add, List.filter_append, List.length_append, List.filter_map, List.length_map, popR_f]
  congr 2
  apply List.filter_congr
  intro b hb
  have hb := List.mem_range.mp hb
  show mBit f (64 * i + b) = _
  unfold mBit tnL
  rw [show (64 * i + b) / 64 = i by omega, show (64 * i + b) % 64 = b by omega, BitVec.testBit_toNat]
theorem cw_nD {f : Nat → Int64} {l : List Int32} (h : ∀ j, j < 20032 → mBit f j = decide (j < 19999 ∧ nI j - 9999 ∈ l)) : cw f 313 = nD l := by
  unfold cw nD
  rw [show 64 * 313 = 19999 + 33 from rfl, List.range_add, List.filter_append, List.length_append]
  have e : (List.map (fun x => 19999 + x) (List.range 33)).filter (mBit f) = [] := by
    rw [List.filter_eq_nil_iff]
    intro j hj
    obtain ⟨b, hb, rfl⟩ := List.mem_map.mp hj
    have := List.mem_range.mp hb
    rw [h _ (by omega)]
    intro q
    have := (of_decide_eq_true q).1
    omega
  rw [e, List.length_nil, Nat.add_zero]
  refine congrArg List.length (List.filter_congr (fun j hj => ?_))
  have hj := List.mem_range.mp hj
  rw [h j (by omega), decide_eq_decide]
  exact ⟨fun q => q.2, fun q => ⟨hj, q⟩⟩
def mbit (nm : Nat → Option Int32) (v : Int32) : Nat := match rd nm v with
  | none => 0
  | some b => 2 ^ b
def canN (nm : Nat → Option Int32) (l : List Int32) : Nat := l.foldl (fun s v => s ||| mbit nm v) 0
theorem mbit_t {nm : Nat → Option Int32} {v : Int32} {b : Nat} : (mbit nm v).testBit b = true ↔ rd nm v = some b := by
  unfold mbit
  cases rd nm v with
  | none => simp
  | some c =>
    show (2 ^ c).testBit b = true ↔ _
    rw [Nat.testBit_two_pow]
    simp
theorem canN_t {nm : Nat → Option Int32} {b : Nat} : ∀ (l : List Int32) (s : Nat), (l.foldl (fun s v => s ||| mbit nm v) s).testBit b = true ↔ s.testBit b = true ∨ ∃ v ∈ l, rd nm v = some b
  | [], s => by simp
  | v :: l, s => by
    rw [List.foldl_cons, canN_t l, Nat.testBit_or, Bool.or_eq_true, mbit_t]
    constructor
    · rintro ((h | h) | ⟨u, h1, h2⟩)
      · exact Or.inl h
      · exact Or.inr ⟨v, List.mem_cons_self, h⟩
      · exact Or.inr ⟨u, List.mem_cons_of_mem _ h1, h2⟩
    · rintro (h | ⟨u, h1, h2⟩)
      · exact Or.inl (Or.inl h)
      · rcases List.mem_cons.mp h1 with rfl | h1
        · exact Or.inl (Or.inr h2)
        · exact Or.inr ⟨u, h1, h2⟩
theorem canN_eq {nm : Nat → Option Int32} {l l2 : List Int32} (h : ∀ v, v ∈ l ↔ v ∈ l2) : canN nm l = canN nm l2 := by
  apply Nat.eq_of_testBit_eq
  intro b
  rw [Bool.eq_iff_iff]
  unfold canN
  rw [canN_t, canN_t]
  constructor
  · rintro (q | ⟨v, h1, h2⟩)
    · exact Or.inl q
    · exact Or.inr ⟨v, (h v).mp h1, h2⟩
  · rintro (q | ⟨v, h1, h2⟩)
    · exact Or.inl q
    · exact Or.inr ⟨v, (h v).mpr h1, h2⟩
def mmN (nm : Nat → Option Int32) (f : Nat → Int64) : Nat → Nat
  | 0 => 0
  | j + 1 => if mBit f j = true then mmN nm f j ||| mbit nm (nI j - 9999) else mmN nm f j
theorem mmN_s (nm : Nat → Option Int32) (f : Nat → Int64) (j : Nat) : mmN nm f (j + 1) = if mBit f j = true then mmN nm f j ||| mbit nm (nI j - 9999) else mmN nm f j := rfl
theorem mmN_t {nm : Nat → Option Int32} {f : Nat → Int64} {b : Nat} : ∀ J, (mmN nm f J).testBit b = true ↔ ∃ j, j < J ∧ mBit f j = true ∧ rd nm (nI j - 9999) = some b
  | 0 => by simp [mmN]
  | J + 1 => by
    have ih := mmN_t (nm := nm) (f := f) (b := b) J
    unfold mmN
    by_cases h : mBit f J = true
    · rw [if_pos h, Nat.testBit_or, Bool.or_eq_true, ih, mbit_t]
      constructor
      · rintro (⟨j, h1, h2⟩ | h1)
        · exact ⟨j, by omega, h2⟩
        · exact ⟨J, by omega, h, h1⟩
      · rintro ⟨j, h1, h2, h3⟩
        by_cases e : j = J
        · subst e; exact Or.inr h3
        · exact Or.inl ⟨j, by omega, h2, h3⟩
    · rw [if_neg h, ih]
      constructor
      · rintro ⟨j, h1, h2⟩
        exact ⟨j, by omega, h2⟩
      · rintro ⟨j, h1, h2, h3⟩
        by_cases e : j = J
        · subst e; exact absurd h2 h
        · exact ⟨j, by omega, h2, h3⟩
theorem mmN_can {nm : Nat → Option Int32} {f : Nat → Int64} {l : List Int32} (h : ∀ j, j < 20032 → mBit f j = decide (j < 19999 ∧ nI j - 9999 ∈ l)) (h9 : ∀ v ∈ l, W9 v) : mmN nm f 20032 = canN nm l := by
  apply Nat.eq_of_testBit_eq
  intro b
  rw [Bool.eq_iff_iff]
  unfold canN
  rw [canN_t, mmN_t]
  constructor
  · rintro ⟨j, h1, h2, h3⟩
    rw [h j h1] at h2
    exact Or.inr ⟨_, (of_decide_eq_true h2).2, h3⟩
  · rintro (q | ⟨v, h1, h2⟩)
    · simp at q
    · obtain ⟨j, hj, -, e⟩ := W9_j (h9 v h1)
      subst e
      exact ⟨j, by omega, by rw [h j (by omega)]; exact decide_eq_true ⟨hj, h1⟩, h2⟩
theorem sh63 : ∀ b, b < 64 → ((nI b).toInt64.toUInt64 &&& Int64.toUInt64 63).toNat % 64 = b := by decide +kernel
theorem tnL_0 {x : Int64} : x = 0 ↔ tnL x = 0 := by
  constructor
  · rintro rfl; rfl
  · intro h
    apply Int64.toBitVec_inj.mp
    exact BitVec.eq_of_toNat_eq h
theorem us_1 {x : Int64} {b : Nat} (hb : b < 64) : (usL x (nI b) &&& 1 = 0) ↔ ¬ x.toBitVec.getLsbD b = true := by
  rw [tnL_0, tnL_and, tnL_us (sh63 b hb), show tnL 1 = 1 from rfl, and_1, ← BitVec.testBit_toNat]
  show tnL x / 2 ^ b % 2 = 0 ↔ ¬ (tnL x).testBit b = true
  rw [Nat.testBit_eq_decide_div_mod_eq, decide_eq_true_eq]
  omega
theorem us_0 {x : Int64} {b c : Nat} (hb : b < 64) (h : usL x (nI b) = 0) (hc : b ≤ c) : x.toBitVec.getLsbD c = false := by
  rw [tnL_0, tnL_us (sh63 b hb)] at h
  rw [← BitVec.testBit_toNat]
  apply Nat.testBit_lt_two_pow
  have h1 : tnL x < 2 ^ b := by
    rcases Nat.div_eq_zero_iff.mp h with h | h
    · exact absurd h (Nat.ne_of_gt (Nat.two_pow_pos b))
    · exact h
  exact Nat.lt_of_lt_of_le h1 (Nat.pow_le_pow_right (by omega) hc)
theorem nI_or (a b : Nat) : nI a ||| nI b = nI (a ||| b) := by
  apply tnI_eq
  unfold tnI
  rw [Int32.toBitVec_or, BitVec.toNat_or]
  show (BitVec.ofNat 32 a).toNat ||| (BitVec.ofNat 32 b).toNat = (BitVec.ofNat 32 (a ||| b)).toNat
  rw [BitVec.toNat_ofNat, BitVec.toNat_ofNat, BitVec.toNat_ofNat, Nat.or_mod_two_pow]
theorem shl_10 : ∀ n, n < 32 → (1 : Int32) <<< (nI n &&& 31) = nI (2 ^ n) := by decide +kernel
theorem W9_nI {j : Nat} (h : j < 19999) : W9 (nI j - 9999) := by
  have h1 : nI j ≤ 19998 := by show nI j ≤ nI 19998; rw [nI_leI (by omega) (by omega)]; omega
  have h2 : 0 ≤ nI j := nI_pos' (by omega)
  unfold W9
  grind
section WORTHS
variable {rw : Nat → sR} {nu : Nat → Nat → Int32} {wd : Nat → Int32 × Int32} {vo : sV} {od : sO} {tp : sP} {sh : Nat → sS} {fi : Nat → Int32} {ik : Int32} {m : sM} {nm : Nat → Option Int32} {g : List Gar} {s : Sg}
theorem l0_unlike (X : aX) : ∀ (k i : Nat), i + k = 313 → G X 1 kX0_unlikeWorths 4 [.ref 59, .int (nI (cw (ome od) i)), .int (nI i)] [] (H rw nu wd vo od tp sh fi ik m) (An (some (.int (nI (cw (ome od) 313)))) (H rw nu wd vo od tp sh fi ik m))
  | 0, i, hi => by
    iterate 2 (refine G.st rfl rfl ?_)
    refine G.brt rfl (le_nI (k := 313) rfl (by omega) (by omega)) ?_
    iterate 1 (refine G.st rfl rfl ?_)
    obtain rfl : i = 313 := by omega
    exact G.ret rfl rfl ⟨rfl, rfl⟩
  | k + 1, i, hi => by
    iterate 2 (refine G.st rfl rfl ?_)
    refine G.brf rfl (nle_nI (k := 313) rfl (by omega) (by omega)) ?_
    iterate 4 (refine G.st rfl rfl ?_)
    refine G.lald rfl rfl (ix_nI (show i < 313 by omega) (by omega)) ?_
    refine G.call rfl rfl (Nat.le_of_ble_eq_true rfl) (Sp.up (sj_bitCountL X _ _) (Nat.le_of_ble_eq_true rfl)) ?_
    rintro _ _ ⟨rfl, rfl⟩
    show G X 1 kX0_unlikeWorths 21 [.ref 59, .int (nI (cw (ome od) i)), .int (nI i)] [.int (nI (popR 64 (tnL (ome od i)))), .int (nI (cw (ome od) i))] _ _
    iterate 1 (refine G.st rfl rfl ?_)
    rw [nI_add, ← cw_s]
    iterate 2 (refine G.st rfl rfl ?_)
    rw [nI_1]
    iterate 1 (refine G.st rfl rfl ?_)
    exact l0_unlike X k (i + 1) (by omega)
theorem s0_unlikeWorths (X : aX) : Sp X 1 kX0_unlikeWorths [.ref 59] (H rw nu wd vo od tp sh fi ik m) (An (some (.int (nI (cw (ome od) 313)))) (H rw nu wd vo od tp sh fi ik m)) := by
  unfold Sp
  iterate 4 (refine G.st rfl rfl ?_)
  exact l0_unlike X 313 0 rfl
theorem s0_meaningBit (X : aX) (hn : NumR (nu 0) nm) {v : Int32} (hv : W9 v) : Sp X 2 kX0_meaningBit [.ref 59, .int v] (H rw nu wd vo od tp sh fi ik m) (An (some (.int (nI (mbit nm v)))) (H rw nu wd vo od tp sh fi ik m)) := by
  unfold Sp
  iterate 3 (refine G.st rfl rfl ?_)
  refine G.call rfl rfl (Nat.le_of_ble_eq_true rfl) (Sp.up (s4_readAs X hn hv) (Nat.le_of_ble_eq_true rfl)) ?_
  rintro _ _ ⟨rfl, rfl⟩
  iterate 3 (refine G.st rfl rfl ?_)
  unfold mbit
  cases hr : rd nm v with
  | none =>
    refine G.brt rfl rfl ?_
    iterate 2 (refine G.st rfl rfl ?_)
    exact G.ret rfl rfl ⟨rfl, rfl⟩
  | some b =>
    have := rd_lt hr
    refine G.brf rfl (nI_ne (show b < 2 ^ 31 by omega)) ?_
    iterate 3 (refine G.st rfl rfl ?_)
    refine G.ret rfl rfl ⟨?_, rfl⟩
    show some (Value.int ((1 : Int32) <<< (nI b &&& 31))) = _
    rw [shl_10 b (by omega)]
theorem l0_met (X : aX) (hn : NumR (nu 0) nm) (hb : ∀ j, j < 20032 → mBit (ome od) j = true → j < 19999) {i : Nat} (hi : i < 313) {Q : Option Value → aH → Prop} (hq : ∀ b : Nat, G X 3 kX0_meaningsMet 70 [.ref 59, .int (nI (mmN nm (ome od) (64 * (i + 1)))), .int (nI i), .int (nI b)] [] (H rw nu wd vo od tp sh fi ik m) Q) : ∀ (k b : Nat), b + k = 64 → G X 3 kX0_meaningsMet 13 [.ref 59, .int (nI (mmN nm (ome od) (64 * i + b))), .int (nI i), .int (nI b)] [] (H rw nu wd vo od tp sh fi ik m) Q
  | 0, b, hk => by
    iterate 2 (refine G.st rfl rfl ?_)
    refine G.brt rfl (le_nI (k := 64) rfl (by omega) (by omega)) ?_
    obtain rfl : b = 64 := by omega
    exact hq 64
  | k + 1, b, hk => by
    have hx := ix_nI hi (by omega)
    have hb64 : b < 64 := by omega
    iterate 2 (refine G.st rfl rfl ?_)
    refine G.brf rfl (nle_nI (k := 64) rfl (by omega) (by omega)) ?_
    iterate 3 (refine G.st rfl rfl ?_)
    refine G.lald rfl rfl hx ?_
    iterate 4 (refine G.st rfl rfl ?_)
    show G X 3 kX0_meaningsMet 29 [.ref 59, .int (nI (mmN nm (ome od) (64 * i + b))), .int (nI i), .int (nI b)] [.int (lg_cmp (usL (ome od i) (nI b)) 0)] _ _
    by_cases h0 : usL (ome od i) (nI b) = 0
    · refine G.brt rfl (lg_cmp0.mpr h0) ?_
      have e : ∀ c, b + c ≤ 64 → mmN nm (ome od) (64 * i + (b + c)) = mmN nm (ome od) (64 * i + b) := by
        intro c
        induction c with
        | zero => intro _; rfl
        | succ c ih =>
          intro hc
          rw [← ih (by omega)]
          rw [show 64 * i + (b + (c + 1)) = (64 * i + (b + c)) + 1 from rfl, mmN_s, if_neg]
          unfold mBit
          rw [show (64 * i + (b + c)) / 64 = i by omega, show (64 * i + (b + c)) % 64 = b + c by omega, us_0 hb64 h0 (by omega)]
          decide
      have := e (64 - b) (by omega)
      rw [show 64 * i + (b + (64 - b)) = 64 * (i + 1) by omega] at this
      rw [← this]
      exact hq b
    · refine G.brf rfl (fun q => h0 (lg_cmp0.mp q)) ?_
      iterate 3 (refine G.st rfl rfl ?_)
      refine G.lald rfl rfl hx ?_
      iterate 6 (refine G.st rfl rfl ?_)
      show G X 3 kX0_meaningsMet 44 [.ref 59, .int (nI (mmN nm (ome od) (64 * i + b))), .int (nI i), .int (nI b)] [.int (lg_cmp (usL (ome od i) (nI b) &&& 1) 0)] _ _
      have eb : mBit (ome od) (64 * i + b) = (ome od i).toBitVec.getLsbD b := by
        unfold mBit
        rw [show (64 * i + b) / 64 = i by omega, show (64 * i + b) % 64 = b by omega]
      by_cases h1 : usL (ome od i) (nI b) &&& 1 = 0
      · refine G.brt rfl (lg_cmp0.mpr h1) ?_
        iterate 1 (refine G.st rfl rfl ?_)
        rw [nI_1]
        iterate 1 (refine G.st rfl rfl ?_)
        have := l0_met X hn hb hi hq k (b + 1) (by omega)
        rw [show mmN nm (ome od) (64 * i + (b + 1)) = mmN nm (ome od) (64 * i + b) from (mmN_s nm (ome od) (64 * i + b)).trans (if_neg (by rw [eb]; exact (us_1 hb64).mp h1))] at this
        exact this
      · refine G.brf rfl (fun q => h1 (lg_cmp0.mp q)) ?_
        have hbit : mBit (ome od) (64 * i + b) = true := by
          rw [eb]
          exact Classical.not_not.mp (fun q => h1 ((us_1 hb64).mpr q))
        have hj := hb (64 * i + b) (by omega) hbit
        iterate 6 (refine G.st rfl rfl ?_)
        rw [show (64 : Int32) = nI 64 from rfl, nI_mul]
        iterate 1 (refine G.st rfl rfl ?_)
        rw [nI_add]
        iterate 2 (refine G.st rfl rfl ?_)
        refine G.call rfl rfl (Nat.le_of_ble_eq_true rfl) (Sp.up (s0_meaningBit X hn (W9_nI hj)) (Nat.le_of_ble_eq_true rfl)) ?_
        rintro _ _ ⟨rfl, rfl⟩
        show G X 3 kX0_meaningsMet 62 [.ref 59, .int (nI (mmN nm (ome od) (64 * i + b))), .int (nI i), .int (nI b)] [.int (nI (mbit nm (nI (64 * i + b) - 9999))), .int (nI (mmN nm (ome od) (64 * i + b)))] _ _
        iterate 1 (refine G.st rfl rfl ?_)
        rw [nI_or]
        iterate 2 (refine G.st rfl rfl ?_)
        rw [nI_1]
        iterate 1 (refine G.st rfl rfl ?_)
        have := l0_met X hn hb hi hq k (b + 1) (by omega)
        rw [show mmN nm (ome od) (64 * i + (b + 1)) = mmN nm (ome od) (64 * i + b) ||| mbit nm (nI (64 * i + b) - 9999) from (mmN_s nm (ome od) (64 * i + b)).trans (if_pos hbit)] at this
        exact this
theorem l0_mets (X : aX) (hn : NumR (nu 0) nm) (hb : ∀ j, j < 20032 → mBit (ome od) j = true → j < 19999) : ∀ (k i : Nat) (u : Value), i + k = 313 → G X 3 kX0_meaningsMet 4 [.ref 59, .int (nI (mmN nm (ome od) (64 * i))), .int (nI i), u] [] (H rw nu wd vo od tp sh fi ik m) (An (some (.int (nI (mmN nm (ome od) 20032)))) (H rw nu wd vo od tp sh fi ik m))
  | 0, i, u, hi => by
    iterate 2 (refine G.st rfl rfl ?_)
    refine G.brt rfl (le_nI (k := 313) rfl (by omega) (by omega)) ?_
    iterate 1 (refine G.st rfl rfl ?_)
    obtain rfl : i = 313 := by omega
    exact G.ret rfl rfl ⟨rfl, rfl⟩
  | k + 1, i, u, hi => by
    iterate 2 (refine G.st rfl rfl ?_)
    refine G.brf rfl (nle_nI (k := 313) rfl (by omega) (by omega)) ?_
    iterate 2 (refine G.st rfl rfl ?_)
    refine l0_met X hn hb (show i < 313 by omega) (fun b => ?_) 64 0 rfl
    iterate 1 (refine G.st rfl rfl ?_)
    rw [nI_1]
    iterate 1 (refine G.st rfl rfl ?_)
    exact l0_mets X hn hb k (i + 1) (.int (nI b)) (by omega)
theorem s0_meaningsMet (X : aX) (hn : NumR (nu 0) nm) (hb : ∀ j, j < 20032 → mBit (ome od) j = true → j < 19999) : Sp X 3 kX0_meaningsMet [.ref 59] (H rw nu wd vo od tp sh fi ik m) (An (some (.int (nI (mmN nm (ome od) 20032)))) (H rw nu wd vo od tp sh fi ik m)) := by
  unfold Sp
  iterate 4 (refine G.st rfl rfl ?_)
  exact l0_mets X hn hb 313 0 (.double 0) rfl
def S_worths (s : Sg) (line : Int32) : Int32 × Sg := if 0 ≤ line ∧ line ≤ 3 then (nI (nD ((ordL (zW s) (zL s (ln line))).map (·.1))), s) else fin 0 s
theorem p6_worths (X : aX) (line : Int32) {h : aH} (hC : CI m s h) : Sp X 20 kX6_worths [.ref 0, .int line] h (fun v h' => v = some (.int (S_worths s line).1) ∧ CI m (S_worths s line).2 h') := by
  obtain ⟨rw, nu, wd, vo, od, tp, sh, fi, ik, rfl, hC⟩ := hC
  unfold Sp S_worths
  iterate 1 (refine G.st rfl rfl ?_)
  refine G.call rfl rfl (Nat.le_of_ble_eq_true rfl) (Sp.up (s6_isLine X line _) (Nat.le_of_ble_eq_true rfl)) ?_
  rintro _ _ ⟨rfl, rfl⟩
  by_cases hl : 0 ≤ line ∧ line ≤ 3
  case neg =>
    rw [if_neg hl]
    refine G.brt rfl (bI_0.mpr hl) ?_
    iterate 2 (refine G.st rfl rfl ?_)
    refine G.call rfl rfl (Nat.le_of_ble_eq_true rfl) (Sp.up (c6_f0 X hC) (Nat.le_of_ble_eq_true rfl)) ?_
    rintro _ _ ⟨rfl, hci⟩
    exact G.ret rfl rfl ⟨rfl, hci⟩
  refine G.brf rfl (bI_n hl) ?_
  rw [if_pos hl]
  obtain ⟨l, hl4, rfl⟩ := lok_n hl
  rw [ln_nI (by omega)]
  obtain ⟨hr, hgk, h7⟩ := hC.rep hl4
  iterate 6 (refine G.st rfl rfl ?_)
  refine G.aald rfl rfl (by decide) (ix_nI hl4 (by omega)) (rf4_row hl4) ?_
  iterate 2 (refine G.st rfl rfl ?_)
  refine G.call rfl rfl (Nat.le_of_ble_eq_true rfl) (Sp.up (s0_walk X hl4 hr hgk hC.num W9_0) (Nat.le_of_ble_eq_true rfl)) ?_
  rintro _ _ ⟨rfl, q', od', rfl, hq', hm', ha', hO⟩
  rw [hC.wd0] at hO
  iterate 2 (refine G.st rfl rfl ?_)
  refine G.call rfl rfl (Nat.le_of_ble_eq_true rfl) (Sp.up (s0_unlikeWorths X) (Nat.le_of_ble_eq_true rfl)) ?_
  rintro _ _ ⟨rfl, rfl⟩
  refine G.ret rfl rfl ⟨?_, CI.mk (hC.row12 q')⟩
  rw [cw_nD hO.2.2.2.2.2.2, nD_eq (fun v => ord_mem)]
def S_can (s : Sg) (line : Int32) : Int32 × Sg := if 0 ≤ line ∧ line ≤ 3 then (if toldN (zN s) 10 = 0 then fin 3 s else (nI (canN (zN s) ((ordL (zW s) (zL s (ln line))).map (·.1))), s)) else fin 0 s
theorem p6_can (X : aX) (line : Int32) {h : aH} (hC : CI m s h) : Sp X 20 kX6_can [.ref 0, .int line] h (fun v h' => v = some (.int (S_can s line).1) ∧ CI m (S_can s line).2 h') := by
  obtain ⟨rw, nu, wd, vo, od, tp, sh, fi, ik, rfl, hC⟩ := hC
  unfold Sp S_can
  iterate 1 (refine G.st rfl rfl ?_)
  refine G.call rfl rfl (Nat.le_of_ble_eq_true rfl) (Sp.up (s6_isLine X line _) (Nat.le_of_ble_eq_true rfl)) ?_
  rintro _ _ ⟨rfl, rfl⟩
  by_cases hl : 0 ≤ line ∧ line ≤ 3
  case neg =>
    rw [if_neg hl]
    refine G.brt rfl (bI_0.mpr hl) ?_
    iterate 2 (refine G.st rfl rfl ?_)
    refine G.call rfl rfl (Nat.le_of_ble_eq_true rfl) (Sp.up (c6_f0 X hC) (Nat.le_of_ble_eq_true rfl)) ?_
    rintro _ _ ⟨rfl, hci⟩
    exact G.ret rfl rfl ⟨rfl, hci⟩
  refine G.brf rfl (bI_n hl) ?_
  rw [if_pos hl]
  obtain ⟨l, hl4, rfl⟩ := lok_n hl
  rw [ln_nI (by omega)]
  obtain ⟨hr, hgk, h7⟩ := hC.rep hl4
  have ht := toldN_le (zN s) 10
  iterate 2 (refine G.st rfl rfl ?_)
  refine G.call rfl rfl (Nat.le_of_ble_eq_true rfl) (Sp.up (s4_meaningsTold X hC.num) (Nat.le_of_ble_eq_true rfl)) ?_
  rintro _ _ ⟨rfl, rfl⟩
  by_cases h0 : toldN (zN s) 10 = 0
  · rw [if_pos h0]
    refine G.brt rfl (by rw [h0]; rfl) ?_
    iterate 2 (refine G.st rfl rfl ?_)
    refine G.call rfl rfl (Nat.le_of_ble_eq_true rfl) (Sp.up (c6_f3 X hC) (Nat.le_of_ble_eq_true rfl)) ?_
    rintro _ _ ⟨rfl, hci⟩
    exact G.ret rfl rfl ⟨rfl, hci⟩
  rw [if_neg h0]
  refine G.brf rfl (nI_ne0 (by omega) (by omega)) ?_
  iterate 6 (refine G.st rfl rfl ?_)
  refine G.aald rfl rfl (by decide) (ix_nI hl4 (by omega)) (rf4_row hl4) ?_
  iterate 2 (refine G.st rfl rfl ?_)
  refine G.call rfl rfl (Nat.le_of_ble_eq_true rfl) (Sp.up (s0_walk X hl4 hr hgk hC.num W9_0) (Nat.le_of_ble_eq_true rfl)) ?_
  rintro _ _ ⟨rfl, q', od', rfl, hq', hm', ha', hO⟩
  rw [hC.wd0] at hO
  iterate 2 (refine G.st rfl rfl ?_)
  refine G.call rfl rfl (Nat.le_of_ble_eq_true rfl) (Sp.up (s0_meaningsMet X (od := od') hC.num (fun j hj hb => (of_decide_eq_true ((hO.2.2.2.2.2.2 j hj).symm.trans hb)).1)) (Nat.le_of_ble_eq_true rfl)) ?_
  rintro _ _ ⟨rfl, rfl⟩
  refine G.ret rfl rfl ⟨?_, CI.mk (hC.row12 q')⟩
  rw [mmN_can hO.2.2.2.2.2.2 (fun v hv => by obtain ⟨q, hq, rfl⟩ := List.mem_map.mp hv; exact (hO.1 q hq).1), canN_eq (fun v => ord_mem)]
end WORTHS
