/-! ===== the class's walk through orders: sayings, twins ===== -/
def sayI (w : Int32) (g : Gar) : Int32 := if seenB w g.1 g.2.1 g.2.2 = true then 10 * g.1 + (if g.1 = 0 ∨ g.1 = 1 ∨ g.1 = 4 then g.2.1 else 9) else 0
theorem say_dec : ∀ k, k < 6 → ∀ z, z < 10 → 0 < z → (10 * nI k + nI z) / 10 = nI k ∧ (10 * nI k + nI z) - (10 * nI k + nI z) / 10 * 10 = nI z ∧ 10 * nI k + nI z ≠ 0 := by decide +kernel
theorem wAft_sz {v st k z z2 : Int32} (h : ¬ (k = 0 ∨ k = 1 ∨ k = 4)) (hk : K6 k) : wAft v st k z = wAft v st k z2 := by
  rcases hk with rfl | rfl | rfl | rfl | rfl | rfl
  · exact absurd (Or.inl rfl) h
  · exact absurd (Or.inr (Or.inl rfl)) h
  · simp [wAft]
  · simp [wAft]
  · exact absurd (Or.inr (Or.inr rfl)) h
  · simp [wAft]
theorem K6_n {k : Int32} (h : K6 k) : ∃ j, j < 6 ∧ k = nI j := by
  rcases h with rfl | rfl | rfl | rfl | rfl | rfl
  · exact ⟨0, by omega, rfl⟩
  · exact ⟨1, by omega, rfl⟩
  · exact ⟨2, by omega, rfl⟩
  · exact ⟨3, by omega, rfl⟩
  · exact ⟨4, by omega, rfl⟩
  · exact ⟨5, by omega, rfl⟩
theorem size_n {z : Int32} (h : 1 ≤ z ∧ z ≤ 9) : ∃ j, 0 < j ∧ j < 10 ∧ z = nI j := by
  obtain ⟨j, h1, h2⟩ := nI_arg (k := 9) rfl (by omega) (Int32.le_trans (by decide) h.1) h.2
  refine ⟨j, ?_, by omega, h2⟩
  have h3 : nI 1 ≤ z := h.1
  rw [h2, nI_leI (by omega) (by omega)] at h3
  omega
theorem say_y {g : Gar} (h : gK g) : ∃ z, (0 < z ∧ z < 10) ∧ (if g.1 = 0 ∨ g.1 = 1 ∨ g.1 = 4 then g.2.1 else 9) = nI z := by
  obtain ⟨z, h1, h2, h3⟩ := size_n h.2.1
  split
  · exact ⟨z, ⟨h1, h2⟩, h3⟩
  · exact ⟨9, by omega, rfl⟩
theorem eff_say {w : Int32} {a : Acc} {g : Gar} (h : gK g) : eff (sayI w g) a = hearG w a g := by
  unfold sayI hearG
  by_cases hs : seenB w g.1 g.2.1 g.2.2 = true
  · rw [if_pos hs, if_pos hs]
    obtain ⟨j, hj, ej⟩ := K6_n h.1
    obtain ⟨z, ⟨hz0, hz⟩, ez⟩ := say_y h
    have hd := say_dec j hj z hz hz0
    rw [ez, show (10 : Int32) * g.1 = 10 * nI j by rw [ej]]
    unfold eff
    rw [if_neg hd.2.2, hd.2.1, hd.1, ← ej, ← ez]
    by_cases hc : g.1 = 0 ∨ g.1 = 1 ∨ g.1 = 4
    · rw [if_pos hc]
    · rw [if_neg hc, wAft_sz (z2 := g.2.1) hc h.1]
  · rw [if_neg hs, if_neg hs]
    exact if_pos rfl
theorem say_0 {w : Int32} {g : Gar} (h : gK g) : sayI w g = 0 ↔ ¬ seenB w g.1 g.2.1 g.2.2 = true := by
  unfold sayI
  by_cases hs : seenB w g.1 g.2.1 g.2.2 = true
  · rw [if_pos hs]
    obtain ⟨j, hj, ej⟩ := K6_n h.1
    obtain ⟨z, ⟨hz0, hz⟩, ez⟩ := say_y h
    have hd := say_dec j hj z hz hz0
    rw [ez, show (10 : Int32) * g.1 = 10 * nI j by rw [ej]]
    exact ⟨fun e => absurd e hd.2.2, fun e => absurd hs e⟩
  · rw [if_neg hs]
    exact ⟨fun _ => hs, fun _ => rfl⟩
/-- a set of pegs -/
theorem hg_bits : ∀ M, M < 128 → ∀ p, p < 7 → (((nI M >>> (nI p &&& 31)) &&& 1 = 0 ↔ M.testBit p = false) ∧ nI M ||| ((1 : Int32) <<< (nI p &&& 31)) = nI (M ||| 2 ^ p) ∧ (M.testBit p = false → nI (M ||| 2 ^ p) &&& (((1 : Int32) <<< (nI p &&& 31)) ^^^ (-1)) = nI M) ∧ M ||| 2 ^ p < 128) := by decide +kernel
/-- pegs that are not in a set -/
def rem (M n : Nat) : List Nat := (List.range n).filter (fun p => !M.testBit p)
theorem rem_mem {M n p : Nat} : p ∈ rem M n ↔ p < n ∧ M.testBit p = false := by
  unfold rem
  rw [List.mem_filter, List.mem_range]
  simp
theorem rem_sorted (M n : Nat) : (rem M n).Pairwise (· < ·) := List.pairwise_lt_range.filter _
theorem rem_or {M n p : Nat} (h : p ∈ rem M n) : rem (M ||| 2 ^ p) n = (rem M n).erase p := by
  have hnd : (rem M n).Nodup := (rem_sorted M n).imp (fun h => Nat.ne_of_lt h)
  rw [hnd.erase_eq_filter]
  unfold rem
  rw [List.filter_filter]
  apply List.filter_congr
  intro q hq
  rw [Nat.testBit_or, Nat.testBit_two_pow]
  by_cases e : p = q
  · subst e; simp
  · have e2 : ¬ q = p := fun x => e x.symm
    simp [e, e2]
def Tw (say : Nat → Int32) (p j : Nat) (t : Int32) : Prop := (t = -1 ∧ ∀ q, q < j → say q ≠ say p) ∨ ∃ q, q < j ∧ t = nI q ∧ say q = say p ∧ ∀ r, q < r → r < j → say r ≠ say p
def cntP (say : Nat → Int32) (y : Int32) (j : Nat) : Nat := ((List.range j).map say).count y
theorem cntP_s {say : Nat → Int32} {y : Int32} {j : Nat} : cntP say y (j + 1) = cntP say y j + if say j = y then 1 else 0 := by
  unfold cntP
  rw [List.range_succ, List.map_append, List.count_append, List.map_singleton, List.count_singleton]
  by_cases e : say j = y
  · simp [e]
  · simp [e]
def wtP (say : Nat → Int32) (i : Nat) : Nat := wt ((List.range i).map say)
theorem wtP_s {say : Nat → Int32} {i : Nat} : wtP say (i + 1) = wtP say i * (1 + cntP say (say i) i) := by
  unfold wtP cntP
  rw [List.range_succ, List.map_append, List.map_singleton, wt_perm List.perm_append_comm, List.singleton_append]
  show (1 + _) * _ = _
  rw [Nat.mul_comm]
theorem nI_mul (a b : Nat) : nI a * nI b = nI (a * b) := by
  unfold nI
  rw [Int32.ofNat_mul]
section SAY
variable {rw : Nat → sR} {nu : Nat → Nat → Int32} {wd : Nat → Int32 × Int32} {vo : sV} {od : sO} {tp : sP} {sh : Nat → sS} {fi : Nat → Int32} {ik : Int32} {m : sM} {nm : Nat → Option Int32} {g : List Gar}
theorem s0_saying (X : aX) {j : Nat} (hg : Rep (rw 12) g) (hgk : gKs g) (hj : j < g.length) : Sp X 2 kX0_saying [.ref 59, .int (nI j)] (H rw nu wd vo od tp sh fi ik m) (An (some (.int (sayI (wd 0).1 (gD g j)))) (H rw nu wd vo od tp sh fi ik m)) := by
  unfold Sp
  have h7 := hg.2.1
  obtain ⟨a1, a2, a3⟩ := hg.gD hj
  have hk := gK_at hgk hj
  have hx := ix_nI (show j < 7 by omega) (by omega)
  iterate 6 (refine G.st rfl rfl ?_)
  refine G.call rfl rfl (Nat.le_of_ble_eq_true rfl) (Sp.up (s1_isSeenAt X (H_row (i := 12) (by omega)) (show j < 7 by omega) (by rw [a1]; exact hk.1)) (Nat.le_of_ble_eq_true rfl)) ?_
  rintro _ _ ⟨rfl, rfl⟩
  rw [a1, a2, a3]
  by_cases hs : seenB (wd 0).1 (gD g j).1 (gD g j).2.1 (gD g j).2.2 = true
  case neg =>
    refine G.brt rfl (bI_0.mpr hs) ?_
    iterate 1 (refine G.st rfl rfl ?_)
    refine G.ret rfl rfl ⟨?_, rfl⟩
    unfold sayI
    rw [if_neg hs]
  refine G.brf rfl (bI_n hs) ?_
  iterate 4 (refine G.st rfl rfl ?_)
  refine G.iald rfl rfl hx ?_
  rw [a1]
  iterate 2 (refine G.st rfl rfl ?_)
  have r49 : ∀ b : Int32, (b = 0 ∧ ¬ ((gD g j).1 = 0 ∨ (gD g j).1 = 1 ∨ (gD g j).1 = 4)) ∨ (b = 1 ∧ ((gD g j).1 = 0 ∨ (gD g j).1 = 1 ∨ (gD g j).1 = 4)) → G X 2 kX0_saying 49 [.ref 59, .int (nI j), .int (gD g j).1, .double 0] [.int b] (H rw nu wd vo od tp sh fi ik m) (An (some (.int (sayI (wd 0).1 (gD g j)))) (H rw nu wd vo od tp sh fi ik m)) := by
    intro b hb
    iterate 5 (refine G.st rfl rfl ?_)
    rcases hb with ⟨rfl, hb⟩ | ⟨rfl, hb⟩
    · refine G.brt rfl rfl ?_
      iterate 2 (refine G.st rfl rfl ?_)
      refine G.ret rfl rfl ⟨?_, rfl⟩
      unfold sayI
      rw [if_pos hs, if_neg hb]
    · refine G.brf rfl (by decide) ?_
      iterate 4 (refine G.st rfl rfl ?_)
      refine G.iald rfl rfl hx ?_
      rw [a2]
      iterate 2 (refine G.st rfl rfl ?_)
      refine G.ret rfl rfl ⟨?_, rfl⟩
      unfold sayI
      rw [if_pos hs, if_pos hb]
  have r44 : ((gD g j).1 = 0 ∨ (gD g j).1 = 1 ∨ (gD g j).1 = 4) → G X 2 kX0_saying 44 [.ref 59, .int (nI j), .int (gD g j).1, .double 0] [] (H rw nu wd vo od tp sh fi ik m) (An (some (.int (sayI (wd 0).1 (gD g j)))) (H rw nu wd vo od tp sh fi ik m)) := by
    intro hb
    iterate 2 (refine G.st rfl rfl ?_)
    exact r49 1 (Or.inr ⟨rfl, hb⟩)
  refine G.br rfl (fun hc => ?_) (fun hc => ?_)
  · exact r44 (Or.inl hc)
  iterate 2 (refine G.st rfl rfl ?_)
  refine G.br rfl (fun hc1 => ?_) (fun hc1 => ?_)
  · exact r44 (Or.inr (Or.inl hc1))
  iterate 2 (refine G.st rfl rfl ?_)
  refine G.br rfl (fun hc4 => ?_) (fun hc4 => ?_)
  · exact r44 (Or.inr (Or.inr hc4))
  iterate 1 (refine G.st rfl rfl ?_)
  exact r49 0 (Or.inl ⟨rfl, fun q => q.elim hc (fun q => q.elim hc1 hc4)⟩)
theorem s0_isHanging (X : aX) {M p : Nat} (hM : ohp od = nI M) (hM7 : M < 128) (hp : p < 7) : Sp X 0 kX0_isHanging [.ref 59, .int (nI p)] (H rw nu wd vo od tp sh fi ik m) (An (some (.int (bI (M.testBit p = true)))) (H rw nu wd vo od tp sh fi ik m)) := by
  unfold Sp
  have hb := (hg_bits M hM7 p hp).1
  iterate 6 (refine G.st rfl rfl ?_)
  rw [hM]
  by_cases hc : M.testBit p = true
  · refine G.brf rfl (fun q => by rw [hb.mp q] at hc; cases hc) ?_
    iterate 2 (refine G.st rfl rfl ?_)
    exact G.ret rfl rfl ⟨by rw [bI_t hc], rfl⟩
  · refine G.brt rfl (hb.mpr (by simpa using hc)) ?_
    iterate 1 (refine G.st rfl rfl ?_)
    exact G.ret rfl rfl ⟨by rw [bI_f hc], rfl⟩
theorem s0_mayHang (X : aX) {say : Nat → Int32} {M p n : Nat} (hM : ohp od = nI M) (hM7 : M < 128) (hn : n ≤ 7) (hp : p < n) (htw : Tw say p p (otw od p)) (hcl : ∀ q, q < n → M.testBit q = true → ∀ r, r < q → say r = say q → M.testBit r = true) : Sp X 1 kX0_mayHang [.ref 59, .int (nI p)] (H rw nu wd vo od tp sh fi ik m) (An (some (.int (bI (p ∈ rem M n ∧ fstO say (rem M n) p = true)))) (H rw nu wd vo od tp sh fi ik m)) := by
  unfold Sp
  have hx := ix_nI (show p < 7 by omega) (by omega)
  iterate 2 (refine G.st rfl rfl ?_)
  refine G.call rfl rfl (Nat.le_of_ble_eq_true rfl) (Sp.up (s0_isHanging X hM hM7 (show p < 7 by omega)) (Nat.le_of_ble_eq_true rfl)) ?_
  rintro _ _ ⟨rfl, rfl⟩
  by_cases hc : M.testBit p = true
  · refine G.brf rfl (bI_n hc) ?_
    iterate 1 (refine G.st rfl rfl ?_)
    refine G.ret rfl rfl ⟨?_, rfl⟩
    rw [bI_f]
    rintro ⟨h1, -⟩
    rw [(rem_mem.mp h1).2] at hc
    cases hc
  have hcf : M.testBit p = false := by simpa using hc
  have hR : p ∈ rem M n := rem_mem.mpr ⟨hp, hcf⟩
  refine G.brt rfl (bI_0.mpr hc) ?_
  iterate 3 (refine G.st rfl rfl ?_)
  refine G.iald rfl rfl hx ?_
  have yes : (∀ q, q < p → say q = say p → M.testBit q = true) → G X 1 kX0_mayHang 30 [.ref 59, .int (nI p)] [] (H rw nu wd vo od tp sh fi ik m) (An (some (.int (bI (p ∈ rem M n ∧ fstO say (rem M n) p = true)))) (H rw nu wd vo od tp sh fi ik m)) := by
    intro hy
    iterate 2 (refine G.st rfl rfl ?_)
    refine G.ret rfl rfl ⟨?_, rfl⟩
    rw [bI_t]
    refine ⟨hR, fstO_iff.mpr (fun q hq hlt e => ?_)⟩
    have := hy q hlt e
    rw [(rem_mem.mp hq).2] at this
    cases this
  rcases htw with ⟨e, h1⟩ | ⟨q, hq, e, h1, h2⟩
  · refine G.brt rfl (by show otw od p < 0; rw [e]; decide) ?_
    exact yes (fun q hq e => absurd e (h1 q hq))
  · refine G.brf rfl (by show ¬ otw od p < 0; rw [e]; exact nI_pos (by omega)) ?_
    iterate 4 (refine G.st rfl rfl ?_)
    refine G.iald rfl rfl hx ?_
    show G X 1 kX0_mayHang 24 [.ref 59, .int (nI p)] [.int (otw od p), .ref 59] _ _
    rw [e]
    refine G.call rfl rfl (Nat.le_of_ble_eq_true rfl) (Sp.up (s0_isHanging X hM hM7 (show q < 7 by omega)) (Nat.le_of_ble_eq_true rfl)) ?_
    rintro _ _ ⟨rfl, rfl⟩
    by_cases hcq : M.testBit q = true
    · refine G.brf rfl (bI_n hcq) ?_
      refine yes (fun r hr er => ?_)
      rcases Nat.lt_trichotomy r q with hlt | rfl | hgt
      · exact hcl q (by omega) hcq r hlt (by rw [er, h1])
      · exact hcq
      · exact absurd er (h2 r hgt hr)
    · refine G.brt rfl (bI_0.mpr hcq) ?_
      iterate 1 (refine G.st rfl rfl ?_)
      refine G.ret rfl rfl ⟨?_, rfl⟩
      rw [bI_f]
      rintro ⟨-, h3⟩
      exact fstO_iff.mp h3 q (rem_mem.mpr ⟨by omega, by simpa using hcq⟩) hq h1
end SAY
