section IMAGE
variable {rw : Nat → sR} {nu : Nat → Nat → Int32} {wd : Nat → Int32 × Int32} {vo : sV} {od : sO} {tp : sP} {sh : Nat → sS} {fi : Nat → Int32} {ik : Int32} {m : sM} {s : Sg}
def S_wipe (s : Sg) : Int32 × Sg := (nI (zT s).length, zST s [])
theorem p6_wipe (X : aX) {h : aH} (hC : CI m s h) : Sp X 10 kX6_wipe [.ref 0] h (fun v h' => v = some (.int (S_wipe s).1) ∧ CI m (S_wipe s).2 h') := by
  obtain ⟨rw, nu, wd, vo, od, tp, sh, fi, ik, rfl, hC⟩ := hC
  unfold Sp S_wipe
  iterate 9 (refine G.st rfl rfl ?_)
  obtain ⟨h1, h2, ⟨t1, t2, t3⟩, h4⟩ := hC
  refine G.ret rfl rfl ⟨by rw [← t1], ?_⟩
  refine CI.mk (rw := rw) (nu := nu) (wd := wd) (vo := vo) (od := od) (tp := pSln tp 0) (sh := sh) (fi := fi) (ik := ik) (m := m) ?_
  exact ⟨h1, h2, ⟨rfl, ⟨Nat.zero_le _, fun x hx => absurd (show x ∈ ([] : List Int32) from hx) (by simp)⟩, fun j hj => absurd hj (Nat.not_lt_zero j)⟩, h4⟩
def S_tear (s : Sg) : Int32 × Sg := ((match zK s with | none => 0 | some _ => 1), zSK s none)
theorem p6_tear (X : aX) {h : aH} (hC : CI m s h) : Sp X 10 kX6_tear [.ref 0] h (fun v h' => v = some (.int (S_tear s).1) ∧ CI m (S_tear s).2 h') := by
  obtain ⟨rw, nu, wd, vo, od, tp, sh, fi, ik, rfl, hC⟩ := hC
  unfold Sp S_tear
  have rest : ∀ b : Int32, G X 10 kX6_tear 12 (eL kX6_tear [.ref 0]) [.int b] (H rw nu wd vo od tp sh fi ik m) (fun v h' => v = some (.int b) ∧ CI m (zSK s none) h') := by
    intro b
    iterate 5 (refine G.st rfl rfl ?_)
    refine G.ret rfl rfl ⟨rfl, ?_⟩
    refine CI.mk (rw := rw) (nu := nu) (wd := wd) (vo := vo) (od := od) (tp := tp) (sh := sh) (fi := fi) (ik := 0) (m := m) ?_
    obtain ⟨h1, h2, h3⟩ := hC
    exact ⟨h1, rfl, h3⟩
  have h2 := hC.2.1
  iterate 2 (refine G.st rfl rfl ?_)
  cases hk : zK s with
  | none =>
    rw [hk] at h2
    refine G.brt rfl h2 ?_
    iterate 1 (refine G.st rfl rfl ?_)
    exact rest 0
  | some k =>
    rw [hk] at h2
    refine G.brf rfl (by rw [h2.1]; decide) ?_
    iterate 2 (refine G.st rfl rfl ?_)
    exact rest 1
theorem NumR.eq {f g : Nat → Int32} {nm : Nat → Option Int32} (h : NumR f nm) (e : ∀ j, j < 10 → g j = f j) : NumR g nm := fun j hj => by rw [e j hj]; exact h j hj
def S_image (s : Sg) : Int32 × Sg := (1, zSK s (some (zt s)))
theorem p6_image (X : aX) {h : aH} (hC : CI m s h) : Sp X 10 kX6_image [.ref 0] h (fun v h' => v = some (.int (S_image s).1) ∧ CI m (S_image s).2 h') := by
  obtain ⟨rw, nu, wd, vo, od, tp, sh, fi, ik, rfl, hC⟩ := hC
  unfold Sp S_image
  obtain ⟨⟨a1, a2, a3, a4⟩, h2, h3⟩ := hC
  iterate 4 (refine G.st rfl rfl ?_)
  refine G.call rfl rfl (Nat.le_of_ble_eq_true rfl) (Sp.up (s4_become X 1 0 (by omega) (by omega) (by omega) (g := zL s) (fun l hl => a2 l hl)) (Nat.le_of_ble_eq_true rfl)) ?_
  rintro _ _ ⟨rfl, rw', f, rfl, hf, hg, ho⟩
  iterate 4 (refine G.st rfl rfl ?_)
  refine G.ret rfl rfl ⟨rfl, ?_⟩
  refine CI.mk (rw := rw') (nu := va_up nu 1 f) (wd := va_up wd 1 (wd 0)) (vo := vo) (od := od) (tp := tp) (sh := sh) (fi := fi) (ik := 1) (m := m) ?_
  refine ⟨⟨a1, fun l hl => ?_, ?_, ?_⟩, ⟨rfl, a1, fun l hl => hg l hl, ?_, ?_⟩, h3⟩
  · rw [ho _ (by omega)]
    exact a2 l hl
  · rw [va_up_n (by decide)]
    exact a3
  · rw [va_up_n (by decide)]
    exact a4
  · rw [va_up_s]
    exact a3.eq hf
  · rw [va_up_s]
    exact a4
/-- as many garments as hang -/
def garN (L : Nat → List Gar) : Nat := (L 0).length + (L 1).length + (L 2).length + (L 3).length
def S_undo (s : Sg) : Int32 × Sg := match zK s with | none => fin 3 s | some k => (nI (garN k.1), (k.1, k.2.1, k.2.2.1, k.2.2.2, s.2.2.2.2))
theorem Rep.len {q : sR} {g : List Gar} (h : Rep q g) : q.2.2.2 = g.length := h.1
theorem p6_undo (X : aX) {h : aH} (hC : CI m s h) : Sp X 10 kX6_undo [.ref 0] h (fun v h' => v = some (.int (S_undo s).1) ∧ CI m (S_undo s).2 h') := by
  obtain ⟨rw, nu, wd, vo, od, tp, sh, fi, ik, rfl, hC⟩ := hC
  unfold Sp S_undo
  have h2 := hC.2.1
  iterate 2 (refine G.st rfl rfl ?_)
  cases hk : zK s with
  | none =>
    rw [hk] at h2
    refine G.brt rfl h2 ?_
    iterate 2 (refine G.st rfl rfl ?_)
    refine G.call rfl rfl (Nat.le_of_ble_eq_true rfl) (Sp.up (c6_f3 X hC) (Nat.le_of_ble_eq_true rfl)) ?_
    rintro _ _ ⟨rfl, hci⟩
    exact G.ret rfl rfl ⟨rfl, hci⟩
  | some k =>
    rw [hk] at h2
    obtain ⟨hik, b1, b2, b3, b4⟩ := h2
    refine G.brf rfl (by rw [hik]; decide) ?_
    iterate 4 (refine G.st rfl rfl ?_)
    refine G.call rfl rfl (Nat.le_of_ble_eq_true rfl) (Sp.up (s4_become X 0 1 (by omega) (by omega) (by omega) (g := k.1) (fun l hl => b2 l hl)) (Nat.le_of_ble_eq_true rfl)) ?_
    rintro _ _ ⟨rfl, rw', f, rfl, hf, hg, ho⟩
    iterate 2 (refine G.st rfl rfl ?_)
    refine G.call rfl rfl (Nat.le_of_ble_eq_true rfl) (Sp.up (s4_garments X) (Nat.le_of_ble_eq_true rfl)) ?_
    rintro _ _ ⟨rfl, rfl⟩
    refine G.ret rfl rfl ⟨?_, ?_⟩
    · rw [show (rw' 0).2.2.2 = _ from (hg 0 (by omega)).len, show (rw' 1).2.2.2 = _ from (hg 1 (by omega)).len, show (rw' 2).2.2.2 = _ from (hg 2 (by omega)).len, show (rw' 3).2.2.2 = _ from (hg 3 (by omega)).len]
      rfl
    refine CI.mk (vo := vo) (od := od) (m := m) ?_
    obtain ⟨h1, h2, h3⟩ := hC
    refine ⟨⟨b1, fun l hl => ?_, ?_, ?_⟩, ?_, h3⟩
    · rw [Nat.zero_add]
      have := hg l hl
      rw [Nat.mul_zero, Nat.zero_add] at this
      exact this
    · rw [va_up_s]
      exact b3.eq hf
    · rw [va_up_s]
      exact b4
    · show match zK s with | none => ik = 0 | some k => ik = 1 ∧ CT rw' (va_up nu 0 f 1) (va_up wd 0 (wd 1) 1) 4 k
      rw [hk]
      refine ⟨hik, b1, fun l hl => ?_, ?_, ?_⟩
      · rw [ho _ (by omega)]
        exact b2 l hl
      · rw [va_up_n (by decide)]
        exact b3
      · rw [va_up_n (by decide)]
        exact b4
def S_count (s : Sg) (k : Int32) : Int32 × Sg := if k = 0 then (nI (garN (zL s)), s) else if k = 1 then (nI (toldN (zN s) 10), s) else if k = 2 then (nI (zT s).length, s) else if k = 3 then (zW s, s) else if k = 4 then (zD s, s) else fin 0 s
theorem p6_count (X : aX) (k : Int32) {h : aH} (hC : CI m s h) : Sp X 10 kX6_count [.ref 0, .int k] h (fun v h' => v = some (.int (S_count s k).1) ∧ CI m (S_count s k).2 h') := by
  obtain ⟨rw, nu, wd, vo, od, tp, sh, fi, ik, rfl, hC⟩ := hC
  unfold Sp S_count
  have hw := hC.wd0
  iterate 1 (refine G.st rfl rfl ?_)
  by_cases w0 : k = 0
  · subst w0
    rw [if_pos rfl]
    refine G.tsw rfl (t := 36) (by decide) ?_
    iterate 2 (refine G.st rfl rfl ?_)
    refine G.call rfl rfl (Nat.le_of_ble_eq_true rfl) (Sp.up (s4_garments X) (Nat.le_of_ble_eq_true rfl)) ?_
    rintro _ _ ⟨rfl, rfl⟩
    refine G.ret rfl rfl ⟨?_, CI.mk hC⟩
    rw [show (rw 0).2.2.2 = _ from (hC.rep (l := 0) (by omega)).1.len, show (rw 1).2.2.2 = _ from (hC.rep (l := 1) (by omega)).1.len, show (rw 2).2.2.2 = _ from (hC.rep (l := 2) (by omega)).1.len, show (rw 3).2.2.2 = _ from (hC.rep (l := 3) (by omega)).1.len]
    rfl
  rw [if_neg w0]
  by_cases w1 : k = 1
  · subst w1
    rw [if_pos rfl]
    refine G.tsw rfl (t := 44) (by decide) ?_
    iterate 2 (refine G.st rfl rfl ?_)
    refine G.call rfl rfl (Nat.le_of_ble_eq_true rfl) (Sp.up (s4_meaningsTold X hC.num) (Nat.le_of_ble_eq_true rfl)) ?_
    rintro _ _ ⟨rfl, rfl⟩
    exact G.ret rfl rfl ⟨rfl, CI.mk hC⟩
  rw [if_neg w1]
  by_cases w2 : k = 2
  · subst w2
    rw [if_pos rfl]
    refine G.tsw rfl (t := 52) (by decide) ?_
    iterate 3 (refine G.st rfl rfl ?_)
    refine G.ret rfl rfl ⟨?_, CI.mk hC⟩
    rw [← hC.2.2.1.1]
  rw [if_neg w2]
  by_cases w3 : k = 3
  · subst w3
    rw [if_pos rfl]
    refine G.tsw rfl (t := 60) (by decide) ?_
    iterate 3 (refine G.st rfl rfl ?_)
    refine G.ret rfl rfl ⟨?_, CI.mk hC⟩
    rw [hw]
  rw [if_neg w3]
  by_cases w4 : k = 4
  · subst w4
    rw [if_pos rfl]
    refine G.tsw rfl (t := 68) (by decide) ?_
    iterate 3 (refine G.st rfl rfl ?_)
    refine G.ret rfl rfl ⟨?_, CI.mk hC⟩
    rw [hw]
  rw [if_neg w4]
  refine G.tsw rfl (t := 76) (tsw_out ?_) ?_
  · have : ∀ i : Nat, i ≤ 4 → k ≠ nI i := by
      intro i hk e
      rcases (show i = 0 ∨ i = 1 ∨ i = 2 ∨ i = 3 ∨ i = 4 by omega) with rfl | rfl | rfl | rfl | rfl
      · exact w0 e
      · exact w1 e
      · exact w2 e
      · exact w3 e
      · exact w4 e
    by_cases h0 : k < 0
    · exact Or.inl (by have := Int32.lt_iff_toInt_lt.mp h0; simpa using this)
    · obtain ⟨i, hk, rfl⟩ := nI_of h0
      right
      rw [nI_toInt hk]
      by_cases h4 : i ≤ 4
      · exact absurd rfl (this i h4)
      · omega
  iterate 2 (refine G.st rfl rfl ?_)
  refine G.call rfl rfl (Nat.le_of_ble_eq_true rfl) (Sp.up (c6_f0 X hC) (Nat.le_of_ble_eq_true rfl)) ?_
  rintro _ _ ⟨rfl, hci⟩
  exact G.ret rfl rfl ⟨rfl, hci⟩
/-- the findings of all sorts -/
def sumF (f : Nat → Int32) : Nat → Int32
  | 0 => 0
  | n + 1 => sumF f n + f n
def S_status (s : Sg) (k : Int32) : Int32 × Sg := if -1 ≤ k ∧ k ≤ 6 then (if k < 0 then (sumF (zF s) 7, s) else (zF s (ln k), s)) else fin 0 s
theorem l6_status (X : aX) (u : Int32) (hC : CR rw nu wd tp sh fi ik s) : ∀ (k i : Nat), i + k = 7 → G X 10 kX6_status 32 [.ref 0, .int u, .int (sumF (zF s) i), .int (nI i)] [] (H rw nu wd vo od tp sh fi ik m) (fun v h' => v = some (.int (sumF (zF s) 7)) ∧ CI m s h')
  | 0, i, hi => by
    iterate 2 (refine G.st rfl rfl ?_)
    refine G.brt rfl (le_nI (k := 7) rfl (by omega) (by omega)) ?_
    iterate 1 (refine G.st rfl rfl ?_)
    refine G.ret rfl rfl ⟨?_, CI.mk hC⟩
    rw [show i = 7 by omega]
  | k + 1, i, hi => by
    iterate 2 (refine G.st rfl rfl ?_)
    refine G.brf rfl (nle_nI (k := 7) rfl (by omega) (by omega)) ?_
    iterate 4 (refine G.st rfl rfl ?_)
    refine G.iald rfl rfl (ix_nI (show i < 7 by omega) (by omega)) ?_
    rw [hC.2.2.2.2 i (by omega)]
    have ih := l6_status X u hC k (i + 1) (by omega)
    conv at ih => arg 5; unfold sumF
    revert ih
    generalize sumF (zF s) i = b
    generalize zF s i = c
    intro ih
    iterate 1 (refine G.st rfl rfl ?_)
    iterate 1 (refine G.st rfl rfl ?_)
    iterate 1 (refine G.st rfl rfl ?_)
    rw [nI_1]
    iterate 1 (refine G.st rfl rfl ?_)
    exact ih
theorem p6_status (X : aX) (k : Int32) {h : aH} (hC : CI m s h) : Sp X 10 kX6_status [.ref 0, .int k] h (fun v h' => v = some (.int (S_status s k).1) ∧ CI m (S_status s k).2 h') := by
  obtain ⟨rw, nu, wd, vo, od, tp, sh, fi, ik, rfl, hC⟩ := hC
  unfold Sp S_status
  iterate 3 (refine G.st rfl rfl ?_)
  refine G.call rfl rfl (Nat.le_of_ble_eq_true rfl) (Sp.up (s6_isWithin X k (-1) 6 _) (Nat.le_of_ble_eq_true rfl)) ?_
  rintro _ _ ⟨rfl, rfl⟩
  by_cases hl : -1 ≤ k ∧ k ≤ 6
  case neg =>
    rw [if_neg hl]
    refine G.brt rfl (bI_0.mpr hl) ?_
    iterate 2 (refine G.st rfl rfl ?_)
    refine G.call rfl rfl (Nat.le_of_ble_eq_true rfl) (Sp.up (c6_f0 X hC) (Nat.le_of_ble_eq_true rfl)) ?_
    rintro _ _ ⟨rfl, hci⟩
    exact G.ret rfl rfl ⟨rfl, hci⟩
  rw [if_pos hl]
  refine G.brf rfl (bI_n hl) ?_
  iterate 1 (refine G.st rfl rfl ?_)
  by_cases h0 : k < 0
  · rw [if_pos h0]
    refine G.brt rfl h0 ?_
    iterate 4 (refine G.st rfl rfl ?_)
    exact l6_status X _ hC 7 0 rfl
  · rw [if_neg h0]
    refine G.brf rfl h0 ?_
    obtain ⟨j, hj, rfl⟩ := nI_arg (k := 6) rfl (by omega) (Int32.not_lt.mp h0) hl.2
    iterate 3 (refine G.st rfl rfl ?_)
    refine G.iald rfl rfl (ix_nI (show j < 7 by omega) (by omega)) ?_
    refine G.ret rfl rfl ⟨?_, CI.mk hC⟩
    rw [ln_nI (by omega), hC.2.2.2.2 j (by omega)]
end IMAGE
