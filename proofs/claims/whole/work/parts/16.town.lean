/-! ===== meanings ===== -/
def NumR (f : Nat → Int32) (nm : Nat → Option Int32) : Prop := ∀ j, j < 10 → f j = (nm j).getD (-1000) ∧ ∀ x, nm j = some x → -999 ≤ x ∧ x ≤ 9999
theorem NumR.has {f : Nat → Int32} {nm : Nat → Option Int32} (h : NumR f nm) {j : Nat} (hj : j < 10) : f j = -1000 ↔ ¬ (nm j).isSome = true := by
  obtain ⟨h1, h2⟩ := h j hj
  cases hn : nm j with
  | none => rw [hn] at h1; simp [h1]
  | some x =>
    rw [hn] at h1
    have := h2 x hn
    have h3 : f j = x := h1
    rw [h3]
    constructor
    · intro e; grind
    · intro e; simp at e
theorem NumR.val {f : Nat → Int32} {nm : Nat → Option Int32} (h : NumR f nm) {j : Nat} (hj : j < 10) {x : Int32} (hx : nm j = some x) : f j = x ∧ -999 ≤ x ∧ x ≤ 9999 := by
  obtain ⟨h1, h2⟩ := h j hj
  rw [hx] at h1
  exact ⟨h1, h2 x hx⟩
def toldN (nm : Nat → Option Int32) : Nat → Nat
  | 0 => 0
  | n + 1 => toldN nm n + (if (nm n).isSome = true then 1 else 0)
theorem toldN_le (nm : Nat → Option Int32) : ∀ n, toldN nm n ≤ n
  | 0 => Nat.le_refl 0
  | n + 1 => by
    have := toldN_le nm n
    unfold toldN
    split <;> omega
def rdStep (nm : Nat → Option Int32) (v : Int32) (best : Option Nat) (m : Nat) : Option Nat := match nm m with
  | none => best
  | some x => match best with
    | none => some m
    | some b => if apI x v < apI ((nm b).getD 0) v then some m else some b
def rdN (nm : Nat → Option Int32) (v : Int32) : Nat → Option Nat
  | 0 => none
  | m + 1 => rdStep nm v (rdN nm v m) m
def rd (nm : Nat → Option Int32) (v : Int32) : Option Nat := rdN nm v 10
def rdI (o : Option Nat) : Int32 := match o with
  | none => -1
  | some m => nI m
theorem rdN_in (nm : Nat → Option Int32) (v : Int32) : ∀ (n b : Nat), rdN nm v n = some b → b < n ∧ (nm b).isSome = true
  | 0, b, h => by cases h
  | n + 1, b, h => by
    unfold rdN rdStep at h
    cases hn : nm n with
    | none =>
      rw [hn] at h
      have := rdN_in nm v n b h
      exact ⟨by omega, this.2⟩
    | some x =>
      rw [hn] at h
      cases hb : rdN nm v n with
      | none =>
        rw [hb] at h
        cases h
        exact ⟨by omega, by rw [hn]; rfl⟩
      | some b0 =>
        rw [hb] at h
        have h0 := rdN_in nm v n b0 hb
        dsimp only at h
        split at h
        · cases h
          exact ⟨by omega, by rw [hn]; rfl⟩
        · cases h
          exact ⟨by omega, h0.2⟩
def W9 (v : Int32) : Prop := -9999 ≤ v ∧ v ≤ 9999
theorem abs_ap {x v : Int32} (h1 : -999 ≤ x) (h2 : x ≤ 9999) (hv : W9 v) : (if 0 ≤ x - v then x - v else 0 - (x - v)) = apI x v := by
  unfold apI
  unfold W9 at hv
  grind
theorem nI_ne {k : Nat} (h : k < 2 ^ 31) : nI k ≠ -1 := by
  intro e
  have h1 := nI_toInt h
  rw [e] at h1
  have h2 : (-1 : Int32).toInt = -1 := by decide
  omega
section TOWN
variable {rw : Nat → sR} {nu : Nat → Nat → Int32} {wd : Nat → Int32 × Int32} {vo : sV} {od : sO} {tp : sP} {sh : Nat → sS} {fi : Nat → Int32} {ik : Int32} {m : sM} {nm : Nat → Option Int32}
theorem s4_hasNumber (X : aX) (hn : NumR (nu 0) nm) {j : Nat} (hj : j < 10) : Sp X 0 kX4_hasNumber [.ref 1, .int (nI j)] (H rw nu wd vo od tp sh fi ik m) (An (some (.int (bI ((nm j).isSome = true)))) (H rw nu wd vo od tp sh fi ik m)) := by
  unfold Sp
  iterate 3 (refine G.st rfl rfl ?_)
  refine G.iald rfl rfl (ix_nI hj (by omega)) ?_
  iterate 1 (refine G.st rfl rfl ?_)
  refine G.br rfl (fun hc => ?_) (fun hc => ?_)
  · repeat (refine G.st rfl rfl ?_)
    refine G.ret rfl rfl ⟨?_, rfl⟩
    rw [bI_f ((hn.has hj).mp hc)]
  · repeat (refine G.st rfl rfl ?_)
    refine G.ret rfl rfl ⟨?_, rfl⟩
    rw [bI_t (Classical.not_not.mp (fun q => hc ((hn.has hj).mpr q)))]
theorem l4_meaningsTold (X : aX) (hn : NumR (nu 0) nm) : ∀ (k i : Nat), i + k = 10 → G X 1 kX4_meaningsTold 4 [.ref 1, .int (nI (toldN nm i)), .int (nI i)] [] (H rw nu wd vo od tp sh fi ik m) (An (some (.int (nI (toldN nm 10)))) (H rw nu wd vo od tp sh fi ik m))
  | 0, i, hi => by
    iterate 2 (refine G.st rfl rfl ?_)
    refine G.brt rfl (le_nI (k := 10) rfl (by omega) (by omega)) ?_
    iterate 1 (refine G.st rfl rfl ?_)
    refine G.ret rfl rfl ⟨?_, rfl⟩
    rw [show i = 10 by omega]
  | k + 1, i, hi => by
    iterate 2 (refine G.st rfl rfl ?_)
    refine G.brf rfl (nle_nI (k := 10) rfl (by omega) (by omega)) ?_
    iterate 2 (refine G.st rfl rfl ?_)
    refine G.call rfl rfl (Nat.le_of_ble_eq_true rfl) (Sp.up (s4_hasNumber X hn (show i < 10 by omega)) (Nat.le_of_ble_eq_true rfl)) ?_
    rintro _ _ ⟨rfl, rfl⟩
    refine G.br rfl (fun hc => ?_) (fun hc => ?_)
    · iterate 1 (refine G.st rfl rfl ?_)
      rw [nI_1]
      iterate 1 (refine G.st rfl rfl ?_)
      have := l4_meaningsTold X hn k (i + 1) (by omega)
      unfold toldN at this
      rw [if_neg (bI_0.mp hc), Nat.add_zero] at this
      exact this
    · iterate 2 (refine G.st rfl rfl ?_)
      rw [nI_1, nI_1]
      iterate 1 (refine G.st rfl rfl ?_)
      have := l4_meaningsTold X hn k (i + 1) (by omega)
      unfold toldN at this
      rw [if_pos (Classical.not_not.mp (fun q => hc (bI_0.mpr q)))] at this
      exact this
theorem s4_meaningsTold (X : aX) (hn : NumR (nu 0) nm) : Sp X 1 kX4_meaningsTold [.ref 1] (H rw nu wd vo od tp sh fi ik m) (An (some (.int (nI (toldN nm 10)))) (H rw nu wd vo od tp sh fi ik m)) := by
  unfold Sp
  iterate 4 (refine G.st rfl rfl ?_)
  exact l4_meaningsTold X hn 10 0 rfl
theorem l4_readAs (X : aX) (hn : NumR (nu 0) nm) {v : Int32} (hv : W9 v) : ∀ (k i : Nat) (ds u : Value), i + k = 10 → (∀ b x, rdN nm v i = some b → nm b = some x → ds = .int (apI x v)) → (∃ y, ds = .int y) → G X 1 kX4_readAs 7 [.ref 1, .int v, .int (rdI (rdN nm v i)), ds, .int (nI i), u] [] (H rw nu wd vo od tp sh fi ik m) (An (some (.int (rdI (rd nm v)))) (H rw nu wd vo od tp sh fi ik m))
  | 0, i, ds, u, hi, hd, hd2 => by
    iterate 2 (refine G.st rfl rfl ?_)
    refine G.brt rfl (le_nI (k := 10) rfl (by omega) (by omega)) ?_
    iterate 1 (refine G.st rfl rfl ?_)
    refine G.ret rfl rfl ⟨?_, rfl⟩
    rw [show i = 10 by omega]
    rfl
  | k + 1, i, ds, u, hi, hd, hd2 => by
    obtain ⟨y, rfl⟩ := hd2
    iterate 2 (refine G.st rfl rfl ?_)
    refine G.brf rfl (nle_nI (k := 10) rfl (by omega) (by omega)) ?_
    iterate 2 (refine G.st rfl rfl ?_)
    refine G.call rfl rfl (Nat.le_of_ble_eq_true rfl) (Sp.up (s4_hasNumber X hn (show i < 10 by omega)) (Nat.le_of_ble_eq_true rfl)) ?_
    rintro _ _ ⟨rfl, rfl⟩
    cases hx : nm i with
    | none =>
      refine G.brt rfl (bI_0.mpr (by simp)) ?_
      have e : rdN nm v (i + 1) = rdN nm v i := by
        conv => lhs; unfold rdN rdStep
        rw [hx]
      iterate 1 (refine G.st rfl rfl ?_)
      rw [nI_1]
      iterate 1 (refine G.st rfl rfl ?_)
      have := l4_readAs X hn hv k (i + 1) (.int y) u (by omega) (by rw [e]; exact hd) ⟨y, rfl⟩
      rw [e] at this
      exact this
    | some x =>
      refine G.brf rfl (fun q => bI_0.mp q rfl) ?_
      obtain ⟨hx1, hx2, hx3⟩ := hn.val (show i < 10 by omega) hx
      iterate 3 (refine G.st rfl rfl ?_)
      refine G.iald rfl rfl (ix_nI (show i < 10 by omega) (by omega)) ?_
      rw [hx1]
      iterate 3 (refine G.st rfl rfl ?_)
      rw [abs_ap hx2 hx3 hv]
      iterate 3 (refine G.st rfl rfl ?_)
      have take : rdN nm v (i + 1) = some i → G X 1 kX4_readAs 48 [.ref 1, .int v, .int (rdI (rdN nm v i)), .int y, .int (nI i), .int (apI x v)] [] (H rw nu wd vo od tp sh fi ik m) (An (some (.int (rdI (rd nm v)))) (H rw nu wd vo od tp sh fi ik m)) := by
        intro e
        iterate 5 (refine G.st rfl rfl ?_)
        rw [nI_1]
        iterate 1 (refine G.st rfl rfl ?_)
        have := l4_readAs X hn hv k (i + 1) (.int (apI x v)) (.int (apI x v)) (by omega) (fun b x2 hb hx4 => by rw [e] at hb; cases hb; rw [hx] at hx4; cases hx4; rfl) ⟨_, rfl⟩
        rw [e] at this
        exact this
      cases hb : rdN nm v i with
      | none =>
        rw [hb] at take
        refine G.brt rfl rfl ?_
        refine take ?_
        conv => lhs; unfold rdN rdStep
        rw [hx, hb]
      | some b =>
        rw [hb] at take
        have hbin := rdN_in nm v i b hb
        refine G.brf rfl (nI_ne (by omega)) ?_
        iterate 2 (refine G.st rfl rfl ?_)
        obtain ⟨xb, hxb⟩ := Option.isSome_iff_exists.mp hbin.2
        have hy := hd b xb hb hxb
        cases hy
        have e0 : rdN nm v (i + 1) = if apI x v < apI xb v then some i else some b := by
          conv => lhs; unfold rdN rdStep
          rw [hx, hb]
          dsimp only
          rw [hxb]
          rfl
        refine G.br rfl (fun hc => ?_) (fun hc => ?_)
        · have e : rdN nm v (i + 1) = some b := by rw [e0, if_neg (Int32.not_lt.mpr hc)]
          iterate 1 (refine G.st rfl rfl ?_)
          rw [nI_1]
          iterate 1 (refine G.st rfl rfl ?_)
          have := l4_readAs X hn hv k (i + 1) (.int (apI xb v)) (.int (apI x v)) (by omega) (by rw [e, ← hb]; exact hd) ⟨_, rfl⟩
          rw [e] at this
          exact this
        · exact take (by rw [e0, if_pos (Int32.not_le.mp hc)])
theorem s4_readAs (X : aX) (hn : NumR (nu 0) nm) {v : Int32} (hv : W9 v) : Sp X 1 kX4_readAs [.ref 1, .int v] (H rw nu wd vo od tp sh fi ik m) (An (some (.int (rdI (rd nm v)))) (H rw nu wd vo od tp sh fi ik m)) := by
  unfold Sp
  iterate 6 (refine G.st rfl rfl ?_)
  exact l4_readAs X hn hv 10 0 (.int 0) (.double 0) rfl (fun b x h => by cases h) ⟨_, rfl⟩
theorem s4_garments (X : aX) : Sp X 0 kX4_garments [.ref 1] (H rw nu wd vo od tp sh fi ik m) (An (some (.int (nI ((rw 0).2.2.2 + (rw 1).2.2.2 + (rw 2).2.2.2 + (rw 3).2.2.2)))) (H rw nu wd vo od tp sh fi ik m)) := by
  unfold Sp
  repeat (first | refine G.st rfl rfl ?_ | refine G.aald rfl rfl (by decide) ⟨by decide, rfl, by decide⟩ rfl ?_)
  refine G.ret rfl rfl ⟨?_, rfl⟩
  have e : (0 : Int32) = nI 0 := rfl
  rw [e, nI_add, nI_add, nI_add, nI_add, Nat.zero_add]
end TOWN
