abbrev Twn : Type := (Nat → List Gar) × (Nat → Option Int32) × Int32 × Int32
abbrev Sg : Type := (Nat → List Gar) × (Nat → Option Int32) × Int32 × Int32 × (Option Twn) × (List Int32) × (Nat → Int32 × List Int64) × (Nat → Int32)
abbrev zL (x : Sg) : (Nat → List Gar) := x.1
abbrev zN (x : Sg) : (Nat → Option Int32) := x.2.1
abbrev zW (x : Sg) : Int32 := x.2.2.1
abbrev zD (x : Sg) : Int32 := x.2.2.2.1
abbrev zK (x : Sg) : (Option Twn) := x.2.2.2.2.1
abbrev zT (x : Sg) : (List Int32) := x.2.2.2.2.2.1
abbrev zS (x : Sg) : (Nat → Int32 × List Int64) := x.2.2.2.2.2.2.1
abbrev zF (x : Sg) : (Nat → Int32) := x.2.2.2.2.2.2.2
abbrev zSL (x : Sg) (y : (Nat → List Gar)) : Sg := (y, x.2.1, x.2.2.1, x.2.2.2.1, x.2.2.2.2.1, x.2.2.2.2.2.1, x.2.2.2.2.2.2.1, x.2.2.2.2.2.2.2)
abbrev zSN (x : Sg) (y : (Nat → Option Int32)) : Sg := (x.1, y, x.2.2.1, x.2.2.2.1, x.2.2.2.2.1, x.2.2.2.2.2.1, x.2.2.2.2.2.2.1, x.2.2.2.2.2.2.2)
abbrev zSW (x : Sg) (y : Int32) : Sg := (x.1, x.2.1, y, x.2.2.2.1, x.2.2.2.2.1, x.2.2.2.2.2.1, x.2.2.2.2.2.2.1, x.2.2.2.2.2.2.2)
abbrev zSD (x : Sg) (y : Int32) : Sg := (x.1, x.2.1, x.2.2.1, y, x.2.2.2.2.1, x.2.2.2.2.2.1, x.2.2.2.2.2.2.1, x.2.2.2.2.2.2.2)
abbrev zSK (x : Sg) (y : (Option Twn)) : Sg := (x.1, x.2.1, x.2.2.1, x.2.2.2.1, y, x.2.2.2.2.2.1, x.2.2.2.2.2.2.1, x.2.2.2.2.2.2.2)
abbrev zST (x : Sg) (y : (List Int32)) : Sg := (x.1, x.2.1, x.2.2.1, x.2.2.2.1, x.2.2.2.2.1, y, x.2.2.2.2.2.2.1, x.2.2.2.2.2.2.2)
abbrev zSS (x : Sg) (y : (Nat → Int32 × List Int64)) : Sg := (x.1, x.2.1, x.2.2.1, x.2.2.2.1, x.2.2.2.2.1, x.2.2.2.2.2.1, y, x.2.2.2.2.2.2.2)
abbrev zSF (x : Sg) (y : (Nat → Int32)) : Sg := (x.1, x.2.1, x.2.2.1, x.2.2.2.1, x.2.2.2.2.1, x.2.2.2.2.2.1, x.2.2.2.2.2.2.1, y)
/-! ===== what the document's words are, and the class's cells ===== -/
/-- a town's bounds -/
def TOk (t : Twn) : Prop := (∀ l, l < 4 → gKs (t.1 l) ∧ (t.1 l).length ≤ 7) ∧ (∀ j x, j < 10 → t.2.1 j = some x → -999 ≤ x ∧ x ≤ 9999) ∧ (0 ≤ t.2.2.1 ∧ t.2.2.1 ≤ 20) ∧ 0 ≤ t.2.2.2 ∧ t.2.2.2 ≤ 9999
/-- a town in the class's cells; b: 0 what is, 4 what is kept -/
def CT (rw : Nat → sR) (nu : Nat → Int32) (wd : Int32 × Int32) (b : Nat) (t : Twn) : Prop := TOk t ∧ (∀ l, l < 4 → Rep (rw (b + l)) (t.1 l)) ∧ NumR nu t.2.1 ∧ wd = (t.2.2.1, t.2.2.2)
abbrev zt (s : Sg) : Twn := (zL s, zN s, zW s, zD s)
def TpOk (t : List Int32) : Prop := t.length ≤ 120 ∧ ∀ x ∈ t, 0 ≤ x ∧ x ≤ 255
def ShOk (q : Int32 × List Int64) : Prop := q.2.length ≤ 40 ∧ (q.1 = 0 ∨ q.1 = 8 ∨ q.1 = 16 ∨ q.1 = 64) ∧ (q.1 = 0 → q.2 = [])
def CS (c : sS) (q : Int32 × List Int64) : Prop := c.2.1 = q.1 ∧ c.2.2 = q.2.length ∧ ∀ j (hj : j < q.2.length), c.1 j = q.2[j]
def CR (rw : Nat → sR) (nu : Nat → Nat → Int32) (wd : Nat → Int32 × Int32) (tp : sP) (sh : Nat → sS) (fi : Nat → Int32) (ik : Int32) (s : Sg) : Prop :=
  CT rw (nu 0) (wd 0) 0 (zt s) ∧ (match zK s with | none => ik = 0 | some k => ik = 1 ∧ CT rw (nu 1) (wd 1) 4 k) ∧
  (pln tp = nI (zT s).length ∧ TpOk (zT s) ∧ ∀ j (hj : j < (zT s).length), pby tp j = (zT s)[j]) ∧ (∀ k, k < 4 → ShOk (zS s k) ∧ CS (sh k) (zS s k)) ∧ ∀ k, k < 7 → fi k = zF s k
def CI (m : sM) (s : Sg) (h : aH) : Prop := ∃ rw nu wd vo od tp sh fi ik, h = H rw nu wd vo od tp sh fi ik m ∧ CR rw nu wd tp sh fi ik s
/-- a finding is counted: which of the seven -/
def fcd (k : Nat) : Int32 := -1000000001 - nI k
def fin (k : Nat) (s : Sg) : Int32 × Sg := (fcd k, zSF s (upd (zF s) k (zF s k + 1)))
theorem fcd_sub (k : Nat) : -1000000001 - fcd k = nI k := by unfold fcd; grind
section SIG
variable {rw : Nat → sR} {nu : Nat → Nat → Int32} {wd : Nat → Int32 × Int32} {vo : sV} {od : sO} {tp : sP} {sh : Nat → sS} {fi : Nat → Int32} {ik : Int32} {m : sM} {s : Sg}
theorem s6_finding (X : aX) {k : Nat} (hk : k < 7) : Sp X 1 kX6_finding [.ref 0, .int (fcd k)] (H rw nu wd vo od tp sh fi ik m) (An (some (.int (fcd k))) (H rw nu wd vo od tp sh (upd fi k (fi k + 1)) ik m)) := by
  unfold Sp
  iterate 2 (refine G.st rfl rfl ?_)
  iterate 1 (refine G.st rfl rfl ?_)
  rw [fcd_sub]
  iterate 4 (refine G.st rfl rfl ?_)
  refine G.call rfl rfl (Nat.le_of_ble_eq_true rfl) (Sp.up (s6_isWithin X _ _ _ _) (Nat.le_of_ble_eq_true rfl)) ?_
  rintro _ _ ⟨rfl, rfl⟩
  have hx := ix_nI hk (by omega)
  refine G.brf rfl ?_ ?_
  · rw [bI_0]
    refine fun q => q ⟨nI_pos' (by omega), ?_⟩
    show nI k ≤ nI 6
    rw [nI_leI (by omega) (by omega)]
    omega
  iterate 4 (refine G.st rfl rfl ?_)
  refine G.iald rfl rfl hx ?_
  iterate 2 (refine G.st rfl rfl ?_)
  refine G.iast rfl rfl hx ?_
  iterate 1 (refine G.st rfl rfl ?_)
  exact G.ret rfl rfl ⟨rfl, rfl⟩
theorem CR.fin (h : CR rw nu wd tp sh fi ik s) (k : Nat) : CR rw nu wd tp sh (upd fi k (fi k + 1)) ik (fin k s).2 := by
  obtain ⟨h1, h2, h3, h4, h5⟩ := h
  refine ⟨h1, h2, h3, h4, fun j hj => ?_⟩
  show upd fi k (fi k + 1) j = upd (zF s) k (zF s k + 1) j
  rw [upd_if, upd_if, h5 j hj]
  by_cases e : j = k
  · subst e
    rw [if_pos rfl, if_pos rfl, h5 j hj]
  · rw [if_neg e, if_neg e]
/-- a call that ends in a finding -/
theorem c6_fin (X : aX) {k : Nat} (hk : k < 7) (h : CR rw nu wd tp sh fi ik s) : Sp X 1 kX6_finding [.ref 0, .int (fcd k)] (H rw nu wd vo od tp sh fi ik m) (fun v h' => v = some (.int (fin k s).1) ∧ CI m (fin k s).2 h') := by
  refine (s6_finding X hk).imp ?_
  rintro _ _ ⟨rfl, rfl⟩
  exact ⟨rfl, _, _, _, _, _, _, _, _, _, rfl, h.fin k⟩
end SIG
