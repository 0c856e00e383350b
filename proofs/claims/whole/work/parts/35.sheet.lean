section SHEET
variable {rw : Nat → sR} {nu : Nat → Nat → Int32} {wd : Nat → Int32 × Int32} {vo : sV} {od : sO} {tp : sP} {sh : Nat → sS} {fi : Nat → Int32} {ik : Int32} {m : sM} {s : Sg}
/-- a sheet's cells -/
abbrev sObj (r : Nat) (q : sS) : aC := .inl (2, [.ref (r + 1), .int q.2.1, .int (nI q.2.2)])
abbrev lA40 (f : Nat → Int64) : aC := .inr (.inr (.inl (40, f)))
def ShAt (h : aH) (r : Nat) (q : sS) : Prop := h[r]? = some (sObj r q) ∧ h[r + 1]? = some (lA40 q.1)
def sset (h : aH) (r : Nat) (q : sS) : aH := (h.set r (sObj r q)).set (r + 1) (lA40 q.1)
def sb (k : Nat) : Nat := 73 + 2 * k
theorem H_sh {k : Nat} (hk : k < 4) : ShAt (H rw nu wd vo od tp sh fi ik m) (sb k) (sh k) := by
  rcases (show k = 0 ∨ k = 1 ∨ k = 2 ∨ k = 3 by omega) with rfl | rfl | rfl | rfl <;> exact ⟨rfl, rfl⟩
theorem H_sset {k : Nat} (hk : k < 4) (q : sS) : sset (H rw nu wd vo od tp sh fi ik m) (sb k) q = H rw nu wd vo od tp (va_up sh k q) fi ik m := by
  rcases (show k = 0 ∨ k = 1 ∨ k = 2 ∨ k = 3 by omega) with rfl | rfl | rfl | rfl <;> rfl
theorem rf4_sh {k : Nat} (hk : k < 4) : rf4 73 75 77 79 k = some (sb k) := by
  rcases (show k = 0 ∨ k = 1 ∨ k = 2 ∨ k = 3 by omega) with rfl | rfl | rfl | rfl <;> rfl
theorem CR.shk (h : CR rw nu wd tp sh fi ik s) {k : Nat} (hk : k < 4) : ShOk (zS s k) ∧ CS (sh k) (zS s k) := h.2.2.2.1 k hk
theorem CR.sset (h : CR rw nu wd tp sh fi ik s) {k : Nat} (hk : k < 4) {c : sS} {q : Int32 × List Int64} (h1 : ShOk q) (h2 : CS c q) : CR rw nu wd tp (va_up sh k c) fi ik (zSS s (va_up (zS s) k q)) := by
  obtain ⟨a1, a2, a3, a4, a5⟩ := h
  refine ⟨a1, a2, a3, fun j hj => ?_, a5⟩
  show ShOk (va_up (zS s) k q j) ∧ CS (va_up sh k c j) (va_up (zS s) k q j)
  by_cases e : j = k
  · subst e
    rw [va_up_s, va_up_s]
    exact ⟨h1, h2⟩
  · rw [va_up_n e, va_up_n e]
    exact a4 j hj
theorem s2_hasRange (X : aX) {r : Nat} {q : sS} {a n : Int32} {h : aH} (hr : ShAt h r q) : Sp X 0 kX2_hasRange [.ref r, .int a, .int n] h (An (some (.int (bI (0 ≤ a ∧ 0 ≤ n ∧ n ≤ nI q.2.2 ∧ a ≤ nI q.2.2 - n)))) h) := by
  unfold Sp
  have no : ¬ (0 ≤ a ∧ 0 ≤ n ∧ n ≤ nI q.2.2 ∧ a ≤ nI q.2.2 - n) → G X 0 kX2_hasRange 30 (eL kX2_hasRange [.ref r, .int a, .int n]) [] h (An (some (.int (bI (0 ≤ a ∧ 0 ≤ n ∧ n ≤ nI q.2.2 ∧ a ≤ nI q.2.2 - n)))) h) := by
    intro hn
    iterate 1 (refine G.st rfl rfl ?_)
    refine G.ret rfl rfl ⟨?_, rfl⟩
    rw [bI_f hn]
  iterate 1 (refine G.st rfl rfl ?_)
  refine G.br rfl (fun hc => ?_) (fun h1 => ?_)
  · exact no (fun q => Int32.not_lt.mpr q.1 hc)
  iterate 1 (refine G.st rfl rfl ?_)
  refine G.br rfl (fun hc => ?_) (fun h2 => ?_)
  · exact no (fun q => Int32.not_lt.mpr q.2.1 hc)
  iterate 2 (refine G.st rfl rfl ?_)
  refine G.get rfl hr.1 rfl ?_
  refine G.br rfl (fun hc => ?_) (fun h3 => ?_)
  · exact no (fun q => Int32.not_lt.mpr q.2.2.1 hc)
  iterate 2 (refine G.st rfl rfl ?_)
  refine G.get rfl hr.1 rfl ?_
  iterate 2 (refine G.st rfl rfl ?_)
  refine G.br rfl (fun hc => ?_) (fun h4 => ?_)
  · exact no (fun q => Int32.not_lt.mpr q.2.2.2 hc)
  iterate 2 (refine G.st rfl rfl ?_)
  refine G.ret rfl rfl ⟨?_, rfl⟩
  rw [bI_t ⟨Int32.not_lt.mp h1, Int32.not_lt.mp h2, Int32.not_lt.mp h3, Int32.not_lt.mp h4⟩]
/-- what stands against a sheet -/
def shF (s : Sg) (a : Int32) : Int32 := if 0 ≤ a ∧ a ≤ 3 then (if (zS s (ln a)).1 = 0 then -1000000006 else 0) else -1000000001
theorem s6_sheetFinding (X : aX) (a : Int32) (hC : CR rw nu wd tp sh fi ik s) : Sp X 2 kX6_sheetFinding [.ref 0, .int a] (H rw nu wd vo od tp sh fi ik m) (An (some (.int (shF s a))) (H rw nu wd vo od tp sh fi ik m)) := by
  unfold Sp shF
  iterate 1 (refine G.st rfl rfl ?_)
  refine G.call rfl rfl (Nat.le_of_ble_eq_true rfl) (Sp.up (s6_isSheet X a _) (Nat.le_of_ble_eq_true rfl)) ?_
  rintro _ _ ⟨rfl, rfl⟩
  by_cases hl : 0 ≤ a ∧ a ≤ 3
  case neg =>
    rw [if_neg hl]
    refine G.brt rfl (bI_0.mpr hl) ?_
    iterate 1 (refine G.st rfl rfl ?_)
    exact G.ret rfl rfl ⟨rfl, rfl⟩
  rw [if_pos hl]
  refine G.brf rfl (bI_n hl) ?_
  obtain ⟨k, hk, rfl⟩ := lok_n hl
  rw [ln_nI (by omega)]
  obtain ⟨h1, h2⟩ := hC.shk hk
  iterate 3 (refine G.st rfl rfl ?_)
  refine G.aald rfl rfl (by decide) (ix_nI hk (by omega)) (rf4_sh hk) ?_
  refine G.get rfl (H_sh hk).1 rfl ?_
  rw [h2.1]
  by_cases hb : (zS s k).1 = 0
  · rw [if_pos hb]
    refine G.brt rfl hb ?_
    iterate 2 (refine G.st rfl rfl ?_)
    exact G.ret rfl rfl ⟨rfl, rfl⟩
  · rw [if_neg hb]
    refine G.brf rfl hb ?_
    iterate 1 (refine G.st rfl rfl ?_)
    exact G.ret rfl rfl ⟨rfl, rfl⟩
def shlF (s : Sg) (a b : Int32) : Int32 := if shF s a = 0 then (if 0 ≤ b ∧ b ≤ 3 then 0 else -1000000001) else shF s a
theorem s6_sheetAndLineFinding (X : aX) (a b : Int32) (hC : CR rw nu wd tp sh fi ik s) : Sp X 3 kX6_sheetAndLineFinding [.ref 0, .int a, .int b] (H rw nu wd vo od tp sh fi ik m) (An (some (.int (shlF s a b))) (H rw nu wd vo od tp sh fi ik m)) := by
  unfold Sp shlF
  iterate 2 (refine G.st rfl rfl ?_)
  refine G.call rfl rfl (Nat.le_of_ble_eq_true rfl) (Sp.up (s6_sheetFinding X a hC) (Nat.le_of_ble_eq_true rfl)) ?_
  rintro _ _ ⟨rfl, rfl⟩
  iterate 2 (refine G.st rfl rfl ?_)
  generalize shF s a = c
  by_cases h0 : c = 0
  case neg =>
    rw [if_neg h0]
    refine G.brf rfl h0 ?_
    iterate 1 (refine G.st rfl rfl ?_)
    exact G.ret rfl rfl ⟨rfl, rfl⟩
  subst h0
  rw [if_pos rfl]
  refine G.brt rfl rfl ?_
  iterate 1 (refine G.st rfl rfl ?_)
  refine G.call rfl rfl (Nat.le_of_ble_eq_true rfl) (Sp.up (s6_isLine X b _) (Nat.le_of_ble_eq_true rfl)) ?_
  rintro _ _ ⟨rfl, rfl⟩
  by_cases hl : 0 ≤ b ∧ b ≤ 3
  · rw [if_pos hl]
    refine G.brf rfl (bI_n hl) ?_
    iterate 1 (refine G.st rfl rfl ?_)
    exact G.ret rfl rfl ⟨rfl, rfl⟩
  · rw [if_neg hl]
    refine G.brt rfl (bI_0.mpr hl) ?_
    iterate 1 (refine G.st rfl rfl ?_)
    exact G.ret rfl rfl ⟨rfl, rfl⟩
end SHEET
