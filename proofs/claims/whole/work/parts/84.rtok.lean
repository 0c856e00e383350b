/-! ===== the reference: bytes and words ===== -/
def rbt (t : List Int32) (i : Nat) : Int32 := if i < t.length then bt t i else -1
def TPR (m : sM) (t : List Int32) : Prop := mtd m = nI t.length ∧ t.length ≤ 120 ∧ (∀ j, j < t.length → mtp m j = bt t j ∧ 0 ≤ bt t j ∧ bt t j ≤ 255)
def tkc (x : Int32) : Int32 := if x = 4 then 5 else if x = 5 then 4 else x
def TKR (m : sM) (t : List Int32) (tk : Tk) : Prop := TPR m t ∧ TkOk t tk ∧ mfr m = nI tk.1 ∧ mto m = nI tk.2.1 ∧ mtk m = tkc tk.2.2 ∧ (tk.2.2 = 2 → mva m = numV t tk)
section RTOK
variable {c : Nat → aC} {m : sM} {t : List Int32}
theorem s7_isLetter (X : aX) (x : Int32) (h : aH) : Sp X 0 kX7_isLetter [.int x] h (An (some (.int (bI (97 ≤ x ∧ x ≤ 122)))) h) := by
  unfold Sp
  repeat' (first | refine G.st rfl rfl ?_ | refine G.br rfl (fun hc => ?_) (fun hc => ?_) | refine G.ret rfl rfl ?_)
  all_goals (refine ⟨?_, rfl⟩; unfold bI; grind)
theorem s7_isDigit (X : aX) (x : Int32) (h : aH) : Sp X 0 kX7_isDigit [.int x] h (An (some (.int (bI (48 ≤ x ∧ x ≤ 57)))) h) := by
  unfold Sp
  repeat' (first | refine G.st rfl rfl ?_ | refine G.br rfl (fun hc => ?_) (fun hc => ?_) | refine G.ret rfl rfl ?_)
  all_goals (refine ⟨?_, rfl⟩; unfold bI; grind)
theorem s7_byteAt (X : aX) {i : Nat} (hi : i < 2 ^ 30) (hT : TPR m t) : Sp X 0 kX7_byteAt [.ref 81, .int (nI i)] (HR c m) (An (some (.int (rbt t i))) (HR c m)) := by
  unfold Sp rbt
  obtain ⟨t1, t2, t3⟩ := hT
  iterate 3 (refine G.st rfl rfl ?_)
  show G X 0 kX7_byteAt 5 [.ref 81, .int (nI i)] [.int (mtd m), .int (nI i)] (HR c m) _
  rw [t1]
  by_cases h : i < t.length
  · rw [if_pos h]
    refine G.brf rfl (by rw [nI_leI (by omega) (by omega)]; omega) ?_
    iterate 3 (refine G.st rfl rfl ?_)
    refine G.iald rfl rfl (ix_nI (show i < 120 by omega) (by omega)) ?_
    rw [(t3 i h).1]
    iterate 1 (refine G.st rfl rfl ?_)
    exact G.ret rfl rfl ⟨rfl, rfl⟩
  · rw [if_neg h]
    refine G.brt rfl (by rw [nI_leI (by omega) (by omega)]; omega) ?_
    iterate 1 (refine G.st rfl rfl ?_)
    exact G.ret rfl rfl ⟨rfl, rfl⟩
theorem s7_has3 (X : aX) {p i : Nat} {x y z : Int32} (hp : p < 2 ^ 20) (hi : i < 2 ^ 20) (hT : TPR m t) (hf : mfr m = nI p) : Sp X 1 kX7_has3 [.ref 81, .int (nI i), .int x, .int y, .int z] (HR c m) (An (some (.int (bI (rbt t (p + i) = x ∧ rbt t (p + i + 1) = y ∧ rbt t (p + i + 2) = z)))) (HR c m)) := by
  unfold Sp
  have no : ¬ (rbt t (p + i) = x ∧ rbt t (p + i + 1) = y ∧ rbt t (p + i + 2) = z) → G X 1 kX7_has3 51 [.ref 81, .int (nI i), .int x, .int y, .int z] [] (HR c m) (An (some (.int (bI (rbt t (p + i) = x ∧ rbt t (p + i + 1) = y ∧ rbt t (p + i + 2) = z)))) (HR c m)) := by
    intro h
    iterate 1 (refine G.st rfl rfl ?_)
    exact G.ret rfl rfl ⟨by rw [bI_f h], rfl⟩
  iterate 4 (refine G.st rfl rfl ?_)
  show G X 1 kX7_has3 6 [.ref 81, .int (nI i), .int x, .int y, .int z] [.int (nI i), .int (mfr m), .ref 81] (HR c m) _
  rw [hf]
  iterate 1 (refine G.st rfl rfl ?_)
  rw [nI_add]
  refine G.call rfl rfl (Nat.le_of_ble_eq_true rfl) (Sp.up (s7_byteAt X (show p + i < 2 ^ 30 by omega) hT) (Nat.le_of_ble_eq_true rfl)) ?_
  rintro _ _ ⟨rfl, rfl⟩
  iterate 1 (refine G.st rfl rfl ?_)
  by_cases h1 : rbt t (p + i) = x
  case neg => exact G.brf rfl h1 (no (fun q => h1 q.1))
  refine G.brt rfl h1 ?_
  iterate 4 (refine G.st rfl rfl ?_)
  show G X 1 kX7_has3 20 [.ref 81, .int (nI i), .int x, .int y, .int z] [.int (nI i), .int (mfr m), .ref 81] (HR c m) _
  rw [hf]
  iterate 1 (refine G.st rfl rfl ?_)
  rw [nI_add]
  iterate 2 (refine G.st rfl rfl ?_)
  rw [nI_1]
  refine G.call rfl rfl (Nat.le_of_ble_eq_true rfl) (Sp.up (s7_byteAt X (show p + i + 1 < 2 ^ 30 by omega) hT) (Nat.le_of_ble_eq_true rfl)) ?_
  rintro _ _ ⟨rfl, rfl⟩
  iterate 1 (refine G.st rfl rfl ?_)
  by_cases h2 : rbt t (p + i + 1) = y
  case neg => exact G.brf rfl h2 (no (fun q => h2 q.2.1))
  refine G.brt rfl h2 ?_
  iterate 4 (refine G.st rfl rfl ?_)
  show G X 1 kX7_has3 36 [.ref 81, .int (nI i), .int x, .int y, .int z] [.int (nI i), .int (mfr m), .ref 81] (HR c m) _
  rw [hf]
  iterate 1 (refine G.st rfl rfl ?_)
  rw [nI_add]
  iterate 2 (refine G.st rfl rfl ?_)
  rw [show (2 : Int32) = nI 2 from rfl, nI_add]
  refine G.call rfl rfl (Nat.le_of_ble_eq_true rfl) (Sp.up (s7_byteAt X (show p + i + 2 < 2 ^ 30 by omega) hT) (Nat.le_of_ble_eq_true rfl)) ?_
  rintro _ _ ⟨rfl, rfl⟩
  iterate 1 (refine G.st rfl rfl ?_)
  by_cases h3 : rbt t (p + i + 2) = z
  case neg => exact G.brf rfl h3 (no (fun q => h3 q.2.2))
  refine G.brt rfl h3 ?_
  iterate 2 (refine G.st rfl rfl ?_)
  exact G.ret rfl rfl ⟨by rw [bI_t ⟨h1, h2, h3⟩], rfl⟩
theorem tkc_1 {x : Int32} : tkc x = 1 ↔ x = 1 := by
  unfold tkc
  by_cases h : x = 4
  · rw [if_pos h, h]; decide
  · rw [if_neg h]
    by_cases h2 : x = 5
    · rw [if_pos h2, h2]; decide
    · rw [if_neg h2]
theorem s7_isWord (X : aX) {k : Nat} {tk : Tk} (hk : k < 100) (hT : TKR m t tk) : Sp X 0 kX7_isWord [.ref 81, .int (nI k)] (HR c m) (An (some (.int (bI (tk.2.2 = 1 ∧ tk.2.1 - tk.1 = k)))) (HR c m)) := by
  unfold Sp
  obtain ⟨⟨t1, t2, t3⟩, ⟨o1, o2⟩, e1, e2, e3, e4⟩ := hT
  iterate 3 (refine G.st rfl rfl ?_)
  show G X 0 kX7_isWord 5 [.ref 81, .int (nI k)] [.int 1, .int (mtk m)] (HR c m) _
  rw [e3]
  by_cases h1 : tk.2.2 = 1
  case neg =>
    refine G.brf rfl (fun q => h1 (tkc_1.mp q)) ?_
    iterate 1 (refine G.st rfl rfl ?_)
    exact G.ret rfl rfl ⟨by rw [bI_f (fun q => h1 q.1)], rfl⟩
  refine G.brt rfl (tkc_1.mpr h1) ?_
  iterate 4 (refine G.st rfl rfl ?_)
  show G X 0 kX7_isWord 16 [.ref 81, .int (nI k)] [.int (mfr m), .int (mto m)] (HR c m) _
  rw [e1, e2]
  iterate 1 (refine G.st rfl rfl ?_)
  rw [show nI tk.2.1 - nI tk.1 = nI (tk.2.1 - tk.1) by
    obtain ⟨d, hd⟩ : ∃ d, tk.2.1 = d + tk.1 := ⟨tk.2.1 - tk.1, by omega⟩
    rw [hd, ← nI_add, Nat.add_sub_cancel]
    grind]
  iterate 1 (refine G.st rfl rfl ?_)
  by_cases h2 : tk.2.1 - tk.1 = k
  · refine G.brt rfl (by rw [h2]) ?_
    iterate 2 (refine G.st rfl rfl ?_)
    exact G.ret rfl rfl ⟨by rw [bI_t ⟨h1, h2⟩], rfl⟩
  · refine G.brf rfl (fun q => h2 ((nI_eq (by omega) (by omega)).mp q)) ?_
    iterate 1 (refine G.st rfl rfl ?_)
    exact G.ret rfl rfl ⟨by rw [bI_f (fun q => h2 q.2)], rfl⟩
theorem s7_fails (X : aX) : Sp X 0 kX7_fails [.ref 81] (HR c m) (An (some (.int 0)) (HR c (mSfa m (mfr m)))) := by
  unfold Sp
  iterate 5 (refine G.st rfl rfl ?_)
  exact G.ret rfl rfl ⟨rfl, rfl⟩
end RTOK
