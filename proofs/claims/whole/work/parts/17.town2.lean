section TOWN2
variable {rw : Nat → sR} {nu : Nat → Nat → Int32} {wd : Nat → Int32 × Int32} {vo : sV} {od : sO} {tp : sP} {sh : Nat → sS} {fi : Nat → Int32} {ik : Int32} {m : sM} {nm : Nat → Option Int32} {g : Nat → List Gar}
theorem RowAt.H0 (i : Nat) (hi : i < 13) : RowAt (H rw nu wd vo od tp sh fi ik m) (rb i) (rw i) := H_row hi
/-- the sum of four -/
def sum4 (f : Nat → Nat) : Nat := f 0 + f 1 + f 2 + f 3
theorem va_up_s {α : Type} {f : Nat → α} {k : Nat} {v : α} : va_up f k v k = v := by simp [va_up]
theorem va_up_n {α : Type} {f : Nat → α} {k j : Nat} {v : α} (h : j ≠ k) : va_up f k v j = f j := by simp [va_up, h]
theorem s4_letDaysGo (X : aX) {n : Int32} (hg : ∀ l, l < 4 → Rep (rw l) (g l)) : Sp X 1 kX4_letDaysGo [.ref 1, .int n] (H rw nu wd vo od tp sh fi ik m) (fun v h' => v = some (.int (nI (sum4 (fun l => dryN n (g l) (g l).length)))) ∧ ∃ rw', h' = H rw' nu (va_up wd 0 ((wd 0).1, (wd 0).2 + n)) vo od tp sh fi ik m ∧ (∀ l, l < 4 → Rep (rw' l) ((g l).map (dryG n))) ∧ ∀ l, 4 ≤ l → rw' l = rw l) := by
  unfold Sp
  iterate 13 (refine G.st rfl rfl ?_)
  refine G.call rfl rfl (Nat.le_of_ble_eq_true rfl) (Sp.up (s1_dry X (H_row (i := 0) (by omega)) (hg 0 (by omega))) (Nat.le_of_ble_eq_true rfl)) ?_
  rintro _ _ ⟨rfl, q0, rfl, hq0⟩
  rw [H_rsetL (a := 4) (i := 0) rfl (by omega)]
  show G X 1 kX4_letDaysGo 20 [.ref 1, .int n, .int _, .int 0] [.int _, .int _] _ _
  iterate 3 (refine G.st rfl rfl ?_)
  simp only [Int32.reduceAdd]
  iterate 10 (refine G.st rfl rfl ?_)
  refine G.call rfl rfl (Nat.le_of_ble_eq_true rfl) (Sp.up (s1_dry X (H_row (i := 1) (by omega)) (hg 1 (by omega))) (Nat.le_of_ble_eq_true rfl)) ?_
  rintro _ _ ⟨rfl, q1, rfl, hq1⟩
  rw [H_rsetL (a := 8) (i := 1) rfl (by omega)]
  show G X 1 kX4_letDaysGo 20 [.ref 1, .int n, .int _, .int 1] [.int _, .int _] _ _
  iterate 3 (refine G.st rfl rfl ?_)
  simp only [Int32.reduceAdd]
  iterate 10 (refine G.st rfl rfl ?_)
  refine G.call rfl rfl (Nat.le_of_ble_eq_true rfl) (Sp.up (s1_dry X (H_row (i := 2) (by omega)) (hg 2 (by omega))) (Nat.le_of_ble_eq_true rfl)) ?_
  rintro _ _ ⟨rfl, q2, rfl, hq2⟩
  rw [H_rsetL (a := 12) (i := 2) rfl (by omega)]
  show G X 1 kX4_letDaysGo 20 [.ref 1, .int n, .int _, .int 2] [.int _, .int _] _ _
  iterate 3 (refine G.st rfl rfl ?_)
  simp only [Int32.reduceAdd]
  iterate 10 (refine G.st rfl rfl ?_)
  refine G.call rfl rfl (Nat.le_of_ble_eq_true rfl) (Sp.up (s1_dry X (H_row (i := 3) (by omega)) (hg 3 (by omega))) (Nat.le_of_ble_eq_true rfl)) ?_
  rintro _ _ ⟨rfl, q3, rfl, hq3⟩
  rw [H_rsetL (a := 16) (i := 3) rfl (by omega)]
  show G X 1 kX4_letDaysGo 20 [.ref 1, .int n, .int _, .int 3] [.int _, .int _] _ _
  iterate 3 (refine G.st rfl rfl ?_)
  simp only [Int32.reduceAdd]
  iterate 4 (refine G.st rfl rfl ?_)
  iterate 7 (refine G.st rfl rfl ?_)
  refine G.ret rfl rfl ⟨?_, va_up (va_up (va_up (va_up rw 0 q0) 1 q1) 2 q2) 3 q3, rfl, ?_, ?_⟩
  · have e : (0 : Int32) = nI 0 := rfl
    rw [e, nI_add, nI_add, nI_add, nI_add, Nat.zero_add]
    rfl
  · intro l hl
    rcases (show l = 0 ∨ l = 1 ∨ l = 2 ∨ l = 3 by omega) with rfl | rfl | rfl | rfl
    · exact hq0
    · exact hq1
    · exact hq2
    · exact hq3
  · intro l hl
    rw [va_up_n (by omega), va_up_n (by omega), va_up_n (by omega), va_up_n (by omega)]
/-- a town becomes another: a, b are 0 (what is), 1 (what is kept), 2 (the draft) -/
theorem s4_become (X : aX) (a b : Nat) (ha : a < 3) (hb : b < 3) (hab : a ≠ b) (hg : ∀ l, l < 4 → Rep (rw (4 * b + l)) (g l)) : Sp X 3 kX4_become [.ref (1 + 19 * a), .ref (1 + 19 * b)] (H rw nu wd vo od tp sh fi ik m) (fun v h' => v = none ∧ ∃ rw' f, h' = H rw' (va_up nu a f) (va_up wd a (wd b)) vo od tp sh fi ik m ∧ (∀ j, j < 10 → f j = nu b j) ∧ (∀ l, l < 4 → Rep (rw' (4 * a + l)) (g l)) ∧ ∀ l, (l < 4 * a ∨ 4 * a + 4 ≤ l) → rw' l = rw l) := by
  unfold Sp
  have key : ∀ (a b : Nat), a < 3 → b < 3 → a ≠ b → (a = 0 ∧ b = 1) ∨ (a = 0 ∧ b = 2) ∨ (a = 1 ∧ b = 0) ∨ (a = 1 ∧ b = 2) ∨ (a = 2 ∧ b = 0) ∨ (a = 2 ∧ b = 1) := by omega
  rcases key a b ha hb hab with ⟨rfl, rfl⟩ | ⟨rfl, rfl⟩ | ⟨rfl, rfl⟩ | ⟨rfl, rfl⟩ | ⟨rfl, rfl⟩ | ⟨rfl, rfl⟩
  · iterate 13 (refine G.st rfl rfl ?_)
    refine G.call rfl rfl (Nat.le_of_ble_eq_true rfl) (Sp.up (s1_become X (H_row (i := 0) (by omega)) (H_row (i := 4) (by omega)) (hg 0 (by omega)) (Or.inr (by decide))) (Nat.le_of_ble_eq_true rfl)) ?_
    rintro _ _ ⟨rfl, q0, rfl, hq0⟩
    rw [H_rsetL (a := 4) (i := 0) rfl (by omega)]
    iterate 1 (refine G.st rfl rfl ?_)
    simp only [Int32.reduceAdd]
    iterate 12 (refine G.st rfl rfl ?_)
    refine G.call rfl rfl (Nat.le_of_ble_eq_true rfl) (Sp.up (s1_become X (H_row (i := 1) (by omega)) (H_row (i := 5) (by omega)) (hg 1 (by omega)) (Or.inr (by decide))) (Nat.le_of_ble_eq_true rfl)) ?_
    rintro _ _ ⟨rfl, q1, rfl, hq1⟩
    rw [H_rsetL (a := 8) (i := 1) rfl (by omega)]
    iterate 1 (refine G.st rfl rfl ?_)
    simp only [Int32.reduceAdd]
    iterate 12 (refine G.st rfl rfl ?_)
    refine G.call rfl rfl (Nat.le_of_ble_eq_true rfl) (Sp.up (s1_become X (H_row (i := 2) (by omega)) (H_row (i := 6) (by omega)) (hg 2 (by omega)) (Or.inr (by decide))) (Nat.le_of_ble_eq_true rfl)) ?_
    rintro _ _ ⟨rfl, q2, rfl, hq2⟩
    rw [H_rsetL (a := 12) (i := 2) rfl (by omega)]
    iterate 1 (refine G.st rfl rfl ?_)
    simp only [Int32.reduceAdd]
    iterate 12 (refine G.st rfl rfl ?_)
    refine G.call rfl rfl (Nat.le_of_ble_eq_true rfl) (Sp.up (s1_become X (H_row (i := 3) (by omega)) (H_row (i := 7) (by omega)) (hg 3 (by omega)) (Or.inr (by decide))) (Nat.le_of_ble_eq_true rfl)) ?_
    rintro _ _ ⟨rfl, q3, rfl, hq3⟩
    rw [H_rsetL (a := 16) (i := 3) rfl (by omega)]
    iterate 1 (refine G.st rfl rfl ?_)
    simp only [Int32.reduceAdd]
    iterate 4 (refine G.st rfl rfl ?_)
    iterate 16 (refine G.st rfl rfl ?_)
    refine G.ret rfl rfl ⟨rfl, va_up (va_up (va_up (va_up rw 0 q0) 1 q1) 2 q2) 3 q3, va_cpy (nu 1) (nu 0) 0 0 10, rfl, ?_, ?_, ?_⟩
    · intro j hj
      rw [pk_cpy_in (Nat.zero_le j) (by omega)]
      congr 1
      omega
    · intro l hl
      rcases (show l = 0 ∨ l = 1 ∨ l = 2 ∨ l = 3 by omega) with rfl | rfl | rfl | rfl
      · exact hq0
      · exact hq1
      · exact hq2
      · exact hq3
    · intro l hl
      rw [va_up_n (by omega), va_up_n (by omega), va_up_n (by omega), va_up_n (by omega)]
  · iterate 13 (refine G.st rfl rfl ?_)
    refine G.call rfl rfl (Nat.le_of_ble_eq_true rfl) (Sp.up (s1_become X (H_row (i := 0) (by omega)) (H_row (i := 8) (by omega)) (hg 0 (by omega)) (Or.inr (by decide))) (Nat.le_of_ble_eq_true rfl)) ?_
    rintro _ _ ⟨rfl, q0, rfl, hq0⟩
    rw [H_rsetL (a := 4) (i := 0) rfl (by omega)]
    iterate 1 (refine G.st rfl rfl ?_)
    simp only [Int32.reduceAdd]
    iterate 12 (refine G.st rfl rfl ?_)
    refine G.call rfl rfl (Nat.le_of_ble_eq_true rfl) (Sp.up (s1_become X (H_row (i := 1) (by omega)) (H_row (i := 9) (by omega)) (hg 1 (by omega)) (Or.inr (by decide))) (Nat.le_of_ble_eq_true rfl)) ?_
    rintro _ _ ⟨rfl, q1, rfl, hq1⟩
    rw [H_rsetL (a := 8) (i := 1) rfl (by omega)]
    iterate 1 (refine G.st rfl rfl ?_)
    simp only [Int32.reduceAdd]
    iterate 12 (refine G.st rfl rfl ?_)
    refine G.call rfl rfl (Nat.le_of_ble_eq_true rfl) (Sp.up (s1_become X (H_row (i := 2) (by omega)) (H_row (i := 10) (by omega)) (hg 2 (by omega)) (Or.inr (by decide))) (Nat.le_of_ble_eq_true rfl)) ?_
    rintro _ _ ⟨rfl, q2, rfl, hq2⟩
    rw [H_rsetL (a := 12) (i := 2) rfl (by omega)]
    iterate 1 (refine G.st rfl rfl ?_)
    simp only [Int32.reduceAdd]
    iterate 12 (refine G.st rfl rfl ?_)
    refine G.call rfl rfl (Nat.le_of_ble_eq_true rfl) (Sp.up (s1_become X (H_row (i := 3) (by omega)) (H_row (i := 11) (by omega)) (hg 3 (by omega)) (Or.inr (by decide))) (Nat.le_of_ble_eq_true rfl)) ?_
    rintro _ _ ⟨rfl, q3, rfl, hq3⟩
    rw [H_rsetL (a := 16) (i := 3) rfl (by omega)]
    iterate 1 (refine G.st rfl rfl ?_)
    simp only [Int32.reduceAdd]
    iterate 4 (refine G.st rfl rfl ?_)
    iterate 16 (refine G.st rfl rfl ?_)
    refine G.ret rfl rfl ⟨rfl, va_up (va_up (va_up (va_up rw 0 q0) 1 q1) 2 q2) 3 q3, va_cpy (nu 2) (nu 0) 0 0 10, rfl, ?_, ?_, ?_⟩
    · intro j hj
      rw [pk_cpy_in (Nat.zero_le j) (by omega)]
      congr 1
      omega
    · intro l hl
      rcases (show l = 0 ∨ l = 1 ∨ l = 2 ∨ l = 3 by omega) with rfl | rfl | rfl | rfl
      · exact hq0
      · exact hq1
      · exact hq2
      · exact hq3
    · intro l hl
      rw [va_up_n (by omega), va_up_n (by omega), va_up_n (by omega), va_up_n (by omega)]
  · iterate 13 (refine G.st rfl rfl ?_)
    refine G.call rfl rfl (Nat.le_of_ble_eq_true rfl) (Sp.up (s1_become X (H_row (i := 4) (by omega)) (H_row (i := 0) (by omega)) (hg 0 (by omega)) (Or.inr (by decide))) (Nat.le_of_ble_eq_true rfl)) ?_
    rintro _ _ ⟨rfl, q0, rfl, hq0⟩
    rw [H_rsetL (a := 23) (i := 4) rfl (by omega)]
    iterate 1 (refine G.st rfl rfl ?_)
    simp only [Int32.reduceAdd]
    iterate 12 (refine G.st rfl rfl ?_)
    refine G.call rfl rfl (Nat.le_of_ble_eq_true rfl) (Sp.up (s1_become X (H_row (i := 5) (by omega)) (H_row (i := 1) (by omega)) (hg 1 (by omega)) (Or.inr (by decide))) (Nat.le_of_ble_eq_true rfl)) ?_
    rintro _ _ ⟨rfl, q1, rfl, hq1⟩
    rw [H_rsetL (a := 27) (i := 5) rfl (by omega)]
    iterate 1 (refine G.st rfl rfl ?_)
    simp only [Int32.reduceAdd]
    iterate 12 (refine G.st rfl rfl ?_)
    refine G.call rfl rfl (Nat.le_of_ble_eq_true rfl) (Sp.up (s1_become X (H_row (i := 6) (by omega)) (H_row (i := 2) (by omega)) (hg 2 (by omega)) (Or.inr (by decide))) (Nat.le_of_ble_eq_true rfl)) ?_
    rintro _ _ ⟨rfl, q2, rfl, hq2⟩
    rw [H_rsetL (a := 31) (i := 6) rfl (by omega)]
    iterate 1 (refine G.st rfl rfl ?_)
    simp only [Int32.reduceAdd]
    iterate 12 (refine G.st rfl rfl ?_)
    refine G.call rfl rfl (Nat.le_of_ble_eq_true rfl) (Sp.up (s1_become X (H_row (i := 7) (by omega)) (H_row (i := 3) (by omega)) (hg 3 (by omega)) (Or.inr (by decide))) (Nat.le_of_ble_eq_true rfl)) ?_
    rintro _ _ ⟨rfl, q3, rfl, hq3⟩
    rw [H_rsetL (a := 35) (i := 7) rfl (by omega)]
    iterate 1 (refine G.st rfl rfl ?_)
    simp only [Int32.reduceAdd]
    iterate 4 (refine G.st rfl rfl ?_)
    iterate 16 (refine G.st rfl rfl ?_)
    refine G.ret rfl rfl ⟨rfl, va_up (va_up (va_up (va_up rw 4 q0) 5 q1) 6 q2) 7 q3, va_cpy (nu 0) (nu 1) 0 0 10, rfl, ?_, ?_, ?_⟩
    · intro j hj
      rw [pk_cpy_in (Nat.zero_le j) (by omega)]
      congr 1
      omega
    · intro l hl
      rcases (show l = 0 ∨ l = 1 ∨ l = 2 ∨ l = 3 by omega) with rfl | rfl | rfl | rfl
      · exact hq0
      · exact hq1
      · exact hq2
      · exact hq3
    · intro l hl
      rw [va_up_n (by omega), va_up_n (by omega), va_up_n (by omega), va_up_n (by omega)]
  · iterate 13 (refine G.st rfl rfl ?_)
    refine G.call rfl rfl (Nat.le_of_ble_eq_true rfl) (Sp.up (s1_become X (H_row (i := 4) (by omega)) (H_row (i := 8) (by omega)) (hg 0 (by omega)) (Or.inr (by decide))) (Nat.le_of_ble_eq_true rfl)) ?_
    rintro _ _ ⟨rfl, q0, rfl, hq0⟩
    rw [H_rsetL (a := 23) (i := 4) rfl (by omega)]
    iterate 1 (refine G.st rfl rfl ?_)
    simp only [Int32.reduceAdd]
    iterate 12 (refine G.st rfl rfl ?_)
    refine G.call rfl rfl (Nat.le_of_ble_eq_true rfl) (Sp.up (s1_become X (H_row (i := 5) (by omega)) (H_row (i := 9) (by omega)) (hg 1 (by omega)) (Or.inr (by decide))) (Nat.le_of_ble_eq_true rfl)) ?_
    rintro _ _ ⟨rfl, q1, rfl, hq1⟩
    rw [H_rsetL (a := 27) (i := 5) rfl (by omega)]
    iterate 1 (refine G.st rfl rfl ?_)
    simp only [Int32.reduceAdd]
    iterate 12 (refine G.st rfl rfl ?_)
    refine G.call rfl rfl (Nat.le_of_ble_eq_true rfl) (Sp.up (s1_become X (H_row (i := 6) (by omega)) (H_row (i := 10) (by omega)) (hg 2 (by omega)) (Or.inr (by decide))) (Nat.le_of_ble_eq_true rfl)) ?_
    rintro _ _ ⟨rfl, q2, rfl, hq2⟩
    rw [H_rsetL (a := 31) (i := 6) rfl (by omega)]
    iterate 1 (refine G.st rfl rfl ?_)
    simp only [Int32.reduceAdd]
    iterate 12 (refine G.st rfl rfl ?_)
    refine G.call rfl rfl (Nat.le_of_ble_eq_true rfl) (Sp.up (s1_become X (H_row (i := 7) (by omega)) (H_row (i := 11) (by omega)) (hg 3 (by omega)) (Or.inr (by decide))) (Nat.le_of_ble_eq_true rfl)) ?_
    rintro _ _ ⟨rfl, q3, rfl, hq3⟩
    rw [H_rsetL (a := 35) (i := 7) rfl (by omega)]
    iterate 1 (refine G.st rfl rfl ?_)
    simp only [Int32.reduceAdd]
    iterate 4 (refine G.st rfl rfl ?_)
    iterate 16 (refine G.st rfl rfl ?_)
    refine G.ret rfl rfl ⟨rfl, va_up (va_up (va_up (va_up rw 4 q0) 5 q1) 6 q2) 7 q3, va_cpy (nu 2) (nu 1) 0 0 10, rfl, ?_, ?_, ?_⟩
    · intro j hj
      rw [pk_cpy_in (Nat.zero_le j) (by omega)]
      congr 1
      omega
    · intro l hl
      rcases (show l = 0 ∨ l = 1 ∨ l = 2 ∨ l = 3 by omega) with rfl | rfl | rfl | rfl
      · exact hq0
      · exact hq1
      · exact hq2
      · exact hq3
    · intro l hl
      rw [va_up_n (by omega), va_up_n (by omega), va_up_n (by omega), va_up_n (by omega)]
  · iterate 13 (refine G.st rfl rfl ?_)
    refine G.call rfl rfl (Nat.le_of_ble_eq_true rfl) (Sp.up (s1_become X (H_row (i := 8) (by omega)) (H_row (i := 0) (by omega)) (hg 0 (by omega)) (Or.inr (by decide))) (Nat.le_of_ble_eq_true rfl)) ?_
    rintro _ _ ⟨rfl, q0, rfl, hq0⟩
    rw [H_rsetL (a := 42) (i := 8) rfl (by omega)]
    iterate 1 (refine G.st rfl rfl ?_)
    simp only [Int32.reduceAdd]
    iterate 12 (refine G.st rfl rfl ?_)
    refine G.call rfl rfl (Nat.le_of_ble_eq_true rfl) (Sp.up (s1_become X (H_row (i := 9) (by omega)) (H_row (i := 1) (by omega)) (hg 1 (by omega)) (Or.inr (by decide))) (Nat.le_of_ble_eq_true rfl)) ?_
    rintro _ _ ⟨rfl, q1, rfl, hq1⟩
    rw [H_rsetL (a := 46) (i := 9) rfl (by omega)]
    iterate 1 (refine G.st rfl rfl ?_)
    simp only [Int32.reduceAdd]
    iterate 12 (refine G.st rfl rfl ?_)
    refine G.call rfl rfl (Nat.le_of_ble_eq_true rfl) (Sp.up (s1_become X (H_row (i := 10) (by omega)) (H_row (i := 2) (by omega)) (hg 2 (by omega)) (Or.inr (by decide))) (Nat.le_of_ble_eq_true rfl)) ?_
    rintro _ _ ⟨rfl, q2, rfl, hq2⟩
    rw [H_rsetL (a := 50) (i := 10) rfl (by omega)]
    iterate 1 (refine G.st rfl rfl ?_)
    simp only [Int32.reduceAdd]
    iterate 12 (refine G.st rfl rfl ?_)
    refine G.call rfl rfl (Nat.le_of_ble_eq_true rfl) (Sp.up (s1_become X (H_row (i := 11) (by omega)) (H_row (i := 3) (by omega)) (hg 3 (by omega)) (Or.inr (by decide))) (Nat.le_of_ble_eq_true rfl)) ?_
    rintro _ _ ⟨rfl, q3, rfl, hq3⟩
    rw [H_rsetL (a := 54) (i := 11) rfl (by omega)]
    iterate 1 (refine G.st rfl rfl ?_)
    simp only [Int32.reduceAdd]
    iterate 4 (refine G.st rfl rfl ?_)
    iterate 16 (refine G.st rfl rfl ?_)
    refine G.ret rfl rfl ⟨rfl, va_up (va_up (va_up (va_up rw 8 q0) 9 q1) 10 q2) 11 q3, va_cpy (nu 0) (nu 2) 0 0 10, rfl, ?_, ?_, ?_⟩
    · intro j hj
      rw [pk_cpy_in (Nat.zero_le j) (by omega)]
      congr 1
      omega
    · intro l hl
      rcases (show l = 0 ∨ l = 1 ∨ l = 2 ∨ l = 3 by omega) with rfl | rfl | rfl | rfl
      · exact hq0
      · exact hq1
      · exact hq2
      · exact hq3
    · intro l hl
      rw [va_up_n (by omega), va_up_n (by omega), va_up_n (by omega), va_up_n (by omega)]
  · iterate 13 (refine G.st rfl rfl ?_)
    refine G.call rfl rfl (Nat.le_of_ble_eq_true rfl) (Sp.up (s1_become X (H_row (i := 8) (by omega)) (H_row (i := 4) (by omega)) (hg 0 (by omega)) (Or.inr (by decide))) (Nat.le_of_ble_eq_true rfl)) ?_
    rintro _ _ ⟨rfl, q0, rfl, hq0⟩
    rw [H_rsetL (a := 42) (i := 8) rfl (by omega)]
    iterate 1 (refine G.st rfl rfl ?_)
    simp only [Int32.reduceAdd]
    iterate 12 (refine G.st rfl rfl ?_)
    refine G.call rfl rfl (Nat.le_of_ble_eq_true rfl) (Sp.up (s1_become X (H_row (i := 9) (by omega)) (H_row (i := 5) (by omega)) (hg 1 (by omega)) (Or.inr (by decide))) (Nat.le_of_ble_eq_true rfl)) ?_
    rintro _ _ ⟨rfl, q1, rfl, hq1⟩
    rw [H_rsetL (a := 46) (i := 9) rfl (by omega)]
    iterate 1 (refine G.st rfl rfl ?_)
    simp only [Int32.reduceAdd]
    iterate 12 (refine G.st rfl rfl ?_)
    refine G.call rfl rfl (Nat.le_of_ble_eq_true rfl) (Sp.up (s1_become X (H_row (i := 10) (by omega)) (H_row (i := 6) (by omega)) (hg 2 (by omega)) (Or.inr (by decide))) (Nat.le_of_ble_eq_true rfl)) ?_
    rintro _ _ ⟨rfl, q2, rfl, hq2⟩
    rw [H_rsetL (a := 50) (i := 10) rfl (by omega)]
    iterate 1 (refine G.st rfl rfl ?_)
    simp only [Int32.reduceAdd]
    iterate 12 (refine G.st rfl rfl ?_)
    refine G.call rfl rfl (Nat.le_of_ble_eq_true rfl) (Sp.up (s1_become X (H_row (i := 11) (by omega)) (H_row (i := 7) (by omega)) (hg 3 (by omega)) (Or.inr (by decide))) (Nat.le_of_ble_eq_true rfl)) ?_
    rintro _ _ ⟨rfl, q3, rfl, hq3⟩
    rw [H_rsetL (a := 54) (i := 11) rfl (by omega)]
    iterate 1 (refine G.st rfl rfl ?_)
    simp only [Int32.reduceAdd]
    iterate 4 (refine G.st rfl rfl ?_)
    iterate 16 (refine G.st rfl rfl ?_)
    refine G.ret rfl rfl ⟨rfl, va_up (va_up (va_up (va_up rw 8 q0) 9 q1) 10 q2) 11 q3, va_cpy (nu 1) (nu 2) 0 0 10, rfl, ?_, ?_, ?_⟩
    · intro j hj
      rw [pk_cpy_in (Nat.zero_le j) (by omega)]
      congr 1
      omega
    · intro l hl
      rcases (show l = 0 ∨ l = 1 ∨ l = 2 ∨ l = 3 by omega) with rfl | rfl | rfl | rfl
      · exact hq0
      · exact hq1
      · exact hq2
      · exact hq3
    · intro l hl
      rw [va_up_n (by omega), va_up_n (by omega), va_up_n (by omega), va_up_n (by omega)]
end TOWN2
