/-- one or nought -/
def bI (c : Prop) [Decidable c] : Int32 := if c then 1 else 0
theorem bI_t {c : Prop} [Decidable c] (h : c) : bI c = 1 := if_pos h
theorem bI_f {c : Prop} [Decidable c] (h : ¬ c) : bI c = 0 := if_neg h
theorem bI_0 {c : Prop} [Decidable c] : bI c = 0 ↔ ¬ c := by
  by_cases h : c
  · simp [bI, h]
  · simp [bI, h]
theorem bI_ok {c : Prop} [Decidable c] : (bI c == 0 || bI c == 1) = true := by
  by_cases h : c
  · simp [bI, h]
  · simp [bI, h]
abbrev An (r : Option Value) (h : aH) : Option Value → aH → Prop := fun v h' => v = r ∧ h' = h
theorem s6_isWithin (X : aX) (v l u : Int32) (h : aH) : Sp X 0 kX6_isWithin [.int v, .int l, .int u] h (An (some (.int (bI (l ≤ v ∧ v ≤ u)))) h) := by
  unfold Sp
  repeat' (first | refine G.go rfl ?_ | refine G.br rfl (fun hc => ?_) (fun hc => ?_) | refine G.ret rfl rfl ?_)
  · exact ⟨by rw [bI_t ⟨by assumption, by assumption⟩], rfl⟩
  · exact ⟨by rw [bI_f (fun q => by have := q.2; contradiction)], rfl⟩
  · exact ⟨by rw [bI_f (fun q => by have := q.1; contradiction)], rfl⟩
theorem s6_isLine (X : aX) (x : Int32) (h : aH) : Sp X 1 kX6_isLine [.int x] h (An (some (.int (bI (0 ≤ x ∧ x ≤ 3)))) h) := by
  unfold Sp
  repeat (refine G.go rfl ?_)
  refine G.call rfl rfl (Nat.le_of_ble_eq_true rfl) (Sp.up (s6_isWithin X _ _ _ _) (Nat.le_of_ble_eq_true rfl)) ?_
  rintro _ _ ⟨rfl, rfl⟩
  exact G.ret rfl bI_ok ⟨rfl, rfl⟩
