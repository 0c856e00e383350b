/-! the last steps: 8 and 4 bytes -/
theorem kb1 (e0 e1 e2 e3 e4 e5 e6 e7 : Nat) : e0 + 256 * (e1 + 256 * (e2 + 256 * (e3 + 256 * (e4 + 256 * (e5 + 256 * (e6 + 256 * (e7 + 256 * 0))))))) + (e1 + 256 * (e2 + 256 * (e3 + 256 * (e4 + 256 * (e5 + 256 * (e6 + 256 * (e7 + 256 * 0))))))) = (e0 + e1 + 256 * (e1 + e2)) + 65536 * ((e2 + e3) + 256 * ((e3 + e4) + 256 * ((e4 + e5) + 256 * ((e5 + e6) + 256 * ((e6 + e7) + 256 * e7))))) := by omega
theorem kb2 (e0 e1 e2 e3 e4 e5 e6 e7 : Nat) : (e0 + e1 + 256 * (e1 + e2)) + 65536 * ((e2 + e3) + 256 * ((e3 + e4) + 256 * ((e4 + e5) + 256 * ((e5 + e6) + 256 * ((e6 + e7) + 256 * e7))))) + ((e2 + e3) + 256 * ((e3 + e4) + 256 * ((e4 + e5) + 256 * ((e5 + e6) + 256 * ((e6 + e7) + 256 * e7))))) = ((e0 + e1 + e2 + e3) + 256 * ((e1 + e2 + e3 + e4) + 256 * ((e2 + e3 + e4 + e5) + 256 * (e3 + e4 + e5 + e6)))) + 4294967296 * ((e4 + e5 + e6 + e7) + 256 * ((e5 + e6 + e7) + 256 * ((e6 + e7) + 256 * e7))) := by omega
theorem kb3 (e0 e1 e2 e3 e4 e5 e6 e7 : Nat) : ((e0 + e1 + e2 + e3) + 256 * ((e1 + e2 + e3 + e4) + 256 * ((e2 + e3 + e4 + e5) + 256 * (e3 + e4 + e5 + e6)))) + 4294967296 * ((e4 + e5 + e6 + e7) + 256 * ((e5 + e6 + e7) + 256 * ((e6 + e7) + 256 * e7))) + ((e4 + e5 + e6 + e7) + 256 * ((e5 + e6 + e7) + 256 * ((e6 + e7) + 256 * e7))) = (e0 + (e1 + (e2 + (e3 + (e4 + (e5 + (e6 + (e7 + 0)))))))) + 128 * (2 * (((e1 + e2 + e3 + e4) + 256 * ((e2 + e3 + e4 + e5) + 256 * (e3 + e4 + e5 + e6))) + 16777216 * ((e4 + e5 + e6 + e7) + 256 * ((e5 + e6 + e7) + 256 * ((e6 + e7) + 256 * e7))) + ((e5 + e6 + e7) + 256 * ((e6 + e7) + 256 * e7)))) := by omega
theorem kb4 (e0 e1 e2 e3 e4 e5 e6 e7 : Nat) (h0 : e0 ≤ 12) (h1 : e1 ≤ 12) (h2 : e2 ≤ 12) (h3 : e3 ≤ 12) (h4 : e4 ≤ 12) (h5 : e5 ≤ 12) (h6 : e6 ≤ 12) (h7 : e7 ≤ 12) : e0 + 256 * (e1 + 256 * (e2 + 256 * (e3 + 256 * (e4 + 256 * (e5 + 256 * (e6 + 256 * (e7 + 256 * 0))))))) < 2 ^ 60 := by omega
theorem kb5 (e0 e1 e2 e3 e4 e5 e6 e7 : Nat) (h0 : e0 ≤ 12) (h1 : e1 ≤ 12) (h2 : e2 ≤ 12) (h3 : e3 ≤ 12) (h4 : e4 ≤ 12) (h5 : e5 ≤ 12) (h6 : e6 ≤ 12) (h7 : e7 ≤ 12) : (e0 + e1 + 256 * (e1 + e2)) + 65536 * ((e2 + e3) + 256 * ((e3 + e4) + 256 * ((e4 + e5) + 256 * ((e5 + e6) + 256 * ((e6 + e7) + 256 * e7))))) < 2 ^ 62 := by omega
theorem kb6 (e0 e1 e2 e3 e4 e5 e6 e7 : Nat) (h0 : e0 ≤ 12) (h1 : e1 ≤ 12) (h2 : e2 ≤ 12) (h3 : e3 ≤ 12) (h4 : e4 ≤ 12) (h5 : e5 ≤ 12) (h6 : e6 ≤ 12) (h7 : e7 ≤ 12) : ((e0 + e1 + e2 + e3) + 256 * ((e1 + e2 + e3 + e4) + 256 * ((e2 + e3 + e4 + e5) + 256 * (e3 + e4 + e5 + e6)))) + 4294967296 * ((e4 + e5 + e6 + e7) + 256 * ((e5 + e6 + e7) + 256 * ((e6 + e7) + 256 * e7))) < 2 ^ 63 := by omega
theorem kb7 (e0 e1 e2 e3 e4 e5 e6 e7 : Nat) (h0 : e0 ≤ 12) (h1 : e1 ≤ 12) (h2 : e2 ≤ 12) (h3 : e3 ≤ 12) (h4 : e4 ≤ 12) (h5 : e5 ≤ 12) (h6 : e6 ≤ 12) (h7 : e7 ≤ 12) : (e0 + e1 + e2 + e3) + 256 * ((e1 + e2 + e3 + e4) + 256 * ((e2 + e3 + e4 + e5) + 256 * (e3 + e4 + e5 + e6))) < 4294967296 := by omega
theorem kb8 (e0 e1 e2 e3 e4 e5 e6 e7 : Nat) (h0 : e0 ≤ 12) (h1 : e1 ≤ 12) (h2 : e2 ≤ 12) (h3 : e3 ≤ 12) (h4 : e4 ≤ 12) (h5 : e5 ≤ 12) (h6 : e6 ≤ 12) (h7 : e7 ≤ 12) : e0 + (e1 + (e2 + (e3 + (e4 + (e5 + (e6 + (e7 + 0))))))) < 128 := by omega
theorem key8 (e0 e1 e2 e3 e4 e5 e6 e7 w : Nat) (h0 : e0 ≤ 12) (h1 : e1 ≤ 12) (h2 : e2 ≤ 12) (h3 : e3 ≤ 12) (h4 : e4 ≤ 12) (h5 : e5 ≤ 12) (h6 : e6 ≤ 12) (h7 : e7 ≤ 12) (hw : w = e0 + 256 * (e1 + 256 * (e2 + 256 * (e3 + 256 * (e4 + 256 * (e5 + 256 * (e6 + 256 * (e7 + 256 * 0)))))))) : (w < 2 ^ 60 ∧ w + w / 256 < 2 ^ 62 ∧ w + w / 256 + (w + w / 256) / 65536 < 2 ^ 63) ∧ (w + w / 256 + (w + w / 256) / 65536 + (w + w / 256 + (w + w / 256) / 65536) / 4294967296) % 128 = e0 + (e1 + (e2 + (e3 + (e4 + (e5 + (e6 + (e7 + 0))))))) := by
  have q1 : w / 256 = e1 + 256 * (e2 + 256 * (e3 + 256 * (e4 + 256 * (e5 + 256 * (e6 + 256 * (e7 + 256 * 0)))))) := by
    rw [hw]
    exact dvB (Nat.lt_of_le_of_lt h0 (by decide))
  have q2 : w + w / 256 = (e0 + e1 + 256 * (e1 + e2)) + 65536 * ((e2 + e3) + 256 * ((e3 + e4) + 256 * ((e4 + e5) + 256 * ((e5 + e6) + 256 * ((e6 + e7) + 256 * e7))))) := by
    rw [q1, hw]
    exact kb1 e0 e1 e2 e3 e4 e5 e6 e7
  have q3 : (w + w / 256) / 65536 = (e2 + e3) + 256 * ((e3 + e4) + 256 * ((e4 + e5) + 256 * ((e5 + e6) + 256 * ((e6 + e7) + 256 * e7)))) := by
    rw [q2]
    refine dvB ?_
    clear q1 q2 hw
    omega
  have q4 : w + w / 256 + (w + w / 256) / 65536 = ((e0 + e1 + e2 + e3) + 256 * ((e1 + e2 + e3 + e4) + 256 * ((e2 + e3 + e4 + e5) + 256 * (e3 + e4 + e5 + e6)))) + 4294967296 * ((e4 + e5 + e6 + e7) + 256 * ((e5 + e6 + e7) + 256 * ((e6 + e7) + 256 * e7))) := by
    rw [q3, q2]
    exact kb2 e0 e1 e2 e3 e4 e5 e6 e7
  have q5 : (w + w / 256 + (w + w / 256) / 65536) / 4294967296 = (e4 + e5 + e6 + e7) + 256 * ((e5 + e6 + e7) + 256 * ((e6 + e7) + 256 * e7)) := by
    rw [q4]
    exact dvB (kb7 e0 e1 e2 e3 e4 e5 e6 e7 h0 h1 h2 h3 h4 h5 h6 h7)
  refine ⟨⟨?_, ?_, ?_⟩, ?_⟩
  · rw [hw]
    exact kb4 e0 e1 e2 e3 e4 e5 e6 e7 h0 h1 h2 h3 h4 h5 h6 h7
  · rw [q2]
    exact kb5 e0 e1 e2 e3 e4 e5 e6 e7 h0 h1 h2 h3 h4 h5 h6 h7
  · rw [q4]
    exact kb6 e0 e1 e2 e3 e4 e5 e6 e7 h0 h1 h2 h3 h4 h5 h6 h7
  · rw [q5, q4, kb3 e0 e1 e2 e3 e4 e5 e6 e7, Nat.add_mul_mod_self_left, Nat.mod_eq_of_lt (kb8 e0 e1 e2 e3 e4 e5 e6 e7 h0 h1 h2 h3 h4 h5 h6 h7)]
theorem kc1 (e0 e1 e2 e3 : Nat) : e0 + 256 * (e1 + 256 * (e2 + 256 * (e3 + 256 * 0))) + (e1 + 256 * (e2 + 256 * (e3 + 256 * 0))) = (e0 + e1 + 256 * (e1 + e2)) + 65536 * ((e2 + e3) + 256 * e3) := by omega
theorem kc2 (e0 e1 e2 e3 : Nat) : (e0 + e1 + 256 * (e1 + e2)) + 65536 * ((e2 + e3) + 256 * e3) + ((e2 + e3) + 256 * e3) = (e0 + (e1 + (e2 + (e3 + 0)))) + 64 * (4 * ((e1 + e2) + 256 * ((e2 + e3) + 256 * e3) + e3)) := by omega
theorem kc3 (e0 e1 e2 e3 : Nat) (h0 : e0 ≤ 12) (h1 : e1 ≤ 12) (h2 : e2 ≤ 12) (h3 : e3 ≤ 12) : e0 + 256 * (e1 + 256 * (e2 + 256 * (e3 + 256 * 0))) < 2 ^ 28 := by omega
theorem kc4 (e0 e1 e2 e3 : Nat) (h0 : e0 ≤ 12) (h1 : e1 ≤ 12) (h2 : e2 ≤ 12) (h3 : e3 ≤ 12) : (e0 + e1 + 256 * (e1 + e2)) + 65536 * ((e2 + e3) + 256 * e3) < 2 ^ 30 := by omega
theorem kc5 (e0 e1 e2 e3 : Nat) (h0 : e0 ≤ 12) (h1 : e1 ≤ 12) (h2 : e2 ≤ 12) (h3 : e3 ≤ 12) : (e0 + (e1 + (e2 + (e3 + 0)))) + 64 * (4 * ((e1 + e2) + 256 * ((e2 + e3) + 256 * e3) + e3)) < 2 ^ 31 := by omega
theorem kc6 (e0 e1 e2 e3 : Nat) (h0 : e0 ≤ 12) (h1 : e1 ≤ 12) (h2 : e2 ≤ 12) (h3 : e3 ≤ 12) : e0 + e1 + 256 * (e1 + e2) < 65536 := by omega
theorem kc7 (e0 e1 e2 e3 : Nat) (h0 : e0 ≤ 12) (h1 : e1 ≤ 12) (h2 : e2 ≤ 12) (h3 : e3 ≤ 12) : e0 + (e1 + (e2 + (e3 + 0))) < 64 := by omega
theorem key4 (e0 e1 e2 e3 w : Nat) (h0 : e0 ≤ 12) (h1 : e1 ≤ 12) (h2 : e2 ≤ 12) (h3 : e3 ≤ 12) (hw : w = e0 + 256 * (e1 + 256 * (e2 + 256 * (e3 + 256 * 0)))) : (w < 2 ^ 28 ∧ w + w / 256 < 2 ^ 30) ∧ (w + w / 256 + (w + w / 256) / 65536 < 2 ^ 31) ∧ (w + w / 256 + (w + w / 256) / 65536) % 64 = e0 + (e1 + (e2 + (e3 + 0))) := by
  have q1 : w / 256 = e1 + 256 * (e2 + 256 * (e3 + 256 * 0)) := by
    rw [hw]
    exact dvB (Nat.lt_of_le_of_lt h0 (by decide))
  have q2 : w + w / 256 = (e0 + e1 + 256 * (e1 + e2)) + 65536 * ((e2 + e3) + 256 * e3) := by
    rw [q1, hw]
    exact kc1 e0 e1 e2 e3
  have q3 : (w + w / 256) / 65536 = (e2 + e3) + 256 * e3 := by
    rw [q2]
    exact dvB (kc6 e0 e1 e2 e3 h0 h1 h2 h3)
  have q4 : w + w / 256 + (w + w / 256) / 65536 = (e0 + (e1 + (e2 + (e3 + 0)))) + 64 * (4 * ((e1 + e2) + 256 * ((e2 + e3) + 256 * e3) + e3)) := by
    rw [q3, q2]
    exact kc2 e0 e1 e2 e3
  refine ⟨⟨?_, ?_⟩, ?_, ?_⟩
  · rw [hw]
    exact kc3 e0 e1 e2 e3 h0 h1 h2 h3
  · rw [q2]
    exact kc4 e0 e1 e2 e3 h0 h1 h2 h3
  · rw [q4]
    exact kc5 e0 e1 e2 e3 h0 h1 h2 h3
  · rw [q4, Nat.add_mul_mod_self_left, Nat.mod_eq_of_lt (kc7 e0 e1 e2 e3 h0 h1 h2 h3)]
