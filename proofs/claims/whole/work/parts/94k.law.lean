/-! ===== the law: what its cases need ===== -/
section LAWB
variable {s : Sg} {m : sM} {h : aH} {n : Nat}
theorem CI.hr (hC : CI m s h) : ∃ c, h = HR c m ∧ ∀ m', CI m' s (HR c m') := by
  obtain ⟨rw, nu, wd, vo, od, tp, sh, fi, ik, rfl, hC⟩ := hC
  refine ⟨_, HR_of rw nu wd vo od tp sh fi ik m m, fun m' => ?_⟩
  rw [← HR_of rw nu wd vo od tp sh fi ik m m']
  exact CI.mk hC
theorem CI.o (hC : CI m s h) : ∃ fs, h[0]? = some (.inl (6, fs)) := by
  obtain ⟨rw, nu, wd, vo, od, tp, sh, fi, ik, rfl, hC⟩ := hC
  exact ⟨_, rfl⟩
theorem CI.sok (hC : CI m s h) : SOk s := by
  obtain ⟨rw, nu, wd, vo, od, tp, sh, fi, ik, rfl, h1, h2, h3, h4, h5⟩ := hC
  refine ⟨h1.1, fun k hk => ?_, h3.2.1, fun k hk => (h4 k hk).1⟩
  rw [hk] at h2
  exact h2.2.1
theorem MR.mono (hM : MR n m s) {n' : Nat} (hn : n ≤ n') : MR n' m s := by
  obtain ⟨h1, h2, h3, h4, h5, T, hT, h6⟩ := hM
  exact ⟨h1, h2, h3, h4, h5, T, Nat.le_trans hT hn, h6⟩
theorem ixL {X : aX} {e k : Nat} (hX : X.1 ≤ 3072) (hi : 6 * e + 6 ≤ X.1) (hk : k < 6) : ix (nI (6 * e) + nI k) X.1 (6 * e + k) := by
  rw [nI_add]
  exact ix_nI (by omega) (by omega)
theorem lcmp_s {x : Int64} : lg_cmp x x = 0 := lg_cmp0.mpr rfl
theorem H_len (rw : Nat → sR) (nu : Nat → Nat → Int32) (wd : Nat → Int32 × Int32) (vo : sV) (od : sO) (tp : sP) (sh : Nat → sS) (fi : Nat → Int32) (ik : Int32) : (H rw nu wd vo od tp sh fi ik m).length = 94 := rfl
theorem nF_v : nF 0 = 16 ∧ nF 1 = 4 ∧ nF 2 = 3 ∧ nF 3 = 6 ∧ nF 4 = 4 ∧ nF 5 = 3 ∧ nF 6 = 9 ∧ nF 7 = 21 := by decide
theorem H_sz (rw : Nat → sR) (nu : Nat → Nat → Int32) (wd : Nat → Int32 × Int32) (vo : sV) (od : sO) (tp : sP) (sh : Nat → sS) (fi : Nat → Int32) (ik : Int32) : sz (H rw nu wd vo od tp sh fi ik m) = 21762 := by
  obtain ⟨a0, a1, a2, a3, a4, a5, a6, a7⟩ := nF_v
  unfold sz H
  simp only [List.map_cons, List.map_nil, iA, lA, qA, rObj, szc, List.sum_cons, List.sum_nil, a0, a1, a2, a3, a4, a5, a6, a7]
  rfl
theorem CI.room (hC : CI m s h) : h.length ≤ 600000 ∧ sz h ≤ 7302250 := by
  obtain ⟨rw, nu, wd, vo, od, tp, sh, fi, ik, rfl, hC⟩ := hC
  rw [H_len, H_sz]
  omega
theorem lw_len {L e : Nat} (hL : L ≤ 3072) (he : e ≤ 513) : nI L - 6 < nI (6 * e) ↔ L < 6 * e + 6 := by
  rw [Int32.lt_iff_toInt_lt, Int32.toInt_sub]
  have h1 : (nI L).toInt = (L : Int) := Int32.toInt_ofNat_of_lt (by omega)
  have h2 : (nI (6 * e)).toInt = ((6 * e : Nat) : Int) := Int32.toInt_ofNat_of_lt (by omega)
  rw [h1, h2, show (6 : Int32).toInt = 6 from rfl]
  rw [show ((L : Int) - 6).bmod (2 ^ 32) = (L : Int) - 6 from Int.bmod_eq_of_le (by omega) (by omega)]
  omega
theorem lw_and (x : Int32) : ∃ q, q < 64 ∧ x &&& 63 = nI q := by
  obtain ⟨q, hq, e⟩ := pk_andE x (m := 63) 6 rfl
  exact ⟨q, hq, e⟩
end LAWB
