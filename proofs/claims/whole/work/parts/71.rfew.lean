/-! ===== the reference: lost, fewest, which ===== -/
theorem nI_and (a b : Nat) : nI a &&& nI b = nI (a &&& b) := by
  apply tnI_eq
  unfold tnI
  rw [Int32.toBitVec_and, BitVec.toNat_and]
  show (BitVec.ofNat 32 a).toNat &&& (BitVec.ofNat 32 b).toNat = (BitVec.ofNat 32 (a &&& b)).toNat
  rw [BitVec.toNat_ofNat, BitVec.toNat_ofNat, BitVec.toNat_ofNat, Nat.and_mod_two_pow]
theorem kern : ∀ (n x : Nat), 0 < x → x < 2 ^ n → popR n (x &&& (x - 1)) + 1 = popR n x ∧ x &&& (x - 1) < x
  | 0, x, h0, h => by simp at h; omega
  | n + 1, x, h0, h => by
    have e := and_sp 1 x (x - 1)
    rw [show (2 : Nat) ^ 1 = 2 from rfl] at e
    rw [Nat.pow_succ] at h
    by_cases ho : x % 2 = 1
    · rw [ho, show (x - 1) % 2 = 0 by omega, show (x - 1) / 2 = x / 2 by omega, Nat.and_self, show 1 &&& 0 = 0 from rfl, Nat.zero_add] at e
      rw [e]
      refine ⟨?_, by omega⟩
      show (2 * (x / 2) % 2 + popR n (2 * (x / 2) / 2)) + 1 = x % 2 + popR n (x / 2)
      rw [show 2 * (x / 2) / 2 = x / 2 by omega, ho]
      omega
    · have h2 : x % 2 = 0 := by omega
      rw [h2, show (x - 1) / 2 = x / 2 - 1 by omega, Nat.zero_and, Nat.zero_add] at e
      obtain ⟨i1, i2⟩ := kern n (x / 2) (by omega) (by omega)
      rw [e]
      refine ⟨?_, by omega⟩
      show (2 * (x / 2 &&& (x / 2 - 1)) % 2 + popR n (2 * (x / 2 &&& (x / 2 - 1)) / 2)) + 1 = x % 2 + popR n (x / 2)
      rw [show 2 * (x / 2 &&& (x / 2 - 1)) / 2 = x / 2 &&& (x / 2 - 1) by omega, ← i1]
      omega
theorem popR_0 : ∀ n, popR n 0 = 0
  | 0 => rfl
  | n + 1 => by
    show 0 % 2 + popR n (0 / 2) = 0
    rw [Nat.zero_div, popR_0 n]
theorem popN_R (x : Nat) : popN x = popR 32 x := (popR_f 32 x).symm
theorem l7_many (X : aX) {u : Int32} (h : aH) : ∀ (y x k : Nat), x ≤ y → x < 2 ^ 31 → G X 0 kX7_manyIn 4 [.int u, .int (nI k), .int (nI x)] [] h (An (some (.int (nI (k + popR 32 x)))) h)
  | 0, x, k, hy, hx => by
    obtain rfl : x = 0 := by omega
    iterate 1 (refine G.st rfl rfl ?_)
    refine G.brt rfl rfl ?_
    iterate 1 (refine G.st rfl rfl ?_)
    refine G.ret rfl rfl ⟨?_, rfl⟩
    rw [popR_0, Nat.add_zero]
  | y + 1, x, k, hy, hx => by
    iterate 1 (refine G.st rfl rfl ?_)
    by_cases h0 : x = 0
    · subst h0
      refine G.brt rfl rfl ?_
      iterate 1 (refine G.st rfl rfl ?_)
      refine G.ret rfl rfl ⟨?_, rfl⟩
      rw [popR_0, Nat.add_zero]
    · obtain ⟨i1, i2⟩ := kern 32 x (by omega) (by omega)
      refine G.brf rfl (nI_ne0 (by omega) hx) ?_
      iterate 5 (refine G.st rfl rfl ?_)
      rw [nI_1, nI_p (by omega)]
      iterate 1 (refine G.st rfl rfl ?_)
      rw [nI_and]
      iterate 2 (refine G.st rfl rfl ?_)
      have := l7_many X (u := u) h y (x &&& (x - 1)) (k + 1) (by omega) (by omega)
      rw [show k + 1 + popR 32 (x &&& (x - 1)) = k + popR 32 x by omega] at this
      exact this
theorem s7_manyIn (X : aX) {x : Nat} (hx : x < 2 ^ 31) (h : aH) : Sp X 0 kX7_manyIn [.int (nI x)] h (An (some (.int (nI (popR 32 x)))) h) := by
  unfold Sp
  iterate 4 (refine G.st rfl rfl ?_)
  have := l7_many X (u := nI x) h x x 0 (Nat.le_refl _) hx
  rw [Nat.zero_add] at this
  exact this
theorem fil_snoc (M : Int32) (g : List Gar) : ∀ (n a : Nat), fil M g a (n + 1) = fil M g a n ++ (if (M >>> (nI (a + n) &&& 31)) &&& 1 = 0 then [gD g (a + n)] else [])
  | 0, a => by
    simp only [fil, Nat.add_zero, List.nil_append]
  | n + 1, a => by
    have ih := fil_snoc M g n (a + 1)
    rw [show a + 1 + n = a + (n + 1) by omega] at ih
    conv => lhs; unfold fil
    rw [ih]
    conv => rhs; unfold fil
    split <;> rfl
theorem fil_len (M : Int32) (g : List Gar) : ∀ (n a : Nat), (fil M g a n).length ≤ n
  | 0, a => Nat.le_refl 0
  | n + 1, a => by
    have := fil_len M g n (a + 1)
    unfold fil
    split
    · rw [List.length_cons]; omega
    · omega
theorem fil_K {M : Int32} {g : List Gar} (hg : gKs g) : ∀ (n a : Nat), a + n ≤ g.length → gKs (fil M g a n)
  | 0, a, _ => fun y hy => by cases hy
  | n + 1, a, h => by
    have ih := fil_K (M := M) hg n (a + 1) (by omega)
    unfold fil
    split
    · intro y hy
      rcases List.mem_cons.mp hy with rfl | hy
      · exact gK_at hg (by omega)
      · exact ih y hy
    · exact ih
section RFEW
variable {c : Nat → aC} {m : sM} {s : Sg} {n : Nat}
theorem RW.app {f : Nat → Int32} {g : List Gar} {x y z : Int32} (h : ∀ p, p < g.length → G3 f (3 * p) = gD g p) : ∀ p, p < (g ++ [(x, y, z)]).length → G3 (upd (upd (upd f (3 * g.length) x) (3 * g.length + 1) y) (3 * g.length + 2) z) (3 * p) = gD (g ++ [(x, y, z)]) p := by
  intro p hp
  rw [List.length_append, List.length_singleton] at hp
  rw [gD_app]
  unfold G3
  by_cases e : p = g.length
  · subst e
    rw [if_pos rfl, upd_n (by omega), upd_n (by omega), upd_s, upd_n (by omega), upd_s, upd_s]
  · rw [if_neg e, ← h p (by omega), upd_n (by omega), upd_n (by omega), upd_n (by omega), upd_n (by omega), upd_n (by omega), upd_n (by omega), upd_n (by omega), upd_n (by omega), upd_n (by omega)]
    rfl
theorem g7_cell (X : aX) {l p q L : Nat} {M : Int32} {f : Nat → Int32} {R : Option Value → aH → Prop} (hq : q < 3) (hL : L ≤ 13) (hl : l < 4) (hp : p < 7) (hr : mrn m = nI L) (hR : G X 1 kX7_laysBut 66 [.ref 81, .int (nI l), .int M, .int (nI p), .int (nI (q + 1))] [] (HR c (mSrw m (upd f (3 * L + q) (ms m (pl l p + q))))) R) : G X 1 kX7_laysBut 30 [.ref 81, .int (nI l), .int M, .int (nI p), .int (nI q)] [] (HR c (mSrw m f)) R := by
  have hpl := pl_lt hl hp
  iterate 2 (refine G.st rfl rfl ?_)
  refine G.brf rfl (by show ¬ nI 3 ≤ nI q; rw [nI_leI (by omega) (by omega)]; omega) ?_
  iterate 5 (refine G.st rfl rfl ?_)
  show G X 1 kX7_laysBut 45 [.ref 81, .int (nI l), .int M, .int (nI p), .int (nI q)] [.int (mrn m), .int 3, .ref 90] (HR c (mSrw m f)) _
  rw [hr]
  iterate 7 (refine G.st rfl rfl ?_)
  refine G.call rfl rfl (Nat.le_of_ble_eq_true rfl) (Sp.up (s7_pl X l p _) (Nat.le_of_ble_eq_true rfl)) ?_
  rintro _ _ ⟨rfl, rfl⟩
  iterate 2 (refine G.st rfl rfl ?_)
  rw [nI_add]
  refine G.iald rfl rfl (ix_nI (show pl l p + q < 110 by omega) (by omega)) ?_
  refine G.rst rfl (ix3a (k := q) rfl (show 3 * L + q < 45 by omega) (by omega)) ?_
  iterate 1 (refine G.st rfl rfl ?_)
  rw [nI_1]
  exact hR
set_option maxHeartbeats 200000 in
theorem g7_keep3 (X : aX) {l p L : Nat} {M : Int32} {f : Nat → Int32} {u4 : Value} {R : Option Value → aH → Prop} (hL : L ≤ 13) (hl : l < 4) (hp : p < 7) (hr : mrn m = nI L) (hR : G X 1 kX7_laysBut 66 [.ref 81, .int (nI l), .int M, .int (nI p), .int (nI 3)] [] (HR c (mSrw m (upd (upd (upd f (3 * L) (ms m (pl l p))) (3 * L + 1) (ms m (pl l p + 1))) (3 * L + 2) (ms m (pl l p + 2))))) R) : G X 1 kX7_laysBut 27 [.ref 81, .int (nI l), .int M, .int (nI p), u4] [] (HR c (mSrw m f)) R := by
  iterate 2 (refine G.st rfl rfl ?_)
  refine g7_cell X (q := 0) (L := L) (by omega) hL hl hp hr ?_
  iterate 1 (refine G.st rfl rfl ?_)
  refine g7_cell X (q := 1) (L := L) (by omega) hL hl hp hr ?_
  iterate 1 (refine G.st rfl rfl ?_)
  refine g7_cell X (q := 2) (L := L) (by omega) hL hl hp hr ?_
  exact hR
set_option maxHeartbeats 60000 in
theorem g7_k0 (X : aX) {l p : Nat} {M : Int32} {R : Option Value → aH → Prop} (h : aH) (hR : G X 1 kX7_laysBut 69 [.ref 81, .int (nI l), .int M, .int (nI p), .int (nI 3)] [] h R) : G X 1 kX7_laysBut 66 [.ref 81, .int (nI l), .int M, .int (nI p), .int (nI 3)] [] h R := by
  iterate 3 (refine G.st rfl rfl ?_)
  exact G.brt rfl (by decide) hR
set_option maxHeartbeats 60000 in
theorem g7_k1 (X : aX) {l p L : Nat} {M : Int32} {R : Option Value → aH → Prop} (hr : mrn m = nI L) (hR : G X 1 kX7_laysBut 79 [.ref 81, .int (nI l), .int M, .int (nI p), .int (nI 3)] [] (HR c (mSrn m (nI (L + 1)))) R) : G X 1 kX7_laysBut 69 [.ref 81, .int (nI l), .int M, .int (nI p), .int (nI 3)] [] (HR c m) R := by
  iterate 4 (refine G.st rfl rfl ?_)
  show G X 1 kX7_laysBut 75 [.ref 81, .int (nI l), .int M, .int (nI p), .int (nI 3)] [.int 1, .int (mrn m), .ref 81] (HR c m) _
  rw [hr]
  iterate 1 (refine G.st rfl rfl ?_)
  rw [nI_1]
  iterate 1 (refine G.st rfl rfl ?_)
  exact hR
set_option maxHeartbeats 60000 in
theorem g7_k2 (X : aX) {l p : Nat} {M : Int32} {R : Option Value → aH → Prop} (h : aH) (hR : G X 1 kX7_laysBut 7 [.ref 81, .int (nI l), .int M, .int (nI (p + 1)), .int (nI 3)] [] h R) : G X 1 kX7_laysBut 79 [.ref 81, .int (nI l), .int M, .int (nI p), .int (nI 3)] [] h R := by
  iterate 1 (refine G.st rfl rfl ?_)
  rw [nI_1]
  iterate 1 (refine G.st rfl rfl ?_)
  exact hR
set_option maxHeartbeats 60000 in
theorem g7_keep4 (X : aX) {l p L : Nat} {M : Int32} {f : Nat → Int32} {R : Option Value → aH → Prop} (hr : mrn m = nI L) (hR : G X 1 kX7_laysBut 7 [.ref 81, .int (nI l), .int M, .int (nI (p + 1)), .int (nI 3)] [] (HR c (mSrn (mSrw m f) (nI (L + 1)))) R) : G X 1 kX7_laysBut 66 [.ref 81, .int (nI l), .int M, .int (nI p), .int (nI 3)] [] (HR c (mSrw m f)) R := g7_k0 X _ (g7_k1 X hr (g7_k2 X _ hR))
set_option maxHeartbeats 200000 in
theorem l7_but (X : aX) {l : Nat} {M : Int32} (hS : SOk s) (hM : MR n m s) (hl : l < 4) : ∀ (k p : Nat) (m1 : sM) (f : Nat → Int32) (u4 : Value), p + k = (zL s l).length → ms m1 = ms m → (∀ f r, ra m (mSrw (mSrn m1 r) f)) → ra m (mSrw m1 f) → mrn m1 = nI (fil M (zL s l) 0 p).length → (∀ i, i < (fil M (zL s l) 0 p).length → G3 f (3 * i) = gD (fil M (zL s l) 0 p) i) → G X 1 kX7_laysBut 7 [.ref 81, .int (nI l), .int M, .int (nI p), u4] [] (HR c (mSrw m1 f)) (fun v h' => v = none ∧ ∃ m', h' = HR c m' ∧ ra m m' ∧ RW m' (fil M (zL s l) 0 (zL s l).length) ∧ mrn m' = nI (fil M (zL s l) 0 (zL s l).length).length) := by
  have h7 := hS.len hl
  intro k
  induction k with
  | zero =>
    intro p m1 f u4 hp hms hra2 hra hrn hf
    iterate 6 (refine G.st rfl rfl ?_)
    refine G.iald rfl rfl (ix0 (show l < 110 by omega) (by omega)) ?_
    show G X 1 kX7_laysBut 16 [.ref 81, .int (nI l), .int M, .int (nI p), u4] [.int (ms m1 l), .int (nI p)] (HR c (mSrw m1 f)) _
    rw [hms, hM.len hl]
    refine G.brt rfl (by rw [nI_leI (by omega) (by omega)]; omega) ?_
    obtain rfl : p = (zL s l).length := by omega
    exact G.ret rfl rfl ⟨rfl, mSrw m1 f, rfl, hra, hf, hrn⟩
  | succ k ih =>
    intro p m1 f u4 hp hms hra2 hra hrn hf
    obtain ⟨g1, g2, g3⟩ := hM.gar hl (show p < (zL s l).length by omega)
    rw [← hms] at g1 g2 g3
    have hr := fil_len M (zL s l) p 0
    have hs := fil_snoc M (zL s l) p 0
    rw [Nat.zero_add] at hs
    iterate 6 (refine G.st rfl rfl ?_)
    refine G.iald rfl rfl (ix0 (show l < 110 by omega) (by omega)) ?_
    show G X 1 kX7_laysBut 16 [.ref 81, .int (nI l), .int M, .int (nI p), u4] [.int (ms m1 l), .int (nI p)] (HR c (mSrw m1 f)) _
    rw [hms, hM.len hl]
    refine G.brf rfl (by rw [nI_leI (by omega) (by omega)]; omega) ?_
    iterate 5 (refine G.st rfl rfl ?_)
    by_cases hc : (M >>> (nI p &&& 31)) &&& 1 = 0
    case neg =>
      rw [if_neg hc, List.append_nil] at hs
      refine G.brf rfl hc ?_
      iterate 1 (refine G.st rfl rfl ?_)
      rw [nI_1]
      iterate 1 (refine G.st rfl rfl ?_)
      exact ih (p + 1) m1 f u4 (by omega) hms hra2 hra (by rw [hs]; exact hrn) (by rw [hs]; exact hf)
    rw [if_pos hc] at hs
    refine G.brt rfl hc ?_
    refine g7_keep3 X (L := (fil M (zL s l) 0 p).length) (by omega) hl (by omega) hrn ?_
    refine g7_keep4 X hrn ?_
    have e : ∀ f3 r, mSrn (mSrw m1 f3) r = mSrw (mSrn m1 r) f3 := fun _ _ => rfl
    rw [e]
    refine ih (p + 1) (mSrn m1 (nI ((fil M (zL s l) 0 p).length + 1))) _ (.int (nI 3)) (by omega) hms (fun f r => hra2 f r) (hra2 _ _) ?_ ?_
    · rw [hs, List.length_append, List.length_singleton]
    · rw [hs, g1, g2, g3]
      exact RW.app (x := (gD (zL s l) p).1) (y := (gD (zL s l) p).2.1) (z := (gD (zL s l) p).2.2) hf
theorem s7_laysBut (X : aX) {l : Nat} {M : Int32} (hS : SOk s) (hM : MR n m s) (hl : l < 4) : Sp X 1 kX7_laysBut [.ref 81, .int (nI l), .int M] (HR c m) (fun v h' => v = none ∧ ∃ m', h' = HR c m' ∧ ra m m' ∧ RW m' (fil M (zL s l) 0 (zL s l).length) ∧ mrn m' = nI (fil M (zL s l) 0 (zL s l).length).length) := by
  unfold Sp
  iterate 5 (refine G.st rfl rfl ?_)
  show G X 1 kX7_laysBut 7 [.ref 81, .int (nI l), .int M, .int (nI 0), .double 0] [] (HR c (mSrw (mSrn m 0) (mrw m))) _
  exact l7_but X hS hM hl (zL s l).length 0 (mSrn m 0) (mrw m) (.double 0) (by omega) rfl (fun f r => ⟨f, r, rfl⟩) ⟨mrw m, 0, rfl⟩ rfl (fun i hi => absurd hi (Nat.not_lt_zero i))
end RFEW
