/-! ===== the reference: its cells ===== -/
/-- the class's cells are any; the reference's are m -/
def HR (c : Nat → aC) (m : sM) : aH := [c 0, c 1, c 2, c 3, c 4, c 5, c 6, c 7, c 8, c 9, c 10, c 11, c 12, c 13, c 14, c 15, c 16, c 17, c 18, c 19, c 20, c 21, c 22, c 23, c 24, c 25, c 26, c 27, c 28, c 29, c 30, c 31, c 32, c 33, c 34, c 35, c 36, c 37, c 38, c 39, c 40, c 41, c 42, c 43, c 44, c 45, c 46, c 47, c 48, c 49, c 50, c 51, c 52, c 53, c 54, c 55, c 56, c 57, c 58, c 59, c 60, c 61, c 62, c 63, c 64, c 65, c 66, c 67, c 68, c 69, c 70, c 71, c 72, c 73, c 74, c 75, c 76, c 77, c 78, c 79, c 80,
  .inl (7, [.ref 82, .ref 83, .ref 84, .int (mik m), .ref 85, .ref 86, .int (mtd m), .ref 87, .ref 88, .ref 89, .ref 90, .int (mrn m), .ref 91, .ref 92, .ref 93, .int (mti m), .int (mtk m), .int (mfr m), .int (mto m), .int (mva m), .int (mfa m)]),
  iA 110 (ms m),
  iA 110 (mkp m),
  iA 110 (mbf m),
  iA 8 (mfi m),
  iA 120 (mtp m),
  iA 4 (mbo m),
  iA 4 (msi m),
  lA 160 (mnu m),
  iA 45 (mrw m),
  iA 7 (mod m),
  iA 7 (mbd m),
  iA 19999 (mmt m)]
theorem HR_of (rw : Nat → sR) (nu : Nat → Nat → Int32) (wd : Nat → Int32 × Int32) (vo : sV) (od : sO) (tp : sP) (sh : Nat → sS) (fi : Nat → Int32) (ik : Int32) (m0 : sM) : ∀ m, H rw nu wd vo od tp sh fi ik m = HR (fun i => (H rw nu wd vo od tp sh fi ik m0).getD i (.inl (0, []))) m := fun _ => rfl
/-- a garment's place -/
def pl (l p : Nat) : Nat := 26 + 3 * (7 * l + p)
def G3 (f : Nat → Int32) (i : Nat) : Gar := (f i, f (i + 1), f (i + 2))
def MT (f : Nat → Int32) (T : Twn) : Prop := (∀ l, l < 4 → f l = nI (T.1 l).length ∧ ∀ p, p < (T.1 l).length → G3 f (pl l p) = gD (T.1 l) p) ∧ f 4 = T.2.2.1 ∧ f 5 = T.2.2.2 ∧ ∀ j, j < 10 → f (6 + j) = bI ((T.2.1 j).isSome = true) ∧ ∀ x, T.2.1 j = some x → f (16 + j) = x
def sum7 (f : Nat → Int32) : Int32 := f 0 + f 1 + f 2 + f 3 + f 4 + f 5 + f 6
def MSh (m : sM) (S : Nat → Int32 × List Int64) : Prop := ∀ k, k < 4 → mbo m k = (if (S k).1 = 0 then -1 else (S k).1) ∧ msi m k = nI (S k).2.length ∧ ∀ j, j < (S k).2.length → mnu m (40 * k + j) = (S k).2.getD j 0
def MR (n : Nat) (m : sM) (s : Sg) : Prop := MT (ms m) (zt s) ∧ (match zK s with | none => mik m = 0 | some k => mik m = 1 ∧ MT (mkp m) k) ∧ (mtd m = nI (zT s).length ∧ ∀ j, j < (zT s).length → mtp m j = bt (zT s) j) ∧ MSh m (zS s) ∧ (mfi m 0 = sum7 (zF s) ∧ ∀ k, k < 7 → mfi m (k + 1) = zF s k) ∧ ∃ T, T ≤ n ∧ mti m = nI T ∧ ∀ i, i < 19999 → ∃ j, j ≤ T ∧ mmt m i = nI j
def SOk (s : Sg) : Prop := TOk (zt s) ∧ (∀ k, zK s = some k → TOk k) ∧ TpOk (zT s) ∧ ∀ k, k < 4 → ShOk (zS s k)
abbrev MP (c : Nat → aC) (n : Nat) (r : Int32 × Sg) : Option Value → aH → Prop := fun v h' => v = some (.int r.1) ∧ ∃ m', h' = HR c m' ∧ MR n m' r.2
theorem ix0 {l n : Nat} (h : l < n) (hn : n ≤ 2147483647) : ix (0 + nI l) n l := by rw [Int32.zero_add]; exact ix_nI h hn
theorem ixa {x : Int32} {k l n : Nat} (hc : x = nI k) (h : k + l < n) (hn : n ≤ 2147483647) : ix (x + nI l) n (k + l) := by rw [hc, nI_add]; exact ix_nI h hn
theorem pl_I (l p : Nat) : 26 + 3 * (7 * nI l + nI p) = nI (pl l p) := by
  rw [show (7 : Int32) = nI 7 from rfl, show (3 : Int32) = nI 3 from rfl, show (26 : Int32) = nI 26 from rfl, nI_mul, nI_add, nI_mul, nI_add]
  rfl
theorem pl_lt {l p : Nat} (hl : l < 4) (hp : p < 7) : pl l p + 2 < 110 := by unfold pl; omega
section REF
variable {c : Nat → aC} {m : sM} {s : Sg} {n : Nat}
theorem s7_pl (X : aX) (l p : Nat) (h : aH) : Sp X 0 kX7_placeOf [.int (nI l), .int (nI p)] h (An (some (.int (nI (pl l p)))) h) := by
  rw [← pl_I]
  exact s7_placeOf X _ _ h
theorem G.sst {X : aX} {d : Nat} {mi : aM} {pc : Nat} {lo : List Value} {Q : Option Value → aH → Prop} {nx a b : Nat} {v : Value} {i w : Int32} {r : List Value} {j : Nat} (he : ent mi pc = some (.iastore, nx, a, b, v)) (hi : ix i 110 j) (k : G X d mi nx lo r (HR c (mSs m (upd (ms m) j w))) Q) : G X d mi pc lo (.int w :: .int i :: .ref 82 :: r) (HR c m) Q := G.iast he rfl hi k
theorem G.rst {X : aX} {d : Nat} {mi : aM} {pc : Nat} {lo : List Value} {Q : Option Value → aH → Prop} {nx a b : Nat} {v : Value} {i w : Int32} {r : List Value} {j : Nat} (he : ent mi pc = some (.iastore, nx, a, b, v)) (hi : ix i 45 j) (k : G X d mi nx lo r (HR c (mSrw m (upd (mrw m) j w))) Q) : G X d mi pc lo (.int w :: .int i :: .ref 90 :: r) (HR c m) Q := G.iast he rfl hi k
theorem G.ost {X : aX} {d : Nat} {mi : aM} {pc : Nat} {lo : List Value} {Q : Option Value → aH → Prop} {nx a b : Nat} {v : Value} {i w : Int32} {r : List Value} {j : Nat} (he : ent mi pc = some (.iastore, nx, a, b, v)) (hi : ix i 7 j) (k : G X d mi nx lo r (HR c (mSod m (upd (mod m) j w))) Q) : G X d mi pc lo (.int w :: .int i :: .ref 91 :: r) (HR c m) Q := G.iast he rfl hi k
theorem G.bst {X : aX} {d : Nat} {mi : aM} {pc : Nat} {lo : List Value} {Q : Option Value → aH → Prop} {nx a b : Nat} {v : Value} {i w : Int32} {r : List Value} {j : Nat} (he : ent mi pc = some (.iastore, nx, a, b, v)) (hi : ix i 7 j) (k : G X d mi nx lo r (HR c (mSbd m (upd (mbd m) j w))) Q) : G X d mi pc lo (.int w :: .int i :: .ref 92 :: r) (HR c m) Q := G.iast he rfl hi k
theorem s7_finds (X : aX) {k : Nat} (hk : k < 7) : Sp X 0 kX7_finds [.ref 81, .int (fcd k)] (HR c m) (An (some (.int (fcd k))) (HR c (mSfi m (upd (upd (mfi m) 0 (mfi m 0 + 1)) (k + 1) (mfi m (k + 1) + 1))))) := by
  unfold Sp
  have hx : ix 0 8 0 := ix_nI (j := 0) (by omega) (by omega)
  have hy := ix_nI (show k + 1 < 8 by omega) (by omega)
  iterate 4 (refine G.st rfl rfl ?_)
  refine G.iald rfl rfl hx ?_
  iterate 2 (refine G.st rfl rfl ?_)
  refine G.iast rfl rfl hx ?_
  iterate 5 (refine G.st rfl rfl ?_)
  rw [fcd_sub]
  iterate 2 (refine G.st rfl rfl ?_)
  rw [nI_1]
  iterate 1 (refine G.st rfl rfl ?_)
  refine G.iald rfl rfl hy ?_
  iterate 2 (refine G.st rfl rfl ?_)
  refine G.iast rfl rfl hy ?_
  iterate 1 (refine G.st rfl rfl ?_)
  refine G.ret rfl rfl ⟨rfl, ?_⟩
  rw [show upd (mfi m) 0 (mfi m 0 + 1) (k + 1) = mfi m (k + 1) from upd_n (by omega)]
  rfl
theorem MR.fin (h : MR n m s) {k : Nat} (hk : k < 7) : MR n (mSfi m (upd (upd (mfi m) 0 (mfi m 0 + 1)) (k + 1) (mfi m (k + 1) + 1))) (fin k s).2 := by
  obtain ⟨h1, h2, h3, h4, ⟨h5, h6⟩, h7⟩ := h
  refine ⟨h1, h2, h3, h4, ⟨?_, fun j hj => ?_⟩, h7⟩
  · show upd (upd (mfi m) 0 (mfi m 0 + 1)) (k + 1) (mfi m (k + 1) + 1) 0 = sum7 (upd (zF s) k (zF s k + 1))
    rw [upd_n (by omega), upd_s, h5]
    unfold sum7
    rcases (show k = 0 ∨ k = 1 ∨ k = 2 ∨ k = 3 ∨ k = 4 ∨ k = 5 ∨ k = 6 by omega) with rfl | rfl | rfl | rfl | rfl | rfl | rfl <;> simp only [upd_if] <;> simp <;> grind
  · show upd (upd (mfi m) 0 (mfi m 0 + 1)) (k + 1) (mfi m (k + 1) + 1) (j + 1) = upd (zF s) k (zF s k + 1) j
    by_cases e : j = k
    · subst e
      rw [upd_s, upd_s, h6 j hj]
    · rw [upd_n (by omega), upd_n (by omega), upd_n e, h6 j hj]
theorem c7_fin (X : aX) {k : Nat} (hk : k < 7) (h : MR n m s) : Sp X 0 kX7_finds [.ref 81, .int (fcd k)] (HR c m) (MP c n (fin k s)) := by
  refine (s7_finds X hk).imp ?_
  rintro _ _ ⟨rfl, rfl⟩
  exact ⟨rfl, _, rfl, h.fin hk⟩
theorem c7_f0 (X : aX) (h : MR n m s) : Sp X 0 kX7_finds [.ref 81, .int (-1000000001)] (HR c m) (MP c n (fin 0 s)) := by
  have := c7_fin X (k := 0) (by omega) h (c := c)
  rw [show fcd 0 = -1000000001 by decide] at this
  exact this
theorem c7_f1 (X : aX) (h : MR n m s) : Sp X 0 kX7_finds [.ref 81, .int (-1000000002)] (HR c m) (MP c n (fin 1 s)) := by
  have := c7_fin X (k := 1) (by omega) h (c := c)
  rw [show fcd 1 = -1000000002 by decide] at this
  exact this
theorem c7_f2 (X : aX) (h : MR n m s) : Sp X 0 kX7_finds [.ref 81, .int (-1000000003)] (HR c m) (MP c n (fin 2 s)) := by
  have := c7_fin X (k := 2) (by omega) h (c := c)
  rw [show fcd 2 = -1000000003 by decide] at this
  exact this
theorem c7_f3 (X : aX) (h : MR n m s) : Sp X 0 kX7_finds [.ref 81, .int (-1000000004)] (HR c m) (MP c n (fin 3 s)) := by
  have := c7_fin X (k := 3) (by omega) h (c := c)
  rw [show fcd 3 = -1000000004 by decide] at this
  exact this
theorem c7_f4 (X : aX) (h : MR n m s) : Sp X 0 kX7_finds [.ref 81, .int (-1000000005)] (HR c m) (MP c n (fin 4 s)) := by
  have := c7_fin X (k := 4) (by omega) h (c := c)
  rw [show fcd 4 = -1000000005 by decide] at this
  exact this
theorem c7_f5 (X : aX) (h : MR n m s) : Sp X 0 kX7_finds [.ref 81, .int (-1000000006)] (HR c m) (MP c n (fin 5 s)) := by
  have := c7_fin X (k := 5) (by omega) h (c := c)
  rw [show fcd 5 = -1000000006 by decide] at this
  exact this
theorem c7_f6 (X : aX) (h : MR n m s) : Sp X 0 kX7_finds [.ref 81, .int (-1000000007)] (HR c m) (MP c n (fin 6 s)) := by
  have := c7_fin X (k := 6) (by omega) h (c := c)
  rw [show fcd 6 = -1000000007 by decide] at this
  exact this
theorem MR.len (h : MR n m s) {l : Nat} (hl : l < 4) : ms m l = nI (zL s l).length := (h.1.1 l hl).1
theorem MR.gar (h : MR n m s) {l p : Nat} (hl : l < 4) (hp : p < (zL s l).length) : ms m (pl l p) = (gD (zL s l) p).1 ∧ ms m (pl l p + 1) = (gD (zL s l) p).2.1 ∧ ms m (pl l p + 2) = (gD (zL s l) p).2.2 := by
  have := (h.1.1 l hl).2 p hp
  rw [← show G3 (ms m) (pl l p) = gD (zL s l) p from this]
  exact ⟨rfl, rfl, rfl⟩
theorem SOk.len (h : SOk s) {l : Nat} (hl : l < 4) : (zL s l).length ≤ 7 := (h.1.1 l hl).2
theorem SOk.gk (h : SOk s) {l : Nat} (hl : l < 4) : gKs (zL s l) := (h.1.1 l hl).1
theorem s7_isPeg (X : aX) (hS : SOk s) (hM : MR n m s) (line peg : Int32) : Sp X 1 kX7_isPeg [.ref 81, .int line, .int peg] (HR c m) (An (some (.int (bI (pegOk s line peg)))) (HR c m)) := by
  unfold Sp
  have no : ¬ pegOk s line peg → G X 1 kX7_isPeg 27 [.ref 81, .int line, .int peg] [] (HR c m) (An (some (.int (bI (pegOk s line peg)))) (HR c m)) := by
    intro h
    iterate 1 (refine G.st rfl rfl ?_)
    exact G.ret rfl rfl ⟨by rw [bI_f h], rfl⟩
  iterate 1 (refine G.st rfl rfl ?_)
  refine G.call rfl rfl (Nat.le_of_ble_eq_true rfl) (Sp.up (s7_isLine X line _) (Nat.le_of_ble_eq_true rfl)) ?_
  rintro _ _ ⟨rfl, rfl⟩
  by_cases hl : 0 ≤ line ∧ line ≤ 3
  case neg => exact G.brt rfl (bI_0.mpr hl) (no (fun q => hl q.1))
  refine G.brf rfl (bI_n hl) ?_
  iterate 1 (refine G.st rfl rfl ?_)
  by_cases hp : peg < 0
  · exact G.brt rfl hp (no (fun q => absurd hp (Int32.not_lt.mpr q.2.1)))
  refine G.brf rfl hp ?_
  obtain ⟨l, hl4, rfl⟩ := lok_n hl
  have h7 := hS.len hl4
  iterate 6 (refine G.st rfl rfl ?_)
  refine G.iald rfl rfl (ix0 (show l < 110 by omega) (by omega)) ?_
  rw [hM.len hl4]
  by_cases hq : nI (zL s l).length ≤ peg
  · exact G.brt rfl hq (no (fun q => by have := q.2.2; rw [ln_nI (by omega)] at this; exact absurd this (Int32.not_lt.mpr hq)))
  · refine G.brf rfl hq ?_
    iterate 2 (refine G.st rfl rfl ?_)
    exact G.ret rfl rfl ⟨by rw [bI_t ⟨hl, Int32.not_lt.mp hp, by rw [ln_nI (by omega)]; exact Int32.not_le.mp hq⟩], rfl⟩
theorem peg_n {line peg : Int32} (hS : SOk s) (hp : pegOk s line peg) : ∃ l j, l < 4 ∧ line = nI l ∧ j < (zL s l).length ∧ j < 7 ∧ peg = nI j := by
  obtain ⟨hl, hp0, hp1⟩ := hp
  obtain ⟨l, hl4, rfl⟩ := lok_n hl
  rw [ln_nI (by omega)] at hp1
  have h7 := hS.len hl4
  obtain ⟨j, hj, rfl⟩ := nI_of (Int32.not_lt.mpr hp0)
  rw [nI_ltI hj (by omega)] at hp1
  exact ⟨l, j, hl4, rfl, hp1, by omega, rfl⟩
/-- a line's cells have become another row -/
theorem MT.line {f f' : Nat → Int32} {T : Twn} (h : MT f T) {l : Nat} (hl : l < 4) {g : List Gar} (h7 : g.length ≤ 7) (h7' : ∀ k, k < 4 → (T.1 k).length ≤ 7) (hf : ∀ i, i ≠ l → ¬ (pl l 0 ≤ i ∧ i < pl l 7) → f' i = f i) (hn : f' l = nI g.length) (hg : ∀ p, p < g.length → G3 f' (pl l p) = gD g p) : MT f' (va_up T.1 l g, T.2) := by
  obtain ⟨h1, h2, h3, h4⟩ := h
  unfold pl at hf
  refine ⟨fun k hk => ?_, ?_, ?_, fun j hj => ?_⟩
  · show f' k = nI (va_up T.1 l g k).length ∧ ∀ p, p < (va_up T.1 l g k).length → G3 f' (pl k p) = gD (va_up T.1 l g k) p
    by_cases e : k = l
    · subst e
      rw [va_up_s]
      exact ⟨hn, hg⟩
    · rw [va_up_n e]
      refine ⟨?_, fun p hp => ?_⟩
      · rw [hf k e (by omega)]
        exact (h1 k hk).1
      · rw [← (h1 k hk).2 p hp]
        have := h7' k hk
        unfold G3 pl
        rw [hf _ (by omega) (by omega), hf _ (by omega) (by omega), hf _ (by omega) (by omega)]
  · rw [hf 4 (by omega) (by omega)]; exact h2
  · rw [hf 5 (by omega) (by omega)]; exact h3
  · rw [hf (6 + j) (by omega) (by omega), hf (16 + j) (by omega) (by omega)]
    exact h4 j hj
theorem MR.line (h : MR n m s) (hS : SOk s) {f' : Nat → Int32} {l : Nat} (hl : l < 4) {g : List Gar} (h7 : g.length ≤ 7) (hf : ∀ i, i ≠ l → ¬ (pl l 0 ≤ i ∧ i < pl l 7) → f' i = ms m i) (hn : f' l = nI g.length) (hg : ∀ p, p < g.length → G3 f' (pl l p) = gD g p) : MR n (mSs m f') (zSL s (va_up (zL s) l g)) := ⟨h.1.line hl h7 (fun k hk => hS.len hk) hf hn hg, h.2⟩
theorem s7_becomes (X : aX) {i : Int32} {j : Nat} {v : Int32} (hi : ix i 110 j) : Sp X 0 kX7_becomes [.ref 81, .int i, .int v] (HR c m) (An (some (.int (ms m j))) (HR c (mSs m (upd (ms m) j v)))) := by
  unfold Sp
  iterate 3 (refine G.st rfl rfl ?_)
  refine G.iald rfl rfl hi ?_
  iterate 5 (refine G.st rfl rfl ?_)
  refine G.sst rfl hi ?_
  iterate 1 (refine G.st rfl rfl ?_)
  exact G.ret rfl rfl ⟨rfl, rfl⟩
theorem gD_app {g : List Gar} {x : Gar} {p : Nat} : gD (g ++ [x]) p = if p = g.length then x else gD g p := by
  unfold gD
  by_cases e : p = g.length
  · subst e
    rw [if_pos rfl]
    simp
  · rw [if_neg e]
    by_cases h : p < g.length
    · simp [List.getElem?_append_left h]
    · simp [List.getElem?_append_right (show g.length ≤ p by omega), List.getElem?_eq_none (show g.length ≤ p by omega)]
      rw [List.getElem?_eq_none (by simp; omega)]
      rfl
/-- one more hangs -/
theorem s7_hangs (X : aX) {l : Nat} {k z w : Int32} (hS : SOk s) (hM : MR n m s) (hl : l < 4) (h6 : (zL s l).length < 7) : Sp X 1 kX7_hangs [.ref 81, .int (nI l), .int k, .int z, .int w] (HR c m) (fun v h' => v = none ∧ ∃ m', h' = HR c m' ∧ MR n m' (zSL s (va_up (zL s) l (zL s l ++ [(k, z, w)])))) := by
  unfold Sp
  have hp := pl_lt hl h6
  have hx := ix0 (show l < 110 by omega) (by omega)
  iterate 6 (refine G.st rfl rfl ?_)
  refine G.iald rfl rfl hx ?_
  rw [hM.len hl]
  refine G.call rfl rfl (Nat.le_of_ble_eq_true rfl) (Sp.up (s7_pl X l (zL s l).length _) (Nat.le_of_ble_eq_true rfl)) ?_
  rintro _ _ ⟨rfl, rfl⟩
  iterate 5 (refine G.st rfl rfl ?_)
  refine G.sst rfl (ix_nI (show pl l (zL s l).length < 110 by omega) (by omega)) ?_
  iterate 5 (refine G.st rfl rfl ?_)
  rw [nI_1]
  iterate 1 (refine G.st rfl rfl ?_)
  refine G.sst rfl (ix_nI (show pl l (zL s l).length + 1 < 110 by omega) (by omega)) ?_
  iterate 5 (refine G.st rfl rfl ?_)
  rw [show (2 : Int32) = nI 2 from rfl, nI_add]
  iterate 1 (refine G.st rfl rfl ?_)
  refine G.sst rfl (ix_nI (show pl l (zL s l).length + 2 < 110 by omega) (by omega)) ?_
  iterate 6 (refine G.st rfl rfl ?_)
  refine G.iald rfl rfl hx ?_
  iterate 2 (refine G.st rfl rfl ?_)
  refine G.sst rfl hx ?_
  refine G.ret rfl rfl ⟨rfl, _, rfl, ?_⟩
  refine hM.line hS hl (by rw [List.length_append, List.length_singleton]; omega) (fun i hi hb => ?_) ?_ (fun p hpp => ?_)
  · show upd (upd (upd (upd (ms m) _ k) _ z) _ w) l _ i = _
    unfold pl at *
    rw [upd_n hi, upd_n (by omega), upd_n (by omega), upd_n (by omega)]
  · show upd (upd (upd (upd (ms m) _ k) _ z) _ w) l (upd (upd (upd (ms m) _ k) _ z) _ w l + 1) l = _
    unfold pl at *
    rw [upd_s, upd_n (by omega), upd_n (by omega), upd_n (by omega), hM.len hl, nI_1, List.length_append, List.length_singleton]
  · rw [List.length_append, List.length_singleton] at hpp
    rw [gD_app]
    show G3 (upd (upd (upd (upd (ms m) _ k) _ z) _ w) l _) (pl l p) = _
    unfold G3
    by_cases e : p = (zL s l).length
    · subst e
      rw [if_pos rfl]
      unfold pl at *
      rw [upd_n (by omega), upd_n (by omega), upd_n (by omega), upd_s, upd_n (by omega), upd_n (by omega), upd_s, upd_n (by omega), upd_s]
    · rw [if_neg e]
      obtain ⟨g1, g2, g3⟩ := hM.gar hl (show p < (zL s l).length by omega)
      unfold pl at *
      rw [upd_n (by omega), upd_n (by omega), upd_n (by omega), upd_n (by omega), upd_n (by omega), upd_n (by omega), upd_n (by omega), upd_n (by omega), upd_n (by omega), upd_n (by omega), upd_n (by omega), upd_n (by omega), g1, g2, g3]
theorem p7_hang (X : aX) (line kind size : Int32) (hS : SOk s) (hM : MR n m s) : Sp X 10 kX7_hang [.ref 81, .int line, .int kind, .int size] (HR c m) (MP c n (S_hang s line kind size)) := by
  unfold Sp S_hang
  have bad : G X 10 kX7_hang 15 [.ref 81, .int line, .int kind, .int size] [] (HR c m) (MP c n (fin 0 s)) := by
    iterate 2 (refine G.st rfl rfl ?_)
    refine G.call rfl rfl (Nat.le_of_ble_eq_true rfl) (Sp.up (c7_f0 X hM) (Nat.le_of_ble_eq_true rfl)) ?_
    rintro _ _ ⟨rfl, hci⟩
    exact G.ret rfl rfl ⟨rfl, hci⟩
  iterate 1 (refine G.st rfl rfl ?_)
  refine G.call rfl rfl (Nat.le_of_ble_eq_true rfl) (Sp.up (s7_isLine X line _) (Nat.le_of_ble_eq_true rfl)) ?_
  rintro _ _ ⟨rfl, rfl⟩
  by_cases hl : 0 ≤ line ∧ line ≤ 3
  case neg =>
    rw [if_neg (fun q => hl q.1)]
    exact G.brt rfl (bI_0.mpr hl) bad
  refine G.brf rfl (bI_n hl) ?_
  iterate 2 (refine G.st rfl rfl ?_)
  refine G.call rfl rfl (Nat.le_of_ble_eq_true rfl) (Sp.up (s7_isGarment X kind size _) (Nat.le_of_ble_eq_true rfl)) ?_
  rintro _ _ ⟨rfl, rfl⟩
  by_cases hk : (0 ≤ kind ∧ kind ≤ 5) ∧ 1 ≤ size ∧ size ≤ 9
  case neg =>
    rw [if_neg (fun q => hk q.2)]
    exact G.brt rfl (bI_0.mpr hk) bad
  refine G.brf rfl (bI_n hk) ?_
  rw [if_pos ⟨hl, hk⟩]
  obtain ⟨l, hl4, rfl⟩ := lok_n hl
  have h7 := hS.len hl4
  rw [ln_nI (by omega)]
  have hx := ix0 (show l < 110 by omega) (by omega)
  iterate 5 (refine G.st rfl rfl ?_)
  refine G.iald rfl rfl hx ?_
  rw [hM.len hl4]
  iterate 1 (refine G.st rfl rfl ?_)
  by_cases h6 : (zL s l).length < 7
  case neg =>
    rw [if_neg h6]
    refine G.brt rfl (by show nI (zL s l).length = nI 7; rw [nI_eq (by omega) (by omega)]; omega) ?_
    iterate 2 (refine G.st rfl rfl ?_)
    refine G.call rfl rfl (Nat.le_of_ble_eq_true rfl) (Sp.up (c7_f1 X hM) (Nat.le_of_ble_eq_true rfl)) ?_
    rintro _ _ ⟨rfl, hci⟩
    exact G.ret rfl rfl ⟨rfl, hci⟩
  rw [if_pos h6]
  refine G.brf rfl (by show ¬ nI (zL s l).length = nI 7; rw [nI_eq (by omega) (by omega)]; omega) ?_
  iterate 5 (refine G.st rfl rfl ?_)
  refine G.call rfl rfl (Nat.le_of_ble_eq_true rfl) (Sp.up (s7_hangs X hS hM hl4 h6) (Nat.le_of_ble_eq_true rfl)) ?_
  rintro _ _ ⟨rfl, m', rfl, hM'⟩
  iterate 5 (refine G.st rfl rfl ?_)
  refine G.iald rfl rfl hx ?_
  rw [hM'.len hl4, show zL (zSL s (va_up (zL s) l (zL s l ++ [(kind, size, 0)]))) l = zL s l ++ [(kind, size, 0)] from va_up_s, List.length_append, List.length_singleton]
  iterate 2 (refine G.st rfl rfl ?_)
  refine G.ret rfl rfl ⟨?_, m', rfl, hM'⟩
  rw [nI_pred]
end REF
