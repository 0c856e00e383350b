/-! ===== orders, most, least, order: the class ===== -/
theorem rem_z (n : Nat) : rem 0 n = List.range n := by
  unfold rem
  rw [List.filter_eq_self]
  intro p _
  simp
theorem mxS_ge : ∀ (l : List Int32) (b x : Int32), l.foldl mxS (some b) = some x → (x = b ∨ x ∈ l) ∧ b ≤ x ∧ ∀ u ∈ l, u ≤ x
  | [], b, x, h => by
    rw [List.foldl_nil] at h
    cases h
    exact ⟨Or.inl rfl, Int32.le_refl _, fun u hu => by cases hu⟩
  | v :: l, b, x, h => by
    rw [List.foldl_cons] at h
    obtain ⟨h1, h2, h3⟩ := mxS_ge l (if b < v then v else b) x h
    by_cases hlt : b < v
    · rw [if_pos hlt] at h1 h2
      refine ⟨?_, Int32.le_trans (Int32.le_of_lt hlt) h2, ?_⟩
      · rcases h1 with h1 | h1
        · exact Or.inr (by rw [h1]; exact List.mem_cons_self)
        · exact Or.inr (List.mem_cons_of_mem _ h1)
      · intro u hu
        rcases List.mem_cons.mp hu with rfl | hu
        · exact h2
        · exact h3 u hu
    · rw [if_neg hlt] at h1 h2
      refine ⟨?_, h2, ?_⟩
      · rcases h1 with h1 | h1
        · exact Or.inl h1
        · exact Or.inr (List.mem_cons_of_mem _ h1)
      · intro u hu
        rcases List.mem_cons.mp hu with rfl | hu
        · exact Int32.le_trans (Int32.not_lt.mp hlt) h2
        · exact h3 u hu
theorem mnS_le : ∀ (l : List Int32) (b x : Int32), l.foldl mnS (some b) = some x → (x = b ∨ x ∈ l) ∧ x ≤ b ∧ ∀ u ∈ l, x ≤ u
  | [], b, x, h => by
    rw [List.foldl_nil] at h
    cases h
    exact ⟨Or.inl rfl, Int32.le_refl _, fun u hu => by cases hu⟩
  | v :: l, b, x, h => by
    rw [List.foldl_cons] at h
    obtain ⟨h1, h2, h3⟩ := mnS_le l (if v < b then v else b) x h
    by_cases hlt : v < b
    · rw [if_pos hlt] at h1 h2
      refine ⟨?_, Int32.le_trans h2 (Int32.le_of_lt hlt), ?_⟩
      · rcases h1 with h1 | h1
        · exact Or.inr (by rw [h1]; exact List.mem_cons_self)
        · exact Or.inr (List.mem_cons_of_mem _ h1)
      · intro u hu
        rcases List.mem_cons.mp hu with rfl | hu
        · exact h2
        · exact h3 u hu
    · rw [if_neg hlt] at h1 h2
      refine ⟨?_, h2, ?_⟩
      · rcases h1 with h1 | h1
        · exact Or.inl h1
        · exact Or.inr (List.mem_cons_of_mem _ h1)
      · intro u hu
        rcases List.mem_cons.mp hu with rfl | hu
        · exact Int32.le_trans h2 (Int32.not_lt.mp hlt)
        · exact h3 u hu
theorem mxL_c {l : List Int32} {x : Int32} (h : mxL l = some x) : x ∈ l ∧ ∀ u ∈ l, u ≤ x := by
  cases l with
  | nil => cases h
  | cons v l =>
    obtain ⟨h1, h2, h3⟩ := mxS_ge l v x h
    refine ⟨?_, ?_⟩
    · rcases h1 with rfl | h1
      · exact List.mem_cons_self
      · exact List.mem_cons_of_mem _ h1
    · intro u hu
      rcases List.mem_cons.mp hu with rfl | hu
      · exact h2
      · exact h3 u hu
theorem mnL_c {l : List Int32} {x : Int32} (h : mnL l = some x) : x ∈ l ∧ ∀ u ∈ l, x ≤ u := by
  cases l with
  | nil => cases h
  | cons v l =>
    obtain ⟨h1, h2, h3⟩ := mnS_le l v x h
    refine ⟨?_, ?_⟩
    · rcases h1 with rfl | h1
      · exact List.mem_cons_self
      · exact List.mem_cons_of_mem _ h1
    · intro u hu
      rcases List.mem_cons.mp hu with rfl | hu
      · exact h2
      · exact h3 u hu
theorem mxL_eq {l l2 : List Int32} (h : ∀ v, v ∈ l ↔ v ∈ l2) : mxL l = mxL l2 := by
  cases h1 : mxL l with
  | none =>
    have e : l = [] := Classical.byContradiction (fun hne => by obtain ⟨x, hx⟩ := mxL_ex hne; rw [hx] at h1; cases h1)
    have e2 : l2 = [] := List.eq_nil_iff_forall_not_mem.mpr (fun v hv => by have := (h v).mpr hv; rw [e] at this; cases this)
    rw [e2]
    rfl
  | some x =>
    obtain ⟨a1, a2⟩ := mxL_c h1
    obtain ⟨y, hy⟩ := mxL_ex (l := l2) (fun e => by have := (h x).mp a1; rw [e] at this; cases this)
    obtain ⟨b1, b2⟩ := mxL_c hy
    rw [hy, Int32.le_antisymm (b2 x ((h x).mp a1)) (a2 y ((h y).mpr b1))]
theorem mnL_eq {l l2 : List Int32} (h : ∀ v, v ∈ l ↔ v ∈ l2) : mnL l = mnL l2 := by
  cases h1 : mnL l with
  | none =>
    have e : l = [] := Classical.byContradiction (fun hne => by obtain ⟨x, hx⟩ := mnL_ex hne; rw [hx] at h1; cases h1)
    have e2 : l2 = [] := List.eq_nil_iff_forall_not_mem.mpr (fun v hv => by have := (h v).mpr hv; rw [e] at this; cases this)
    rw [e2]
    rfl
  | some x =>
    obtain ⟨a1, a2⟩ := mnL_c h1
    obtain ⟨y, hy⟩ := mnL_ex (l := l2) (fun e => by have := (h x).mp a1; rw [e] at this; cases this)
    obtain ⟨b1, b2⟩ := mnL_c hy
    rw [hy, Int32.le_antisymm (a2 y ((h y).mpr b1)) (b2 x ((h x).mp a1))]
/-- all orders of a row -/
def ordL (w : Int32) (g : List Gar) : List Lf := allO (sy w g) g.length (List.range g.length) (0, 0)
def ordC (w : Int32) (g : List Gar) : List Lf := canO (sy w g) g.length (List.range g.length) (0, 0)
theorem ord_mem {w : Int32} {g : List Gar} {v : Int32} : v ∈ (ordC w g).map (·.1) ↔ v ∈ (ordL w g).map (·.1) := (mem_eq (sy w g) List.length_range List.pairwise_lt_range).symm
theorem ord_cnt {w : Int32} {g : List Gar} (P : Int32 → Bool) : wtP (sy w g) g.length * (ordC w g).countP (fun q => P q.1) = (ordL w g).countP (fun q => P q.1) := (cnt_eq P (sy w g) List.length_range List.pairwise_lt_range).symm
theorem ord_bst {w aim : Int32} {g : List Gar} : bstL aim (ordC w g) = bstL aim (ordL w g) := (bst_can aim (sy w g) _ _ _ List.length_range List.pairwise_lt_range).symm
theorem ord_ne {w : Int32} {g : List Gar} : ordC w g ≠ [] := can_ne (sy w g) List.length_range List.pairwise_lt_range
theorem ordL_ne {w : Int32} {g : List Gar} : ordL w g ≠ [] := all_ne (sy w g) _ _ _ List.length_range
theorem ordL_perm {w : Int32} {g : List Gar} {q : Lf} (h : q ∈ ordL w g) : q.2.Perm (List.range g.length) := all_len (sy w g) _ _ _ q List.length_range h
section WALK
variable {rw : Nat → sR} {nu : Nat → Nat → Int32} {wd : Nat → Int32 × Int32} {vo : sV} {od : sO} {tp : sP} {sh : Nat → sS} {fi : Nat → Int32} {ik : Int32} {m : sM} {nm : Nat → Option Int32} {g : List Gar} {s : Sg}
theorem s0_walk (X : aX) {l : Nat} {mn aim : Int32} (hl : l < 4) (hg : Rep (rw l) g) (hgk : gKs g) (hn : NumR (nu 0) nm) (ham : W9 aim) : Sp X 19 kX0_walk [.ref 59, .ref (rb l), .int mn, .int aim] (H rw nu wd vo od tp sh fi ik m) (fun v h' => v = none ∧ ∃ q' od', h' = H (va_up rw 12 q') nu wd vo od' tp sh fi ik m ∧ Rep q' g ∧ omn od' = mn ∧ oam od' = aim ∧ OInv nm (wtP (sy (wd 0).1 g) g.length) g.length od' (ordC (wd 0).1 g)) := by
  unfold Sp
  have h7 := hg.2.1
  iterate 3 (refine G.st rfl rfl ?_)
  refine G.call rfl rfl (Nat.le_of_ble_eq_true rfl) (Sp.up (s1_become X (H_row (i := 12) (by omega)) (H_row (i := l) (by omega)) hg (Or.inr (Or.inr (by rw [rb_line hl]; show 4 + 4 * l + 4 ≤ 60; omega)))) (Nat.le_of_ble_eq_true rfl)) ?_
  rintro _ _ ⟨rfl, q', rfl, hq'⟩
  rw [H_rsetL (a := 60) (i := 12) rfl (by omega)]
  iterate 15 (refine G.st rfl rfl ?_)
  refine G.call rfl rfl (Nat.le_of_ble_eq_true rfl) (Sp.up (sj_fillL X (x := 68) (n := 313) rfl (by omega)) (Nat.le_of_ble_eq_true rfl)) ?_
  rintro _ _ ⟨rfl, f', rfl, hf'⟩
  show G X 19 kX0_walk 36 [.ref 59, .ref (rb l), .int mn, .int aim] [] (H (va_up rw 12 q') nu wd vo (oSme (oSif (oSrs (oSam (oSmn od mn) aim) 0) 1) f') tp sh fi ik m) _
  generalize hod1 : oSme (oSif (oSrs (oSam (oSmn od mn) aim) 0) 1) f' = od1
  iterate 4 (refine G.st rfl rfl ?_)
  show G X 19 kX0_walk 42 [.ref 59, .ref (rb l), .int mn, .int aim] [.ref 59] (H (va_up rw 12 q') nu wd vo (oShp od1 0) tp sh fi ik m) _
  have hq12 : Rep (va_up rw 12 q' 12) g := by rw [va_up_s]; exact hq'
  refine G.call rfl rfl (Nat.le_of_ble_eq_true rfl) (Sp.up (s0_findTwins X (rw := va_up rw 12 q') hq12 hgk) (Nat.le_of_ble_eq_true rfl)) ?_
  rintro _ _ ⟨rfl, fs, ft, rfl, hst⟩
  show G X 19 kX0_walk 45 [.ref 59, .ref (rb l), .int mn, .int aim] [] (H (va_up rw 12 q') nu wd vo (oSwt (oStw (oSsy (oShp od1 0) fs) ft) (nI (wtP (sy (wd 0).1 g) g.length))) tp sh fi ik m) _
  generalize hod2 : oSwt (oStw (oSsy (oShp od1 0) fs) ft) (nI (wtP (sy (wd 0).1 g) g.length)) = od2
  have hP : HPre (wd 0).1 g (wtP (sy (wd 0).1 g) g.length) 0 od2 [] := by
    rw [← hod2, ← hod1]
    refine ⟨by omega, rfl, by rw [rem_z, List.length_range, List.length_nil, Nat.zero_add], (fun q hq h => by simp at h), (fun i hi => by simp at hi), hst, rfl, ham⟩
  have hO : OInv nm (wtP (sy (wd 0).1 g) g.length) g.length od2 [] := by
    rw [← hod2, ← hod1]
    refine ⟨(fun q hq => by cases hq), (by rw [bI_t rfl]), (fun b hb hm => rfl), fun b hb => (by cases hb), fun x hx => (by cases hx), fun x hx => (by cases hx), fun j hj => ?_⟩
    show (f' (j / 64)).toBitVec.getLsbD (j % 64) = _
    rw [hf' (j / 64) (by omega)]
    simp
  iterate 4 (refine G.st rfl rfl ?_)
  have hr := s0_hangNext X (rw := va_up rw 12 q') (W := wtP (sy (wd 0).1 g) g.length) (vo := vo) (tp := tp) (sh := sh) (fi := fi) (ik := ik) (m := m) hq12 hgk hn g.length 0 od2 [] [] (0, 0) hP (by rw [rem_z, List.length_range]) hO W9_0
  refine G.call rfl rfl (Nat.le_of_ble_eq_true rfl) (Sp.up hr (by omega)) ?_
  rintro _ _ ⟨rfl, od', rfl, ⟨k1, k2, k3, k4, k5, k6⟩, -, h3⟩
  refine G.ret rfl rfl ⟨rfl, q', od', rfl, hq', ?_, ?_, ?_⟩
  · rw [k3, ← hod2, ← hod1]
  · rw [k4, ← hod2, ← hod1]
  · rw [rem_z, List.nil_append] at h3
    rw [show (canO (sy (wd 0).1 g) g.length (List.range g.length) (0, 0)).map (lfp []) = ordC (wd 0).1 g from List.map_id _] at h3
    exact h3
theorem CR.row12 (h : CR rw nu wd tp sh fi ik s) (q : sR) : CR (va_up rw 12 q) nu wd tp sh fi ik s := by
  obtain ⟨h1, h2, h3⟩ := h
  refine ⟨h1.line (by omega), ?_, h3⟩
  cases hk : zK s with
  | none => rw [hk] at h2; exact h2
  | some k => rw [hk] at h2; exact ⟨h2.1, h2.2.line (by omega)⟩
def S_orders (s : Sg) (line mn : Int32) : Int32 × Sg := if (0 ≤ line ∧ line ≤ 3) ∧ 0 ≤ mn ∧ mn ≤ 9 then (match zN s (ln mn) with | none => fin 3 s | some _ => (nI ((ordL (zW s) (zL s (ln line))).countP (fun q => decide (rd (zN s) q.1 = some (ln mn)))), s)) else fin 0 s
theorem p6_orders (X : aX) (line mn : Int32) {h : aH} (hC : CI m s h) : Sp X 20 kX6_orders [.ref 0, .int line, .int mn] h (fun v h' => v = some (.int (S_orders s line mn).1) ∧ CI m (S_orders s line mn).2 h') := by
  obtain ⟨rw, nu, wd, vo, od, tp, sh, fi, ik, rfl, hC⟩ := hC
  unfold Sp S_orders
  have bad : G X 20 kX6_orders 14 (eL kX6_orders [.ref 0, .int line, .int mn]) [] (H rw nu wd vo od tp sh fi ik m) (fun v h' => v = some (.int (fin 0 s).1) ∧ CI m (fin 0 s).2 h') := by
    iterate 2 (refine G.st rfl rfl ?_)
    refine G.call rfl rfl (Nat.le_of_ble_eq_true rfl) (Sp.up (c6_f0 X hC) (Nat.le_of_ble_eq_true rfl)) ?_
    rintro _ _ ⟨rfl, hci⟩
    exact G.ret rfl rfl ⟨rfl, hci⟩
  iterate 1 (refine G.st rfl rfl ?_)
  refine G.call rfl rfl (Nat.le_of_ble_eq_true rfl) (Sp.up (s6_isLine X line _) (Nat.le_of_ble_eq_true rfl)) ?_
  rintro _ _ ⟨rfl, rfl⟩
  by_cases hl : 0 ≤ line ∧ line ≤ 3
  case neg =>
    rw [if_neg (fun q => hl q.1)]
    exact G.brt rfl (bI_0.mpr hl) bad
  refine G.brf rfl (bI_n hl) ?_
  iterate 1 (refine G.st rfl rfl ?_)
  refine G.call rfl rfl (Nat.le_of_ble_eq_true rfl) (Sp.up (s6_isMeaning X mn _) (Nat.le_of_ble_eq_true rfl)) ?_
  rintro _ _ ⟨rfl, rfl⟩
  by_cases hm : 0 ≤ mn ∧ mn ≤ 9
  case neg =>
    rw [if_neg (fun q => hm q.2)]
    exact G.brt rfl (bI_0.mpr hm) bad
  refine G.brf rfl (bI_n hm) ?_
  rw [if_pos ⟨hl, hm⟩]
  obtain ⟨l, hl4, rfl⟩ := lok_n hl
  obtain ⟨b, hb, rfl⟩ := mok_n hm
  rw [ln_nI (by omega), ln_nI (by omega)]
  obtain ⟨hr, hgk, h7⟩ := hC.rep hl4
  iterate 3 (refine G.st rfl rfl ?_)
  refine G.call rfl rfl (Nat.le_of_ble_eq_true rfl) (Sp.up (s4_hasNumber X hC.num hb) (Nat.le_of_ble_eq_true rfl)) ?_
  rintro _ _ ⟨rfl, rfl⟩
  cases hz : zN s b with
  | none =>
    refine G.brt rfl (bI_0.mpr (by simp)) ?_
    iterate 2 (refine G.st rfl rfl ?_)
    refine G.call rfl rfl (Nat.le_of_ble_eq_true rfl) (Sp.up (c6_f3 X hC) (Nat.le_of_ble_eq_true rfl)) ?_
    rintro _ _ ⟨rfl, hci⟩
    exact G.ret rfl rfl ⟨rfl, hci⟩
  | some x =>
    refine G.brf rfl (bI_n (by simp)) ?_
    iterate 6 (refine G.st rfl rfl ?_)
    refine G.aald rfl rfl (by decide) (ix_nI hl4 (by omega)) (rf4_row hl4) ?_
    iterate 2 (refine G.st rfl rfl ?_)
    refine G.call rfl rfl (Nat.le_of_ble_eq_true rfl) (Sp.up (s0_walk X hl4 hr hgk hC.num W9_0) (Nat.le_of_ble_eq_true rfl)) ?_
    rintro _ _ ⟨rfl, q', od', rfl, hq', hm', ha', hO⟩
    iterate 3 (refine G.st rfl rfl ?_)
    refine G.ret rfl rfl ⟨?_, CI.mk (hC.row12 q')⟩
    have h3 := hO.2.2.1 b hb hm'
    rw [hC.wd0] at h3
    rw [ord_cnt (fun v => decide (rd (zN s) v = some b))] at h3
    rw [h3]
end WALK
