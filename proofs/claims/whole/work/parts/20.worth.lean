section WORTH
variable {rw : Nat → sR} {nu : Nat → Nat → Int32} {wd : Nat → Int32 × Int32} {vo : sV} {od : sO} {tp : sP} {sh : Nat → sS} {fi : Nat → Int32} {ik : Int32} {m : sM} {nm : Nat → Option Int32}
abbrev Av (r : Option Value) (rw : Nat → sR) (nu : Nat → Nat → Int32) (wd : Nat → Int32 × Int32) (od : sO) (tp : sP) (sh : Nat → sS) (fi : Nat → Int32) (ik : Int32) (m : sM) : Option Value → aH → Prop := fun v h' => v = r ∧ ∃ vo, h' = H rw nu wd vo od tp sh fi ik m
theorem fil_all (g : List Gar) : fil 0 g 0 (g.length - 0) = g := by
  rw [fil_0 g _ 0 (by omega)]
  simp
theorem s6_worthOf (X : aX) {i : Nat} {g : List Gar} {w : Int32} (hi : i < 13) (hg : Rep (rw i) g) (hgk : gKs g) : Sp X 4 kX6_worthOf [.ref 0, .ref (rb i), .int w] (H rw nu wd vo od tp sh fi ik m) (Av (some (.int (wlst w g))) rw nu wd od tp sh fi ik m) := by
  unfold Sp
  iterate 3 (refine G.st rfl rfl ?_)
  refine G.call rfl rfl (Nat.le_of_ble_eq_true rfl) (Sp.up (s5_begin X w) (Nat.le_of_ble_eq_true rfl)) ?_
  rintro _ _ ⟨rfl, rfl⟩
  iterate 5 (refine G.st rfl rfl ?_)
  refine G.get rfl (H_row hi).1 rfl ?_
  rw [hg.1]
  iterate 1 (refine G.st rfl rfl ?_)
  refine G.call rfl rfl (Nat.le_of_ble_eq_true rfl) (Sp.up (s5_hear X (a := 0) (b := g.length) (M := 0) hi hg hgk (Nat.zero_le _) (Nat.le_refl _)) (Nat.le_of_ble_eq_true rfl)) ?_
  rintro _ _ ⟨rfl, rfl⟩
  iterate 3 (refine G.st rfl rfl ?_)
  refine G.ret rfl rfl ⟨?_, _, rfl⟩
  rw [fil_all]
  rfl
theorem s6_worthBehind (X : aX) {i j : Nat} {g : List Gar} (hi : i < 13) (hg : Rep (rw i) g) (hgk : gKs g) (hj : j < g.length) : Sp X 4 kX6_worthBehind [.ref 0, .ref (rb i), .int (nI j)] (H rw nu wd vo od tp sh fi ik m) (Av (some (.int (wlst (wd 0).1 (g.take (j + 1))))) rw nu wd od tp sh fi ik m) := by
  unfold Sp
  iterate 5 (refine G.st rfl rfl ?_)
  refine G.call rfl rfl (Nat.le_of_ble_eq_true rfl) (Sp.up (s5_begin X _) (Nat.le_of_ble_eq_true rfl)) ?_
  rintro _ _ ⟨rfl, rfl⟩
  iterate 7 (refine G.st rfl rfl ?_)
  rw [nI_1]
  iterate 1 (refine G.st rfl rfl ?_)
  refine G.call rfl rfl (Nat.le_of_ble_eq_true rfl) (Sp.up (s5_hear X (a := 0) (b := j + 1) (M := 0) hi hg hgk (Nat.zero_le _) (by omega)) (Nat.le_of_ble_eq_true rfl)) ?_
  rintro _ _ ⟨rfl, rfl⟩
  iterate 3 (refine G.st rfl rfl ?_)
  refine G.ret rfl rfl ⟨?_, _, rfl⟩
  rw [fil_0 g _ 0 (by omega)]
  rfl
theorem hearL_app (w : Int32) (a : Int32 × Int32) (l l2 : List Gar) : hearL w a (l ++ l2) = hearL w (hearL w a l) l2 := by
  unfold hearL
  rw [List.foldl_append]
theorem s6_worthJoined (X : aX) {i i2 j : Nat} {g g2 : List Gar} (hi : i < 13) (hg : Rep (rw i) g) (hgk : gKs g) (hi2 : i2 < 13) (hg2 : Rep (rw i2) g2) (hgk2 : gKs g2) (hj : j ≤ g2.length) : Sp X 4 kX6_worthJoined [.ref 0, .ref (rb i), .ref (rb i2), .int (nI j)] (H rw nu wd vo od tp sh fi ik m) (Av (some (.int (wlst (wd 0).1 (g ++ g2.drop j)))) rw nu wd od tp sh fi ik m) := by
  unfold Sp
  iterate 5 (refine G.st rfl rfl ?_)
  refine G.call rfl rfl (Nat.le_of_ble_eq_true rfl) (Sp.up (s5_begin X _) (Nat.le_of_ble_eq_true rfl)) ?_
  rintro _ _ ⟨rfl, rfl⟩
  iterate 5 (refine G.st rfl rfl ?_)
  refine G.get rfl (H_row hi).1 rfl ?_
  rw [hg.1]
  iterate 1 (refine G.st rfl rfl ?_)
  refine G.call rfl rfl (Nat.le_of_ble_eq_true rfl) (Sp.up (s5_hear X (a := 0) (b := g.length) (M := 0) hi hg hgk (Nat.zero_le _) (Nat.le_refl _)) (Nat.le_of_ble_eq_true rfl)) ?_
  rintro _ _ ⟨rfl, rfl⟩
  iterate 5 (refine G.st rfl rfl ?_)
  refine G.get rfl (H_row hi2).1 rfl ?_
  rw [hg2.1]
  iterate 1 (refine G.st rfl rfl ?_)
  refine G.call rfl rfl (Nat.le_of_ble_eq_true rfl) (Sp.up (s5_hear X (a := j) (b := g2.length) (M := 0) hi2 hg2 hgk2 hj (Nat.le_refl _)) (Nat.le_of_ble_eq_true rfl)) ?_
  rintro _ _ ⟨rfl, rfl⟩
  iterate 3 (refine G.st rfl rfl ?_)
  refine G.ret rfl rfl ⟨?_, _, rfl⟩
  rw [fil_all, fil_0 g2 _ j (by omega), List.take_of_length_le (by simp)]
  unfold wlst
  rw [hearL_app]
theorem s6_readNow (X : aX) {i : Nat} {g : List Gar} (hn : NumR (nu 0) nm) (hi : i < 13) (hg : Rep (rw i) g) (hgk : gKs g) : Sp X 5 kX6_readNow [.ref 0, .ref (rb i)] (H rw nu wd vo od tp sh fi ik m) (Av (some (.int (rdI (rd nm (wlst (wd 0).1 g))))) rw nu wd od tp sh fi ik m) := by
  unfold Sp
  iterate 7 (refine G.st rfl rfl ?_)
  refine G.call rfl rfl (Nat.le_of_ble_eq_true rfl) (Sp.up (s6_worthOf X hi hg hgk) (Nat.le_of_ble_eq_true rfl)) ?_
  rintro _ _ ⟨rfl, vo1, rfl⟩
  refine G.call rfl rfl (Nat.le_of_ble_eq_true rfl) (Sp.up (s4_readAs X hn (wlst_9 _ _)) (Nat.le_of_ble_eq_true rfl)) ?_
  rintro _ _ ⟨rfl, rfl⟩
  exact G.ret rfl rfl ⟨rfl, _, rfl⟩
theorem s6_readWithout (X : aX) {i : Nat} {g : List Gar} {M : Int32} (hn : NumR (nu 0) nm) (hi : i < 13) (hg : Rep (rw i) g) (hgk : gKs g) : Sp X 5 kX6_readWithout [.ref 0, .ref (rb i), .int M] (H rw nu wd vo od tp sh fi ik m) (Av (some (.int (rdI (rd nm (wlst (wd 0).1 (fil M g 0 g.length)))))) rw nu wd od tp sh fi ik m) := by
  unfold Sp
  iterate 5 (refine G.st rfl rfl ?_)
  refine G.call rfl rfl (Nat.le_of_ble_eq_true rfl) (Sp.up (s5_begin X _) (Nat.le_of_ble_eq_true rfl)) ?_
  rintro _ _ ⟨rfl, rfl⟩
  iterate 5 (refine G.st rfl rfl ?_)
  refine G.get rfl (H_row hi).1 rfl ?_
  rw [hg.1]
  iterate 1 (refine G.st rfl rfl ?_)
  refine G.call rfl rfl (Nat.le_of_ble_eq_true rfl) (Sp.up (s5_hear X (a := 0) (b := g.length) (M := M) hi hg hgk (Nat.zero_le _) (Nat.le_refl _)) (Nat.le_of_ble_eq_true rfl)) ?_
  rintro _ _ ⟨rfl, rfl⟩
  iterate 5 (refine G.st rfl rfl ?_)
  refine G.call rfl rfl (Nat.le_of_ble_eq_true rfl) (Sp.up (s4_readAs X hn (hearL_9 _ _ W9_0)) (Nat.le_of_ble_eq_true rfl)) ?_
  rintro _ _ ⟨rfl, rfl⟩
  exact G.ret rfl rfl ⟨rfl, _, rfl⟩
theorem s6_readWithOneMore (X : aX) {i : Nat} {g : List Gar} {c : Int32} (hn : NumR (nu 0) nm) (hi : i < 13) (hg : Rep (rw i) g) (hgk : gKs g) (hc : K6 (c / 10)) : Sp X 5 kX6_readWithOneMore [.ref 0, .ref (rb i), .int c] (H rw nu wd vo od tp sh fi ik m) (Av (some (.int (rdI (rd nm (wlst (wd 0).1 (g ++ [(c / 10, c - c / 10 * 10, 0)])))))) rw nu wd od tp sh fi ik m) := by
  unfold Sp
  iterate 5 (refine G.st rfl rfl ?_)
  refine G.call rfl rfl (Nat.le_of_ble_eq_true rfl) (Sp.up (s5_begin X _) (Nat.le_of_ble_eq_true rfl)) ?_
  rintro _ _ ⟨rfl, rfl⟩
  iterate 5 (refine G.st rfl rfl ?_)
  refine G.get rfl (H_row hi).1 rfl ?_
  rw [hg.1]
  iterate 1 (refine G.st rfl rfl ?_)
  refine G.call rfl rfl (Nat.le_of_ble_eq_true rfl) (Sp.up (s5_hear X (a := 0) (b := g.length) (M := 0) hi hg hgk (Nat.zero_le _) (Nat.le_refl _)) (Nat.le_of_ble_eq_true rfl)) ?_
  rintro _ _ ⟨rfl, rfl⟩
  iterate 9 (refine G.st rfl rfl ?_)
  refine G.call rfl rfl (Nat.le_of_ble_eq_true rfl) (Sp.up (s5_hearGarment X hc) (Nat.le_of_ble_eq_true rfl)) ?_
  rintro _ _ ⟨rfl, rfl⟩
  iterate 5 (refine G.st rfl rfl ?_)
  refine G.call rfl rfl (Nat.le_of_ble_eq_true rfl) (Sp.up (s4_readAs X hn (hearG_9 (hearL_9 _ _ W9_0))) (Nat.le_of_ble_eq_true rfl)) ?_
  rintro _ _ ⟨rfl, rfl⟩
  refine G.ret rfl rfl ⟨?_, _, rfl⟩
  rw [fil_all]
  unfold wlst
  rw [hearL_app]
  rfl
/-- in which winds a row is read as something -/
def wndN (nm : Nat → Option Int32) (g : List Gar) (mn : Int32) : Nat → Int32
  | 0 => 0
  | w + 1 => if rdI (rd nm (wlst (nI w) g)) = mn then wndN nm g mn w ||| ((1 : Int32) <<< (nI w &&& 31)) else wndN nm g mn w
theorem l6_windsReadAs (X : aX) {i : Nat} {g : List Gar} {mn : Int32} (hn : NumR (nu 0) nm) (hi : i < 13) (hg : Rep (rw i) g) (hgk : gKs g) : ∀ (k w : Nat) (vo : sV), w + k = 21 → G X 5 kX6_windsReadAs 5 [.ref 0, .ref (rb i), .int mn, .int (wndN nm g mn w), .int (nI w)] [] (H rw nu wd vo od tp sh fi ik m) (Av (some (.int (wndN nm g mn 21))) rw nu wd od tp sh fi ik m)
  | 0, w, vo, hw => by
    iterate 2 (refine G.st rfl rfl ?_)
    refine G.brt rfl ?_ ?_
    · show nI 20 < nI w
      rw [nI_ltI (by omega) (by omega)]
      omega
    iterate 1 (refine G.st rfl rfl ?_)
    refine G.ret rfl rfl ⟨?_, _, rfl⟩
    rw [show w = 21 by omega]
  | k + 1, w, vo, hw => by
    iterate 2 (refine G.st rfl rfl ?_)
    refine G.brf rfl ?_ ?_
    · show ¬ nI 20 < nI w
      rw [nI_ltI (by omega) (by omega)]
      omega
    iterate 5 (refine G.st rfl rfl ?_)
    refine G.call rfl rfl (Nat.le_of_ble_eq_true rfl) (Sp.up (s6_worthOf X hi hg hgk) (Nat.le_of_ble_eq_true rfl)) ?_
    rintro _ _ ⟨rfl, vo1, rfl⟩
    refine G.call rfl rfl (Nat.le_of_ble_eq_true rfl) (Sp.up (s4_readAs X hn (wlst_9 _ _)) (Nat.le_of_ble_eq_true rfl)) ?_
    rintro _ _ ⟨rfl, rfl⟩
    iterate 1 (refine G.st rfl rfl ?_)
    refine G.br rfl (fun hc => ?_) (fun hc => ?_)
    · iterate 7 (refine G.st rfl rfl ?_)
      rw [nI_1]
      iterate 1 (refine G.st rfl rfl ?_)
      have := l6_windsReadAs X (mn := mn) hn hi hg hgk k (w + 1) vo1 (by omega)
      conv at this => arg 5; unfold wndN
      rw [if_pos hc] at this
      exact this
    · iterate 1 (refine G.st rfl rfl ?_)
      rw [nI_1]
      iterate 1 (refine G.st rfl rfl ?_)
      have := l6_windsReadAs X (mn := mn) hn hi hg hgk k (w + 1) vo1 (by omega)
      conv at this => arg 5; unfold wndN
      rw [if_neg hc] at this
      exact this
theorem s6_windsReadAs (X : aX) {i : Nat} {g : List Gar} {mn : Int32} (hn : NumR (nu 0) nm) (hi : i < 13) (hg : Rep (rw i) g) (hgk : gKs g) : Sp X 5 kX6_windsReadAs [.ref 0, .ref (rb i), .int mn] (H rw nu wd vo od tp sh fi ik m) (Av (some (.int (wndN nm g mn 21))) rw nu wd od tp sh fi ik m) := by
  unfold Sp
  iterate 4 (refine G.st rfl rfl ?_)
  exact l6_windsReadAs X hn hi hg hgk 21 0 vo rfl
end WORTH
