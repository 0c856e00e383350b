/-! ===== what a row says ===== -/
def gK (g : Gar) : Prop := K6 g.1 ∧ (1 ≤ g.2.1 ∧ g.2.1 ≤ 9) ∧ 0 ≤ g.2.2 ∧ g.2.2 ≤ 9
def gKs (g : List Gar) : Prop := ∀ x ∈ g, gK x
def hearG (w : Int32) (a : Int32 × Int32) (g : Gar) : Int32 × Int32 := if seenB w g.1 g.2.1 g.2.2 = true then (wAft a.1 a.2 g.1 g.2.1, sAft a.2 g.1) else a
def hearL (w : Int32) (a : Int32 × Int32) (l : List Gar) : Int32 × Int32 := l.foldl (hearG w) a
/-- the worth of a row in a wind -/
def wlst (w : Int32) (l : List Gar) : Int32 := (hearL w (0, 0) l).1
theorem heldI_9 (v : Int32) : W9 (heldI v) := by unfold W9 heldI; grind
theorem wAft_9 {v st k s : Int32} (hv : W9 v) : W9 (wAft v st k s) := by
  unfold wAft
  split
  · exact heldI_9 _
  split
  · exact heldI_9 _
  split
  · exact heldI_9 _
  split
  · exact heldI_9 _
  split
  · split
    · exact hv
    · exact heldI_9 _
  · exact heldI_9 _
theorem hearG_9 {w : Int32} {a : Int32 × Int32} {g : Gar} (h : W9 a.1) : W9 (hearG w a g).1 := by
  unfold hearG
  split
  · exact wAft_9 h
  · exact h
theorem hearL_9 {w : Int32} : ∀ (l : List Gar) (a : Int32 × Int32), W9 a.1 → W9 (hearL w a l).1
  | [], _, h => h
  | g :: l, a, h => hearL_9 l (hearG w a g) (hearG_9 h)
theorem W9_0 : W9 0 := by unfold W9; decide
theorem wlst_9 (w : Int32) (l : List Gar) : W9 (wlst w l) := hearL_9 l (0, 0) (by unfold W9; decide)
/-- the garments from a on, n of them, whose pegs aren't in the set M -/
def fil (M : Int32) (g : List Gar) : Nat → Nat → List Gar
  | _, 0 => []
  | a, n + 1 => if (M >>> (nI a &&& 31)) &&& 1 = 0 then gD g a :: fil M g (a + 1) n else fil M g (a + 1) n
theorem z_shr (x : Int32) : ((0 : Int32) >>> x) &&& 1 = 0 := by
  have : (0 : Int32) >>> x = 0 := by
    apply Int32.toBitVec_inj.mp
    simp
  rw [this]
  decide
theorem fil_0 (g : List Gar) : ∀ (n a : Nat), a + n ≤ g.length → fil 0 g a n = (g.drop a).take n
  | 0, a, _ => by simp [fil]
  | n + 1, a, h => by
    unfold fil
    rw [if_pos (z_shr _), fil_0 g n (a + 1) (by omega), gD_at (by omega), List.drop_eq_getElem_cons (show a < g.length by omega), List.take_succ_cons]
section VOICE
variable {rw : Nat → sR} {nu : Nat → Nat → Int32} {wd : Nat → Int32 × Int32} {vo : sV} {od : sO} {tp : sP} {sh : Nat → sS} {fi : Nat → Int32} {ik : Int32} {m : sM} {nm : Nat → Option Int32}
theorem s5_begin (X : aX) (w : Int32) : Sp X 0 kX5_begin [.ref 58, .int w] (H rw nu wd vo od tp sh fi ik m) (An none (H rw nu wd (0, 0, w) od tp sh fi ik m)) := by
  unfold Sp
  iterate 9 (refine G.st rfl rfl ?_)
  exact G.ret rfl rfl ⟨rfl, rfl⟩
theorem s5_hearGarment (X : aX) {k s t : Int32} (hk : K6 k) : Sp X 2 kX5_hearGarment [.ref 58, .int k, .int s, .int t] (H rw nu wd vo od tp sh fi ik m) (An none (H rw nu wd ((hearG vo.2.2 (vo.1, vo.2.1) (k, s, t)).1, (hearG vo.2.2 (vo.1, vo.2.1) (k, s, t)).2, vo.2.2) od tp sh fi ik m)) := by
  unfold Sp
  iterate 5 (refine G.st rfl rfl ?_)
  refine G.call rfl rfl (Nat.le_of_ble_eq_true rfl) (Sp.up (s6_isSeen X k s t _ hk _) (Nat.le_of_ble_eq_true rfl)) ?_
  rintro _ _ ⟨rfl, rfl⟩
  refine G.br rfl (fun hc => ?_) (fun hc => ?_)
  · refine G.ret rfl rfl ⟨rfl, ?_⟩
    have := bI_0.mp hc
    unfold hearG
    simp only [this, if_false]
    rfl
  · have hs := Classical.not_not.mp (mt bI_0.mpr hc)
    iterate 7 (refine G.st rfl rfl ?_)
    refine G.call rfl rfl (Nat.le_of_ble_eq_true rfl) (Sp.up (s6_worthAfter X _ _ k s hk _) (Nat.le_of_ble_eq_true rfl)) ?_
    rintro _ _ ⟨rfl, rfl⟩
    iterate 5 (refine G.st rfl rfl ?_)
    refine G.call rfl rfl (Nat.le_of_ble_eq_true rfl) (Sp.up (s6_stockingsAfter X _ k _) (Nat.le_of_ble_eq_true rfl)) ?_
    rintro _ _ ⟨rfl, rfl⟩
    iterate 1 (refine G.st rfl rfl ?_)
    refine G.ret rfl rfl ⟨rfl, ?_⟩
    have hs2 : seenB vo.2.2 k s t = true := hs
    unfold hearG
    simp only [hs2, if_true]
    rfl
theorem l5_hear (X : aX) {i b : Nat} {g : List Gar} {M : Int32} (hi : i < 13) (hg : Rep (rw i) g) (hgk : gKs g) (hb : b ≤ g.length) (u : Value) : ∀ (n a : Nat) (vo : sV), a + n = b → G X 3 kX5_hear 3 [.ref 58, .ref (rb i), u, .int (nI b), .int M, .int (nI a)] [] (H rw nu wd vo od tp sh fi ik m) (An none (H rw nu wd ((hearL vo.2.2 (vo.1, vo.2.1) (fil M g a n)).1, (hearL vo.2.2 (vo.1, vo.2.1) (fil M g a n)).2, vo.2.2) od tp sh fi ik m))
  | 0, a, vo, hab => by
    have h7 := hg.2.1
    iterate 2 (refine G.st rfl rfl ?_)
    refine G.brt rfl (by rw [nI_leI (by omega) (by omega)]; omega) ?_
    exact G.ret rfl rfl ⟨rfl, rfl⟩
  | n + 1, a, vo, hab => by
    have h7 := hg.2.1
    have hx := ix_nI (show a < 7 by omega) (by omega)
    have hr := H_row (rw := rw) (nu := nu) (wd := wd) (vo := vo) (od := od) (tp := tp) (sh := sh) (fi := fi) (ik := ik) (m := m) hi
    obtain ⟨a1, a2, a3⟩ := hg.gD (show a < g.length by omega)
    iterate 2 (refine G.st rfl rfl ?_)
    refine G.brf rfl (by rw [nI_leI (by omega) (by omega)]; omega) ?_
    iterate 5 (refine G.st rfl rfl ?_)
    refine G.br rfl (fun hc => ?_) (fun hc => ?_)
    · iterate 2 (refine G.st rfl rfl ?_)
      refine G.get rfl hr.1 rfl ?_
      iterate 1 (refine G.st rfl rfl ?_)
      refine G.iald rfl hr.2.1 hx ?_
      iterate 1 (refine G.st rfl rfl ?_)
      refine G.get rfl hr.1 rfl ?_
      iterate 1 (refine G.st rfl rfl ?_)
      refine G.iald rfl hr.2.2.1 hx ?_
      iterate 1 (refine G.st rfl rfl ?_)
      refine G.get rfl hr.1 rfl ?_
      iterate 1 (refine G.st rfl rfl ?_)
      refine G.iald rfl hr.2.2.2 hx ?_
      rw [a1, a2, a3]
      have hk : gK (gD g a) := by rw [gD_at (by omega)]; exact hgk _ (List.getElem_mem _)
      refine G.call rfl rfl (Nat.le_of_ble_eq_true rfl) (Sp.up (s5_hearGarment X hk.1) (Nat.le_of_ble_eq_true rfl)) ?_
      rintro _ _ ⟨rfl, rfl⟩
      iterate 1 (refine G.st rfl rfl ?_)
      rw [nI_1]
      iterate 1 (refine G.st rfl rfl ?_)
      have := l5_hear X (M := M) hi hg hgk hb u n (a + 1) ((hearG vo.2.2 (vo.1, vo.2.1) (gD g a)).1, (hearG vo.2.2 (vo.1, vo.2.1) (gD g a)).2, vo.2.2) (by omega)
      unfold fil
      rw [if_pos hc]
      exact this
    · iterate 1 (refine G.st rfl rfl ?_)
      rw [nI_1]
      iterate 1 (refine G.st rfl rfl ?_)
      have := l5_hear X (M := M) hi hg hgk hb u n (a + 1) vo (by omega)
      unfold fil
      rw [if_neg hc]
      exact this
theorem s5_hear (X : aX) {i a b : Nat} {g : List Gar} {M : Int32} (hi : i < 13) (hg : Rep (rw i) g) (hgk : gKs g) (hab : a ≤ b) (hb : b ≤ g.length) : Sp X 3 kX5_hear [.ref 58, .ref (rb i), .int (nI a), .int (nI b), .int M] (H rw nu wd vo od tp sh fi ik m) (An none (H rw nu wd ((hearL vo.2.2 (vo.1, vo.2.1) (fil M g a (b - a))).1, (hearL vo.2.2 (vo.1, vo.2.1) (fil M g a (b - a))).2, vo.2.2) od tp sh fi ik m)) := by
  unfold Sp
  iterate 2 (refine G.st rfl rfl ?_)
  exact l5_hear X hi hg hgk hb _ (b - a) a vo (by omega)
end VOICE
