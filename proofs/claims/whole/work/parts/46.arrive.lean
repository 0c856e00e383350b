/-! ===== an order is met ===== -/
theorem abs_apW {x v : Int32} (hx : W9 x) (hv : W9 v) : (if 0 ≤ x - v then x - v else 0 - (x - v)) = apI x v := by
  unfold apI
  unfold W9 at hx hv
  grind
abbrev absI (x : Int32) : Int32 := if 0 ≤ x then x else 0 - x
def arD (od : sO) (v : Int32) : sO := oSif (oSsm (oSgr od (if oif od = 0 then (if ogr od < v then v else ogr od) else v)) (if oif od = 0 then (if v < osm od then v else osm od) else v)) 0
def arC (od : sO) (v : Int32) : sO := if oif od = 0 ∧ absI (one od - oam od) ≤ absI (v - oam od) then od else oSnp (oSne od v) (va_cpy (opg od) (onp od) 0 0 7)
def arB (nm : Nat → Option Int32) (od : sO) (v : Int32) : sO := if ¬ omn od = -1 ∧ rdI (rd nm v) = omn od then oSrs od (ors od + owt od) else od
def arA (od : sO) (j : Nat) : sO := oSme od (vp_updL (ome od) (j / 64) (ome od (j / 64) ||| ((1 : Int64) <<< ((nI (j % 64)).toInt64 &&& 63))))
theorem mt_ix0 : ∀ i, i < 313 → ∀ b, b < 64 → nI (64 * i + b) >>> ((6 : Int32) &&& 31) = nI i ∧ nI (64 * i + b) &&& 63 = nI b := by decide +kernel
theorem mt_ix {j : Nat} (hj : j < 20032) : nI j >>> ((6 : Int32) &&& 31) = nI (j / 64) ∧ nI j &&& 63 = nI (j % 64) := by
  have := mt_ix0 (j / 64) (by omega) (j % 64) (by omega)
  rw [show 64 * (j / 64) + j % 64 = j by omega] at this
  exact this
theorem W9_j {v : Int32} (h : W9 v) : ∃ j, j < 19999 ∧ v + 9999 = nI j ∧ v = nI j - 9999 := by
  have h0 : 0 ≤ v + 9999 := by unfold W9 at h; grind
  have h1 : v + 9999 ≤ 19998 := by unfold W9 at h; grind
  obtain ⟨j, hj, e⟩ := nI_arg (k := 19998) rfl (by omega) h0 h1
  refine ⟨j, by omega, e, ?_⟩
  rw [← e]
  grind
section ARRIVE
variable {rw : Nat → sR} {nu : Nat → Nat → Int32} {wd : Nat → Int32 × Int32} {vo : sV} {od : sO} {tp : sP} {sh : Nat → sS} {fi : Nat → Int32} {ik : Int32} {m : sM} {nm : Nat → Option Int32} {g : List Gar}
theorem g_arrD (X : aX) (od : sO) (v u : Int32) : G X 2 kX0_arrive 118 [.ref 59, .int v, .int u] [] (H rw nu wd vo od tp sh fi ik m) (An none (H rw nu wd vo (arD od v) tp sh fi ik m)) := by
  by_cases hif : oif od = 0
  · iterate 3 (refine G.st rfl rfl ?_)
    refine G.brt rfl hif ?_
    iterate 8 (refine G.st rfl rfl ?_)
    refine G.brt rfl hif ?_
    iterate 8 (refine G.st rfl rfl ?_)
    refine G.ret rfl rfl ⟨rfl, ?_⟩
    unfold arD
    rw [if_pos hif, if_pos hif]
    rfl
  · iterate 3 (refine G.st rfl rfl ?_)
    refine G.brf rfl hif ?_
    iterate 6 (refine G.st rfl rfl ?_)
    refine G.brf rfl hif ?_
    iterate 6 (refine G.st rfl rfl ?_)
    refine G.ret rfl rfl ⟨rfl, ?_⟩
    unfold arD
    rw [if_neg hif, if_neg hif]
    rfl
theorem g_arrC (X : aX) (od : sO) (v u : Int32) : G X 2 kX0_arrive 67 [.ref 59, .int v, .int u] [] (H rw nu wd vo od tp sh fi ik m) (An none (H rw nu wd vo (arD (arC od v) v) tp sh fi ik m)) := by
  have r91 : ¬ (oif od = 0 ∧ absI (one od - oam od) ≤ absI (v - oam od)) → G X 2 kX0_arrive 98 [.ref 59, .int v, .int u] [] (H rw nu wd vo od tp sh fi ik m) (An none (H rw nu wd vo (arD (arC od v) v) tp sh fi ik m)) := by
    intro hc
    iterate 11 (refine G.st rfl rfl ?_)
    have := g_arrD X (rw := rw) (nu := nu) (wd := wd) (vo := vo) (tp := tp) (sh := sh) (fi := fi) (ik := ik) (m := m) (arC od v) v u
    unfold arC at this ⊢
    rw [if_neg hc] at this ⊢
    exact this
  iterate 2 (refine G.st rfl rfl ?_)
  by_cases hif : oif od = 0
  · refine G.brt rfl hif ?_
    iterate 11 (refine G.st rfl rfl ?_)
    by_cases hc : absI (one od - oam od) ≤ absI (v - oam od)
    · refine G.brt rfl hc ?_
      have := g_arrD X (rw := rw) (nu := nu) (wd := wd) (vo := vo) (tp := tp) (sh := sh) (fi := fi) (ik := ik) (m := m) (arC od v) v u
      unfold arC at this ⊢
      rw [if_pos ⟨hif, hc⟩] at this ⊢
      exact this
    · refine G.brf rfl hc ?_
      exact r91 (fun q => hc q.2)
  · refine G.brf rfl hif ?_
    exact r91 (fun q => hif q.1)
theorem g_arrB (X : aX) (hn : NumR (nu 0) nm) (od : sO) (v u : Int32) (hv : W9 v) : G X 2 kX0_arrive 31 [.ref 59, .int v, .int u] [] (H rw nu wd vo od tp sh fi ik m) (An none (H rw nu wd vo (arD (arC (arB nm od v) v) v) tp sh fi ik m)) := by
  have no : ¬ (¬ omn od = -1 ∧ rdI (rd nm v) = omn od) → G X 2 kX0_arrive 67 [.ref 59, .int v, .int u] [] (H rw nu wd vo od tp sh fi ik m) (An none (H rw nu wd vo (arD (arC (arB nm od v) v) v) tp sh fi ik m)) := by
    intro hc
    have := g_arrC X (rw := rw) (nu := nu) (wd := wd) (vo := vo) (tp := tp) (sh := sh) (fi := fi) (ik := ik) (m := m) (arB nm od v) v u
    unfold arB at this ⊢
    rw [if_neg hc] at this ⊢
    exact this
  iterate 3 (refine G.st rfl rfl ?_)
  by_cases h1 : omn od = -1
  · refine G.brt rfl h1 ?_
    exact no (fun q => q.1 h1)
  · refine G.brf rfl h1 ?_
    iterate 3 (refine G.st rfl rfl ?_)
    refine G.call rfl rfl (Nat.le_of_ble_eq_true rfl) (Sp.up (s4_readAs X hn hv) (Nat.le_of_ble_eq_true rfl)) ?_
    rintro _ _ ⟨rfl, rfl⟩
    iterate 2 (refine G.st rfl rfl ?_)
    by_cases h2 : rdI (rd nm v) = omn od
    · refine G.brt rfl h2 ?_
      iterate 7 (refine G.st rfl rfl ?_)
      have := g_arrC X (rw := rw) (nu := nu) (wd := wd) (vo := vo) (tp := tp) (sh := sh) (fi := fi) (ik := ik) (m := m) (arB nm od v) v u
      unfold arB at this ⊢
      rw [if_pos ⟨h1, h2⟩] at this ⊢
      exact this
    · refine G.brf rfl h2 ?_
      exact no (fun q => h2 q.2)
abbrev arr (nm : Nat → Option Int32) (od : sO) (j : Nat) (v : Int32) : sO := arD (arC (arB nm (arA od j) v) v) v
theorem s0_arrive (X : aX) (hn : NumR (nu 0) nm) (od : sO) (v : Int32) {j : Nat} (hv : W9 v) (hj : j < 19999) (hvj : v + 9999 = nI j) : Sp X 2 kX0_arrive [.ref 59, .int v] (H rw nu wd vo od tp sh fi ik m) (An none (H rw nu wd vo (arr nm od j v) tp sh fi ik m)) := by
  unfold Sp
  have hx := ix_nI (show j / 64 < 313 by omega) (by omega)
  have hm := mt_ix (show j < 20032 by omega)
  show G X 2 kX0_arrive 0 [.ref 59, .int v, .double 0] [] _ _
  iterate 1 (refine G.st rfl rfl ?_)
  refine G.call rfl rfl (Nat.le_of_ble_eq_true rfl) (Sp.up (s6_isWorth X v _) (Nat.le_of_ble_eq_true rfl)) ?_
  rintro _ _ ⟨rfl, rfl⟩
  refine G.brf rfl (bI_n (show -9999 ≤ v ∧ v ≤ 9999 from hv)) ?_
  iterate 3 (refine G.st rfl rfl ?_)
  rw [hvj]
  iterate 6 (refine G.st rfl rfl ?_)
  rw [hm.1]
  iterate 1 (refine G.st rfl rfl ?_)
  refine G.lald rfl rfl hx ?_
  iterate 4 (refine G.st rfl rfl ?_)
  rw [hm.2]
  iterate 2 (refine G.st rfl rfl ?_)
  refine G.last rfl rfl hx ?_
  exact g_arrB X hn (arA od j) v (nI j) hv
end ARRIVE
theorem mt_bit : ∀ b, b < 64 → ∀ c, c < 64 → ((1 : Int64) <<< ((nI b).toInt64 &&& 63)).toBitVec.getLsbD c = decide (c = b) := by decide +kernel
def mxS (b : Option Int32) (v : Int32) : Option Int32 := some (match b with | none => v | some x => if x < v then v else x)
def mnS (b : Option Int32) (v : Int32) : Option Int32 := some (match b with | none => v | some x => if v < x then v else x)
def mxL (l : List Int32) : Option Int32 := l.foldl mxS none
def mnL (l : List Int32) : Option Int32 := l.foldl mnS none
theorem mxL_s {l : List Int32} {v : Int32} : mxL (l ++ [v]) = mxS (mxL l) v := by unfold mxL; rw [List.foldl_append]; rfl
theorem mnL_s {l : List Int32} {v : Int32} : mnL (l ++ [v]) = mnS (mnL l) v := by unfold mnL; rw [List.foldl_append]; rfl
theorem mxL_ex : ∀ {l : List Int32}, l ≠ [] → ∃ x, mxL l = some x := by
  intro l h
  obtain ⟨l2, v, rfl⟩ : ∃ l2 v, l = l2 ++ [v] := ⟨l.dropLast, l.getLast h, (List.dropLast_concat_getLast h).symm⟩
  exact ⟨_, mxL_s⟩
theorem mnL_ex : ∀ {l : List Int32}, l ≠ [] → ∃ x, mnL l = some x := by
  intro l h
  obtain ⟨l2, v, rfl⟩ : ∃ l2 v, l = l2 ++ [v] := ⟨l.dropLast, l.getLast h, (List.dropLast_concat_getLast h).symm⟩
  exact ⟨_, mnL_s⟩
/-- what was met on a walk -/
def OInv (nm : Nat → Option Int32) (W n : Nat) (od : sO) (C : List Lf) : Prop :=
  (∀ q ∈ C, W9 q.1 ∧ q.2.length = n) ∧ oif od = bI (C = []) ∧
  (∀ b, b < 10 → omn od = nI b → ors od = nI (W * C.countP (fun q => decide (rd nm q.1 = some b)))) ∧
  (∀ b, bstL (oam od) C = some b → one od = b.1 ∧ ∀ i (hi : i < b.2.length), onp od i = nI b.2[i]) ∧
  (∀ x, mxL (C.map (·.1)) = some x → ogr od = x) ∧ (∀ x, mnL (C.map (·.1)) = some x → osm od = x) ∧
  ∀ j, j < 20032 → (ome od (j / 64)).toBitVec.getLsbD (j % 64) = decide (j < 19999 ∧ nI j - 9999 ∈ C.map (·.1))
theorem nI_j {j i : Nat} (hj : j < 20032) (hi : i < 20032) (h : nI j - 9999 = nI i - 9999) : j = i := by
  have h2 : nI j = nI i := by
    have := congrArg (· + 9999) h
    simpa using this
  exact (nI_eq (by omega) (by omega)).mp h2
theorem rdI_iff {o : Option Nat} {b : Nat} (ho : ∀ x, o = some x → x < 10) (hb : b < 10) : rdI o = nI b ↔ o = some b := by
  cases o with
  | none => exact ⟨fun e => absurd e.symm (nI_ne (by omega)), fun e => by cases e⟩
  | some x =>
    have := ho x rfl
    show nI x = nI b ↔ _
    rw [nI_eq (by omega) (by omega)]
    simp
theorem OInv.add {nm : Nat → Option Int32} {W n j : Nat} {od : sO} {C : List Lf} {v : Int32} {q : List Nat} (h : OInv nm W n od C) (hv : W9 v) (hj : j < 19999) (hvj : v = nI j - 9999) (hW : owt od = nI W) (ham : W9 (oam od)) (hpg : ∀ i (hi : i < q.length), opg od i = nI q[i]) (hq : q.length = n) (hn : n ≤ 7) : OInv nm W n (arr nm od j v) (C ++ [(v, q)]) := by
  obtain ⟨h1, h2, h3, h4, h5, h6, h7⟩ := h
  have eB : ∀ od2 : sO, oif (arB nm od2 v) = oif od2 ∧ omn (arB nm od2 v) = omn od2 ∧ one (arB nm od2 v) = one od2 ∧ onp (arB nm od2 v) = onp od2 ∧ oam (arB nm od2 v) = oam od2 ∧ ogr (arB nm od2 v) = ogr od2 ∧ osm (arB nm od2 v) = osm od2 ∧ ome (arB nm od2 v) = ome od2 ∧ opg (arB nm od2 v) = opg od2 := by
    intro od2
    unfold arB
    split <;> exact ⟨rfl, rfl, rfl, rfl, rfl, rfl, rfl, rfl, rfl⟩
  have eC : ∀ od2 : sO, oif (arC od2 v) = oif od2 ∧ omn (arC od2 v) = omn od2 ∧ oam (arC od2 v) = oam od2 ∧ ogr (arC od2 v) = ogr od2 ∧ osm (arC od2 v) = osm od2 ∧ ome (arC od2 v) = ome od2 ∧ ors (arC od2 v) = ors od2 := by
    intro od2
    unfold arC
    split <;> exact ⟨rfl, rfl, rfl, rfl, rfl, rfl, rfl⟩
  have hif : oif od = 0 ↔ ¬ C = [] := by rw [h2, bI_0]
  have xif : oif (arC (arB nm (arA od j) v) v) = oif od := by rw [(eC _).1, (eB _).1]; rfl
  have xgr : ogr (arC (arB nm (arA od j) v) v) = ogr od := by rw [(eC _).2.2.2.1, (eB _).2.2.2.2.2.1]; rfl
  have xsm : osm (arC (arB nm (arA od j) v) v) = osm od := by rw [(eC _).2.2.2.2.1, (eB _).2.2.2.2.2.2.1]; rfl
  refine ⟨?_, ?_, ?_, ?_, ?_, ?_, ?_⟩
  · intro x hx
    rcases List.mem_append.mp hx with hx | hx
    · exact h1 x hx
    · rw [List.mem_singleton.mp hx]
      exact ⟨hv, hq⟩
  · rw [bI_f (by simp)]
    rfl
  · intro b hb hmn
    have hmn2 : omn od = nI b := by
      rw [← hmn]
      show _ = omn (arC (arB nm (arA od j) v) v)
      rw [(eC _).2.1, (eB _).2.1]
      rfl
    show ors (arC (arB nm (arA od j) v) v) = _
    rw [(eC _).2.2.2.2.2.2, List.countP_append, List.countP_cons, List.countP_nil, Nat.zero_add]
    have h31 := h3 b hb hmn2
    have hne : ¬ omn od = -1 := by rw [hmn2]; exact nI_ne (by omega)
    unfold arB
    rw [show omn (arA od j) = omn od from rfl]
    by_cases hr : rd nm v = some b
    · rw [if_pos ⟨hne, by rw [hmn2]; exact (rdI_iff (fun x hx => rd_lt hx) hb).mpr hr⟩]
      show ors od + owt od = _
      rw [h31, hW, nI_add]
      simp only [hr, decide_true, if_true]
      rw [Nat.mul_add, Nat.mul_one]
    · rw [if_neg (fun x => hr ((rdI_iff (fun x hx => rd_lt hx) hb).mp (by rw [← hmn2]; exact x.2)))]
      show ors od = _
      rw [h31]
      simp [hr]
  · intro b hb
    have eam : oam (arr nm od j v) = oam od := by
      show oam (arC (arB nm (arA od j) v) v) = _
      rw [(eC _).2.2.1, (eB _).2.2.2.2.1]
      rfl
    rw [eam, bst_snoc] at hb
    show one (arC (arB nm (arA od j) v) v) = b.1 ∧ ∀ i (hi : i < b.2.length), onp (arC (arB nm (arA od j) v) v) i = nI b.2[i]
    have new : (b = (v, q)) → one (oSnp (oSne (arB nm (arA od j) v) v) (va_cpy (opg (arB nm (arA od j) v)) (onp (arB nm (arA od j) v)) 0 0 7)) = b.1 ∧ ∀ i (hi : i < b.2.length), onp (oSnp (oSne (arB nm (arA od j) v) v) (va_cpy (opg (arB nm (arA od j) v)) (onp (arB nm (arA od j) v)) 0 0 7)) i = nI b.2[i] := by
      intro e
      subst e
      refine ⟨rfl, fun i hi => ?_⟩
      show va_cpy (opg (arB nm (arA od j) v)) (onp (arB nm (arA od j) v)) 0 0 7 i = _
      have hi2 : i < q.length := hi
      rw [pk_cpy_in (Nat.zero_le i) (by omega), (eB _).2.2.2.2.2.2.2.2]
      rw [show (0 + (i - 0)) = i by omega]
      exact hpg i hi2
    have old : bstL (oam od) C = some b → one (arB nm (arA od j) v) = b.1 ∧ ∀ i (hi : i < b.2.length), onp (arB nm (arA od j) v) i = nI b.2[i] := by
      intro e
      rw [(eB _).2.2.1, (eB _).2.2.2.1]
      exact h4 b e
    unfold arC
    rw [(eB _).1, (eB _).2.2.1, (eB _).2.2.2.2.1, show oif (arA od j) = oif od from rfl, show one (arA od j) = one od from rfl, show oam (arA od j) = oam od from rfl]
    cases hB : bstL (oam od) C with
    | none =>
      rw [hB] at hb
      have e : (v, q) = b := Option.some.inj hb
      have hC : C = [] := by
        apply Classical.byContradiction
        intro hne
        obtain ⟨x, hx⟩ := bst_ex (oam od) hne
        rw [hx] at hB
        cases hB
      rw [if_neg (fun x => (hif.mp x.1) hC)]
      exact new e.symm
    | some b0 =>
      rw [hB] at hb
      obtain ⟨m1, m2⟩ := bst_le (oam od) hB
      have hCne : ¬ C = [] := fun e => by rw [e] at m1; cases m1
      have hb9 := (h1 b0 m1).1
      have e0 := (h4 b0 hB).1
      have ea : absI (one od - oam od) = apI b0.1 (oam od) := by rw [e0]; exact abs_apW hb9 ham
      have eb : absI (v - oam od) = apI v (oam od) := abs_apW hv ham
      rw [ea, eb]
      have hb' : (if dst (oam od) (v, q) < dst (oam od) b0 then some (v, q) else some b0) = some b := hb
      by_cases hlt : dst (oam od) (v, q) < dst (oam od) b0
      · rw [if_pos hlt] at hb'
        have hlt2 : apI v (oam od) < apI b0.1 (oam od) := Int32.lt_iff_toInt_lt.mpr hlt
        rw [if_neg (fun x => absurd hlt2 (Int32.not_lt.mpr x.2))]
        exact new (Option.some.inj hb').symm
      · rw [if_neg hlt] at hb'
        have hlt2 : ¬ apI v (oam od) < apI b0.1 (oam od) := fun x => hlt (Int32.lt_iff_toInt_lt.mp x)
        rw [if_pos ⟨hif.mpr hCne, Int32.not_lt.mp hlt2⟩]
        exact old (by rw [hB]; exact hb')
  · intro x hx
    rw [List.map_append, List.map_singleton, mxL_s] at hx
    show (if oif (arC (arB nm (arA od j) v) v) = 0 then (if ogr (arC (arB nm (arA od j) v) v) < v then v else ogr (arC (arB nm (arA od j) v) v)) else v) = x
    rw [xif, xgr]
    by_cases hC : C = []
    · subst hC
      rw [if_neg (fun e => (hif.mp e) rfl)]
      exact Option.some.inj hx
    · rw [if_pos (hif.mpr hC)]
      obtain ⟨y, hy⟩ := mxL_ex (l := C.map (·.1)) (by simpa using hC)
      rw [hy] at hx
      rw [h5 y hy]
      exact Option.some.inj hx
  · intro x hx
    rw [List.map_append, List.map_singleton, mnL_s] at hx
    show (if oif (arC (arB nm (arA od j) v) v) = 0 then (if v < osm (arC (arB nm (arA od j) v) v) then v else osm (arC (arB nm (arA od j) v) v)) else v) = x
    rw [xif, xsm]
    by_cases hC : C = []
    · subst hC
      rw [if_neg (fun e => (hif.mp e) rfl)]
      exact Option.some.inj hx
    · rw [if_pos (hif.mpr hC)]
      obtain ⟨y, hy⟩ := mnL_ex (l := C.map (·.1)) (by simpa using hC)
      rw [hy] at hx
      rw [h6 y hy]
      exact Option.some.inj hx
  · intro i hi
    show (ome (arC (arB nm (arA od j) v) v) (i / 64)).toBitVec.getLsbD (i % 64) = _
    rw [(eC _).2.2.2.2.2.1, (eB _).2.2.2.2.2.2.2.1]
    show (vp_updL (ome od) (j / 64) (ome od (j / 64) ||| ((1 : Int64) <<< ((nI (j % 64)).toInt64 &&& 63))) (i / 64)).toBitVec.getLsbD (i % 64) = _
    have h7i := h7 i hi
    rw [List.map_append, List.map_singleton]
    have key : (nI i - 9999 ∈ C.map (·.1) ++ [v]) ↔ (nI i - 9999 ∈ C.map (·.1) ∨ i = j) := by
      rw [List.mem_append, List.mem_singleton, hvj]
      constructor
      · rintro (x | x)
        · exact Or.inl x
        · exact Or.inr (nI_j hi (by omega) x)
      · rintro (x | rfl)
        · exact Or.inl x
        · exact Or.inr rfl
    by_cases hd : i / 64 = j / 64
    · rw [hd, pk_uLs, Int64.toBitVec_or, BitVec.getLsbD_or, ← hd, h7i, mt_bit _ (by omega) _ (by omega)]
      by_cases e : i = j
      · subst e
        simp [key, hj]
      · have : ¬ i % 64 = j % 64 := by omega
        rw [show decide (i % 64 = j % 64) = false by simp [this], Bool.or_false, decide_eq_decide, key]
        simp [e]
    · rw [pk_uLn hd, h7i]
      have e : ¬ i = j := fun x => hd (by rw [x])
      rw [decide_eq_decide, key]
      simp [e]
