section SHOW
variable {rw : Nat → sR} {nu : Nat → Nat → Int32} {wd : Nat → Int32 × Int32} {vo : sV} {od : sO} {tp : sP} {sh : Nat → sS} {fi : Nat → Int32} {ik : Int32} {m : sM} {s : Sg}
/-- a sheet takes a number at a place -/
def shPut (q : Int32 × List Int64) (i : Nat) (v : Int64) : Int32 × List Int64 := (q.1, q.2.set i (narI q.1 v))
theorem CR.sput (hC : CR rw nu wd tp sh fi ik s) {c i : Nat} (hc : c < 4) (hi : i < (zS s c).2.length) (hb : ¬ (zS s c).1 = 0) (v : Int64) : CR rw nu wd tp (va_up sh c (vp_updL (sh c).1 i (narI (sh c).2.1 v), (sh c).2)) fi ik (zSS s (va_up (zS s) c (shPut (zS s c) i v))) := by
  obtain ⟨⟨o1, o2, o3⟩, ⟨c1, c2, c3⟩⟩ := hC.shk hc
  refine hC.sset hc ⟨?_, o2, fun q => absurd q hb⟩ ⟨c1, ?_, fun j hj => ?_⟩
  · show ((zS s c).2.set i _).length ≤ 40
    rw [List.length_set]
    exact o1
  · show (sh c).2.2 = ((zS s c).2.set i _).length
    rw [List.length_set]
    exact c2
  · have hj2 : j < (zS s c).2.length := by
      have : j < ((zS s c).2.set i (narI (zS s c).1 v)).length := hj
      rw [List.length_set] at this
      exact this
    show vp_updL (sh c).1 i (narI (sh c).2.1 v) j = ((zS s c).2.set i (narI (zS s c).1 v))[j]'(by rw [List.length_set]; exact hj2)
    rw [List.getElem_set, c1]
    by_cases e : i = j
    · subst e
      rw [if_pos rfl]
      exact pk_uLs
    · rw [if_neg e, ← c3 j hj2]
      exact pk_uLn (Ne.symm e)
theorem va_up_up {α : Type} {f : Nat → α} {k : Nat} {x y : α} : va_up (va_up f k x) k y = va_up f k y := by
  funext j
  by_cases e : j = k
  · subst e
    rw [va_up_s, va_up_s]
  · rw [va_up_n e, va_up_n e, va_up_n e]
theorem va_up_id {α : Type} {f : Nat → α} {k : Nat} : va_up f k (f k) = f := by
  funext j
  by_cases e : j = k
  · subst e
    rw [va_up_s]
  · rw [va_up_n e]
theorem shPut_len {q : Int32 × List Int64} {i : Nat} {v : Int64} : (shPut q i v).2.length = q.2.length := List.length_set
/-- the worths of a line in the winds i, i + 1, .. (k of them) are put on a sheet -/
def shoK (g : List Gar) : Nat → Nat → Int32 × List Int64 → Int32 × List Int64
  | 0, _, q => q
  | k + 1, i, q => shoK g k (i + 1) (shPut q i (wlst (nI i) g).toInt64)
theorem l6_show (X : aX) {l c n : Nat} {u1 u3 : Int32} (hl4 : l < 4) (hc4 : c < 4) (hn : n ≤ 21) : ∀ (k i : Nat) (vo : sV) (sh : Nat → sS) (s : Sg), CR rw nu wd tp sh fi ik s → n ≤ (zS s c).2.length → ¬ (zS s c).1 = 0 → i + k = n → G X 10 kX6_show 40 [.ref 0, .int u1, .int (nI l), .int u3, .ref (sb c), .int (nI n), .int (nI i)] [] (H rw nu wd vo od tp sh fi ik m) (fun v h' => v = some (.int (nI n)) ∧ CI m (zSS s (va_up (zS s) c (shoK (zL s l) k i (zS s c)))) h') := by
  intro k
  induction k with
  | zero =>
    intro i vo sh s hC hnl hb hi
    iterate 2 (refine G.st rfl rfl ?_)
    refine G.brt rfl (by rw [nI_leI (by omega) (by omega)]; omega) ?_
    iterate 1 (refine G.st rfl rfl ?_)
    refine G.ret rfl rfl ⟨rfl, ?_⟩
    unfold shoK
    rw [va_up_id]
    exact CI.mk hC
  | succ k ih =>
    intro i vo sh s hC hnl hb hi
    obtain ⟨hr, hgk, h7⟩ := hC.rep hl4
    obtain ⟨⟨o1, o2, o3⟩, ⟨c1, c2, c3⟩⟩ := hC.shk hc4
    iterate 2 (refine G.st rfl rfl ?_)
    refine G.brf rfl (by rw [nI_leI (by omega) (by omega)]; omega) ?_
    iterate 7 (refine G.st rfl rfl ?_)
    refine G.aald rfl rfl (by decide) (ix_nI hl4 (by omega)) (rf4_row hl4) ?_
    iterate 1 (refine G.st rfl rfl ?_)
    refine G.call rfl rfl (Nat.le_of_ble_eq_true rfl) (Sp.up (s6_worthOf X (show l < 13 by omega) hr hgk) (Nat.le_of_ble_eq_true rfl)) ?_
    rintro _ _ ⟨rfl, vo1, rfl⟩
    iterate 1 (refine G.st rfl rfl ?_)
    have hsh := H_sh (rw := rw) (nu := nu) (wd := wd) (vo := vo1) (od := od) (tp := tp) (sh := sh) (fi := fi) (ik := ik) (m := m) hc4
    refine G.callv rfl rfl rfl (hsh.1) (Nat.le_of_ble_eq_true rfl) rfl (Nat.le_of_ble_eq_true rfl) (Sp.up (s2_put X hsh (by rw [c1]; exact o2.resolve_left hb) (show i < 40 by omega)) (Nat.le_of_ble_eq_true rfl)) ?_
    rintro _ _ ⟨rfl, rfl⟩
    rw [H_sset hc4]
    iterate 1 (refine G.st rfl rfl ?_)
    rw [nI_1]
    iterate 1 (refine G.st rfl rfl ?_)
    have hC' := hC.sput hc4 (show i < (zS s c).2.length by omega) hb (wlst (nI i) (zL s l)).toInt64
    have := ih (i + 1) vo1 _ _ hC' (by rw [show zS (zSS s (va_up (zS s) c (shPut (zS s c) i (wlst (nI i) (zL s l)).toInt64))) c = _ from va_up_s, shPut_len]; exact hnl) (by rw [show zS (zSS s (va_up (zS s) c (shPut (zS s c) i (wlst (nI i) (zL s l)).toInt64))) c = _ from va_up_s]; exact hb) (by omega)
    refine G.imp this ?_
    rintro _ _ ⟨rfl, h2⟩
    refine ⟨rfl, ?_⟩
    unfold shoK
    rw [show zS (zSS s (va_up (zS s) c (shPut (zS s c) i (wlst (nI i) (zL s l)).toInt64))) = va_up (zS s) c (shPut (zS s c) i (wlst (nI i) (zL s l)).toInt64) from rfl, va_up_up, va_up_s] at h2
    exact h2
def S_show (s : Sg) (a b : Int32) : Int32 × Sg := if shlF s a b = 0 then (nI (min (zS s (ln a)).2.length 21), zSS s (va_up (zS s) (ln a) (shoK (zL s (ln b)) (min (zS s (ln a)).2.length 21) 0 (zS s (ln a))))) else fin (shlK s a) s
theorem p6_show (X : aX) (a b : Int32) {h : aH} (hC : CI m s h) : Sp X 10 kX6_show [.ref 0, .int a, .int b] h (fun v h' => v = some (.int (S_show s a b).1) ∧ CI m (S_show s a b).2 h') := by
  obtain ⟨rw, nu, wd, vo, od, tp, sh, fi, ik, rfl, hC⟩ := hC
  unfold Sp S_show
  iterate 3 (refine G.st rfl rfl ?_)
  refine G.call rfl rfl (Nat.le_of_ble_eq_true rfl) (Sp.up (s6_sheetAndLineFinding X a b hC) (Nat.le_of_ble_eq_true rfl)) ?_
  rintro _ _ ⟨rfl, rfl⟩
  iterate 2 (refine G.st rfl rfl ?_)
  by_cases h0 : shlF s a b = 0
  case neg =>
    rw [if_neg h0]
    refine G.brf rfl h0 ?_
    iterate 2 (refine G.st rfl rfl ?_)
    refine G.call rfl rfl (Nat.le_of_ble_eq_true rfl) (Sp.up (c6_shlF X a b hC h0) (Nat.le_of_ble_eq_true rfl)) ?_
    rintro _ _ ⟨rfl, hci⟩
    exact G.ret rfl rfl ⟨rfl, hci⟩
  rw [if_pos h0]
  refine G.brt rfl h0 ?_
  obtain ⟨⟨ha, hz⟩, hb⟩ := shlF_0.mp h0
  rw [h0]
  obtain ⟨c, hc4, rfl⟩ := lok_n ha
  obtain ⟨l, hl4, rfl⟩ := lok_n hb
  rw [ln_nI (by omega)] at hz
  rw [ln_nI (by omega), ln_nI (by omega)]
  obtain ⟨⟨o1, o2, o3⟩, ⟨c1, c2, c3⟩⟩ := hC.shk hc4
  show G X 10 kX6_show 17 [.ref 0, .int (nI c), .int (nI l), .int 0, .double 0, .double 0, .double 0] [] _ _
  iterate 3 (refine G.st rfl rfl ?_)
  refine G.aald rfl rfl (by decide) (ix_nI hc4 (by omega)) (rf4_sh hc4) ?_
  iterate 2 (refine G.st rfl rfl ?_)
  refine G.get rfl (H_sh hc4).1 rfl ?_
  rw [c2]
  iterate 2 (refine G.st rfl rfl ?_)
  rw [show (21 : Int32) = nI 21 from rfl, min_nI (by omega) (by omega)]
  iterate 3 (refine G.st rfl rfl ?_)
  exact l6_show X hl4 hc4 (by omega) _ 0 vo sh s hC (by omega) hz (by omega)
end SHOW
