section FEED
variable {rw : Nat → sR} {nu : Nat → Nat → Int32} {wd : Nat → Int32 × Int32} {vo : sV} {od : sO} {tp : sP} {sh : Nat → sS} {fi : Nat → Int32} {ik : Int32} {m : sM} {s : Sg}
theorem s3_add (X : aX) {n : Nat} {v : Int32} (hn : pln tp = nI n) (h : n < 120) : Sp X 0 kX3_add [.ref 69, .int v] (H rw nu wd vo od tp sh fi ik m) (An none (H rw nu wd vo od (pSln (pSby tp (upd (pby tp) n v)) (nI (n + 1))) sh fi ik m)) := by
  unfold Sp
  iterate 3 (refine G.st rfl rfl ?_)
  rw [hn]
  refine G.brf rfl (nle_nI (k := 120) rfl h (by omega)) ?_
  iterate 5 (refine G.st rfl rfl ?_)
  rw [hn]
  refine G.iast rfl rfl (ix_nI h (by omega)) ?_
  iterate 5 (refine G.st rfl rfl ?_)
  rw [hn, nI_1]
  iterate 1 (refine G.st rfl rfl ?_)
  exact G.ret rfl rfl ⟨rfl, rfl⟩
theorem CR.tadd (hC : CR rw nu wd tp sh fi ik s) {v : Int32} (hv : 0 ≤ v ∧ v ≤ 255) (h : (zT s).length < 120) : CR rw nu wd (pSln (pSby tp (upd (pby tp) (zT s).length v)) (nI ((zT s).length + 1))) sh fi ik (zST s (zT s ++ [v])) := by
  obtain ⟨h1, h2, ⟨t1, ⟨t2, t2'⟩, t3⟩, h4⟩ := hC
  refine ⟨h1, h2, ⟨?_, ⟨?_, fun x hx => ?_⟩, fun j hj => ?_⟩, h4⟩
  · show nI ((zT s).length + 1) = nI (zT s ++ [v]).length
    rw [List.length_append]
    rfl
  · show (zT s ++ [v]).length ≤ 120
    rw [List.length_append]
    show (zT s).length + 1 ≤ 120
    omega
  · rcases List.mem_append.mp (show x ∈ zT s ++ [v] from hx) with q | q
    · exact t2' x q
    · rw [List.mem_singleton.mp q]
      exact hv
  · show upd (pby tp) (zT s).length v j = (zT s ++ [v])[j]'hj
    by_cases e : j = (zT s).length
    · subst e
      rw [upd_s, List.getElem_concat_length rfl]
    · have hj2 : j < (zT s).length := by
        have : j < (zT s ++ [v]).length := hj
        rw [List.length_append] at this
        have : j < (zT s).length + 1 := this
        omega
      rw [upd_n e, List.getElem_append_left hj2]
      exact t3 j hj2
/-- byte i of v -/
def byI (v : Int32) (i : Nat) : Int32 := (v.toUInt32 >>> ((8 * nI i).toUInt32 &&& Int32.toUInt32 31)).toInt32 &&& 255
theorem and255 (x : Int32) : 0 ≤ x &&& 255 ∧ x &&& 255 ≤ 255 := by
  have hn : (x.toBitVec &&& 255#32).toNat ≤ 255 := by
    rw [BitVec.toNat_and]
    exact Nat.and_le_right
  have ht : (x &&& 255).toInt = ((x.toBitVec &&& 255#32).toNat : Int) := BitVec.toInt_eq_toNat_of_lt (x := x.toBitVec &&& 255#32) (by omega)
  constructor
  · rw [Int32.le_iff_toInt_le, ht, show (0 : Int32).toInt = 0 from rfl]
    omega
  · rw [Int32.le_iff_toInt_le, ht, show (255 : Int32).toInt = 255 from rfl]
    omega
def fdL (v : Int32) : Nat → List Int32
  | 0 => []
  | n + 1 => byI v n :: fdL v n
theorem l6_feed (X : aX) {v u : Int32} : ∀ (k : Nat) (tp : sP) (s : Sg), CR rw nu wd tp sh fi ik s → k ≤ 4 → (zT s).length + k ≤ 120 → G X 10 kX6_feed 41 [.ref 0, .int v, .int u, .int (nI k - 1)] [] (H rw nu wd vo od tp sh fi ik m) (fun r h' => r = some (.int (nI (zT s ++ fdL v k).length)) ∧ CI m (zST s (zT s ++ fdL v k)) h') := by
  intro k
  induction k with
  | zero =>
    intro tp s hC hk hl
    iterate 1 (refine G.st rfl rfl ?_)
    refine G.brt rfl (show nI 0 - 1 < 0 by decide) ?_
    iterate 3 (refine G.st rfl rfl ?_)
    rw [hC.2.2.1.1]
    unfold fdL
    rw [List.append_nil]
    exact G.ret rfl rfl ⟨rfl, CI.mk hC⟩
  | succ k ih =>
    intro tp s hC hk hl
    rw [nI_p (by omega), Nat.add_sub_cancel]
    iterate 1 (refine G.st rfl rfl ?_)
    refine G.brf rfl (Int32.not_lt.mpr (nI_pos' (by omega))) ?_
    iterate 9 (refine G.st rfl rfl ?_)
    refine G.call rfl rfl (Nat.le_of_ble_eq_true rfl) (Sp.up (s3_add X hC.2.2.1.1 (show (zT s).length < 120 by omega)) (Nat.le_of_ble_eq_true rfl)) ?_
    rintro _ _ ⟨rfl, rfl⟩
    iterate 1 (refine G.st rfl rfl ?_)
    rw [show nI k + -1 = nI k - 1 by grind]
    iterate 1 (refine G.st rfl rfl ?_)
    have hC' := hC.tadd (and255 (v.toUInt32 >>> ((8 * nI k).toUInt32 &&& Int32.toUInt32 31)).toInt32) (by omega)
    have := ih _ _ hC' (by omega) (by rw [show zT (zST s (zT s ++ [_])) = _ from rfl, List.length_append]; show (zT s).length + 1 + k ≤ 120; omega)
    rw [show zT (zST s (zT s ++ [(v.toUInt32 >>> ((8 * nI k).toUInt32 &&& Int32.toUInt32 31)).toInt32 &&& 255])) = zT s ++ [byI v k] from rfl, List.append_assoc] at this
    exact this
def S_feed (s : Sg) (v n : Int32) : Int32 × Sg := if 1 ≤ n ∧ n ≤ 4 then (if (zT s).length + ln n ≤ 120 then (nI (zT s ++ fdL v (ln n)).length, zST s (zT s ++ fdL v (ln n))) else fin 1 s) else fin 0 s
theorem p6_feed (X : aX) (v n : Int32) {h : aH} (hC : CI m s h) : Sp X 10 kX6_feed [.ref 0, .int v, .int n] h (fun r h' => r = some (.int (S_feed s v n).1) ∧ CI m (S_feed s v n).2 h') := by
  obtain ⟨rw, nu, wd, vo, od, tp, sh, fi, ik, rfl, hC⟩ := hC
  unfold Sp S_feed
  iterate 3 (refine G.st rfl rfl ?_)
  refine G.call rfl rfl (Nat.le_of_ble_eq_true rfl) (Sp.up (s6_isWithin X n 1 4 _) (Nat.le_of_ble_eq_true rfl)) ?_
  rintro _ _ ⟨rfl, rfl⟩
  by_cases hl : 1 ≤ n ∧ n ≤ 4
  case neg =>
    rw [if_neg hl]
    refine G.brt rfl (bI_0.mpr hl) ?_
    iterate 2 (refine G.st rfl rfl ?_)
    refine G.call rfl rfl (Nat.le_of_ble_eq_true rfl) (Sp.up (c6_f0 X hC) (Nat.le_of_ble_eq_true rfl)) ?_
    rintro _ _ ⟨rfl, hci⟩
    exact G.ret rfl rfl ⟨rfl, hci⟩
  rw [if_pos hl]
  refine G.brf rfl (bI_n hl) ?_
  obtain ⟨k, hk, rfl⟩ := nI_arg (k := 4) rfl (by omega) (Int32.le_trans (by decide) hl.1) hl.2
  rw [ln_nI (by omega)]
  have h120 := hC.2.2.1.2.1.1
  iterate 6 (refine G.st rfl rfl ?_)
  rw [hC.2.2.1.1, nI_add]
  by_cases h1 : (zT s).length + k ≤ 120
  case neg =>
    rw [if_neg h1]
    refine G.brf rfl (by rw [show (120 : Int32) = nI 120 from rfl, nI_leI (by omega) (by omega)]; omega) ?_
    iterate 2 (refine G.st rfl rfl ?_)
    refine G.call rfl rfl (Nat.le_of_ble_eq_true rfl) (Sp.up (c6_f1 X hC) (Nat.le_of_ble_eq_true rfl)) ?_
    rintro _ _ ⟨rfl, hci⟩
    exact G.ret rfl rfl ⟨rfl, hci⟩
  rw [if_pos h1]
  refine G.brt rfl (by rw [show (120 : Int32) = nI 120 from rfl, nI_leI (by omega) (by omega)]; omega) ?_
  iterate 4 (refine G.st rfl rfl ?_)
  exact l6_feed X k tp s hC hk h1
end FEED
