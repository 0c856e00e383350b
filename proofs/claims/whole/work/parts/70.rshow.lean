/-! ===== the reference: show, check, same ===== -/
section RSHOW
variable {c : Nat → aC} {m : sM} {s : Sg} {n : Nat}
theorem SOk.shp (h : SOk s) {t j : Nat} {v : Int64} (ht : t < 4) (hb : ¬ (zS s t).1 = 0) : SOk (zSS s (va_up (zS s) t (shPut (zS s t) j v))) := by
  obtain ⟨h1, h2, h3, h4⟩ := h
  refine ⟨h1, h2, h3, fun k hk => ?_⟩
  show ShOk (va_up (zS s) t (shPut (zS s t) j v) k)
  by_cases e : k = t
  · subst e
    rw [va_up_s]
    obtain ⟨o1, o2, o3⟩ := h4 k hk
    exact ⟨by rw [shPut_len]; exact o1, o2, fun q => absurd q hb⟩
  · rw [va_up_n e]
    exact h4 k hk
theorem l7_show (X : aX) {l t len : Nat} (hl : l < 4) (ht : t < 4) : ∀ (k w : Nat) (m : sM) (s : Sg), MR n m s → SOk s → (zS s t).2.length = len → ¬ (zS s t).1 = 0 → w + k = min len 21 → G X 10 kX7_show 46 [.ref 81, .int (nI t), .int (nI l), .int 0, .int (nI w), .int (nI w)] [] (HR c m) (MP c n (nI (min len 21), zSS s (va_up (zS s) t (shoK (zL s l) k w (zS s t)))))
  | 0, w, m, s, hM, hS, hlen, hb, hw => by
    have h40 := (hS.2.2.2 t ht).1
    have q2 := (hM.2.2.2.1 t ht).2.1
    have out : G X 10 kX7_show 102 [.ref 81, .int (nI t), .int (nI l), .int 0, .int (nI w), .int (nI w)] [] (HR c m) (MP c n (nI (min len 21), zSS s (va_up (zS s) t (shoK (zL s l) 0 w (zS s t))))) := by
      iterate 1 (refine G.st rfl rfl ?_)
      refine G.ret rfl rfl ⟨by rw [show w = min len 21 by omega], m, rfl, ?_⟩
      show MR n m (zSS s (va_up (zS s) t (zS s t)))
      rw [va_up_id]
      exact hM
    iterate 4 (refine G.st rfl rfl ?_)
    refine G.iald rfl rfl (ix_nI (show t < 4 by omega) (by omega)) ?_
    rw [q2, hlen]
    by_cases hc : nI len ≤ nI w
    · exact G.brt rfl hc out
    · refine G.brf rfl hc ?_
      rw [nI_leI (by omega) (by omega)] at hc
      iterate 2 (refine G.st rfl rfl ?_)
      exact G.brt rfl (by show nI 20 < nI w; rw [nI_ltI (by omega) (by omega)]; omega) out
  | k + 1, w, m, s, hM, hS, hlen, hb, hw => by
    have h40 := (hS.2.2.2 t ht).1
    obtain ⟨q1, q2, q3⟩ := hM.2.2.2.1 t ht
    have hx := ix_nI (show t < 4 by omega) (by omega)
    iterate 4 (refine G.st rfl rfl ?_)
    refine G.iald rfl rfl hx ?_
    rw [q2, hlen]
    refine G.brf rfl (by rw [nI_leI (by omega) (by omega)]; omega) ?_
    iterate 2 (refine G.st rfl rfl ?_)
    refine G.brf rfl (by show ¬ nI 20 < nI w; rw [nI_ltI (by omega) (by omega)]; omega) ?_
    iterate 10 (refine G.st rfl rfl ?_)
    refine G.iald rfl rfl hx ?_
    iterate 3 (refine G.st rfl rfl ?_)
    refine G.call rfl rfl (Nat.le_of_ble_eq_true rfl) (Sp.up (s7_worthBy X hS hM hl) (Nat.le_of_ble_eq_true rfl)) ?_
    rintro _ _ ⟨rfl, m', rfl, hra, hrw, hrn⟩
    have hM' := hra.MR hM
    have eb : mbo m' t = mbo m t := by obtain ⟨f, r, rfl⟩ := hra; rfl
    iterate 1 (refine G.st rfl rfl ?_)
    show G X 10 kX7_show 89 [.ref 81, .int (nI t), .int (nI l), .int 0, .int (nI w), .int (nI w)] [.long (wlst (nI w) (zL s l)).toInt64, .int (mbo m t), .int (40 * nI t + nI w), .ref 89] (HR c m') _
    rw [← eb]
    refine G.call rfl rfl (Nat.le_of_ble_eq_true rfl) (Sp.up (s7_narrow X _ _ _) (Nat.le_of_ble_eq_true rfl)) ?_
    rintro _ _ ⟨rfl, rfl⟩
    refine G.last rfl rfl (ix40 ht (show w < 40 by omega)) ?_
    show G X 10 kX7_show 93 [.ref 81, .int (nI t), .int (nI l), .int 0, .int (nI w), .int (nI w)] [] (HR c (mSnu m' (vp_updL (mnu m') (40 * t + w) (narI (mbo m' t) (wlst (nI w) (zL s l)).toInt64)))) _
    iterate 2 (refine G.st rfl rfl ?_)
    rw [nI_1]
    iterate 1 (refine G.st rfl rfl ?_)
    have hM2 := hM'.shp hS (v := (wlst (nI w) (zL s l)).toInt64) ht (show w < (zS s t).2.length by omega) hb
    have hzs : zS (zSS s (va_up (zS s) t (shPut (zS s t) w (wlst (nI w) (zL s l)).toInt64))) t = shPut (zS s t) w (wlst (nI w) (zL s l)).toInt64 := va_up_s
    have := l7_show X (l := l) (t := t) (len := len) hl ht k (w + 1) _ _ hM2 (hS.shp ht hb) (by rw [hzs, shPut_len]; exact hlen) (by rw [hzs]; exact hb) (by omega)
    rw [hzs] at this
    rw [show zSS (zSS s (va_up (zS s) t (shPut (zS s t) w (wlst (nI w) (zL s l)).toInt64))) (va_up (zS (zSS s (va_up (zS s) t (shPut (zS s t) w (wlst (nI w) (zL s l)).toInt64)))) t (shoK (zL (zSS s (va_up (zS s) t (shPut (zS s t) w (wlst (nI w) (zL s l)).toInt64))) l) k (w + 1) (shPut (zS s t) w (wlst (nI w) (zL s l)).toInt64))) = zSS s (va_up (va_up (zS s) t (shPut (zS s t) w (wlst (nI w) (zL s l)).toInt64)) t (shoK (zL s l) k (w + 1) (shPut (zS s t) w (wlst (nI w) (zL s l)).toInt64))) from rfl, va_up_up] at this
    exact this
theorem p7_show (X : aX) (a b : Int32) (hS : SOk s) (hM : MR n m s) : Sp X 10 kX7_show [.ref 81, .int a, .int b] (HR c m) (MP c n (S_show s a b)) := by
  unfold Sp S_show
  refine h7_show X a b hS hM _ rfl (fun h0 => ?_) (fun h1 v h' hq => ?_)
  · rw [if_pos h0]
    obtain ⟨⟨ha, hb0⟩, hb⟩ := shlF_0.mp h0
    obtain ⟨t, ht, rfl⟩ := lok_n ha
    obtain ⟨l, hl, rfl⟩ := lok_n hb
    rw [ln_nI (by omega)] at hb0
    rw [ln_nI (by omega), ln_nI (by omega)]
    iterate 4 (refine G.st rfl rfl ?_)
    exact l7_show X hl ht (min (zS s t).2.length 21) 0 m s hM hS rfl hb0 (by omega)
  · rw [if_neg h1]
    exact hq
theorem l7_check (X : aX) {l t N : Nat} (hl : l < 4) (ht : t < 4) (hS : SOk s) (hM : MR n m s) (hrw : RW m (zL s l)) (hrn : mrn m = nI (zL s l).length) (hN : N = min (zS s t).2.length (zL s l).length) : ∀ (k i : Nat), i + k = N → G X 10 kX7_check 48 [.ref 81, .int (nI t), .int (nI l), .int 0, .int (nI i)] [] (HR c m) (MP c n (nI (chkN (zW s) (zS s t).2 (zL s l) N k i), s)) := by
  have h40 := (hS.2.2.2 t ht).1
  obtain ⟨q1, q2, q3⟩ := hM.2.2.2.1 t ht
  have h7 := hS.len hl
  have hx := ix_nI (show t < 4 by omega) (by omega)
  have out : ∀ i r : Nat, i ≤ N → (i < N → r = 1 + i) → (i = N → r = if (zS s t).2.length = (zL s l).length then 0 else 1 + N) → G X 10 kX7_check 105 [.ref 81, .int (nI t), .int (nI l), .int 0, .int (nI i)] [] (HR c m) (MP c n (nI r, s)) := by
    intro i r hi h1 h2
    have one : r = 1 + i → G X 10 kX7_check 129 [.ref 81, .int (nI t), .int (nI l), .int 0, .int (nI i)] [] (HR c m) (MP c n (nI r, s)) := by
      intro e
      iterate 3 (refine G.st rfl rfl ?_)
      refine G.ret rfl rfl ⟨?_, m, rfl, hM⟩
      rw [e, ← nI_add]
      rfl
    iterate 4 (refine G.st rfl rfl ?_)
    refine G.iald rfl rfl hx ?_
    rw [q2]
    by_cases ha : i = (zS s t).2.length
    case neg =>
      refine G.brf rfl (fun q => ha ((nI_eq (by omega) (by omega)).mp q)) ?_
      refine one ?_
      by_cases e : i = N
      · rw [h2 e, if_neg (by omega), e]
      · exact h1 (by omega)
    refine G.brt rfl (by rw [ha]) ?_
    iterate 3 (refine G.st rfl rfl ?_)
    show G X 10 kX7_check 122 [.ref 81, .int (nI t), .int (nI l), .int 0, .int (nI i)] [.int (mrn m), .int (nI i)] (HR c m) _
    rw [hrn]
    by_cases hb : i = (zL s l).length
    case neg =>
      refine G.brf rfl (fun q => hb ((nI_eq (by omega) (by omega)).mp q)) ?_
      refine one ?_
      by_cases e : i = N
      · rw [h2 e, if_neg (by omega), e]
      · exact h1 (by omega)
    refine G.brt rfl (by rw [hb]) ?_
    iterate 2 (refine G.st rfl rfl ?_)
    refine G.ret rfl rfl ⟨?_, m, rfl, hM⟩
    rw [h2 (by omega), if_pos (by omega)]
    rfl
  intro k
  induction k with
  | zero =>
    intro i hi
    obtain rfl : i = N := by omega
    have fin' := out i (chkN (zW s) (zS s t).2 (zL s l) i 0 i) (Nat.le_refl _) (fun h => absurd h (Nat.lt_irrefl _)) (fun _ => rfl)
    iterate 4 (refine G.st rfl rfl ?_)
    refine G.iald rfl rfl hx ?_
    rw [q2]
    by_cases hc : nI (zS s t).2.length ≤ nI i
    · exact G.brt rfl hc fin'
    · refine G.brf rfl hc ?_
      rw [nI_leI (by omega) (by omega)] at hc
      iterate 3 (refine G.st rfl rfl ?_)
      show G X 10 kX7_check 65 [.ref 81, .int (nI t), .int (nI l), .int 0, .int (nI i)] [.int (mrn m), .int (nI i)] (HR c m) _
      rw [hrn]
      exact G.brt rfl (by rw [nI_leI (by omega) (by omega)]; omega) fin'
  | succ k ih =>
    intro i hi
    iterate 4 (refine G.st rfl rfl ?_)
    refine G.iald rfl rfl hx ?_
    rw [q2]
    refine G.brf rfl (by rw [nI_leI (by omega) (by omega)]; omega) ?_
    iterate 3 (refine G.st rfl rfl ?_)
    show G X 10 kX7_check 65 [.ref 81, .int (nI t), .int (nI l), .int 0, .int (nI i)] [.int (mrn m), .int (nI i)] (HR c m) _
    rw [hrn]
    refine G.brf rfl (by rw [nI_leI (by omega) (by omega)]; omega) ?_
    iterate 7 (refine G.st rfl rfl ?_)
    refine G.lald rfl rfl (ix40 ht (show i < 40 by omega)) ?_
    rw [q3 i (by omega)]
    iterate 4 (refine G.st rfl rfl ?_)
    rw [nI_1]
    iterate 3 (refine G.st rfl rfl ?_)
    refine G.iald rfl rfl (j := 4) ⟨by decide, rfl, by decide⟩ ?_
    rw [hM.1.2.1]
    refine G.call rfl rfl (Nat.le_of_ble_eq_true rfl) (Sp.up (s7_worthOfFirst X hrw (hS.gk hl) (show i + 1 ≤ (zL s l).length by omega) (by omega)) (Nat.le_of_ble_eq_true rfl)) ?_
    rintro _ _ ⟨rfl, rfl⟩
    iterate 2 (refine G.st rfl rfl ?_)
    show G X 10 kX7_check 96 [.ref 81, .int (nI t), .int (nI l), .int 0, .int (nI i)] [.int (lg_cmp ((zS s t).2.getD i 0) (wlst (zW s) ((zL s l).take (i + 1))).toInt64)] (HR c m) _
    unfold chkN
    by_cases hc : (zS s t).2.getD i 0 = (wlst (zW s) ((zL s l).take (i + 1))).toInt64
    · rw [if_pos hc]
      refine G.brt rfl (lg_cmp0.mpr hc) ?_
      iterate 1 (refine G.st rfl rfl ?_)
      rw [nI_1]
      iterate 1 (refine G.st rfl rfl ?_)
      exact ih (i + 1) (by omega)
    · rw [if_neg hc]
      refine G.brf rfl (fun q => hc (lg_cmp0.mp q)) ?_
      exact out i (1 + i) (by omega) (fun _ => rfl) (fun h => by omega)
theorem p7_check (X : aX) (a b : Int32) (hS : SOk s) (hM : MR n m s) : Sp X 10 kX7_check [.ref 81, .int a, .int b] (HR c m) (MP c n (S_check s a b)) := by
  unfold Sp S_check
  refine h7_check X a b hS hM _ rfl (fun h0 => ?_) (fun h1 v h' hq => ?_)
  · rw [if_pos h0]
    obtain ⟨⟨ha, hb0⟩, hb⟩ := shlF_0.mp h0
    obtain ⟨t, ht, rfl⟩ := lok_n ha
    obtain ⟨l, hl, rfl⟩ := lok_n hb
    rw [ln_nI (by omega), ln_nI (by omega)]
    iterate 2 (refine G.st rfl rfl ?_)
    refine G.call rfl rfl (Nat.le_of_ble_eq_true rfl) (Sp.up (s7_lays X hS hM hl) (Nat.le_of_ble_eq_true rfl)) ?_
    rintro _ _ ⟨rfl, m', rfl, hra, hrw, hrn⟩
    iterate 2 (refine G.st rfl rfl ?_)
    exact l7_check X hl ht hS (hra.MR hM) hrw hrn rfl _ 0 (by omega)
  · rw [if_neg h1]
    exact hq
theorem peg_lt (hS : SOk s) {l p : Nat} (hl : l < 4) (hp : p < 2 ^ 31) : pegOk s (nI l) (nI p) ↔ p < (zL s l).length := by
  have h7 := hS.len hl
  unfold pegOk lok
  rw [ln_nI (by omega), nI_ltI hp (by omega)]
  constructor
  · exact fun q => q.2.2
  · intro q
    refine ⟨⟨nI_pos' (by omega), ?_⟩, nI_pos' hp, q⟩
    show nI l ≤ nI 3
    rw [nI_leI (by omega) (by omega)]
    omega
theorem l7_same (X : aX) {a b N : Nat} (ha : a < 4) (hb : b < 4) (hS : SOk s) (hM : MR n m s) (hN : N = min (zL s a).length (zL s b).length) : ∀ (k i : Nat) (u5 u6 : Value), i + k = N → G X 10 kX7_same 26 [.ref 81, .int (nI a), .int (nI b), .int (nI (likeN (gD (zL s a)) (gD (zL s b)) i)), .int (nI i), u5, u6] [] (HR c m) (MP c n (nI (likeN (gD (zL s a)) (gD (zL s b)) N), s))
  | 0, i, u5, u6, hi => by
    have h7 := hS.len ha
    have h8 := hS.len hb
    have out : G X 10 kX7_same 114 [.ref 81, .int (nI a), .int (nI b), .int (nI (likeN (gD (zL s a)) (gD (zL s b)) i)), .int (nI i), u5, u6] [] (HR c m) (MP c n (nI (likeN (gD (zL s a)) (gD (zL s b)) N), s)) := by
      iterate 1 (refine G.st rfl rfl ?_)
      exact G.ret rfl rfl ⟨by rw [show i = N by omega], m, rfl, hM⟩
    iterate 3 (refine G.st rfl rfl ?_)
    refine G.call rfl rfl (Nat.le_of_ble_eq_true rfl) (Sp.up (s7_isPeg X hS hM (nI a) (nI i)) (Nat.le_of_ble_eq_true rfl)) ?_
    rintro _ _ ⟨rfl, rfl⟩
    by_cases h1 : i < (zL s a).length
    · refine G.brf rfl (bI_n ((peg_lt hS ha (by omega)).mpr h1)) ?_
      iterate 3 (refine G.st rfl rfl ?_)
      refine G.call rfl rfl (Nat.le_of_ble_eq_true rfl) (Sp.up (s7_isPeg X hS hM (nI b) (nI i)) (Nat.le_of_ble_eq_true rfl)) ?_
      rintro _ _ ⟨rfl, rfl⟩
      exact G.brt rfl (bI_0.mpr (fun q => by have := (peg_lt hS hb (by omega)).mp q; omega)) out
    · exact G.brt rfl (bI_0.mpr (fun q => h1 ((peg_lt hS ha (by omega)).mp q))) out
  | k + 1, i, u5, u6, hi => by
    have h7 := hS.len ha
    have h8 := hS.len hb
    obtain ⟨g1, g2, g3⟩ := hM.gar ha (show i < (zL s a).length by omega)
    obtain ⟨e1, e2, e3⟩ := hM.gar hb (show i < (zL s b).length by omega)
    have hpa := pl_lt ha (show i < 7 by omega)
    have hpb := pl_lt hb (show i < 7 by omega)
    iterate 3 (refine G.st rfl rfl ?_)
    refine G.call rfl rfl (Nat.le_of_ble_eq_true rfl) (Sp.up (s7_isPeg X hS hM (nI a) (nI i)) (Nat.le_of_ble_eq_true rfl)) ?_
    rintro _ _ ⟨rfl, rfl⟩
    refine G.brf rfl (bI_n ((peg_lt hS ha (by omega)).mpr (by omega))) ?_
    iterate 3 (refine G.st rfl rfl ?_)
    refine G.call rfl rfl (Nat.le_of_ble_eq_true rfl) (Sp.up (s7_isPeg X hS hM (nI b) (nI i)) (Nat.le_of_ble_eq_true rfl)) ?_
    rintro _ _ ⟨rfl, rfl⟩
    refine G.brf rfl (bI_n ((peg_lt hS hb (by omega)).mpr (by omega))) ?_
    iterate 2 (refine G.st rfl rfl ?_)
    refine G.call rfl rfl (Nat.le_of_ble_eq_true rfl) (Sp.up (s7_pl X a i _) (Nat.le_of_ble_eq_true rfl)) ?_
    rintro _ _ ⟨rfl, rfl⟩
    iterate 3 (refine G.st rfl rfl ?_)
    refine G.call rfl rfl (Nat.le_of_ble_eq_true rfl) (Sp.up (s7_pl X b i _) (Nat.le_of_ble_eq_true rfl)) ?_
    rintro _ _ ⟨rfl, rfl⟩
    show G X 10 kX7_same 60 [.ref 81, .int (nI a), .int (nI b), .int (nI (likeN (gD (zL s a)) (gD (zL s b)) i)), .int (nI i), .int (nI (pl a i)), u6] [.int (nI (pl b i))] (HR c m) _
    iterate 5 (refine G.st rfl rfl ?_)
    refine G.iald rfl rfl (ix_nI (show pl a i < 110 by omega) (by omega)) ?_
    iterate 3 (refine G.st rfl rfl ?_)
    refine G.iald rfl rfl (ix_nI (show pl b i < 110 by omega) (by omega)) ?_
    rw [g1, e1]
    have rest : ∀ x : Nat, likeN (gD (zL s a)) (gD (zL s b)) (i + 1) = likeN (gD (zL s a)) (gD (zL s b)) i + x → G X 10 kX7_same 106 [.ref 81, .int (nI a), .int (nI b), .int (nI (likeN (gD (zL s a)) (gD (zL s b)) i)), .int (nI i), .int (nI (pl a i)), .int (nI (pl b i))] [.int (nI x), .int (nI (likeN (gD (zL s a)) (gD (zL s b)) i))] (HR c m) (MP c n (nI (likeN (gD (zL s a)) (gD (zL s b)) N), s)) := by
      intro x hx
      iterate 1 (refine G.st rfl rfl ?_)
      rw [nI_add, ← hx]
      iterate 2 (refine G.st rfl rfl ?_)
      rw [nI_1]
      iterate 1 (refine G.st rfl rfl ?_)
      exact l7_same X ha hb hS hM hN k (i + 1) _ _ (by omega)
    by_cases hk : (gD (zL s a) i).1 = (gD (zL s b) i).1
    case neg =>
      refine G.brf rfl hk ?_
      iterate 1 (refine G.st rfl rfl ?_)
      refine rest 0 ?_
      conv => lhs; unfold likeN
      rw [if_neg (fun q => hk q.1)]
    refine G.brt rfl hk ?_
    iterate 5 (refine G.st rfl rfl ?_)
    rw [nI_1]
    refine G.iald rfl rfl (ix_nI (show pl a i + 1 < 110 by omega) (by omega)) ?_
    iterate 5 (refine G.st rfl rfl ?_)
    rw [nI_1]
    refine G.iald rfl rfl (ix_nI (show pl b i + 1 < 110 by omega) (by omega)) ?_
    rw [g2, e2]
    by_cases hz : (gD (zL s a) i).2.1 = (gD (zL s b) i).2.1
    · refine G.brt rfl hz ?_
      iterate 2 (refine G.st rfl rfl ?_)
      refine rest 1 ?_
      conv => lhs; unfold likeN
      rw [if_pos ⟨hk, hz⟩]
    · refine G.brf rfl hz ?_
      iterate 1 (refine G.st rfl rfl ?_)
      refine rest 0 ?_
      conv => lhs; unfold likeN
      rw [if_neg (fun q => hz q.2)]
theorem p7_same (X : aX) (a b : Int32) (hS : SOk s) (hM : MR n m s) : Sp X 10 kX7_same [.ref 81, .int a, .int b] (HR c m) (MP c n (S_same s a b)) := by
  unfold Sp S_same
  show G X 10 kX7_same 0 [.ref 81, .int a, .int b, .double 0, .double 0, .double 0, .double 0] [] _ _
  have bad : G X 10 kX7_same 14 [.ref 81, .int a, .int b, .double 0, .double 0, .double 0, .double 0] [] (HR c m) (MP c n (fin 0 s)) := by
    iterate 2 (refine G.st rfl rfl ?_)
    refine G.call rfl rfl (Nat.le_of_ble_eq_true rfl) (Sp.up (c7_f0 X hM) (Nat.le_of_ble_eq_true rfl)) ?_
    rintro _ _ ⟨rfl, hci⟩
    exact G.ret rfl rfl ⟨rfl, hci⟩
  iterate 1 (refine G.st rfl rfl ?_)
  refine G.call rfl rfl (Nat.le_of_ble_eq_true rfl) (Sp.up (s7_isLine X a _) (Nat.le_of_ble_eq_true rfl)) ?_
  rintro _ _ ⟨rfl, rfl⟩
  by_cases hl : 0 ≤ a ∧ a ≤ 3
  case neg =>
    rw [if_neg (fun q => hl q.1)]
    exact G.brt rfl (bI_0.mpr hl) bad
  refine G.brf rfl (bI_n hl) ?_
  iterate 1 (refine G.st rfl rfl ?_)
  refine G.call rfl rfl (Nat.le_of_ble_eq_true rfl) (Sp.up (s7_isLine X b _) (Nat.le_of_ble_eq_true rfl)) ?_
  rintro _ _ ⟨rfl, rfl⟩
  by_cases hm : 0 ≤ b ∧ b ≤ 3
  case neg =>
    rw [if_neg (fun q => hm q.2)]
    exact G.brt rfl (bI_0.mpr hm) bad
  refine G.brf rfl (bI_n hm) ?_
  rw [if_pos ⟨hl, hm⟩]
  obtain ⟨l, hl4, rfl⟩ := lok_n hl
  obtain ⟨l2, hl42, rfl⟩ := lok_n hm
  rw [ln_nI (by omega), ln_nI (by omega)]
  iterate 4 (refine G.st rfl rfl ?_)
  exact l7_same X hl4 hl42 hS hM rfl (min (zL s l).length (zL s l2).length) 0 (.double 0) (.double 0) (by omega)
end RSHOW
