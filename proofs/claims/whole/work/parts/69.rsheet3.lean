/-! ===== the reference: lays, show, check, same ===== -/
theorem r59 {x : Int64} (h1 : 0 ≤ x) (h2 : x ≤ 59) : ∃ k, k < 60 ∧ x = (nI k).toInt64 := by
  have a1 := Int64.le_iff_toInt_le.mp h1
  have a2 := Int64.le_iff_toInt_le.mp h2
  rw [show (0 : Int64).toInt = 0 from rfl] at a1
  rw [show (59 : Int64).toInt = 59 from rfl] at a2
  obtain ⟨k, hc⟩ := Int.eq_ofNat_of_zero_le a1
  refine ⟨k, by omega, ?_⟩
  have key : ∀ k, k < 60 → (nI k).toInt64 = Int64.ofInt (Int.ofNat k) := by decide +kernel
  rw [key k (by omega), ← Int64.ofInt_toInt x, hc]
  rfl
theorem gc60 : ∀ k, k < 60 → (gCode (nI k).toInt64 ↔ ((0 ≤ (nI k).toInt64.toInt32 / 10 ∧ (nI k).toInt64.toInt32 / 10 ≤ 5) ∧ 1 ≤ (nI k).toInt64.toInt32 - (nI k).toInt64.toInt32 / 10 * 10 ∧ (nI k).toInt64.toInt32 - (nI k).toInt64.toInt32 / 10 * 10 ≤ 9)) := by decide +kernel
theorem gc_lt {x : Int64} (h : gCode x) : 0 ≤ x ∧ x ≤ 59 := by
  obtain ⟨k, h1, h2, rfl⟩ := gCode_n h
  have key : ∀ k, k < 60 → 0 ≤ (nI k).toInt64 ∧ (nI k).toInt64 ≤ 59 := by decide +kernel
  exact key k h2
theorem gc_iff {x : Int64} (h1 : 0 ≤ x ∧ x ≤ 59) : gCode x ↔ ((0 ≤ x.toInt32 / 10 ∧ x.toInt32 / 10 ≤ 5) ∧ 1 ≤ x.toInt32 - x.toInt32 / 10 * 10 ∧ x.toInt32 - x.toInt32 / 10 * 10 ≤ 9) := by
  obtain ⟨k, hk, rfl⟩ := r59 h1.1 h1.2
  exact gc60 k hk
section RSHEET3
variable {c : Nat → aC} {m : sM} {s : Sg} {n : Nat}
theorem SOk.line (h : SOk s) {l : Nat} {g : List Gar} (hg : gKs g) (h7 : g.length ≤ 7) : SOk (zSL s (va_up (zL s) l g)) := by
  obtain ⟨⟨a1, a2⟩, h2, h3⟩ := h
  refine ⟨⟨fun k hk => ?_, a2⟩, h2, h3⟩
  show gKs (va_up (zL s) l g k) ∧ (va_up (zL s) l g k).length ≤ 7
  by_cases e : k = l
  · subst e
    rw [va_up_s]
    exact ⟨hg, h7⟩
  · rw [va_up_n e]
    exact a1 k hk
theorem l7_layK (X : aX) {l t N : Nat} {S : Nat → Int32 × List Int64} (hl : l < 4) (ht : t < 4) (hN : N = min (S t).2.length 7) : ∀ (k i : Nat) (m : sM) (s : Sg) (u5 u6 : Value), MR n m s → SOk s → zS s = S → (zL s l).length = i → i + k = N → G X 10 kX7_lays_ 52 [.ref 81, .int (nI t), .int (nI l), .int 0, .int (nI i), u5, u6] [] (HR c m) (MP c n (nI (layK (S t).2 k i (zL s l)).length, zSL s (va_up (zL s) l (layK (S t).2 k i (zL s l)))))
  | 0, i, m, s, u5, u6, hM, hS, hz, hi, hk => by
    have h40 := (hS.2.2.2 t ht).1
    have q2 := (hM.2.2.2.1 t ht).2.1
    rw [hz] at h40 q2
    have h7 := hS.len hl
    have out : ∀ (lo : List Value), lo = [.ref 81, .int (nI t), .int (nI l), .int 0, .int (nI i), u5, u6] → G X 10 kX7_lays_ 141 lo [] (HR c m) (MP c n (nI (layK (S t).2 0 i (zL s l)).length, zSL s (va_up (zL s) l (layK (S t).2 0 i (zL s l))))) := by
      rintro _ rfl
      iterate 5 (refine G.st rfl rfl ?_)
      refine G.iald rfl rfl (ix0 (show l < 110 by omega) (by omega)) ?_
      rw [hM.len hl]
      refine G.ret rfl rfl ⟨rfl, m, rfl, ?_⟩
      show MR n m (zSL s (va_up (zL s) l (zL s l)))
      rw [va_up_id]
      exact hM
    iterate 4 (refine G.st rfl rfl ?_)
    refine G.iald rfl rfl (ix_nI (show t < 4 by omega) (by omega)) ?_
    rw [q2]
    by_cases hc : nI (S t).2.length ≤ nI i
    · exact G.brt rfl hc (out _ rfl)
    · refine G.brf rfl hc ?_
      rw [nI_leI (by omega) (by omega)] at hc
      iterate 2 (refine G.st rfl rfl ?_)
      refine G.brt rfl (by show nI 7 ≤ nI i; rw [nI_leI (by omega) (by omega)]; omega) (out _ rfl)
  | k + 1, i, m, s, u5, u6, hM, hS, hz, hi, hk => by
    have h40 := (hS.2.2.2 t ht).1
    obtain ⟨q1, q2, q3⟩ := hM.2.2.2.1 t ht
    rw [hz] at h40 q2 q3
    have h7 := hS.len hl
    iterate 4 (refine G.st rfl rfl ?_)
    refine G.iald rfl rfl (ix_nI (show t < 4 by omega) (by omega)) ?_
    rw [q2]
    refine G.brf rfl (by rw [nI_leI (by omega) (by omega)]; omega) ?_
    iterate 2 (refine G.st rfl rfl ?_)
    refine G.brf rfl (by show ¬ nI 7 ≤ nI i; rw [nI_leI (by omega) (by omega)]; omega) ?_
    iterate 7 (refine G.st rfl rfl ?_)
    refine G.lald rfl rfl (ix40 ht (show i < 40 by omega)) ?_
    rw [q3 i (by omega)]
    unfold layK
    generalize hv : (S t).2.getD i 0 = v
    show G X 10 kX7_lays_ 82 [.ref 81, .int (nI t), .int (nI l), .int 0, .int (nI i), u5, u6] [.long v] (HR c m) _
    iterate 1 (refine G.st rfl rfl ?_)
    show G X 10 kX7_lays_ 84 [.ref 81, .int (nI t), .int (nI l), .int 0, .int (nI i), .long v, .double 0] [] (HR c m) _
    have stop : ¬ gCode v → G X 10 kX7_lays_ 114 [.ref 81, .int (nI t), .int (nI l), .int 0, .int (nI i), .long v, .double 0] [] (HR c m) (MP c n (nI (if gCode v then layK (S t).2 k (i + 1) (zL s l ++ [(v.toInt32 / 10, v.toInt32 - v.toInt32 / 10 * 10, 0)]) else zL s l).length, zSL s (va_up (zL s) l (if gCode v then layK (S t).2 k (i + 1) (zL s l ++ [(v.toInt32 / 10, v.toInt32 - v.toInt32 / 10 * 10, 0)]) else zL s l)))) := by
      intro hno
      rw [if_neg hno, va_up_id]
      iterate 1 (refine G.st rfl rfl ?_)
      exact G.ret rfl rfl ⟨by rw [hi], m, rfl, hM⟩
    iterate 3 (refine G.st rfl rfl ?_)
    refine G.call rfl rfl (Nat.le_of_ble_eq_true rfl) (Sp.up (s7_isIn X v 0 59 _) (Nat.le_of_ble_eq_true rfl)) ?_
    rintro _ _ ⟨rfl, rfl⟩
    by_cases hv59 : 0 ≤ v ∧ v ≤ 59
    case neg => exact G.brt rfl (bI_0.mpr hv59) (stop (fun w => hv59 (gc_lt w)))
    refine G.brf rfl (bI_n hv59) ?_
    have hiff := gc_iff hv59
    iterate 8 (refine G.st rfl rfl ?_)
    refine G.call rfl rfl (Nat.le_of_ble_eq_true rfl) (Sp.up (s7_isGarment X _ _ _) (Nat.le_of_ble_eq_true rfl)) ?_
    rintro _ _ ⟨rfl, rfl⟩
    by_cases hg : gCode v
    case neg => exact G.brt rfl (bI_0.mpr (fun w => hg (hiff.mpr w))) (stop hg)
    rw [if_pos hg]
    refine G.brf rfl (bI_n (hiff.mp hg)) ?_
    iterate 11 (refine G.st rfl rfl ?_)
    refine G.call rfl rfl (Nat.le_of_ble_eq_true rfl) (Sp.up (s7_hangs X hS hM hl (show (zL s l).length < 7 by omega)) (Nat.le_of_ble_eq_true rfl)) ?_
    rintro _ _ ⟨rfl, m', rfl, hM'⟩
    iterate 1 (refine G.st rfl rfl ?_)
    rw [nI_1]
    iterate 1 (refine G.st rfl rfl ?_)
    have hS' : SOk (zSL s (va_up (zL s) l (zL s l ++ [(v.toInt32 / 10, v.toInt32 - v.toInt32 / 10 * 10, 0)]))) := hS.line (gKs_app (hS.gk hl) (gCode_K hg)) (by rw [List.length_append, List.length_singleton]; omega)
    have hzl : zL (zSL s (va_up (zL s) l (zL s l ++ [(v.toInt32 / 10, v.toInt32 - v.toInt32 / 10 * 10, 0)]))) l = zL s l ++ [(v.toInt32 / 10, v.toInt32 - v.toInt32 / 10 * 10, 0)] := va_up_s
    have := l7_layK X (l := l) (t := t) (S := S) hl ht hN k (i + 1) m' (zSL s (va_up (zL s) l (zL s l ++ [(v.toInt32 / 10, v.toInt32 - v.toInt32 / 10 * 10, 0)]))) (.long v) (.double 0) hM' hS' hz (by rw [hzl, List.length_append, List.length_singleton]; omega) (by omega)
    rw [hzl] at this
    rw [show zSL (zSL s (va_up (zL s) l (zL s l ++ [(v.toInt32 / 10, v.toInt32 - v.toInt32 / 10 * 10, 0)]))) (va_up (zL (zSL s (va_up (zL s) l (zL s l ++ [(v.toInt32 / 10, v.toInt32 - v.toInt32 / 10 * 10, 0)])))) l (layK (S t).2 k (i + 1) (zL s l ++ [(v.toInt32 / 10, v.toInt32 - v.toInt32 / 10 * 10, 0)]))) = zSL s (va_up (va_up (zL s) l (zL s l ++ [(v.toInt32 / 10, v.toInt32 - v.toInt32 / 10 * 10, 0)])) l (layK (S t).2 k (i + 1) (zL s l ++ [(v.toInt32 / 10, v.toInt32 - v.toInt32 / 10 * 10, 0)]))) from rfl, va_up_up] at this
    exact this
theorem p7_lays (X : aX) (a b : Int32) (hS : SOk s) (hM : MR n m s) : Sp X 10 kX7_lays_ [.ref 81, .int a, .int b] (HR c m) (MP c n (S_lays s a b)) := by
  unfold Sp S_lays
  refine h7_lays_ X a b hS hM _ rfl (fun h0 => ?_) (fun h1 v h' hq => ?_)
  · rw [if_pos h0]
    obtain ⟨⟨ha, hb0⟩, hb⟩ := shlF_0.mp h0
    obtain ⟨t, ht, rfl⟩ := lok_n ha
    obtain ⟨l, hl, rfl⟩ := lok_n hb
    rw [ln_nI (by omega), ln_nI (by omega)]
    iterate 6 (refine G.st rfl rfl ?_)
    refine G.sst rfl (ix0 (show l < 110 by omega) (by omega)) ?_
    iterate 2 (refine G.st rfl rfl ?_)
    have hM' : MR n (mSs m (upd (ms m) l 0)) (zSL s (va_up (zL s) l [])) := hM.line hS hl (by simp) (fun i hi _ => upd_n hi) upd_s (fun p hp => absurd hp (Nat.not_lt_zero p))
    have hS' : SOk (zSL s (va_up (zL s) l [])) := hS.line (fun y hy => by cases hy) (by simp)
    have hzl : zL (zSL s (va_up (zL s) l [])) l = [] := va_up_s
    have := l7_layK X (c := c) (l := l) (t := t) (S := zS s) hl ht rfl (min (zS s t).2.length 7) 0 _ _ (.double 0) (.double 0) hM' hS' rfl (by rw [hzl]; rfl) (by omega)
    rw [hzl] at this
    rw [show zSL (zSL s (va_up (zL s) l [])) (va_up (zL (zSL s (va_up (zL s) l []))) l (layK (zS s t).2 (min (zS s t).2.length 7) 0 [])) = zSL s (va_up (va_up (zL s) l []) l (layK (zS s t).2 (min (zS s t).2.length 7) 0 [])) from rfl, va_up_up] at this
    exact this
  · rw [if_neg h1]
    exact hq
end RSHEET3
