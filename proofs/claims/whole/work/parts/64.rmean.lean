/-! ===== the reference: promises 11 to 21 ===== -/
theorem pl_ge (l p : Nat) : 26 ≤ pl l p := by unfold pl; omega
section RMEAN
variable {c : Nat → aC} {m : sM} {s : Sg} {n : Nat}
/-- a cell ahead of the garments changes -/
theorem MT.low {f : Nat → Int32} {T : Twn} (h : MT f T) {f' : Nat → Int32} (hf : ∀ i, i < 4 ∨ 26 ≤ i → f' i = f i) {N : Nat → Option Int32} {w d : Int32} (hw : f' 4 = w) (hd : f' 5 = d) (hN : ∀ j, j < 10 → f' (6 + j) = bI ((N j).isSome = true) ∧ ∀ x, N j = some x → f' (16 + j) = x) : MT f' (T.1, N, w, d) := by
  refine ⟨fun l hl => ⟨?_, fun p hp => ?_⟩, hw, hd, hN⟩
  · rw [hf l (by omega)]
    exact (h.1 l hl).1
  · rw [← show G3 f (pl l p) = gD (T.1 l) p from (h.1 l hl).2 p hp]
    have := pl_ge l p
    unfold G3
    rw [hf _ (by omega), hf _ (by omega), hf _ (by omega)]
def oNo (s : Sg) (o : Option Nat) : Int32 × Sg := match o with
  | none => fin 3 s
  | some b => (nI b, s)
theorem c7_oN (X : aX) {o : Option Nat} (hM : MR n m s) (ho : ∀ b, o = some b → b < 2 ^ 31) : Sp X 1 kX7_orNone [.ref 81, .int (rdI o)] (HR c m) (MP c n (oNo s o)) := by
  have := c7_orNone X (c := c) hM ho
  cases o with
  | none => exact this
  | some b => exact this
theorem p7_wind (X : aX) (v : Int32) (hS : SOk s) (hM : MR n m s) : Sp X 10 kX7_wind [.ref 81, .int v] (HR c m) (MP c n (S_wind s v)) := by
  unfold Sp S_wind
  show G X 10 kX7_wind 0 [.ref 81, .int v] [] _ _
  iterate 4 (refine G.st rfl rfl ?_)
  refine G.call rfl rfl (Nat.le_of_ble_eq_true rfl) (Sp.up (s7_isInI X v 0 20 _) (Nat.le_of_ble_eq_true rfl)) ?_
  rintro _ _ ⟨rfl, rfl⟩
  by_cases hv : 0 ≤ v ∧ v ≤ 20
  case neg =>
    rw [if_neg hv]
    refine G.brt rfl (bI_0.mpr hv) ?_
    iterate 2 (refine G.st rfl rfl ?_)
    refine G.call rfl rfl (Nat.le_of_ble_eq_true rfl) (Sp.up (c7_f0 X hM) (Nat.le_of_ble_eq_true rfl)) ?_
    rintro _ _ ⟨rfl, hci⟩
    exact G.ret rfl rfl ⟨rfl, hci⟩
  rw [if_pos hv]
  refine G.brf rfl (bI_n hv) ?_
  iterate 3 (refine G.st rfl rfl ?_)
  refine G.call rfl rfl (Nat.le_of_ble_eq_true rfl) (Sp.up (s7_becomes X (j := 4) ⟨by decide, rfl, by decide⟩) (Nat.le_of_ble_eq_true rfl)) ?_
  rintro _ _ ⟨rfl, rfl⟩
  iterate 1 (refine G.st rfl rfl ?_)
  refine G.ret rfl rfl ⟨by rw [hM.1.2.1], _, rfl, ?_, hM.2⟩
  refine hM.1.low (fun i hi => upd_n (by omega)) upd_s ?_ (fun j hj => ?_)
  · rw [upd_n (by omega)]; exact hM.1.2.2.1
  · rw [upd_n (by omega), upd_n (by omega)]; exact hM.1.2.2.2 j hj
theorem p7_means (X : aX) (mn x : Int32) (hS : SOk s) (hM : MR n m s) : Sp X 10 kX7_means [.ref 81, .int mn, .int x] (HR c m) (MP c n (S_means s mn x)) := by
  unfold Sp S_means
  show G X 10 kX7_means 0 [.ref 81, .int mn, .int x, .double 0] [] _ _
  have bad : G X 10 kX7_means 21 [.ref 81, .int mn, .int x, .double 0] [] (HR c m) (MP c n (fin 0 s)) := by
    iterate 2 (refine G.st rfl rfl ?_)
    refine G.call rfl rfl (Nat.le_of_ble_eq_true rfl) (Sp.up (c7_f0 X hM) (Nat.le_of_ble_eq_true rfl)) ?_
    rintro _ _ ⟨rfl, hci⟩
    exact G.ret rfl rfl ⟨rfl, hci⟩
  iterate 1 (refine G.st rfl rfl ?_)
  refine G.call rfl rfl (Nat.le_of_ble_eq_true rfl) (Sp.up (s7_isMeaning X mn _) (Nat.le_of_ble_eq_true rfl)) ?_
  rintro _ _ ⟨rfl, rfl⟩
  by_cases hl : 0 ≤ mn ∧ mn ≤ 9
  case neg =>
    rw [if_neg (fun q => hl q.1)]
    exact G.brt rfl (bI_0.mpr hl) bad
  refine G.brf rfl (bI_n hl) ?_
  iterate 4 (refine G.st rfl rfl ?_)
  refine G.call rfl rfl (Nat.le_of_ble_eq_true rfl) (Sp.up (s7_isInI X x (-999) 9999 _) (Nat.le_of_ble_eq_true rfl)) ?_
  rintro _ _ ⟨rfl, rfl⟩
  by_cases hx : -999 ≤ x ∧ x ≤ 9999
  case neg =>
    rw [if_neg (fun q => hx q.2)]
    exact G.brt rfl (bI_0.mpr hx) bad
  refine G.brf rfl (bI_n hx) ?_
  rw [if_pos ⟨hl, hx⟩]
  obtain ⟨j, hj, rfl⟩ := mok_n hl
  rw [ln_nI (by omega)]
  have h6 : ix (6 + nI j) 110 (6 + j) := ixa (k := 6) rfl (by omega) (by omega)
  have h16 : ix (16 + nI j) 110 (16 + j) := ixa (k := 16) rfl (by omega) (by omega)
  have rest : ∀ was : Int32, G X 10 kX7_means 56 [.ref 81, .int (nI j), .int x, .double 0] [.int was] (HR c m) (MP c n (was, zSN s (va_up (zN s) j (some x)))) := by
    intro was
    iterate 7 (refine G.st rfl rfl ?_)
    refine G.sst rfl h6 ?_
    iterate 6 (refine G.st rfl rfl ?_)
    refine G.sst rfl h16 ?_
    iterate 1 (refine G.st rfl rfl ?_)
    refine G.ret rfl rfl ⟨rfl, _, rfl, ?_, hM.2⟩
    refine hM.1.low (fun i hi => ?_) ?_ ?_ (fun i hi => ?_)
    · show upd (upd (ms m) (6 + j) 1) (16 + j) x i = _
      rw [upd_n (by omega), upd_n (by omega)]
    · show upd (upd (ms m) (6 + j) 1) (16 + j) x 4 = _
      rw [upd_n (by omega), upd_n (by omega)]; exact hM.1.2.1
    · show upd (upd (ms m) (6 + j) 1) (16 + j) x 5 = _
      rw [upd_n (by omega), upd_n (by omega)]; exact hM.1.2.2.1
    · show upd (upd (ms m) (6 + j) 1) (16 + j) x (6 + i) = bI ((va_up (zN s) j (some x) i).isSome = true) ∧ ∀ y, va_up (zN s) j (some x) i = some y → upd (upd (ms m) (6 + j) 1) (16 + j) x (16 + i) = y
      by_cases e : i = j
      · subst e
        rw [va_up_s, upd_n (by omega), upd_s, upd_s, bI_t (show (some x).isSome = true from rfl)]
        exact ⟨rfl, fun y hy => Option.some.inj hy⟩
      · rw [va_up_n e, upd_n (by omega), upd_n (by omega), upd_n (by omega), upd_n (by omega)]
        exact hM.1.2.2.2 i hi
  iterate 5 (refine G.st rfl rfl ?_)
  refine G.iald rfl rfl h6 ?_
  rw [hM.has hj]
  iterate 1 (refine G.st rfl rfl ?_)
  cases hz : zN s j with
  | none =>
    refine G.brf rfl (fun q => by have := bI_1.mp q; simp at this) ?_
    iterate 1 (refine G.st rfl rfl ?_)
    exact rest (-1000)
  | some y =>
    refine G.brt rfl (bI_1.mpr rfl) ?_
    iterate 5 (refine G.st rfl rfl ?_)
    refine G.iald rfl rfl h16 ?_
    rw [hM.num hj hz]
    iterate 1 (refine G.st rfl rfl ?_)
    exact rest y
theorem p7_forget (X : aX) (mn : Int32) (hS : SOk s) (hM : MR n m s) : Sp X 10 kX7_forget [.ref 81, .int mn] (HR c m) (MP c n (S_forget s mn)) := by
  unfold Sp S_forget
  show G X 10 kX7_forget 0 [.ref 81, .int mn] [] _ _
  iterate 1 (refine G.st rfl rfl ?_)
  refine G.call rfl rfl (Nat.le_of_ble_eq_true rfl) (Sp.up (s7_isMeaning X mn _) (Nat.le_of_ble_eq_true rfl)) ?_
  rintro _ _ ⟨rfl, rfl⟩
  by_cases hl : 0 ≤ mn ∧ mn ≤ 9
  case neg =>
    rw [if_neg hl]
    refine G.brt rfl (bI_0.mpr hl) ?_
    iterate 2 (refine G.st rfl rfl ?_)
    refine G.call rfl rfl (Nat.le_of_ble_eq_true rfl) (Sp.up (c7_f0 X hM) (Nat.le_of_ble_eq_true rfl)) ?_
    rintro _ _ ⟨rfl, hci⟩
    exact G.ret rfl rfl ⟨rfl, hci⟩
  rw [if_pos hl]
  refine G.brf rfl (bI_n hl) ?_
  obtain ⟨j, hj, rfl⟩ := mok_n hl
  rw [ln_nI (by omega)]
  iterate 5 (refine G.st rfl rfl ?_)
  refine G.call rfl rfl (Nat.le_of_ble_eq_true rfl) (Sp.up (s7_becomes X (ixa (k := 6) rfl (show 6 + j < 110 by omega) (by omega))) (Nat.le_of_ble_eq_true rfl)) ?_
  rintro _ _ ⟨rfl, rfl⟩
  iterate 1 (refine G.st rfl rfl ?_)
  refine G.ret rfl rfl ⟨by rw [hM.has hj], _, rfl, ?_, hM.2⟩
  refine hM.1.low (fun i hi => upd_n (by omega)) ?_ ?_ (fun i hi => ?_)
  · rw [upd_n (by omega)]; exact hM.1.2.1
  · rw [upd_n (by omega)]; exact hM.1.2.2.1
  · show upd (ms m) (6 + j) 0 (6 + i) = bI ((va_up (zN s) j none i).isSome = true) ∧ ∀ y, va_up (zN s) j none i = some y → upd (ms m) (6 + j) 0 (16 + i) = y
    by_cases e : i = j
    · subst e
      rw [va_up_s, upd_s, bI_f (by simp)]
      exact ⟨rfl, fun y hy => by cases hy⟩
    · rw [va_up_n e, upd_n (by omega), upd_n (by omega)]
      exact hM.1.2.2.2 i hi
theorem p7_number (X : aX) (mn : Int32) (hS : SOk s) (hM : MR n m s) : Sp X 10 kX7_number [.ref 81, .int mn] (HR c m) (MP c n (S_number s mn)) := by
  unfold Sp S_number
  show G X 10 kX7_number 0 [.ref 81, .int mn] [] _ _
  iterate 1 (refine G.st rfl rfl ?_)
  refine G.call rfl rfl (Nat.le_of_ble_eq_true rfl) (Sp.up (s7_isMeaning X mn _) (Nat.le_of_ble_eq_true rfl)) ?_
  rintro _ _ ⟨rfl, rfl⟩
  by_cases hl : 0 ≤ mn ∧ mn ≤ 9
  case neg =>
    rw [if_neg hl]
    refine G.brt rfl (bI_0.mpr hl) ?_
    iterate 2 (refine G.st rfl rfl ?_)
    refine G.call rfl rfl (Nat.le_of_ble_eq_true rfl) (Sp.up (c7_f0 X hM) (Nat.le_of_ble_eq_true rfl)) ?_
    rintro _ _ ⟨rfl, hci⟩
    exact G.ret rfl rfl ⟨rfl, hci⟩
  rw [if_pos hl]
  refine G.brf rfl (bI_n hl) ?_
  obtain ⟨j, hj, rfl⟩ := mok_n hl
  rw [ln_nI (by omega)]
  iterate 5 (refine G.st rfl rfl ?_)
  refine G.iald rfl rfl (ixa (k := 6) rfl (show 6 + j < 110 by omega) (by omega)) ?_
  rw [hM.has hj]
  iterate 1 (refine G.st rfl rfl ?_)
  cases hz : zN s j with
  | none =>
    refine G.brf rfl (fun q => by have := bI_1.mp q; simp at this) ?_
    iterate 2 (refine G.st rfl rfl ?_)
    refine G.call rfl rfl (Nat.le_of_ble_eq_true rfl) (Sp.up (c7_f3 X hM) (Nat.le_of_ble_eq_true rfl)) ?_
    rintro _ _ ⟨rfl, hci⟩
    exact G.ret rfl rfl ⟨rfl, hci⟩
  | some y =>
    refine G.brt rfl (bI_1.mpr rfl) ?_
    iterate 5 (refine G.st rfl rfl ?_)
    refine G.iald rfl rfl (ixa (k := 16) rfl (show 16 + j < 110 by omega) (by omega)) ?_
    rw [hM.num hj hz]
    iterate 1 (refine G.st rfl rfl ?_)
    exact G.ret rfl rfl ⟨rfl, m, rfl, hM⟩
theorem p7_read (X : aX) (w : Int32) (hS : SOk s) (hM : MR n m s) : Sp X 10 kX7_read [.ref 81, .int w] (HR c m) (MP c n (S_read s w)) := by
  unfold Sp S_read
  show G X 10 kX7_read 0 [.ref 81, .int w] [] _ _
  iterate 4 (refine G.st rfl rfl ?_)
  refine G.call rfl rfl (Nat.le_of_ble_eq_true rfl) (Sp.up (s7_isInI X w (-9999) 9999 _) (Nat.le_of_ble_eq_true rfl)) ?_
  rintro _ _ ⟨rfl, rfl⟩
  by_cases hv : -9999 ≤ w ∧ w ≤ 9999
  case neg =>
    rw [if_neg hv]
    refine G.brt rfl (bI_0.mpr hv) ?_
    iterate 2 (refine G.st rfl rfl ?_)
    refine G.call rfl rfl (Nat.le_of_ble_eq_true rfl) (Sp.up (c7_f0 X hM) (Nat.le_of_ble_eq_true rfl)) ?_
    rintro _ _ ⟨rfl, hci⟩
    exact G.ret rfl rfl ⟨rfl, hci⟩
  rw [if_pos hv]
  refine G.brf rfl (bI_n hv) ?_
  iterate 3 (refine G.st rfl rfl ?_)
  refine G.call rfl rfl (Nat.le_of_ble_eq_true rfl) (Sp.up (s7_readAs X hM) (Nat.le_of_ble_eq_true rfl)) ?_
  rintro _ _ ⟨rfl, rfl⟩
  refine G.call rfl rfl (Nat.le_of_ble_eq_true rfl) (Sp.up (c7_oN X hM (fun b hb => by have := rd_lt hb; omega)) (Nat.le_of_ble_eq_true rfl)) ?_
  rintro _ _ ⟨rfl, hci⟩
  iterate 1 (refine G.st rfl rfl ?_)
  exact G.ret rfl rfl ⟨rfl, hci⟩
theorem p7_worth (X : aX) (line : Int32) (hS : SOk s) (hM : MR n m s) : Sp X 10 kX7_worth [.ref 81, .int line] (HR c m) (MP c n (S_worth s line)) := by
  unfold Sp S_worth
  show G X 10 kX7_worth 0 [.ref 81, .int line] [] _ _
  iterate 1 (refine G.st rfl rfl ?_)
  refine G.call rfl rfl (Nat.le_of_ble_eq_true rfl) (Sp.up (s7_isLine X line _) (Nat.le_of_ble_eq_true rfl)) ?_
  rintro _ _ ⟨rfl, rfl⟩
  by_cases hl : 0 ≤ line ∧ line ≤ 3
  case neg =>
    rw [if_neg hl]
    refine G.brt rfl (bI_0.mpr hl) ?_
    iterate 2 (refine G.st rfl rfl ?_)
    refine G.call rfl rfl (Nat.le_of_ble_eq_true rfl) (Sp.up (c7_f0 X hM) (Nat.le_of_ble_eq_true rfl)) ?_
    rintro _ _ ⟨rfl, hci⟩
    exact G.ret rfl rfl ⟨rfl, hci⟩
  rw [if_pos hl]
  refine G.brf rfl (bI_n hl) ?_
  obtain ⟨l, hl4, rfl⟩ := lok_n hl
  rw [ln_nI (by omega)]
  iterate 5 (refine G.st rfl rfl ?_)
  refine G.iald rfl rfl (j := 4) ⟨by decide, rfl, by decide⟩ ?_
  rw [hM.1.2.1]
  refine G.call rfl rfl (Nat.le_of_ble_eq_true rfl) (Sp.up (s7_worthBy X hS hM hl4) (Nat.le_of_ble_eq_true rfl)) ?_
  rintro _ _ ⟨rfl, m', rfl, hra, hrw, hrn⟩
  iterate 1 (refine G.st rfl rfl ?_)
  exact G.ret rfl rfl ⟨rfl, m', rfl, hra.MR hM⟩
theorem p7_worthIn (X : aX) (line w : Int32) (hS : SOk s) (hM : MR n m s) : Sp X 10 kX7_worthIn [.ref 81, .int line, .int w] (HR c m) (MP c n (S_worthIn s line w)) := by
  unfold Sp S_worthIn
  show G X 10 kX7_worthIn 0 [.ref 81, .int line, .int w] [] _ _
  have bad : G X 10 kX7_worthIn 28 [.ref 81, .int line, .int w] [] (HR c m) (MP c n (fin 0 s)) := by
    iterate 2 (refine G.st rfl rfl ?_)
    refine G.call rfl rfl (Nat.le_of_ble_eq_true rfl) (Sp.up (c7_f0 X hM) (Nat.le_of_ble_eq_true rfl)) ?_
    rintro _ _ ⟨rfl, hci⟩
    exact G.ret rfl rfl ⟨rfl, hci⟩
  iterate 1 (refine G.st rfl rfl ?_)
  refine G.call rfl rfl (Nat.le_of_ble_eq_true rfl) (Sp.up (s7_isLine X line _) (Nat.le_of_ble_eq_true rfl)) ?_
  rintro _ _ ⟨rfl, rfl⟩
  by_cases hl : 0 ≤ line ∧ line ≤ 3
  case neg =>
    rw [if_neg (fun q => hl q.1)]
    exact G.brt rfl (bI_0.mpr hl) bad
  refine G.brf rfl (bI_n hl) ?_
  iterate 4 (refine G.st rfl rfl ?_)
  refine G.call rfl rfl (Nat.le_of_ble_eq_true rfl) (Sp.up (s7_isInI X w 0 20 _) (Nat.le_of_ble_eq_true rfl)) ?_
  rintro _ _ ⟨rfl, rfl⟩
  by_cases hw : 0 ≤ w ∧ w ≤ 20
  case neg =>
    rw [if_neg (fun q => hw q.2)]
    exact G.brt rfl (bI_0.mpr hw) bad
  refine G.brf rfl (bI_n hw) ?_
  rw [if_pos ⟨hl, hw⟩]
  obtain ⟨l, hl4, rfl⟩ := lok_n hl
  rw [ln_nI (by omega)]
  iterate 3 (refine G.st rfl rfl ?_)
  refine G.call rfl rfl (Nat.le_of_ble_eq_true rfl) (Sp.up (s7_worthBy X hS hM hl4) (Nat.le_of_ble_eq_true rfl)) ?_
  rintro _ _ ⟨rfl, m', rfl, hra, hrw, hrn⟩
  iterate 1 (refine G.st rfl rfl ?_)
  exact G.ret rfl rfl ⟨rfl, m', rfl, hra.MR hM⟩
theorem p7_says (X : aX) (line : Int32) (hS : SOk s) (hM : MR n m s) : Sp X 10 kX7_says [.ref 81, .int line] (HR c m) (MP c n (S_says s line)) := by
  unfold Sp S_says
  show G X 10 kX7_says 0 [.ref 81, .int line] [] _ _
  iterate 1 (refine G.st rfl rfl ?_)
  refine G.call rfl rfl (Nat.le_of_ble_eq_true rfl) (Sp.up (s7_isLine X line _) (Nat.le_of_ble_eq_true rfl)) ?_
  rintro _ _ ⟨rfl, rfl⟩
  by_cases hl : 0 ≤ line ∧ line ≤ 3
  case neg =>
    rw [if_neg hl]
    refine G.brt rfl (bI_0.mpr hl) ?_
    iterate 2 (refine G.st rfl rfl ?_)
    refine G.call rfl rfl (Nat.le_of_ble_eq_true rfl) (Sp.up (c7_f0 X hM) (Nat.le_of_ble_eq_true rfl)) ?_
    rintro _ _ ⟨rfl, hci⟩
    exact G.ret rfl rfl ⟨rfl, hci⟩
  rw [if_pos hl]
  refine G.brf rfl (bI_n hl) ?_
  obtain ⟨l, hl4, rfl⟩ := lok_n hl
  rw [ln_nI (by omega)]
  iterate 7 (refine G.st rfl rfl ?_)
  refine G.iald rfl rfl (j := 4) ⟨by decide, rfl, by decide⟩ ?_
  rw [hM.1.2.1]
  refine G.call rfl rfl (Nat.le_of_ble_eq_true rfl) (Sp.up (s7_worthBy X hS hM hl4) (Nat.le_of_ble_eq_true rfl)) ?_
  rintro _ _ ⟨rfl, m', rfl, hra, hrw, hrn⟩
  have hM' := hra.MR hM
  refine G.call rfl rfl (Nat.le_of_ble_eq_true rfl) (Sp.up (s7_readAs X hM') (Nat.le_of_ble_eq_true rfl)) ?_
  rintro _ _ ⟨rfl, rfl⟩
  refine G.call rfl rfl (Nat.le_of_ble_eq_true rfl) (Sp.up (c7_oN X hM' (fun b hb => by have := rd_lt hb; omega)) (Nat.le_of_ble_eq_true rfl)) ?_
  rintro _ _ ⟨rfl, hci⟩
  iterate 1 (refine G.st rfl rfl ?_)
  exact G.ret rfl rfl ⟨rfl, hci⟩
theorem or_0 (x : Int32) : x ||| 0 = x := by
  apply Int32.toBitVec_inj.mp
  simp
theorem l7_windsOf (X : aX) {l : Nat} {mn : Int32} (hS : SOk s) (hl : l < 4) : ∀ (k w : Nat) (m : sM), w + k = 21 → MR n m s → G X 3 kX7_windsOf 5 [.ref 81, .int (nI l), .int mn, .int (wndN (zN s) (zL s l) mn w), .int (nI w)] [] (HR c m) (fun v h' => v = some (.int (wndN (zN s) (zL s l) mn 21)) ∧ ∃ m', h' = HR c m' ∧ MR n m' s)
  | 0, w, m, hw, hM => by
    iterate 2 (refine G.st rfl rfl ?_)
    refine G.brt rfl (by show nI 20 < nI w; rw [nI_ltI (by omega) (by omega)]; omega) ?_
    iterate 1 (refine G.st rfl rfl ?_)
    refine G.ret rfl rfl ⟨?_, m, rfl, hM⟩
    rw [show w = 21 by omega]
  | k + 1, w, m, hw, hM => by
    iterate 2 (refine G.st rfl rfl ?_)
    refine G.brf rfl (by show ¬ nI 20 < nI w; rw [nI_ltI (by omega) (by omega)]; omega) ?_
    iterate 5 (refine G.st rfl rfl ?_)
    refine G.call rfl rfl (Nat.le_of_ble_eq_true rfl) (Sp.up (s7_worthBy X hS hM hl) (Nat.le_of_ble_eq_true rfl)) ?_
    rintro _ _ ⟨rfl, m', rfl, hra, hrw, hrn⟩
    have hM' := hra.MR hM
    refine G.call rfl rfl (Nat.le_of_ble_eq_true rfl) (Sp.up (s7_readAs X hM') (Nat.le_of_ble_eq_true rfl)) ?_
    rintro _ _ ⟨rfl, rfl⟩
    iterate 1 (refine G.st rfl rfl ?_)
    refine G.br rfl (fun hc => ?_) (fun hc => ?_)
    · iterate 7 (refine G.st rfl rfl ?_)
      rw [nI_1]
      iterate 1 (refine G.st rfl rfl ?_)
      have := l7_windsOf X (mn := mn) hS hl k (w + 1) m' (by omega) hM'
      conv at this => arg 5; unfold wndN
      rw [if_pos hc] at this
      exact this
    · iterate 2 (refine G.st rfl rfl ?_)
      rw [or_0]
      iterate 2 (refine G.st rfl rfl ?_)
      rw [nI_1]
      iterate 1 (refine G.st rfl rfl ?_)
      have := l7_windsOf X (mn := mn) hS hl k (w + 1) m' (by omega) hM'
      conv at this => arg 5; unfold wndN
      rw [if_neg hc] at this
      exact this
theorem s7_windsOf (X : aX) {l : Nat} {mn : Int32} (hS : SOk s) (hM : MR n m s) (hl : l < 4) : Sp X 3 kX7_windsOf [.ref 81, .int (nI l), .int mn] (HR c m) (fun v h' => v = some (.int (wndN (zN s) (zL s l) mn 21)) ∧ ∃ m', h' = HR c m' ∧ MR n m' s) := by
  unfold Sp
  iterate 4 (refine G.st rfl rfl ?_)
  exact l7_windsOf X hS hl 21 0 m rfl hM
theorem p7_winds (X : aX) (line : Int32) (hS : SOk s) (hM : MR n m s) : Sp X 10 kX7_winds [.ref 81, .int line] (HR c m) (MP c n (S_winds s line)) := by
  unfold Sp S_winds
  show G X 10 kX7_winds 0 [.ref 81, .int line, .double 0] [] _ _
  iterate 1 (refine G.st rfl rfl ?_)
  refine G.call rfl rfl (Nat.le_of_ble_eq_true rfl) (Sp.up (s7_isLine X line _) (Nat.le_of_ble_eq_true rfl)) ?_
  rintro _ _ ⟨rfl, rfl⟩
  by_cases hl : 0 ≤ line ∧ line ≤ 3
  case neg =>
    rw [if_neg hl]
    refine G.brt rfl (bI_0.mpr hl) ?_
    iterate 2 (refine G.st rfl rfl ?_)
    refine G.call rfl rfl (Nat.le_of_ble_eq_true rfl) (Sp.up (c7_f0 X hM) (Nat.le_of_ble_eq_true rfl)) ?_
    rintro _ _ ⟨rfl, hci⟩
    exact G.ret rfl rfl ⟨rfl, hci⟩
  rw [if_pos hl]
  refine G.brf rfl (bI_n hl) ?_
  obtain ⟨l, hl4, rfl⟩ := lok_n hl
  rw [ln_nI (by omega)]
  iterate 6 (refine G.st rfl rfl ?_)
  refine G.iald rfl rfl (j := 4) ⟨by decide, rfl, by decide⟩ ?_
  rw [hM.1.2.1]
  refine G.call rfl rfl (Nat.le_of_ble_eq_true rfl) (Sp.up (s7_worthBy X hS hM hl4) (Nat.le_of_ble_eq_true rfl)) ?_
  rintro _ _ ⟨rfl, m', rfl, hra, hrw, hrn⟩
  have hM' := hra.MR hM
  refine G.call rfl rfl (Nat.le_of_ble_eq_true rfl) (Sp.up (s7_readAs X hM') (Nat.le_of_ble_eq_true rfl)) ?_
  rintro _ _ ⟨rfl, rfl⟩
  iterate 2 (refine G.st rfl rfl ?_)
  cases hr : rd (zN s) (wlst (zW s) (zL s l)) with
  | none =>
    refine G.brf rfl (by decide) ?_
    iterate 2 (refine G.st rfl rfl ?_)
    refine G.call rfl rfl (Nat.le_of_ble_eq_true rfl) (Sp.up (c7_f3 X hM') (Nat.le_of_ble_eq_true rfl)) ?_
    rintro _ _ ⟨rfl, hci⟩
    iterate 1 (refine G.st rfl rfl ?_)
    exact G.ret rfl rfl ⟨rfl, hci⟩
  | some b =>
    refine G.brt rfl (nI_pos' (show b < 2 ^ 31 by have := rd_lt hr; omega)) ?_
    iterate 3 (refine G.st rfl rfl ?_)
    show G X 10 kX7_winds 46 [.ref 81, .int (nI l), .int (nI b)] [.int (nI b), .int (nI l), .ref 81] (HR c m') _
    refine G.call rfl rfl (Nat.le_of_ble_eq_true rfl) (Sp.up (s7_windsOf X hS hM' hl4) (Nat.le_of_ble_eq_true rfl)) ?_
    rintro _ _ ⟨rfl, hci⟩
    exact G.ret rfl rfl ⟨rfl, hci⟩
end RMEAN
