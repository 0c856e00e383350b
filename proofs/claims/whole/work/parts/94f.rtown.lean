/-! ===== the reference: the text, whole ===== -/
theorem tkc_0 {x : Int32} : tkc x = 0 ↔ x = 0 := by
  unfold tkc
  by_cases h : x = 4
  · rw [if_pos h, h]; decide
  · rw [if_neg h]
    by_cases h2 : x = 5
    · rw [if_pos h2, h2]; decide
    · rw [if_neg h2]
theorem tkc_3 {x : Int32} : tkc x = 3 ↔ x = 3 := by
  unfold tkc
  by_cases h : x = 4
  · rw [if_pos h, h]; decide
  · rw [if_neg h]
    by_cases h2 : x = 5
    · rw [if_pos h2, h2]; decide
    · rw [if_neg h2]
/-- how town ends -/
def TWR (c : Nat → aC) (n : Nat) (s : Sg) (r : Nat ⊕ (Nat × Twn)) : Option Value → aH → Prop := fun v h' => match r with
  | .inl p => v = some (.int (-1 - nI p)) ∧ ∃ m', h' = HR c m' ∧ MR n m' (zST s [])
  | .inr q => v = some (.int (nI q.1)) ∧ ∃ m', h' = HR c m' ∧ MR n m' (zST (zTw s q.2) [])
section RTOWN
variable {c : Nat → aC} {m : sM} {s : Sg} {n : Nat} {t : List Int32} {b : Nat → Int32}
theorem k7_t0 (X : aX) {u v : Value} {Q : Option Value → aH → Prop} (k : G X 10 kX7_town 16 [.ref 81, u, v] [] (HR c (mSto m 0)) Q) : G X 10 kX7_town 11 [.ref 81, u, v] [] (HR c m) Q := by
  iterate 3 (refine G.st rfl rfl ?_)
  exact k
theorem k7_t1 (X : aX) {u v : Value} {Q : Option Value → aH → Prop} (k : G X 10 kX7_town 83 [.ref 81, u, v] [] (HR c (mStd m 0)) Q) : G X 10 kX7_town 78 [.ref 81, u, v] [] (HR c m) Q := by
  iterate 3 (refine G.st rfl rfl ?_)
  exact k
theorem e7_cp {f : Nat → Int32} : (HR c m).set 82 (iA 110 f) = HR c (mSs m f) := rfl
theorem MRt.end0 (h : MRt n m s) : MRt n (mStd m 0) (zST s []) := ⟨h.1, ⟨rfl, fun j hj => absurd hj (Nat.not_lt_zero j)⟩, h.2.2⟩
/-- it couldn't stand: the town is as it was -/
theorem e7_bad (X : aX) {u z : Int32} {p : Nat} (h7 : ∀ l, l < 4 → (zL s l).length ≤ 7) (hb : MT b (zt s)) (hM : MRt n m s) (hbf : mbf m = b) (hfa : mfa m = nI p) : G X 10 kX7_town 76 [.ref 81, .int u, .int z] [] (HR c m) (TWR c n s (.inl p)) := by
  iterate 2 (refine G.st rfl rfl ?_)
  refine k7_t1 X ?_
  have hM1 := hM.end0
  have hbf1 : mbf (mStd m 0) = b := hbf
  have hfa1 : mfa (mStd m 0) = nI p := hfa
  generalize mStd m 0 = m1 at hM1 hbf1 hfa1 ⊢
  iterate 1 (refine G.st rfl rfl ?_)
  refine G.brt rfl rfl ?_
  iterate 4 (refine G.st rfl rfl ?_)
  refine G.call rfl rfl (Nat.le_of_ble_eq_true rfl) (Sp.up (s7_copyRow X (h := HR c m1) (a := 84) (b := 82) (fa := mbf m1) (fb := ms m1) rfl rfl (by decide)) (Nat.le_of_ble_eq_true rfl)) ?_
  rintro _ _ ⟨rfl, f', rfl, hf⟩
  rw [e7_cp]
  rw [hbf1] at hf
  have hM2 : MR n (mSs m1 f') (zST s []) := ⟨hb.eq h7 hf, hM1⟩
  have hfa2 : mfa (mSs m1 f') = nI p := hfa1
  generalize mSs m1 f' = m2 at hM2 hfa2 ⊢
  show G X 10 kX7_town 98 [.ref 81, .int u, .int 0] [] (HR c m2) _
  iterate 1 (refine G.st rfl rfl ?_)
  refine G.brt rfl rfl ?_
  iterate 3 (refine G.st rfl rfl ?_)
  show G X 10 kX7_town 111 [.ref 81, .int u, .int 0] [.int (mfa m2), .int (-1)] (HR c m2) _
  rw [hfa2]
  iterate 1 (refine G.st rfl rfl ?_)
  exact G.ret rfl rfl ⟨rfl, m2, rfl, hM2⟩
theorem e7_fail (X : aX) {u : Int32} {p : Nat} (h7 : ∀ l, l < 4 → (zL s l).length ≤ 7) (hb : MT b (zt s)) (hM : MRt n m s) (hbf : mbf m = b) (hfa : mfa m = nI p) : G X 10 kX7_town 27 [.ref 81, .int u, .int 0] [] (HR c m) (TWR c n s (.inl p)) := by
  iterate 1 (refine G.st rfl rfl ?_)
  refine G.brt rfl rfl ?_
  iterate 1 (refine G.st rfl rfl ?_)
  refine G.brt rfl rfl ?_
  exact e7_bad X h7 hb hM hbf hfa
theorem e7_good (X : aX) {k : Nat} {z : Int32} {q : Twn} (hM : MR n m (zTw s q)) : G X 10 kX7_town 72 [.ref 81, .int (nI k), .int z] [] (HR c m) (TWR c n s (.inr (k, q))) := by
  iterate 3 (refine G.st rfl rfl ?_)
  refine k7_t1 X ?_
  have hM1 : MR n (mStd m 0) (zST (zTw s q) []) := ⟨hM.1, MRt.end0 (s := zTw s q) hM.2⟩
  generalize mStd m 0 = m1 at hM1 ⊢
  iterate 1 (refine G.st rfl rfl ?_)
  refine G.brf rfl (by decide) ?_
  iterate 1 (refine G.st rfl rfl ?_)
  refine G.brf rfl (by decide) ?_
  iterate 2 (refine G.st rfl rfl ?_)
  exact G.ret rfl rfl ⟨rfl, m1, rfl, hM1⟩
/-- an item stood, and no further one follows -/
theorem e7_last (X : aX) {k : Nat} {q : Twn × Tk} (h3 : ¬ q.2.2.2 = 3) (h7 : ∀ l, l < 4 → (zL s l).length ≤ 7) (hb : MT b (zt s)) (hM : MR n m (zTw s q.1)) (hbf : mbf m = b) (hT : TKR m t q.2) : G X 10 kX7_town 27 [.ref 81, .int (nI k), .int 1] [] (HR c m) (TWR c n s (if q.2.2.2 = 0 then .inr (k, q.1) else .inl q.2.1)) := by
  iterate 1 (refine G.st rfl rfl ?_)
  refine G.brf rfl (by decide) ?_
  iterate 3 (refine G.st rfl rfl ?_)
  show G X 10 kX7_town 36 [.ref 81, .int (nI k), .int 1] [.int 3, .int (mtk m)] (HR c m) _
  rw [hT.2.2.2.2.1]
  refine G.brf rfl (fun e => h3 (tkc_3.mp e)) ?_
  iterate 1 (refine G.st rfl rfl ?_)
  refine G.brf rfl (by decide) ?_
  iterate 2 (refine G.st rfl rfl ?_)
  show G X 10 kX7_town 62 [.ref 81, .int (nI k), .int 1] [.int (mtk m)] (HR c m) _
  rw [hT.2.2.2.2.1]
  by_cases h0 : q.2.2.2 = 0
  · rw [if_pos h0]
    refine G.brt rfl (tkc_0.mpr h0) ?_
    exact e7_good X hM
  · rw [if_neg h0]
    refine G.brf rfl (fun e => h0 (tkc_0.mp e)) ?_
    iterate 1 (refine G.st rfl rfl ?_)
    refine G.call rfl rfl (Nat.le_of_ble_eq_true rfl) (Sp.up (s7_fails X) (Nat.le_of_ble_eq_true rfl)) ?_
    rintro _ _ ⟨rfl, rfl⟩
    refine G.brt rfl rfl ?_
    exact e7_bad X h7 hb (show MRt n (mSfa m (mfr m)) s from hM.2) hbf hT.2.2.1
theorem IPR_s {d : Twn} {r : PR Twn} {v : Option Value} {h : aH} (q : IPR c n b t (zTw s d) r v h) : IPR c n b t s r v h := by
  cases r with
  | inl p => exact q
  | inr p => exact q
theorem l7_items (X : aX) (hS : SOk s) (hb : MT b (zt s)) (ht : t.length ≤ 120) : ∀ (k j : Nat) (tk : Tk) (d : Twn) (v : Option Value) (h : aH), j + k = 120 → TkOk t tk → TOk d → j ≤ tk.1 + 1 → IPR c n b t s (itemT t tk d) v h → ∃ z, v = some (.int z) ∧ G X 10 kX7_town 27 [.ref 81, .int (nI j), .int z] [] h (TWR c n s (itS t k j (itemT t tk d))) := by
  intro k
  induction k with
  | zero =>
    intro j tk d v h hj ho hd hp hr
    cases hq : itemT t tk d with
    | inl p =>
      rw [hq] at hr
      obtain ⟨rfl, m1, rfl, q1, q2, q3⟩ := hr
      exact ⟨0, rfl, e7_fail X (fun l hl => hS.len hl) hb q1 q2 q3⟩
    | inr q =>
      obtain ⟨hF, hO⟩ := itemT_F hq ho hd
      obtain ⟨f1, f2, f3⟩ := hF.ok
      rw [hq] at hr
      obtain ⟨rfl, m1, rfl, q1, q2, q3⟩ := hr
      refine ⟨1, rfl, ?_⟩
      by_cases h3 : q.2.2.2 = 3
      case neg =>
        have := e7_last X (k := j) h3 (fun l hl => hS.len hl) hb q1 q2 q3 (c := c) (n := n)
        unfold itS
        dsimp only
        rw [if_neg h3]
        exact this
      have h0 : ¬ q.2.2.2 = 0 := by rw [h3]; decide
      have f4 := f3 h0
      unfold itS
      dsimp only
      rw [if_neg h0, if_pos h3]
      show G X 10 kX7_town 27 [.ref 81, .int (nI j), .int 1] [] (HR c m1) (TWR c n s (.inl (tok t q.2.2.1).1))
      have hN := Fr.nx f1
      have hs0 : (tok t q.2.2.1).2.2 = 0 := tok_end (by have := (tok_ok f1.2).2.1; omega)
      iterate 1 (refine G.st rfl rfl ?_)
      refine G.brf rfl (by decide) ?_
      iterate 3 (refine G.st rfl rfl ?_)
      show G X 10 kX7_town 36 [.ref 81, .int (nI j), .int 1] [.int 3, .int (mtk m1)] (HR c m1) _
      rw [q3.2.2.2.2.1]
      refine G.brt rfl (tkc_3.mpr h3) ?_
      iterate 1 (refine G.st rfl rfl ?_)
      refine G.call rfl rfl (Nat.le_of_ble_eq_true rfl) (Sp.up (s7_nextR X q1 q2 q3) (Nat.le_of_ble_eq_true rfl)) ?_
      rintro _ _ ⟨rfl, m2, rfl, ⟨hM2, hb2, hP2⟩, hT2⟩
      iterate 1 (refine G.st rfl rfl ?_)
      refine G.call rfl rfl (Nat.le_of_ble_eq_true rfl) (Sp.up (s7_itemHere X (show SOk (zTw s q.1) from ⟨hO, hS.2⟩) hM2 hb2 hT2) (Nat.le_of_ble_eq_true rfl)) ?_
      intro v h q
      rw [itemT_0 hs0] at q
      obtain ⟨rfl, m3, rfl, w1, w2, w3⟩ := q
      iterate 2 (refine G.st rfl rfl ?_)
      rw [nI_1]
      iterate 1 (refine G.st rfl rfl ?_)
      exact e7_fail X (fun l hl => hS.len hl) hb (show MRt n m3 s from w1) w2 w3
  | succ k ih =>
    intro j tk d v h hj ho hd hp hr
    cases hq : itemT t tk d with
    | inl p =>
      rw [hq] at hr
      obtain ⟨rfl, m1, rfl, q1, q2, q3⟩ := hr
      exact ⟨0, rfl, e7_fail X (fun l hl => hS.len hl) hb q1 q2 q3⟩
    | inr q =>
      obtain ⟨hF, hO⟩ := itemT_F hq ho hd
      obtain ⟨f1, f2, f3⟩ := hF.ok
      rw [hq] at hr
      obtain ⟨rfl, m1, rfl, q1, q2, q3⟩ := hr
      refine ⟨1, rfl, ?_⟩
      by_cases h3 : q.2.2.2 = 3
      case neg =>
        have := e7_last X (k := j) h3 (fun l hl => hS.len hl) hb q1 q2 q3 (c := c) (n := n)
        unfold itS
        dsimp only
        rw [if_neg h3]
        exact this
      have h0 : ¬ q.2.2.2 = 0 := by rw [h3]; decide
      have f4 := f3 h0
      unfold itS
      dsimp only
      rw [if_neg h0, if_pos h3, itemsT_s]
      have hN := (tok_ok f1.2)
      iterate 1 (refine G.st rfl rfl ?_)
      refine G.brf rfl (by decide) ?_
      iterate 3 (refine G.st rfl rfl ?_)
      show G X 10 kX7_town 36 [.ref 81, .int (nI j), .int 1] [.int 3, .int (mtk m1)] (HR c m1) _
      rw [q3.2.2.2.2.1]
      refine G.brt rfl (tkc_3.mpr h3) ?_
      iterate 1 (refine G.st rfl rfl ?_)
      refine G.call rfl rfl (Nat.le_of_ble_eq_true rfl) (Sp.up (s7_nextR X q1 q2 q3) (Nat.le_of_ble_eq_true rfl)) ?_
      rintro _ _ ⟨rfl, m2, rfl, ⟨hM2, hb2, hP2⟩, hT2⟩
      iterate 1 (refine G.st rfl rfl ?_)
      refine G.call rfl rfl (Nat.le_of_ble_eq_true rfl) (Sp.up (s7_itemHere X (show SOk (zTw s q.1) from ⟨hO, hS.2⟩) hM2 hb2 hT2) (Nat.le_of_ble_eq_true rfl)) ?_
      intro v h w
      obtain ⟨z, rfl, hG⟩ := ih (j + 1) (tok t q.2.2.1) q.1 v h (by omega) hN.1 hO (by have := hN.2.1; omega) (IPR_s w)
      iterate 2 (refine G.st rfl rfl ?_)
      rw [nI_1]
      iterate 1 (refine G.st rfl rfl ?_)
      exact hG
theorem e7_cb {f : Nat → Int32} : (HR c m).set 84 (iA 110 f) = HR c (mSbf m f) := rfl
theorem k7_tA (X : aX) {Q : Option Value → aH → Prop} (k : ∀ f, (∀ j, j < 110 → f j = ms m j) → G X 10 kX7_town 11 [.ref 81, .double 0, .double 0] [] (HR c (mSbf m f)) Q) : G X 10 kX7_town 0 [.ref 81, .double 0, .double 0] [] (HR c m) Q := by
  iterate 4 (refine G.st rfl rfl ?_)
  refine G.call rfl rfl (Nat.le_of_ble_eq_true rfl) (Sp.up (s7_copyRow X (h := HR c m) (a := 82) (b := 84) (fa := ms m) (fb := mbf m) rfl rfl (by decide)) (Nat.le_of_ble_eq_true rfl)) ?_
  rintro _ _ ⟨rfl, f', rfl, hf⟩
  rw [e7_cb]
  exact k f' hf
theorem TPR_of (hS : SOk s) (hM : MR n m s) : TPR m (zT s) := ⟨hM.2.2.1.1, hS.2.2.1.1, fun j hj => ⟨hM.2.2.1.2 j hj, hS.2.2.1.2 _ (by unfold bt; rw [List.getD_eq_getElem?_getD, List.getElem?_eq_getElem hj]; exact List.getElem_mem hj)⟩⟩
theorem k7_tB (X : aX) (hS : SOk s) (hb : MT b (zt s)) (hM2 : MR n m s) (hb2 : mbf m = b) (hto : mto m = nI 0) : G X 10 kX7_town 16 [.ref 81, .double 0, .double 0] [] (HR c m) (TWR c n s (itS (zT s) 119 1 (itemT (zT s) (tok (zT s) 0) (zt s)))) := by
  have hTP := TPR_of hS hM2
  iterate 1 (refine G.st rfl rfl ?_)
  refine G.call rfl rfl (Nat.le_of_ble_eq_true rfl) (Sp.up (s7_nextToken (t := zT s) (P := PRow n b (zT s) s) X (PRow_c n b (zT s) s) (fun _ q => q.2.2) ⟨hM2, hb2, hTP⟩ hto (Nat.zero_le _)) (Nat.le_of_ble_eq_true rfl)) ?_
  rintro _ _ ⟨rfl, m3, rfl, ⟨hM3, hb3, hP3⟩, hT3⟩
  iterate 3 (refine G.st rfl rfl ?_)
  refine G.call rfl rfl (Nat.le_of_ble_eq_true rfl) (Sp.up (s7_itemHere X hS hM3 hb3 hT3) (Nat.le_of_ble_eq_true rfl)) ?_
  intro v h w
  obtain ⟨z, rfl, hG⟩ := l7_items X hS hb hS.2.2.1.1 119 1 (tok (zT s) 0) (zt s) v h (by omega) (tok_ok (Nat.zero_le _)).1 hS.1 (by omega) w
  iterate 1 (refine G.st rfl rfl ?_)
  exact hG
theorem mto_0 : mto (mSto m 0) = nI 0 := rfl
theorem telT_s (t : List Int32) (d : Twn) : telT t d = itS t 119 1 (itemT t (tok t 0) d) := by
  unfold telT
  rw [itemsT_s]
theorem MR.bf (h : MR n m s) (f : Nat → Int32) : MR n (mSbf m f) s := ⟨h.1, h.2.1, h.2.2.1, h.2.2.2.1, h.2.2.2.2.1, h.2.2.2.2.2⟩
theorem mbf_s (f : Nat → Int32) : mbf (mSbf m f) = f := rfl
theorem k7_tD (X : aX) (hS : SOk s) (hb : MT b (zt s)) (hM : MR n m s) (hb1 : mbf m = b) : G X 10 kX7_town 11 [.ref 81, .double 0, .double 0] [] (HR c m) (TWR c n s (itS (zT s) 119 1 (itemT (zT s) (tok (zT s) 0) (zt s)))) := by
  refine k7_t0 X ?_
  have hP := (PRow_c n b (zT s) s m 0 ⟨hM, hb1, TPR_of hS hM⟩).2.2.1
  have hto := mto_0 (m := m)
  generalize mSto m 0 = m1 at hP hto ⊢
  exact k7_tB X hS hb hP.1 hP.2.1 hto
theorem k7_tE (X : aX) (hS : SOk s) (hM : MR n m s) : G X 10 kX7_town 0 [.ref 81, .double 0, .double 0] [] (HR c m) (TWR c n s (itS (zT s) 119 1 (itemT (zT s) (tok (zT s) 0) (zt s)))) := by
  refine k7_tA X (fun f' hf => ?_)
  have hb : MT f' (zt s) := hM.1.eq (fun l hl => hS.len hl) hf
  exact k7_tD X hS hb (hM.bf f') (mbf_s f')
theorem k7_tC (X : aX) (hS : SOk s) (hM : MR n m s) : G X 10 kX7_town 0 [.ref 81, .double 0, .double 0] [] (HR c m) (TWR c n s (telT (zT s) (zt s))) := by
  rw [telT_s]
  exact k7_tE X hS hM
theorem TWR_M {v : Option Value} {h : aH} (w : TWR c n s (telT (zT s) (zt s)) v h) : MP c n (S_town s) v h := by
  unfold S_town
  cases hq : telT (zT s) (zt s) with
  | inl p => rw [hq] at w; exact w
  | inr q => rw [hq] at w; exact w
theorem p7_town (X : aX) (hS : SOk s) (hM : MR n m s) : Sp X 10 kX7_town [.ref 81] (HR c m) (MP c n (S_town s)) := by
  unfold Sp
  exact (k7_tC X hS hM).imp (fun _ _ => TWR_M)
end RTOWN
