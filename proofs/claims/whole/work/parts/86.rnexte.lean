/-! ===== the reference: the next token, whole ===== -/
section RNEXTE
variable {c : Nat → aC} {m : sM} {t : List Int32}
theorem k7_e0 (X : aX) {u : Value} {x : Int32} {Q : Option Value → aH → Prop} (hQ : Q none (HR c (mSto m x))) : G X 1 kX7_nextToken 240 [.ref 81, u] [.int x, .ref 81] (HR c m) Q := by
  iterate 1 (refine G.st rfl rfl ?_)
  exact G.ret rfl rfl hQ
theorem k7_e1 (X : aX) {i : Nat} {u : Value} {Q : Option Value → aH → Prop} (hf : mto m = nI i) (hQ : Q none (HR c (mSto m (nI (i + (if 2 < mtk m then 1 else 0)))))) : G X 1 kX7_nextToken 221 [.ref 81, u] [] (HR c m) Q := by
  iterate 3 (refine G.st rfl rfl ?_)
  show G X 1 kX7_nextToken 226 [.ref 81, u] [.int (mto m), .ref 81] (HR c m) Q
  rw [hf]
  iterate 3 (refine G.st rfl rfl ?_)
  by_cases h2 : 2 < mtk m
  · rw [if_pos h2] at hQ
    refine G.brf rfl (Int32.not_le.mpr h2) ?_
    iterate 3 (refine G.st rfl rfl ?_)
    rw [nI_1]
    exact k7_e0 X hQ
  · rw [if_neg h2] at hQ
    refine G.brt rfl (Int32.not_lt.mp h2) ?_
    iterate 2 (refine G.st rfl rfl ?_)
    rw [Int32.add_zero]
    exact k7_e0 X hQ
theorem tokAt_st (t : List Int32) (st : Nat) : (tokAt t st).1 = st := by
  unfold tokAt
  split <;> rfl
theorem tkv_eq (t : List Int32) (st : Nat) : tkv t st = tkc (tokAt t st).2.2 := by
  unfold tokAt tkv
  split <;> rfl
theorem s7_nextToken (X : aX) {e : Nat} {P : sM → Prop} (hP : Pc P) (hTP : ∀ m, P m → TPR m t) (hPm : P m) (he : mto m = nI e) (hle : e ≤ t.length) : Sp X 1 kX7_nextToken [.ref 81] (HR c m) (fun v h' => v = none ∧ ∃ m', h' = HR c m' ∧ P m' ∧ TKR m' t (tok t e)) := by
  unfold Sp
  refine k7_a0 X he ?_
  have hsk := skB_in t (t.length - e) e
  have hok := (tok_ok hle).1
  refine l7_skip X (fun m x q => (hP m x q).1) hTP (t.length - e) e _ (by omega) ((hP m _ hPm).1) rfl ?_
  intro m1 hP1 hf1
  unfold tok at hok ⊢
  generalize skB t (t.length - e) e = st at hsk hok hf1 ⊢
  have hst : st ≤ t.length := by omega
  refine k7_b1 X hf1 ?_
  have hP2 := (hP m1 (nI st) hP1).2.2.1
  have hf2 : mfr (mSto m1 (nI st)) = nI st := hf1
  have ht2 : mto (mSto m1 (nI st)) = nI st := rfl
  generalize mSto m1 (nI st) = m2 at hP2 hf2 ht2 ⊢
  refine k7_b2 X (hTP _ hP2) hst hf2 ?_
  intro x
  refine k7_b3 X ?_
  have hP3 := (hP m2 (tkv t st) hP2).2.1
  have hf3 : mfr (mStk m2 (tkv t st)) = nI st := hf2
  have ht3 : mto (mStk m2 (tkv t st)) = nI st := ht2
  have hk3 : mtk (mStk m2 (tkv t st)) = tkv t st := rfl
  generalize mStk m2 (tkv t st) = m3 at hP3 hf3 ht3 hk3 ⊢
  refine k7_b4 X ?_
  have hP4 := (hP m3 0 hP3).2.2.2.1
  have hf4 : mfr (mSva m3 0) = nI st := hf3
  have ht4 : mto (mSva m3 0) = nI st := ht3
  have hk4 : mtk (mSva m3 0) = tkv t st := hk3
  have hv4 : mva (mSva m3 0) = 0 := rfl
  generalize mSva m3 0 = m4 at hP4 hf4 ht4 hk4 hv4 ⊢
  have fin : ∀ (m5 : sM) (i : Nat), P m5 → mfr m5 = nI st → mtk m5 = tkv t st → mto m5 = nI i → (i + (if 2 < tkv t st then 1 else 0)) = (tokAt t st).2.1 → ((tokAt t st).2.2 = 2 → mva m5 = numV t (tokAt t st)) → G X 1 kX7_nextToken 221 [.ref 81, .int x] [] (HR c m5) (fun v h' => v = none ∧ ∃ m', h' = HR c m' ∧ P m' ∧ TKR m' t (tokAt t st)) := by
    intro m5 i q1 q2 q3 q4 q5 q6
    refine k7_e1 X q4 ?_
    rw [q3, q5]
    have q7 := (hP m5 (nI (tokAt t st).2.1) q1).2.2.1
    exact ⟨rfl, _, rfl, q7, hTP _ q7, hok, q2.trans (by rw [tokAt_st]), rfl, q3.trans (tkv_eq t st), q6⟩
  by_cases h1 : st < t.length ∧ srt (bt t st) = 1
  · have e1 : tkv t st = 1 := by unfold tkv; rw [if_pos h1.1, h1.2]; decide
    have e2 : (tokAt t st).2.1 = rnB t 1 (t.length - st) st := by
      unfold tokAt
      rw [if_pos h1.1, h1.2, show t.length - st = (t.length - (st + 1)) + 1 by omega]
      have r : rnB t 1 ((t.length - (st + 1)) + 1) st = rnB t 1 (t.length - (st + 1)) (st + 1) := if_pos h1.2
      rw [r]
      exact show (if (1 : Int32) = 1 ∨ (1 : Int32) = 2 then rnB t 1 (t.length - (st + 1)) (st + 1) else st + 1) = _ from if_pos (Or.inl rfl)
    have e3 : (tokAt t st).2.2 = 1 := by unfold tokAt; rw [if_pos h1.1]; exact h1.2
    refine l7_let (P := fun m => P m ∧ mfr m = nI st ∧ mtk m = 1) X (fun m x q => ⟨(hP m x q.1).2.2.1, q.2⟩) (fun m q => ⟨hTP m q.1, q.2.2⟩) (t.length - st) st m4 (by omega) ⟨hP4, hf4, hk4.trans e1⟩ ht4 ?_
    intro m5 q1 q2
    iterate 3 (refine G.st rfl rfl ?_)
    refine G.brf rfl (by show ¬ mtk m5 = 2; rw [q1.2.2]; decide) ?_
    refine fin m5 _ q1.1 q1.2.1 (q1.2.2.trans e1.symm) q2 ?_ (fun q => absurd (e3.symm.trans q) (by decide))
    rw [e1, e2]
    rfl
  have n1 : ¬ tkv t st = 1 := by
    unfold tkv
    intro q
    apply h1
    split at q
    · rename_i hl
      refine ⟨hl, ?_⟩
      have := srt_v (bt t st)
      revert q
      rcases this with w | w | w | w | w <;> rw [w] <;> decide
    · exact absurd q (by decide)
  iterate 3 (refine G.st rfl rfl ?_)
  refine G.brf rfl (by show ¬ mtk m4 = 1; rw [hk4]; exact n1) ?_
  by_cases h2 : st < t.length ∧ srt (bt t st) = 2
  · have e1 : tkv t st = 2 := by unfold tkv; rw [if_pos h2.1, h2.2]; decide
    have e2 : (tokAt t st).2.1 = rnB t 2 (t.length - st) st := by
      unfold tokAt
      rw [if_pos h2.1, h2.2, show t.length - st = (t.length - (st + 1)) + 1 by omega]
      have r : rnB t 2 ((t.length - (st + 1)) + 1) st = rnB t 2 (t.length - (st + 1)) (st + 1) := if_pos h2.2
      rw [r]
      exact show (if (2 : Int32) = 1 ∨ (2 : Int32) = 2 then rnB t 2 (t.length - (st + 1)) (st + 1) else st + 1) = _ from if_pos (Or.inr rfl)
    refine l7_dig (P := fun m => P m ∧ mfr m = nI st ∧ mtk m = 2) X (fun m x y q => ⟨(hP _ y (hP m x q.1).2.2.2.1).2.2.1, q.2⟩) (fun m q => ⟨hTP m q.1, q.2.2⟩) (t.length - st) st m4 0 (by omega) ⟨hP4, hf4, hk4.trans e1⟩ ht4 hv4 ?_
    intro m5 q1 q2 q3
    refine fin m5 _ q1.1 q1.2.1 (q1.2.2.trans e1.symm) q2 ?_ (fun _ => ?_)
    · rw [e1, e2]
      rfl
    · unfold numV
      rw [e2, tokAt_st]
      exact q3
  have n2 : ¬ tkv t st = 2 := by
    unfold tkv
    intro q
    apply h2
    split at q
    · rename_i hl
      refine ⟨hl, ?_⟩
      have := srt_v (bt t st)
      revert q
      rcases this with w | w | w | w | w <;> rw [w] <;> decide
    · exact absurd q (by decide)
  iterate 3 (refine G.st rfl rfl ?_)
  refine G.brf rfl (by show ¬ mtk m4 = 2; rw [hk4]; exact n2) ?_
  refine fin m4 st hP4 hf4 hk4 ht4 ?_ (fun q => ?_)
  · by_cases hl : st < t.length
    · have h3 : srt (bt t st) = 3 ∨ srt (bt t st) = 4 ∨ srt (bt t st) = 5 := by
        rcases srt_v (bt t st) with w | w | w
        · exact absurd ⟨hl, w⟩ h1
        · exact absurd ⟨hl, w⟩ h2
        · exact w
      unfold tkv tokAt
      rw [if_pos hl, if_pos hl]
      generalize srt (bt t st) = w at h3 ⊢
      rcases h3 with w | w | w <;> rw [w] <;> rfl
    · unfold tkv tokAt
      rw [if_neg hl, if_neg hl]
      rfl
  · exfalso
    apply h2
    revert q
    unfold tokAt
    split
    · rename_i hl
      intro q
      exact ⟨hl, q⟩
    · intro q
      exact absurd (show (0 : Int32) = 2 from q) (by decide)
end RNEXTE
