/-! ===== the text: tokens ===== -/
def bt (t : List Int32) (i : Nat) : Int32 := t.getD i 0
def srt (c : Int32) : Int32 := if 97 ≤ c ∧ c ≤ 122 then 1 else if 48 ≤ c ∧ c ≤ 57 then 2 else if c = 59 then 3 else if c = 45 then 4 else 5
theorem srt_v (c : Int32) : srt c = 1 ∨ srt c = 2 ∨ srt c = 3 ∨ srt c = 4 ∨ srt c = 5 := by
  unfold srt
  grind
def skB (t : List Int32) : Nat → Nat → Nat
  | 0, i => i
  | k + 1, i => if bt t i = 32 then skB t k (i + 1) else i
def rnB (t : List Int32) (s : Int32) : Nat → Nat → Nat
  | 0, i => i
  | k + 1, i => if srt (bt t i) = s then rnB t s k (i + 1) else i
theorem skB_in (t : List Int32) : ∀ (k i : Nat), i ≤ skB t k i ∧ skB t k i ≤ i + k
  | 0, i => ⟨Nat.le_refl _, Nat.le_refl _⟩
  | k + 1, i => by
    unfold skB
    have := skB_in t k (i + 1)
    split <;> omega
theorem rnB_in (t : List Int32) (s : Int32) : ∀ (k i : Nat), i ≤ rnB t s k i ∧ rnB t s k i ≤ i + k
  | 0, i => ⟨Nat.le_refl _, Nat.le_refl _⟩
  | k + 1, i => by
    unfold rnB
    have := rnB_in t s k (i + 1)
    split <;> omega
/-- start, end, sort -/
abbrev Tk : Type := Nat × Nat × Int32
def tokAt (t : List Int32) (st : Nat) : Tk := if st < t.length then (st, (if srt (bt t st) = 1 ∨ srt (bt t st) = 2 then rnB t (srt (bt t st)) (t.length - (st + 1)) (st + 1) else st + 1), srt (bt t st)) else (st, st, 0)
def tok (t : List Int32) (e : Nat) : Tk := tokAt t (skB t (t.length - e) e)
def TkOk (t : List Int32) (tk : Tk) : Prop := tk.1 ≤ tk.2.1 ∧ tk.2.1 ≤ t.length
theorem tok_ok {t : List Int32} {e : Nat} (h : e ≤ t.length) : TkOk t (tok t e) ∧ e ≤ (tok t e).1 ∧ ((tok t e).2.2 ≠ 0 → (tok t e).1 < (tok t e).2.1) := by
  unfold tok tokAt TkOk
  have h1 := skB_in t (t.length - e) e
  have h2 := rnB_in t (srt (bt t (skB t (t.length - e) e))) (t.length - (skB t (t.length - e) e + 1)) (skB t (t.length - e) e + 1)
  split
  · dsimp only
    split <;> omega
  · dsimp only
    refine ⟨by omega, by omega, fun q => absurd rfl q⟩
def TpR (tp : sP) (t : List Int32) : Prop := pln tp = nI t.length ∧ t.length ≤ 120 ∧ ∀ j, j < t.length → pby tp j = bt t j
def tpT (tp : sP) (tk : Tk) : sP := pSso (pSen (pSst tp (nI tk.1)) (nI tk.2.1)) tk.2.2
section TOK
variable {rw : Nat → sR} {nu : Nat → Nat → Int32} {wd : Nat → Int32 × Int32} {vo : sV} {od : sO} {sh : Nat → sS} {fi : Nat → Int32} {ik : Int32} {m : sM} {t : List Int32}
theorem s3_sortOf (X : aX) (c : Int32) (h : aH) : Sp X 0 kX3_sortOf [.int c] h (An (some (.int (srt c))) h) := by
  unfold Sp
  repeat' (first | refine G.st rfl rfl ?_ | refine G.br rfl (fun hc => ?_) (fun hc => ?_) | refine G.ret rfl rfl ?_)
  all_goals (refine ⟨?_, rfl⟩; unfold srt; grind)
theorem l3_skip (X : aX) {tp : sP} {Q : Option Value → aH → Prop} (hT : TpR tp t) {u : Value} (hq : ∀ j, G X 1 kX3_step 46 [.ref 69, u] [] (H rw nu wd vo od (pSst tp (nI j)) sh fi ik m) (Q) → True) (R : Nat → Prop) (hR : ∀ j, R j → G X 1 kX3_step 46 [.ref 69, u] [] (H rw nu wd vo od (pSst tp (nI j)) sh fi ik m) Q) : ∀ (k i : Nat), i + k = t.length → R (skB t k i) → G X 1 kX3_step 8 [.ref 69, u] [] (H rw nu wd vo od (pSst tp (nI i)) sh fi ik m) Q
  | 0, i, hi, hr => by
    obtain ⟨t1, t2, t3⟩ := hT
    iterate 4 (refine G.st rfl rfl ?_)
    refine G.brt rfl (by show pln tp ≤ nI i; rw [t1, nI_leI (by omega) (by omega)]; omega) ?_
    exact hR i hr
  | k + 1, i, hi, hr => by
    obtain ⟨t1, t2, t3⟩ := id hT
    iterate 4 (refine G.st rfl rfl ?_)
    refine G.brf rfl (by show ¬ pln tp ≤ nI i; rw [t1, nI_leI (by omega) (by omega)]; omega) ?_
    iterate 4 (refine G.st rfl rfl ?_)
    refine G.iald rfl rfl (ix_nI (show i < 120 by omega) (by omega)) ?_
    show G X 1 kX3_step 28 [.ref 69, u] [.int (pby tp i)] (H rw nu wd vo od (pSst tp (nI i)) sh fi ik m) Q
    rw [t3 i (by omega)]
    iterate 1 (refine G.st rfl rfl ?_)
    unfold skB at hr
    by_cases hc : bt t i = 32
    · rw [if_pos hc] at hr
      refine G.brt rfl hc ?_
      iterate 5 (refine G.st rfl rfl ?_)
      rw [nI_1]
      iterate 2 (refine G.st rfl rfl ?_)
      exact l3_skip X hT hq R hR k (i + 1) (by omega) hr
    · rw [if_neg hc] at hr
      refine G.brf rfl hc ?_
      exact hR i hr
theorem l3_run (X : aX) {tp : sP} {so : Int32} (hT : TpR tp t) (hs : pso tp = so) : ∀ (k i : Nat), i + k = t.length → G X 1 kX3_step 123 [.ref 69, .int 1] [] (H rw nu wd vo od (pSen tp (nI i)) sh fi ik m) (An none (H rw nu wd vo od (pSen tp (nI (rnB t so k i))) sh fi ik m))
  | 0, i, hi => by
    obtain ⟨t1, t2, t3⟩ := hT
    iterate 1 (refine G.st rfl rfl ?_)
    refine G.brf rfl (by decide) ?_
    iterate 4 (refine G.st rfl rfl ?_)
    refine G.brt rfl (by show pln tp ≤ nI i; rw [t1, nI_leI (by omega) (by omega)]; omega) ?_
    exact G.ret rfl rfl ⟨rfl, rfl⟩
  | k + 1, i, hi => by
    obtain ⟨t1, t2, t3⟩ := id hT
    iterate 1 (refine G.st rfl rfl ?_)
    refine G.brf rfl (by decide) ?_
    iterate 4 (refine G.st rfl rfl ?_)
    refine G.brf rfl (by show ¬ pln tp ≤ nI i; rw [t1, nI_leI (by omega) (by omega)]; omega) ?_
    iterate 4 (refine G.st rfl rfl ?_)
    refine G.iald rfl rfl (ix_nI (show i < 120 by omega) (by omega)) ?_
    show G X 1 kX3_step 147 [.ref 69, .int 1] [.int (pby tp i)] (H rw nu wd vo od (pSen tp (nI i)) sh fi ik m) _
    rw [t3 i (by omega)]
    refine G.call rfl rfl (Nat.le_of_ble_eq_true rfl) (Sp.up (s3_sortOf X _ _) (Nat.le_of_ble_eq_true rfl)) ?_
    rintro _ _ ⟨rfl, rfl⟩
    iterate 2 (refine G.st rfl rfl ?_)
    unfold rnB
    by_cases hc : srt (bt t i) = so
    · rw [if_pos hc]
      refine G.brt rfl (hc.trans hs.symm) ?_
      iterate 5 (refine G.st rfl rfl ?_)
      rw [nI_1]
      iterate 2 (refine G.st rfl rfl ?_)
      exact l3_run X hT hs k (i + 1) (by omega)
    · rw [if_neg hc]
      refine G.brf rfl (fun q => hc (q.trans hs)) ?_
      exact G.ret rfl rfl ⟨rfl, rfl⟩
theorem g3_step2 (X : aX) {tp : sP} {st : Nat} {u : Value} (hT : TpR tp t) (hst : st ≤ t.length) : G X 1 kX3_step 46 [.ref 69, u] [] (H rw nu wd vo od (pSst tp (nI st)) sh fi ik m) (An none (H rw nu wd vo od (tpT tp (tokAt t st)) sh fi ik m)) := by
  obtain ⟨t1, t2, t3⟩ := id hT
  iterate 5 (refine G.st rfl rfl ?_)
  unfold tokAt
  by_cases hlt : st < t.length
  · rw [if_pos hlt]
    refine G.brf rfl (by show ¬ pln tp ≤ nI st; rw [t1, nI_leI (by omega) (by omega)]; omega) ?_
    iterate 4 (refine G.st rfl rfl ?_)
    refine G.iald rfl rfl (ix_nI (show st < 120 by omega) (by omega)) ?_
    show G X 1 kX3_step 67 [.ref 69, u] [.int (pby tp st), .ref 69] (H rw nu wd vo od (pSst tp (nI st)) sh fi ik m) _
    rw [t3 st hlt]
    refine G.call rfl rfl (Nat.le_of_ble_eq_true rfl) (Sp.up (s3_sortOf X _ _) (Nat.le_of_ble_eq_true rfl)) ?_
    rintro _ _ ⟨rfl, rfl⟩
    iterate 2 (refine G.st rfl rfl ?_)
    show G X 1 kX3_step 77 [.ref 69, u] [] (H rw nu wd vo od (pSso (pSst tp (nI st)) (srt (bt t st))) sh fi ik m) _
    have h5 := srt_v (bt t st)
    have long : (srt (bt t st) = 1 ∨ srt (bt t st) = 2) → G X 1 kX3_step 93 [.ref 69, u] [] (H rw nu wd vo od (pSso (pSst tp (nI st)) (srt (bt t st))) sh fi ik m) (An none (H rw nu wd vo od (tpT tp (st, rnB t (srt (bt t st)) (t.length - (st + 1)) (st + 1), srt (bt t st))) sh fi ik m)) := by
      intro hl
      iterate 2 (refine G.st rfl rfl ?_)
      refine G.st rfl rfl ?_
      iterate 3 (refine G.st rfl rfl ?_)
      refine G.brf rfl (by show ¬ srt (bt t st) = 0; rcases hl with h | h <;> rw [h] <;> decide) ?_
      iterate 4 (refine G.st rfl rfl ?_)
      rw [nI_1]
      iterate 1 (refine G.st rfl rfl ?_)
      exact l3_run X (tp := pSso (pSst tp (nI st)) (srt (bt t st))) ⟨t1, t2, t3⟩ rfl (t.length - (st + 1)) (st + 1) (by omega)
    iterate 3 (refine G.st rfl rfl ?_)
    by_cases h1 : srt (bt t st) = 1
    · refine G.brt rfl h1 ?_
      rw [if_pos (Or.inl h1)]
      exact long (Or.inl h1)
    refine G.brf rfl h1 ?_
    iterate 3 (refine G.st rfl rfl ?_)
    by_cases h2 : srt (bt t st) = 2
    · refine G.brt rfl h2 ?_
      rw [if_pos (Or.inr h2)]
      exact long (Or.inr h2)
    refine G.brf rfl h2 ?_
    rw [if_neg (fun q => q.elim h1 h2)]
    iterate 5 (refine G.st rfl rfl ?_)
    refine G.brf rfl (by show ¬ srt (bt t st) = 0; rcases h5 with h | h | h | h | h <;> rw [h] <;> decide) ?_
    iterate 4 (refine G.st rfl rfl ?_)
    rw [nI_1]
    iterate 2 (refine G.st rfl rfl ?_)
    refine G.brt rfl rfl ?_
    exact G.ret rfl rfl ⟨rfl, rfl⟩
  · rw [if_neg hlt]
    refine G.brt rfl (by show pln tp ≤ nI st; rw [t1, nI_leI (by omega) (by omega)]; omega) ?_
    iterate 5 (refine G.st rfl rfl ?_)
    refine G.brf rfl (by show ¬ (0 : Int32) = 1; decide) ?_
    iterate 3 (refine G.st rfl rfl ?_)
    refine G.brf rfl (by show ¬ (0 : Int32) = 2; decide) ?_
    iterate 5 (refine G.st rfl rfl ?_)
    refine G.brt rfl rfl ?_
    iterate 5 (refine G.st rfl rfl ?_)
    refine G.brt rfl rfl ?_
    exact G.ret rfl rfl ⟨rfl, rfl⟩
theorem s3_step (X : aX) {tp : sP} {e : Nat} (hT : TpR tp t) (he : pen tp = nI e) (hel : e ≤ t.length) : Sp X 1 kX3_step [.ref 69] (H rw nu wd vo od tp sh fi ik m) (An none (H rw nu wd vo od (tpT tp (tok t e)) sh fi ik m)) := by
  unfold Sp
  iterate 3 (refine G.st rfl rfl ?_)
  rw [he]
  iterate 1 (refine G.st rfl rfl ?_)
  refine l3_skip X hT (fun _ _ => trivial) (fun j => j = skB t (t.length - e) e) (fun j hj => ?_) (t.length - e) e (by omega) rfl
  subst hj
  exact g3_step2 X hT (by have := skB_in t (t.length - e) e; omega)
end TOK
