/-! ===== the text: words and numbers ===== -/
def cds (i : Nat) : List Int32 := (sT.getD i (0, [])).2
theorem G.callS {X : aX} {d : Nat} {mi : aM} {pc : Nat} {lo st : List Value} {h : aH} {Q : Option Value → aH → Prop} {i nx y b k : Nat} {as : List Value} {my : aM} {Q' : Option Value → aH → Prop} (he : ent mi pc = some (.invokevirtual i, nx, y, b, .retAddr 12)) (hst : st[b - 1]? = some (.retAddr k)) (has : (st.take b).reverse = as) (hk : 10 ≤ k ∧ k < 21) (h8 : ((st.drop b).map Value.category).sum ≤ 8) (hy : mT y = some my) (hl : (elo as).length ≤ my.2.1) (kc : Sp X d my as h Q') (k' : ∀ v h', Q' v h' → G X (d + 1) mi nx lo (v.toList ++ st.drop b) h' Q) : G X (d + 1) mi pc lo st h Q := by
  refine G.call (as := as) ?_ hy hl kc k'
  simp only [sA, he, stp, hst]
  rw [if_pos ⟨trivial, hk.1, hk.2, h8⟩, has]
theorem lt11 {i : Nat} (h : i < 11) : i = 0 ∨ i = 1 ∨ i = 2 ∨ i = 3 ∨ i = 4 ∨ i = 5 ∨ i = 6 ∨ i = 7 ∨ i = 8 ∨ i = 9 ∨ i = 10 := by omega
theorem cds_len : ∀ i, i < 11 → (cds i).length < 9 ∧ 0 < (cds i).length := by decide
theorem cds_ch : ∀ i, i < 11 → ∀ j, j < (cds i).length → ((((cds i).getD j 0) &&& 255).toUInt32 % 65536).toInt32 = (cds i).getD j 0 ∧ rok (some .char) (some (.int ((cds i).getD j 0))) = true := by decide +kernel
theorem sj_coder (X : aX) {i : Nat} (hi : i < 11) (h : aH) : Sp X 0 kJ0_coder_7d493 [.retAddr (10 + i)] h (An (some (.int 0)) h) := by
  unfold Sp
  rcases lt11 hi with rfl | rfl | rfl | rfl | rfl | rfl | rfl | rfl | rfl | rfl | rfl
  all_goals (iterate 5 (refine G.st rfl rfl ?_))
  all_goals exact G.ret rfl rfl ⟨rfl, rfl⟩
theorem sj_isLatin1 (X : aX) {i : Nat} (hi : i < 11) (h : aH) : Sp X 0 kJ0_isLatin1_aae02 [.retAddr (10 + i)] h (An (some (.int 1)) h) := by
  unfold Sp
  rcases lt11 hi with rfl | rfl | rfl | rfl | rfl | rfl | rfl | rfl | rfl | rfl | rfl
  all_goals (iterate 7 (refine G.st rfl rfl ?_))
  all_goals exact G.ret rfl rfl ⟨rfl, rfl⟩
theorem sj_length (X : aX) {i : Nat} (hi : i < 11) (h : aH) : Sp X 1 kJ0_length_8abf5 [.retAddr (10 + i)] h (An (some (.int (nI (cds i).length))) h) := by
  unfold Sp
  rcases lt11 hi with rfl | rfl | rfl | rfl | rfl | rfl | rfl | rfl | rfl | rfl | rfl
  all_goals (iterate 4 (refine G.st rfl rfl ?_))
  · refine G.call rfl rfl (Nat.le_of_ble_eq_true rfl) (Sp.up (sj_coder X (i := 0) (by omega) _) (Nat.le_of_ble_eq_true rfl)) ?_
    rintro _ _ ⟨rfl, rfl⟩
    iterate 1 (refine G.st rfl rfl ?_)
    exact G.ret rfl rfl ⟨rfl, rfl⟩
  · refine G.call rfl rfl (Nat.le_of_ble_eq_true rfl) (Sp.up (sj_coder X (i := 1) (by omega) _) (Nat.le_of_ble_eq_true rfl)) ?_
    rintro _ _ ⟨rfl, rfl⟩
    iterate 1 (refine G.st rfl rfl ?_)
    exact G.ret rfl rfl ⟨rfl, rfl⟩
  · refine G.call rfl rfl (Nat.le_of_ble_eq_true rfl) (Sp.up (sj_coder X (i := 2) (by omega) _) (Nat.le_of_ble_eq_true rfl)) ?_
    rintro _ _ ⟨rfl, rfl⟩
    iterate 1 (refine G.st rfl rfl ?_)
    exact G.ret rfl rfl ⟨rfl, rfl⟩
  · refine G.call rfl rfl (Nat.le_of_ble_eq_true rfl) (Sp.up (sj_coder X (i := 3) (by omega) _) (Nat.le_of_ble_eq_true rfl)) ?_
    rintro _ _ ⟨rfl, rfl⟩
    iterate 1 (refine G.st rfl rfl ?_)
    exact G.ret rfl rfl ⟨rfl, rfl⟩
  · refine G.call rfl rfl (Nat.le_of_ble_eq_true rfl) (Sp.up (sj_coder X (i := 4) (by omega) _) (Nat.le_of_ble_eq_true rfl)) ?_
    rintro _ _ ⟨rfl, rfl⟩
    iterate 1 (refine G.st rfl rfl ?_)
    exact G.ret rfl rfl ⟨rfl, rfl⟩
  · refine G.call rfl rfl (Nat.le_of_ble_eq_true rfl) (Sp.up (sj_coder X (i := 5) (by omega) _) (Nat.le_of_ble_eq_true rfl)) ?_
    rintro _ _ ⟨rfl, rfl⟩
    iterate 1 (refine G.st rfl rfl ?_)
    exact G.ret rfl rfl ⟨rfl, rfl⟩
  · refine G.call rfl rfl (Nat.le_of_ble_eq_true rfl) (Sp.up (sj_coder X (i := 6) (by omega) _) (Nat.le_of_ble_eq_true rfl)) ?_
    rintro _ _ ⟨rfl, rfl⟩
    iterate 1 (refine G.st rfl rfl ?_)
    exact G.ret rfl rfl ⟨rfl, rfl⟩
  · refine G.call rfl rfl (Nat.le_of_ble_eq_true rfl) (Sp.up (sj_coder X (i := 7) (by omega) _) (Nat.le_of_ble_eq_true rfl)) ?_
    rintro _ _ ⟨rfl, rfl⟩
    iterate 1 (refine G.st rfl rfl ?_)
    exact G.ret rfl rfl ⟨rfl, rfl⟩
  · refine G.call rfl rfl (Nat.le_of_ble_eq_true rfl) (Sp.up (sj_coder X (i := 8) (by omega) _) (Nat.le_of_ble_eq_true rfl)) ?_
    rintro _ _ ⟨rfl, rfl⟩
    iterate 1 (refine G.st rfl rfl ?_)
    exact G.ret rfl rfl ⟨rfl, rfl⟩
  · refine G.call rfl rfl (Nat.le_of_ble_eq_true rfl) (Sp.up (sj_coder X (i := 9) (by omega) _) (Nat.le_of_ble_eq_true rfl)) ?_
    rintro _ _ ⟨rfl, rfl⟩
    iterate 1 (refine G.st rfl rfl ?_)
    exact G.ret rfl rfl ⟨rfl, rfl⟩
  · refine G.call rfl rfl (Nat.le_of_ble_eq_true rfl) (Sp.up (sj_coder X (i := 10) (by omega) _) (Nat.le_of_ble_eq_true rfl)) ?_
    rintro _ _ ⟨rfl, rfl⟩
    iterate 1 (refine G.st rfl rfl ?_)
    exact G.ret rfl rfl ⟨rfl, rfl⟩
theorem sj_pre (X : aX) {j n : Nat} (hj : j < n) (hn : n < 2 ^ 31) (h : aH) : Sp X 0 kJ3_checkIndex_8e157 [.int (nI j), .int (nI n), .retAddr 1] h (An (some (.int (nI j))) h) := by
  unfold Sp
  iterate 1 (refine G.st rfl rfl ?_)
  refine G.brf rfl (nI_pos (by omega)) ?_
  iterate 2 (refine G.st rfl rfl ?_)
  refine G.brt rfl (nI_lt hj hn) ?_
  iterate 1 (refine G.st rfl rfl ?_)
  exact G.ret rfl rfl ⟨rfl, rfl⟩
theorem sj_checkIndex (X : aX) {j n : Nat} (hj : j < n) (hn : n < 2 ^ 31) (h : aH) : Sp X 1 kJ0_checkIndex_df160 [.int (nI j), .int (nI n)] h (An none h) := by
  unfold Sp
  iterate 3 (refine G.st rfl rfl ?_)
  refine G.call rfl rfl (Nat.le_of_ble_eq_true rfl) (Sp.up (sj_pre X hj hn _) (Nat.le_of_ble_eq_true rfl)) ?_
  rintro _ _ ⟨rfl, rfl⟩
  iterate 1 (refine G.st rfl rfl ?_)
  exact G.ret rfl rfl ⟨rfl, rfl⟩
theorem sj_charAtL (X : aX) {i j : Nat} (hi : i < 11) (hj : j < (cds i).length) (h : aH) : Sp X 2 kJ1_charAt_3b067 [.retAddr (30 + i), .int (nI j)] h (An (some (.int ((cds i).getD j 0))) h) := by
  obtain ⟨c1, c2⟩ := cds_ch i hi j hj
  have hl := (cds_len i hi).1
  have hlen : ∀ Q, G X 2 kJ1_charAt_3b067 3 [.retAddr (30 + i), .int (nI j)] [.int (nI (cds i).length), .int (nI j)] h Q → G X 2 kJ1_charAt_3b067 0 (eL kJ1_charAt_3b067 [.retAddr (30 + i), .int (nI j)]) [] h Q := by
    intro Q hQ
    rcases lt11 hi with rfl | rfl | rfl | rfl | rfl | rfl | rfl | rfl | rfl | rfl | rfl
    all_goals (iterate 3 (refine G.st rfl rfl ?_))
    all_goals exact hQ
  have hx : xB (30 + i) = some ((cds i).length, fun j => (cds i).getD j 0) := by
    rcases lt11 hi with rfl | rfl | rfl | rfl | rfl | rfl | rfl | rfl | rfl | rfl | rfl <;> rfl
  unfold Sp
  refine hlen _ ?_
  refine G.call rfl rfl (Nat.le_of_ble_eq_true rfl) (Sp.up (sj_checkIndex X hj (by omega) _) (Nat.le_of_ble_eq_true rfl)) ?_
  rintro _ _ ⟨rfl, rfl⟩
  iterate 2 (refine G.st rfl rfl ?_)
  refine G.bald rfl hx (ix_nI hj (by omega)) ?_
  iterate 2 (refine G.st rfl rfl ?_)
  show G X 2 kJ1_charAt_3b067 13 [.retAddr (30 + i), .int (nI j)] [.int ((cds i).getD j 0 &&& 255)] _ _
  iterate 1 (refine G.st rfl rfl ?_)
  rw [c1]
  exact G.ret rfl c2 ⟨rfl, rfl⟩
theorem sj_charAt (X : aX) {i j : Nat} (hi : i < 11) (hj : j < (cds i).length) (h : aH) : Sp X 3 kJ0_charAt_5068e [.retAddr (10 + i), .int (nI j)] h (An (some (.int ((cds i).getD j 0))) h) := by
  obtain ⟨c1, c2⟩ := cds_ch i hi j hj
  have hg : ∀ Q, G X 3 kJ0_charAt_5068e 11 [.retAddr (10 + i), .int (nI j)] [.retAddr (30 + i)] h Q → G X 3 kJ0_charAt_5068e 7 [.retAddr (10 + i), .int (nI j)] [] h Q := by
    intro Q hQ
    rcases lt11 hi with rfl | rfl | rfl | rfl | rfl | rfl | rfl | rfl | rfl | rfl | rfl
    all_goals (iterate 2 (refine G.st rfl rfl ?_))
    all_goals exact hQ
  unfold Sp
  iterate 1 (refine G.st rfl rfl ?_)
  refine G.callS (k := 10 + i) rfl rfl rfl (by omega) (Nat.le_of_ble_eq_true rfl) rfl (Nat.le_of_ble_eq_true rfl) (Sp.up (sj_isLatin1 X hi h) (by omega)) ?_
  rintro _ _ ⟨rfl, rfl⟩
  refine G.brf rfl (by decide) ?_
  refine hg _ ?_
  iterate 1 (refine G.st rfl rfl ?_)
  refine G.call rfl rfl (Nat.le_of_ble_eq_true rfl) (Sp.up (sj_charAtL X hi hj _) (Nat.le_of_ble_eq_true rfl)) ?_
  rintro _ _ ⟨rfl, rfl⟩
  exact G.ret rfl c2 ⟨rfl, rfl⟩
/-- the token is a word -/
def isW (t : List Int32) (tk : Tk) (cs : List Int32) : Prop := tk.2.2 = 1 ∧ tk.2.1 - tk.1 = cs.length ∧ ∀ j, j < cs.length → bt t (tk.1 + j) = cs.getD j 0
def isWD (t : List Int32) (tk : Tk) (cs : List Int32) : Decidable (isW t tk cs) := by unfold isW; infer_instance
noncomputable def wB (t : List Int32) (tk : Tk) (i : Nat) : Bool := @decide (isW t tk (cds i)) (isWD t tk (cds i))
theorem wB_t {t : List Int32} {tk : Tk} {i : Nat} : wB t tk i = true ↔ isW t tk (cds i) := by
  unfold wB
  rw [@decide_eq_true_eq _ (isWD t tk (cds i))]
def TK (tp : sP) (t : List Int32) (tk : Tk) : Prop := TpR tp t ∧ TkOk t tk ∧ pst tp = nI tk.1 ∧ pen tp = nI tk.2.1 ∧ pso tp = tk.2.2
def numB (t : List Int32) : Nat → Nat → Int32 → Int32
  | 0, _, a => a
  | k + 1, i, a => numB t k (i + 1) (if 9999 < a then a else 10 * a + bt t i - 48)
def numV (t : List Int32) (tk : Tk) : Int32 := numB t (tk.2.1 - tk.1) tk.1 0
section WORD
variable {rw : Nat → sR} {nu : Nat → Nat → Int32} {wd : Nat → Int32 × Int32} {vo : sV} {od : sO} {sh : Nat → sS} {fi : Nat → Int32} {ik : Int32} {m : sM} {t : List Int32} {tp : sP} {tk : Tk}
theorem l3_isWord (X : aX) {i : Nat} (hi : i < 11) (hT : TK tp t tk) (h1 : tk.2.2 = 1) (h2 : tk.2.1 - tk.1 = (cds i).length) : ∀ (k j : Nat), j + k = (cds i).length → (∀ r, r < j → bt t (tk.1 + r) = (cds i).getD r 0) → G X 4 kX3_isWord 28 [.ref 69, .retAddr (10 + i), .int (nI j)] [] (H rw nu wd vo od tp sh fi ik m) (An (some (.int (bI (wB t tk i = true)))) (H rw nu wd vo od tp sh fi ik m))
  | 0, j, hj, hr => by
    have hl := (cds_len i hi).1
    iterate 2 (refine G.st rfl rfl ?_)
    refine G.callS (k := 10 + i) rfl rfl rfl (by omega) (Nat.le_of_ble_eq_true rfl) rfl (Nat.le_of_ble_eq_true rfl) (Sp.up (sj_length X hi _) (by omega)) ?_
    rintro _ _ ⟨rfl, rfl⟩
    refine G.brt rfl (by rw [nI_leI (by omega) (by omega)]; omega) ?_
    iterate 1 (refine G.st rfl rfl ?_)
    refine G.ret rfl rfl ⟨?_, rfl⟩
    rw [bI_t (wB_t.mpr ⟨h1, h2, fun r hr2 => hr r (by omega)⟩)]
  | k + 1, j, hj, hr => by
    have hl := (cds_len i hi).1
    obtain ⟨⟨t1, t2, t3⟩, ⟨o1, o2⟩, e1, e2, e3⟩ := id hT
    iterate 2 (refine G.st rfl rfl ?_)
    refine G.callS (k := 10 + i) rfl rfl rfl (by omega) (Nat.le_of_ble_eq_true rfl) rfl (Nat.le_of_ble_eq_true rfl) (Sp.up (sj_length X hi _) (by omega)) ?_
    rintro _ _ ⟨rfl, rfl⟩
    refine G.brf rfl (by rw [nI_leI (by omega) (by omega)]; omega) ?_
    iterate 6 (refine G.st rfl rfl ?_)
    show G X 4 kX3_isWord 46 [.ref 69, .retAddr (10 + i), .int (nI j)] [.int (pst tp + nI j), .ref 70] (H rw nu wd vo od tp sh fi ik m) _
    rw [e1, nI_add]
    refine G.iald rfl rfl (ix_nI (show tk.1 + j < 120 by omega) (by omega)) ?_
    rw [t3 (tk.1 + j) (by omega)]
    iterate 2 (refine G.st rfl rfl ?_)
    refine G.callS (k := 10 + i) rfl rfl rfl (by omega) (Nat.le_of_ble_eq_true rfl) rfl (Nat.le_of_ble_eq_true rfl) (Sp.up (sj_charAt X hi (show j < (cds i).length by omega) _) (by omega)) ?_
    rintro _ _ ⟨rfl, rfl⟩
    show G X 4 kX3_isWord 52 [.ref 69, .retAddr (10 + i), .int (nI j)] [.int ((cds i).getD j 0), .int (bt t (tk.1 + j))] (H rw nu wd vo od tp sh fi ik m) _
    by_cases hc : bt t (tk.1 + j) = (cds i).getD j 0
    · refine G.brt rfl hc ?_
      iterate 1 (refine G.st rfl rfl ?_)
      rw [nI_1]
      iterate 1 (refine G.st rfl rfl ?_)
      refine l3_isWord X hi hT h1 h2 k (j + 1) (by omega) (fun r hr2 => ?_)
      by_cases e : r = j
      · subst e; exact hc
      · exact hr r (by omega)
    · refine G.brf rfl hc ?_
      iterate 1 (refine G.st rfl rfl ?_)
      refine G.ret rfl rfl ⟨?_, rfl⟩
      rw [bI_f (fun q => hc ((wB_t.mp q).2.2 j (by omega)))]
theorem s3_isWord (X : aX) {i : Nat} (hi : i < 11) (hT : TK tp t tk) : Sp X 4 kX3_isWord [.ref 69, .retAddr (10 + i)] (H rw nu wd vo od tp sh fi ik m) (An (some (.int (bI (wB t tk i = true)))) (H rw nu wd vo od tp sh fi ik m)) := by
  unfold Sp
  have hl := (cds_len i hi).1
  obtain ⟨⟨t1, t2, t3⟩, ⟨o1, o2⟩, e1, e2, e3⟩ := id hT
  iterate 3 (refine G.st rfl rfl ?_)
  show G X 4 kX3_isWord 5 [.ref 69, .retAddr (10 + i), .double 0] [.int 1, .int (pso tp)] (H rw nu wd vo od tp sh fi ik m) _
  rw [e3]
  by_cases h1 : tk.2.2 = 1
  case neg =>
    refine G.brf rfl h1 ?_
    iterate 1 (refine G.st rfl rfl ?_)
    refine G.ret rfl rfl ⟨?_, rfl⟩
    rw [bI_f (fun q => h1 (wB_t.mp q).1)]
  refine G.brt rfl h1 ?_
  iterate 6 (refine G.st rfl rfl ?_)
  show G X 4 kX3_isWord 18 [.ref 69, .retAddr (10 + i), .double 0] [.retAddr (10 + i), .int (pen tp - pst tp)] (H rw nu wd vo od tp sh fi ik m) _
  rw [e1, e2, show nI tk.2.1 - nI tk.1 = nI (tk.2.1 - tk.1) by
    obtain ⟨d, hd⟩ : ∃ d, tk.2.1 = d + tk.1 := ⟨tk.2.1 - tk.1, by omega⟩
    rw [hd, ← nI_add, Nat.add_sub_cancel]
    grind]
  refine G.callS (k := 10 + i) rfl rfl rfl (by omega) (Nat.le_of_ble_eq_true rfl) rfl (Nat.le_of_ble_eq_true rfl) (Sp.up (sj_length X hi _) (by omega)) ?_
  rintro _ _ ⟨rfl, rfl⟩
  show G X 4 kX3_isWord 21 [.ref 69, .retAddr (10 + i), .double 0] [.int (nI (cds i).length), .int (nI (tk.2.1 - tk.1))] (H rw nu wd vo od tp sh fi ik m) _
  by_cases h2 : tk.2.1 - tk.1 = (cds i).length
  · refine G.brt rfl (by rw [h2]) ?_
    iterate 2 (refine G.st rfl rfl ?_)
    exact l3_isWord X hi hT h1 h2 (cds i).length 0 (by omega) (fun r hr => absurd hr (Nat.not_lt_zero r))
  · refine G.brf rfl (fun q => h2 ((nI_eq (by omega) (by omega)).mp q)) ?_
    iterate 1 (refine G.st rfl rfl ?_)
    refine G.ret rfl rfl ⟨?_, rfl⟩
    rw [bI_f (fun q => h2 (wB_t.mp q).2.1)]
theorem l3_num (X : aX) (hT : TK tp t tk) : ∀ (k i : Nat) (a : Int32), i + k = tk.2.1 → G X 0 kX3_numberHere 7 [.ref 69, .int a, .int (nI i)] [] (H rw nu wd vo od tp sh fi ik m) (An (some (.int (numB t k i a))) (H rw nu wd vo od tp sh fi ik m))
  | 0, i, a, hi => by
    obtain ⟨⟨t1, t2, t3⟩, ⟨o1, o2⟩, e1, e2, e3⟩ := id hT
    iterate 3 (refine G.st rfl rfl ?_)
    refine G.brt rfl (by show pen tp ≤ nI i; rw [e2, nI_leI (by omega) (by omega)]; omega) ?_
    iterate 1 (refine G.st rfl rfl ?_)
    exact G.ret rfl rfl ⟨rfl, rfl⟩
  | k + 1, i, a, hi => by
    obtain ⟨⟨t1, t2, t3⟩, ⟨o1, o2⟩, e1, e2, e3⟩ := id hT
    iterate 3 (refine G.st rfl rfl ?_)
    refine G.brf rfl (by show ¬ pen tp ≤ nI i; rw [e2, nI_leI (by omega) (by omega)]; omega) ?_
    iterate 2 (refine G.st rfl rfl ?_)
    unfold numB
    by_cases hc : 9999 < a
    · rw [if_pos hc]
      refine G.brt rfl hc ?_
      iterate 1 (refine G.st rfl rfl ?_)
      rw [nI_1]
      iterate 1 (refine G.st rfl rfl ?_)
      exact l3_num X hT k (i + 1) a (by omega)
    · rw [if_neg hc]
      refine G.brf rfl hc ?_
      iterate 6 (refine G.st rfl rfl ?_)
      refine G.iald rfl rfl (ix_nI (show i < 120 by omega) (by omega)) ?_
      rw [t3 i (by omega)]
      iterate 5 (refine G.st rfl rfl ?_)
      rw [nI_1]
      iterate 1 (refine G.st rfl rfl ?_)
      exact l3_num X hT k (i + 1) _ (by omega)
theorem s3_numberHere (X : aX) (hT : TK tp t tk) : Sp X 0 kX3_numberHere [.ref 69] (H rw nu wd vo od tp sh fi ik m) (An (some (.int (numV t tk))) (H rw nu wd vo od tp sh fi ik m)) := by
  unfold Sp
  obtain ⟨⟨t1, t2, t3⟩, ⟨o1, o2⟩, e1, e2, e3⟩ := id hT
  iterate 4 (refine G.st rfl rfl ?_)
  show G X 0 kX3_numberHere 6 [.ref 69, .int 0, .double 0] [.int (pst tp)] (H rw nu wd vo od tp sh fi ik m) _
  rw [e1]
  iterate 1 (refine G.st rfl rfl ?_)
  exact l3_num X hT (tk.2.1 - tk.1) tk.1 0 (by omega)
/-- the kind whose name the token is -/
noncomputable def kdT (t : List Int32) (tk : Tk) : Option Nat := if wB t tk 6 = true then some 0 else if wB t tk 1 = true then some 1 else if wB t tk 2 = true then some 2 else if wB t tk 3 = true then some 3 else if wB t tk 4 = true then some 4 else if wB t tk 5 = true then some 5 else none
theorem s3_kindName (X : aX) {j : Nat} (hj : j < 6) (h : aH) : Sp X 0 kX3_kindName [.int (nI j)] h (An (some (.retAddr (10 + if j = 0 then 6 else j))) h) := by
  unfold Sp
  rcases (show j = 0 ∨ j = 1 ∨ j = 2 ∨ j = 3 ∨ j = 4 ∨ j = 5 by omega) with rfl | rfl | rfl | rfl | rfl | rfl
  all_goals (iterate 3 (refine G.st rfl rfl ?_))
  all_goals exact G.ret rfl rfl ⟨rfl, rfl⟩
theorem s3_kindTold (X : aX) (hT : TK tp t tk) : Sp X 5 kX3_kindTold [.ref 69] (H rw nu wd vo od tp sh fi ik m) (An (some (.int (rdI (kdT t tk)))) (H rw nu wd vo od tp sh fi ik m)) := by
  unfold Sp kdT
  show G X 5 kX3_kindTold 0 [.ref 69, .double 0] [] _ _
  iterate 2 (refine G.st rfl rfl ?_)
  show G X 5 kX3_kindTold 2 [.ref 69, .int 0] [] _ _
  iterate 5 (refine G.st rfl rfl ?_)
  refine G.call rfl rfl (Nat.le_of_ble_eq_true rfl) (Sp.up (s3_kindName X (j := 0) (by omega) _) (Nat.le_of_ble_eq_true rfl)) ?_
  rintro _ _ ⟨rfl, rfl⟩
  refine G.call rfl rfl (Nat.le_of_ble_eq_true rfl) (Sp.up (s3_isWord X (i := 6) (by omega) hT) (Nat.le_of_ble_eq_true rfl)) ?_
  rintro _ _ ⟨rfl, rfl⟩
  by_cases h0 : wB t tk 6 = true
  · rw [if_pos h0]
    refine G.brf rfl (bI_n h0) ?_
    iterate 1 (refine G.st rfl rfl ?_)
    exact G.ret rfl rfl ⟨rfl, rfl⟩
  rw [if_neg h0]
  refine G.brt rfl (bI_0.mpr h0) ?_
  iterate 2 (refine G.st rfl rfl ?_)
  show G X 5 kX3_kindTold 2 [.ref 69, .int 1] [] _ _
  iterate 5 (refine G.st rfl rfl ?_)
  refine G.call rfl rfl (Nat.le_of_ble_eq_true rfl) (Sp.up (s3_kindName X (j := 1) (by omega) _) (Nat.le_of_ble_eq_true rfl)) ?_
  rintro _ _ ⟨rfl, rfl⟩
  refine G.call rfl rfl (Nat.le_of_ble_eq_true rfl) (Sp.up (s3_isWord X (i := 1) (by omega) hT) (Nat.le_of_ble_eq_true rfl)) ?_
  rintro _ _ ⟨rfl, rfl⟩
  by_cases h1 : wB t tk 1 = true
  · rw [if_pos h1]
    refine G.brf rfl (bI_n h1) ?_
    iterate 1 (refine G.st rfl rfl ?_)
    exact G.ret rfl rfl ⟨rfl, rfl⟩
  rw [if_neg h1]
  refine G.brt rfl (bI_0.mpr h1) ?_
  iterate 2 (refine G.st rfl rfl ?_)
  show G X 5 kX3_kindTold 2 [.ref 69, .int 2] [] _ _
  iterate 5 (refine G.st rfl rfl ?_)
  refine G.call rfl rfl (Nat.le_of_ble_eq_true rfl) (Sp.up (s3_kindName X (j := 2) (by omega) _) (Nat.le_of_ble_eq_true rfl)) ?_
  rintro _ _ ⟨rfl, rfl⟩
  refine G.call rfl rfl (Nat.le_of_ble_eq_true rfl) (Sp.up (s3_isWord X (i := 2) (by omega) hT) (Nat.le_of_ble_eq_true rfl)) ?_
  rintro _ _ ⟨rfl, rfl⟩
  by_cases h2 : wB t tk 2 = true
  · rw [if_pos h2]
    refine G.brf rfl (bI_n h2) ?_
    iterate 1 (refine G.st rfl rfl ?_)
    exact G.ret rfl rfl ⟨rfl, rfl⟩
  rw [if_neg h2]
  refine G.brt rfl (bI_0.mpr h2) ?_
  iterate 2 (refine G.st rfl rfl ?_)
  show G X 5 kX3_kindTold 2 [.ref 69, .int 3] [] _ _
  iterate 5 (refine G.st rfl rfl ?_)
  refine G.call rfl rfl (Nat.le_of_ble_eq_true rfl) (Sp.up (s3_kindName X (j := 3) (by omega) _) (Nat.le_of_ble_eq_true rfl)) ?_
  rintro _ _ ⟨rfl, rfl⟩
  refine G.call rfl rfl (Nat.le_of_ble_eq_true rfl) (Sp.up (s3_isWord X (i := 3) (by omega) hT) (Nat.le_of_ble_eq_true rfl)) ?_
  rintro _ _ ⟨rfl, rfl⟩
  by_cases h3 : wB t tk 3 = true
  · rw [if_pos h3]
    refine G.brf rfl (bI_n h3) ?_
    iterate 1 (refine G.st rfl rfl ?_)
    exact G.ret rfl rfl ⟨rfl, rfl⟩
  rw [if_neg h3]
  refine G.brt rfl (bI_0.mpr h3) ?_
  iterate 2 (refine G.st rfl rfl ?_)
  show G X 5 kX3_kindTold 2 [.ref 69, .int 4] [] _ _
  iterate 5 (refine G.st rfl rfl ?_)
  refine G.call rfl rfl (Nat.le_of_ble_eq_true rfl) (Sp.up (s3_kindName X (j := 4) (by omega) _) (Nat.le_of_ble_eq_true rfl)) ?_
  rintro _ _ ⟨rfl, rfl⟩
  refine G.call rfl rfl (Nat.le_of_ble_eq_true rfl) (Sp.up (s3_isWord X (i := 4) (by omega) hT) (Nat.le_of_ble_eq_true rfl)) ?_
  rintro _ _ ⟨rfl, rfl⟩
  by_cases h4 : wB t tk 4 = true
  · rw [if_pos h4]
    refine G.brf rfl (bI_n h4) ?_
    iterate 1 (refine G.st rfl rfl ?_)
    exact G.ret rfl rfl ⟨rfl, rfl⟩
  rw [if_neg h4]
  refine G.brt rfl (bI_0.mpr h4) ?_
  iterate 2 (refine G.st rfl rfl ?_)
  show G X 5 kX3_kindTold 2 [.ref 69, .int 5] [] _ _
  iterate 5 (refine G.st rfl rfl ?_)
  refine G.call rfl rfl (Nat.le_of_ble_eq_true rfl) (Sp.up (s3_kindName X (j := 5) (by omega) _) (Nat.le_of_ble_eq_true rfl)) ?_
  rintro _ _ ⟨rfl, rfl⟩
  refine G.call rfl rfl (Nat.le_of_ble_eq_true rfl) (Sp.up (s3_isWord X (i := 5) (by omega) hT) (Nat.le_of_ble_eq_true rfl)) ?_
  rintro _ _ ⟨rfl, rfl⟩
  by_cases h5 : wB t tk 5 = true
  · rw [if_pos h5]
    refine G.brf rfl (bI_n h5) ?_
    iterate 1 (refine G.st rfl rfl ?_)
    exact G.ret rfl rfl ⟨rfl, rfl⟩
  rw [if_neg h5]
  refine G.brt rfl (bI_0.mpr h5) ?_
  iterate 2 (refine G.st rfl rfl ?_)
  show G X 5 kX3_kindTold 2 [.ref 69, .int 6] [] _ _
  iterate 3 (refine G.st rfl rfl ?_)
  iterate 1 (refine G.st rfl rfl ?_)
  exact G.ret rfl rfl ⟨rfl, rfl⟩
end WORD
