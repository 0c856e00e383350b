/-! ===== the walk ===== -/
def keep (od od' : sO) : Prop := osy od' = osy od ∧ otw od' = otw od ∧ omn od' = omn od ∧ oam od' = oam od ∧ owt od' = owt od ∧ ohp od' = ohp od
theorem keep.rfl' (od : sO) : keep od od := ⟨rfl, rfl, rfl, rfl, rfl, rfl⟩
theorem keep.tr {a b c : sO} (h : keep a b) (h2 : keep b c) : keep a c := by
  obtain ⟨a1, a2, a3, a4, a5, a6⟩ := h
  obtain ⟨b1, b2, b3, b4, b5, b6⟩ := h2
  exact ⟨b1.trans a1, b2.trans a2, b3.trans a3, b4.trans a4, b5.trans a5, b6.trans a6⟩
theorem arr_keep (nm : Nat → Option Int32) (od : sO) (j : Nat) (v : Int32) : keep od (arr nm od j v) ∧ opg (arr nm od j v) = opg od := by
  have e1 : ∀ o : sO, keep o (arB nm o v) ∧ opg (arB nm o v) = opg o := by
    intro o
    unfold arB
    split <;> exact ⟨⟨rfl, rfl, rfl, rfl, rfl, rfl⟩, rfl⟩
  have e2 : ∀ o : sO, keep o (arC o v) ∧ opg (arC o v) = opg o := by
    intro o
    unfold arC
    split <;> exact ⟨⟨rfl, rfl, rfl, rfl, rfl, rfl⟩, rfl⟩
  have e3 : ∀ o : sO, keep o (arD o v) ∧ opg (arD o v) = opg o := fun o => ⟨⟨rfl, rfl, rfl, rfl, rfl, rfl⟩, rfl⟩
  have e0 : keep od (arA od j) ∧ opg (arA od j) = opg od := ⟨⟨rfl, rfl, rfl, rfl, rfl, rfl⟩, rfl⟩
  refine ⟨((e0.1.tr (e1 _).1).tr (e2 _).1).tr (e3 _).1, ?_⟩
  rw [(e3 _).2, (e2 _).2, (e1 _).2, e0.2]
/-- an order behind what hangs -/
def lfp (pre : List Nat) (q : Lf) : Lf := (q.1, pre ++ q.2)
def pegF (say : Nat → Int32) (k : Nat) (R : List Nat) (a : Acc) (pre : List Nat) (p : Nat) : List Lf := if p ∈ R ∧ fstO say R p = true then (canO say k (R.erase p) (eff (say p) a)).map (lfp (pre ++ [p])) else []
theorem flat_if {α β : Type} (c : α → Prop) [DecidablePred c] (f : α → List β) : ∀ l : List α, l.flatMap (fun p => if c p then f p else []) = (l.filter (fun p => decide (c p))).flatMap f
  | [] => rfl
  | x :: l => by
    rw [List.flatMap_cons, flat_if c f l]
    by_cases h : c x
    · rw [if_pos h, List.filter_cons_of_pos (by simp [h]), List.flatMap_cons]
    · rw [if_neg h, List.filter_cons_of_neg (by simp [h]), List.nil_append]
theorem pegF_all (say : Nat → Int32) (k M n : Nat) (a : Acc) (pre : List Nat) : (List.range' 0 n).flatMap (pegF say k (rem M n) a pre) = (canO say (k + 1) (rem M n) a).map (lfp pre) := by
  rw [show canO say (k + 1) (rem M n) a = ((rem M n).filter (fstO say (rem M n))).flatMap (fun p => (canO say k ((rem M n).erase p) (eff (say p) a)).map (pfx p)) from rfl, List.map_flatMap]
  have e : (rem M n).filter (fstO say (rem M n)) = (List.range' 0 n).filter (fun p => decide (p ∈ rem M n ∧ fstO say (rem M n) p = true)) := by
    conv => lhs; rw [show (rem M n).filter (fstO say (rem M n)) = ((List.range n).filter (fun p => !M.testBit p)).filter (fstO say (rem M n)) from rfl]
    rw [List.filter_filter, List.range_eq_range']
    apply List.filter_congr
    intro p hp
    have hpn : p < n := by
      have := List.mem_range'.mp hp
      obtain ⟨i, hi, rfl⟩ := this
      omega
    rw [Bool.eq_iff_iff]
    simp only [Bool.and_eq_true, decide_eq_true_eq, rem_mem]
    constructor
    · rintro ⟨h1, h2⟩
      exact ⟨⟨hpn, by simpa using h2⟩, h1⟩
    · rintro ⟨⟨_, h2⟩, h1⟩
      exact ⟨h1, by simp [h2]⟩
  rw [e]
  have := flat_if (fun p => p ∈ rem M n ∧ fstO say (rem M n) p = true) (fun p => (canO say k ((rem M n).erase p) (eff (say p) a)).map (lfp (pre ++ [p]))) (List.range' 0 n)
  rw [show (fun p => if p ∈ rem M n ∧ fstO say (rem M n) p = true then (canO say k ((rem M n).erase p) (eff (say p) a)).map (lfp (pre ++ [p])) else []) = pegF say k (rem M n) a pre from rfl] at this
  rw [this]
  congr 1
  funext p
  rw [List.map_map]
  congr 1
  funext q
  simp [lfp, pfx, Function.comp]
section HANG
variable {rw : Nat → sR} {nu : Nat → Nat → Int32} {wd : Nat → Int32 × Int32} {vo : sV} {tp : sP} {sh : Nat → sS} {fi : Nat → Int32} {ik : Int32} {m : sM} {nm : Nat → Option Int32} {g : List Gar}
/-- what stands before a call of hangNext -/
def HPre (w : Int32) (g : List Gar) (W M : Nat) (od : sO) (pre : List Nat) : Prop := M < 128 ∧ ohp od = nI M ∧ pre.length + (rem M g.length).length = g.length ∧ (∀ q, q < g.length → M.testBit q = true → ∀ r, r < q → sy w g r = sy w g q → M.testBit r = true) ∧ (∀ i (hi : i < pre.length), opg od i = nI pre[i]) ∧ (∀ p, p < g.length → osy od p = sy w g p ∧ Tw (sy w g) p p (otw od p)) ∧ owt od = nI W ∧ W9 (oam od)
def HPost (nm : Nat → Option Int32) (g : List Gar) (W : Nat) (od : sO) (pre : List Nat) (C : List Lf) (od' : sO) : Prop := keep od od' ∧ (∀ i, i < pre.length → opg od' i = opg od i) ∧ OInv nm W g.length od' C
theorem eff_sy {w : Int32} {g : List Gar} {i : Nat} {a : Acc} (hgi : gK (gD g i)) (h0 : ¬ sy w g i = 0) : eff (sy w g i) a = (wAft a.1 a.2 (gD g i).1 (gD g i).2.1, sAft a.2 (gD g i).1) := by
  have hs : seenB w (gD g i).1 (gD g i).2.1 (gD g i).2.2 = true := Classical.not_not.mp (fun q => h0 ((say_0 hgi).mpr q))
  show eff (sayI w (gD g i)) a = _
  rw [eff_say hgi]
  unfold hearG
  rw [if_pos hs]
/-- one garment is said, and the next is hung -/
theorem s0_sayThen (X : aX) {k n i : Nat} {a : Acc} {od1 : sO} {Q : sO → Prop} (hg : Rep (rw 12) g) (hgk : gKs g) (hig : i < g.length) (hsy : osy od1 i = sy (wd 0).1 g i)
    (hr : Sp X (2 * k + 3) kX0_hangNext [.ref 59, .int (nI (n + 1)), .int (eff (sy (wd 0).1 g i) a).1, .int (eff (sy (wd 0).1 g i) a).2] (H rw nu wd vo od1 tp sh fi ik m) (fun v h' => v = none ∧ ∃ od', h' = H rw nu wd vo od' tp sh fi ik m ∧ Q od')) :
    Sp X (2 * k + 4) kX0_sayThenHangNext [.ref 59, .int (nI i), .int (nI n), .int a.1, .int a.2] (H rw nu wd vo od1 tp sh fi ik m) (fun v h' => v = none ∧ ∃ od', h' = H rw nu wd vo od' tp sh fi ik m ∧ Q od') := by
  unfold Sp
  have h7 := hg.2.1
  have hx := ix_nI (show i < 7 by omega) (by omega)
  have hgi := gK_at hgk hig
  obtain ⟨a1, a2, a3⟩ := hg.gD hig
  show G X (2 * k + 4) kX0_sayThenHangNext 0 [.ref 59, .int (nI i), .int (nI n), .int a.1, .int a.2, .double 0, .double 0] [] _ _
  iterate 3 (refine G.st rfl rfl ?_)
  refine G.iald rfl rfl hx ?_
  show G X (2 * k + 4) kX0_sayThenHangNext 6 [.ref 59, .int (nI i), .int (nI n), .int a.1, .int a.2, .double 0, .double 0] [.int (osy od1 i)] (H rw nu wd vo od1 tp sh fi ik m) _
  rw [hsy]
  by_cases h0 : sy (wd 0).1 g i = 0
  · rw [h0, show eff 0 a = a from if_pos rfl] at hr
    refine G.brt rfl h0 ?_
    iterate 4 (refine G.st rfl rfl ?_)
    rw [nI_1]
    iterate 2 (refine G.st rfl rfl ?_)
    refine G.call rfl rfl (Nat.le_of_ble_eq_true rfl) hr ?_
    rintro _ _ ⟨rfl, od2, rfl, hpost⟩
    exact G.ret rfl rfl ⟨rfl, od2, rfl, hpost⟩
  · rw [eff_sy hgi h0] at hr
    refine G.brf rfl h0 ?_
    iterate 4 (refine G.st rfl rfl ?_)
    refine G.iald rfl rfl hx ?_
    rw [a1]
    iterate 8 (refine G.st rfl rfl ?_)
    refine G.iald rfl rfl hx ?_
    rw [a2]
    refine G.call rfl rfl (Nat.le_of_ble_eq_true rfl) (Sp.up (s6_worthAfter X a.1 a.2 (gD g i).1 (gD g i).2.1 hgi.1 _) (Nat.le_of_ble_eq_true rfl)) ?_
    rintro _ _ ⟨rfl, rfl⟩
    iterate 5 (refine G.st rfl rfl ?_)
    rw [nI_1]
    iterate 3 (refine G.st rfl rfl ?_)
    show G X (2 * k + 4) kX0_sayThenHangNext 60 [.ref 59, .int (nI i), .int (nI n), .int a.1, .int a.2, .int (gD g i).1, .int (wAft a.1 a.2 (gD g i).1 (gD g i).2.1)] [.int (gD g i).1, .int a.2, .int (wAft a.1 a.2 (gD g i).1 (gD g i).2.1), .int (nI (n + 1)), .ref 59] _ _
    refine G.call rfl rfl (Nat.le_of_ble_eq_true rfl) (Sp.up (s6_stockingsAfter X a.2 (gD g i).1 _) (Nat.le_of_ble_eq_true rfl)) ?_
    rintro _ _ ⟨rfl, rfl⟩
    refine G.call rfl rfl (Nat.le_of_ble_eq_true rfl) hr ?_
    rintro _ _ ⟨rfl, od2, rfl, hpost⟩
    exact G.ret rfl rfl ⟨rfl, od2, rfl, hpost⟩
theorem l0_hang (X : aX) {k M W : Nat} {pre : List Nat} {a : Acc} (hg : Rep (rw 12) g) (hgk : gKs g) (ha : W9 a.1) (hk : (rem M g.length).length = k + 1)
    (rec : ∀ (M : Nat) (od : sO) (C : List Lf) (pre : List Nat) (a : Acc), HPre (wd 0).1 g W M od pre → (rem M g.length).length = k → OInv nm W g.length od C → W9 a.1 → Sp X (2 * k + 3) kX0_hangNext [.ref 59, .int (nI pre.length), .int a.1, .int a.2] (H rw nu wd vo od tp sh fi ik m) (fun v h' => v = none ∧ ∃ od', h' = H rw nu wd vo od' tp sh fi ik m ∧ HPost nm g W od pre (C ++ (canO (sy (wd 0).1 g) k (rem M g.length) a).map (lfp pre)) od')) :
    ∀ (c i : Nat) (od : sO) (C : List Lf), i + c = g.length → HPre (wd 0).1 g W M od pre → OInv nm W g.length od C → G X (2 * k + 5) kX0_hangNext 26 [.ref 59, .int (nI pre.length), .int a.1, .int a.2, .int (nI i)] [] (H rw nu wd vo od tp sh fi ik m) (fun v h' => v = none ∧ ∃ od', h' = H rw nu wd vo od' tp sh fi ik m ∧ HPost nm g W od pre (C ++ (List.range' i c).flatMap (pegF (sy (wd 0).1 g) k (rem M g.length) a pre)) od')
  | 0, i, od, C, hi, hP, hO => by
    have h7 := hg.2.1
    iterate 3 (refine G.st rfl rfl ?_)
    refine G.get rfl (H_row (i := 12) (by omega)).1 rfl ?_
    rw [hg.1]
    refine G.brt rfl (by rw [nI_leI (by omega) (by omega)]; omega) ?_
    refine G.ret rfl rfl ⟨rfl, od, rfl, keep.rfl' od, fun _ _ => rfl, ?_⟩
    rw [show (List.range' i 0).flatMap (pegF (sy (wd 0).1 g) k (rem M g.length) a pre) = [] from rfl, List.append_nil]
    exact hO
  | c + 1, i, od, C, hi, hP, hO => by
    have h7 := hg.2.1
    have hig : i < g.length := by omega
    have hx := ix_nI (show i < 7 by omega) (by omega)
    obtain ⟨p1, p2, p3, p4, p5, p6, p7, p8⟩ := id hP
    iterate 3 (refine G.st rfl rfl ?_)
    refine G.get rfl (H_row (i := 12) (by omega)).1 rfl ?_
    rw [hg.1]
    refine G.brf rfl (by rw [nI_leI (by omega) (by omega)]; omega) ?_
    iterate 2 (refine G.st rfl rfl ?_)
    refine G.call rfl rfl (Nat.le_of_ble_eq_true rfl) (Sp.up (s0_mayHang X (say := sy (wd 0).1 g) p2 p1 h7 hig (p6 i hig).2 p4) (Nat.le_of_ble_eq_true rfl)) ?_
    rintro _ _ ⟨rfl, rfl⟩
    have next : ∀ (od1 : sO) (C1 : List Lf), keep od od1 → (∀ j, j < pre.length → opg od1 j = opg od j) → OInv nm W g.length od1 C1 → C1 = C ++ pegF (sy (wd 0).1 g) k (rem M g.length) a pre i → G X (2 * k + 5) kX0_hangNext 92 [.ref 59, .int (nI pre.length), .int a.1, .int a.2, .int (nI i)] [] (H rw nu wd vo od1 tp sh fi ik m) (fun v h' => v = none ∧ ∃ od', h' = H rw nu wd vo od' tp sh fi ik m ∧ HPost nm g W od pre (C ++ (List.range' i (c + 1)).flatMap (pegF (sy (wd 0).1 g) k (rem M g.length) a pre)) od') := by
      intro od1 C1 hkp hpg hO1 hC1
      iterate 1 (refine G.st rfl rfl ?_)
      rw [nI_1]
      iterate 1 (refine G.st rfl rfl ?_)
      have hP1 : HPre (wd 0).1 g W M od1 pre := by
        obtain ⟨k1, k2, k3, k4, k5, k6⟩ := id hkp
        exact ⟨p1, k6.trans p2, p3, p4, fun j hj => (hpg j hj).trans (p5 j hj), fun p hp => by rw [k1, k2]; exact p6 p hp, k5.trans p7, by rw [k4]; exact p8⟩
      refine (l0_hang X hg hgk ha hk rec c (i + 1) od1 C1 (by omega) hP1 hO1).imp ?_
      rintro _ _ ⟨rfl, od2, rfl, q1, q2, q3⟩
      refine ⟨rfl, od2, rfl, hkp.tr q1, fun j hj => (q2 j hj).trans (hpg j hj), ?_⟩
      rw [List.range'_succ, List.flatMap_cons, ← List.append_assoc, ← hC1]
      exact q3
    by_cases hc : i ∈ rem M g.length ∧ fstO (sy (wd 0).1 g) (rem M g.length) i = true
    case neg =>
      refine G.brt rfl (bI_0.mpr hc) ?_
      refine next od C (keep.rfl' od) (fun _ _ => rfl) hO ?_
      unfold pegF
      rw [if_neg hc, List.append_nil]
    refine G.brf rfl (bI_n hc) ?_
    obtain ⟨hb1, hb2, hb3, hb4⟩ := hg_bits M p1 i (by omega)
    have hMi := (rem_mem.mp hc.1).2
    have hpl : pre.length < 7 := by omega
    have hxp := ix_nI hpl (by omega)
    iterate 7 (refine G.st rfl rfl ?_)
    rw [show ohp od ||| ((1 : Int32) <<< (nI i &&& 31)) = nI (M ||| 2 ^ i) by rw [p2]; exact hb2]
    iterate 5 (refine G.st rfl rfl ?_)
    refine G.iast rfl rfl hxp ?_
    have hgi := gK_at hgk hig
    -- the state with the peg hung
    have hP1 : HPre (wd 0).1 g W (M ||| 2 ^ i) (oSpg (oShp od (nI (M ||| 2 ^ i))) (upd (opg od) pre.length (nI i))) (pre ++ [i]) := by
      refine ⟨hb4, rfl, ?_, ?_, ?_, p6, p7, p8⟩
      · rw [rem_or hc.1, List.length_erase_of_mem hc.1, List.length_append, List.length_singleton]
        omega
      · intro q hq hqM r hr e
        rw [Nat.testBit_or] at hqM ⊢
        by_cases hqi : q = i
        · subst hqi
          have := fun h => fstO_iff.mp hc.2 r (rem_mem.mpr ⟨by omega, h⟩) hr e
          cases hrb : M.testBit r with
          | true => rfl
          | false => exact absurd hrb this
        · have hq2 : M.testBit q = true := by
            rw [Nat.testBit_two_pow] at hqM
            have : ¬ i = q := fun x => hqi x.symm
            simpa [this] using hqM
          rw [p4 q hq hq2 r hr e]
          rfl
      · intro j hj
        show upd (opg od) pre.length (nI i) j = _
        rw [upd_if]
        by_cases e : j = pre.length
        · subst e
          rw [if_pos rfl]
          simp
        · have hj2 : j < pre.length := by simp at hj; omega
          rw [if_neg e, p5 j hj2]
          simp [List.getElem_append_left hj2]
    have hk1 : (rem (M ||| 2 ^ i) g.length).length = k := by
      rw [rem_or hc.1, List.length_erase_of_mem hc.1]
      omega
    -- behind the call: the peg is taken down
    have back : ∀ (od2 : sO), HPost nm g W (oSpg (oShp od (nI (M ||| 2 ^ i))) (upd (opg od) pre.length (nI i))) (pre ++ [i]) (C ++ (canO (sy (wd 0).1 g) k (rem (M ||| 2 ^ i) g.length) (eff (sy (wd 0).1 g i) a)).map (lfp (pre ++ [i]))) od2 → G X (2 * k + 5) kX0_hangNext 77 [.ref 59, .int (nI pre.length), .int a.1, .int a.2, .int (nI i)] [] (H rw nu wd vo od2 tp sh fi ik m) (fun v h' => v = none ∧ ∃ od', h' = H rw nu wd vo od' tp sh fi ik m ∧ HPost nm g W od pre (C ++ (List.range' i (c + 1)).flatMap (pegF (sy (wd 0).1 g) k (rem M g.length) a pre)) od') := by
      rintro od2 ⟨⟨k1, k2, k3, k4, k5, k6⟩, q2, q3⟩
      iterate 9 (refine G.st rfl rfl ?_)
      rw [show ohp od2 &&& (((1 : Int32) <<< (nI i &&& 31)) ^^^ (-1)) = nI M by rw [k6]; exact hb3 hMi]
      iterate 1 (refine G.st rfl rfl ?_)
      refine next (oShp od2 (nI M)) _ ⟨k1, k2, k3, k4, k5, p2.symm⟩ (fun j hj => ?_) q3 ?_
      · have := q2 j (by simp; omega)
        show opg od2 j = _
        rw [this]
        show upd (opg od) pre.length (nI i) j = _
        rw [upd_n (by omega)]
      · unfold pegF
        rw [if_pos hc, rem_or hc.1]
    show G X (2 * k + 5) kX0_hangNext 68 [.ref 59, .int (nI pre.length), .int a.1, .int a.2, .int (nI i)] [] (H rw nu wd vo (oSpg (oShp od (nI (M ||| 2 ^ i))) (upd (opg od) pre.length (nI i))) tp sh fi ik m) _
    generalize hod1 : oSpg (oShp od (nI (M ||| 2 ^ i))) (upd (opg od) pre.length (nI i)) = od1 at hP1 back ⊢
    have hsy : osy od1 i = sy (wd 0).1 g i := by rw [← hod1]; exact (p6 i hig).1
    have hO1 : OInv nm W g.length od1 C := by rw [← hod1]; exact hO
    iterate 5 (refine G.st rfl rfl ?_)
    have ha1 : W9 (eff (sy (wd 0).1 g i) a).1 := by
      by_cases h0 : sy (wd 0).1 g i = 0
      · rw [h0, show eff 0 a = a from if_pos rfl]
        exact ha
      · rw [eff_sy hgi h0]
        exact wAft_9 ha
    have hr := rec (M ||| 2 ^ i) od1 C (pre ++ [i]) (eff (sy (wd 0).1 g i) a) hP1 hk1 hO1 ha1
    rw [List.length_append, List.length_singleton] at hr
    refine G.call rfl rfl (Nat.le_of_ble_eq_true rfl) (s0_sayThen X hg hgk hig hsy hr) ?_
    rintro _ _ ⟨rfl, od2, rfl, hpost⟩
    exact back od2 hpost
theorem s0_hangNext (X : aX) {W : Nat} (hg : Rep (rw 12) g) (hgk : gKs g) (hn : NumR (nu 0) nm) : ∀ (k M : Nat) (od : sO) (C : List Lf) (pre : List Nat) (a : Acc), HPre (wd 0).1 g W M od pre → (rem M g.length).length = k → OInv nm W g.length od C → W9 a.1 → Sp X (2 * k + 3) kX0_hangNext [.ref 59, .int (nI pre.length), .int a.1, .int a.2] (H rw nu wd vo od tp sh fi ik m) (fun v h' => v = none ∧ ∃ od', h' = H rw nu wd vo od' tp sh fi ik m ∧ HPost nm g W od pre (C ++ (canO (sy (wd 0).1 g) k (rem M g.length) a).map (lfp pre)) od')
  | 0, M, od, C, pre, a, hP, hk, hO, ha => by
    have h7 := hg.2.1
    obtain ⟨p1, p2, p3, p4, p5, p6, p7, p8⟩ := id hP
    obtain ⟨j, hj, e1, e2⟩ := W9_j ha
    unfold Sp
    show G X 3 kX0_hangNext 0 [.ref 59, .int (nI pre.length), .int a.1, .int a.2, .double 0] [] _ _
    iterate 3 (refine G.st rfl rfl ?_)
    refine G.get rfl (H_row (i := 12) (by omega)).1 rfl ?_
    rw [hg.1]
    refine G.brt rfl (by rw [nI_leI (by omega) (by omega)]; omega) ?_
    iterate 2 (refine G.st rfl rfl ?_)
    refine G.call rfl rfl (Nat.le_of_ble_eq_true rfl) (Sp.up (s0_arrive X hn od a.1 ha hj e1) (Nat.le_of_ble_eq_true rfl)) ?_
    rintro _ _ ⟨rfl, rfl⟩
    obtain ⟨b1, b2⟩ := arr_keep nm od j a.1
    refine G.ret rfl rfl ⟨rfl, arr nm od j a.1, rfl, b1, fun i _ => by rw [b2], ?_⟩
    rw [show canO (sy (wd 0).1 g) 0 (rem M g.length) a = [(a.1, [])] from rfl, List.map_singleton]
    show OInv nm W g.length (arr nm od j a.1) (C ++ [(a.1, pre ++ [])])
    rw [List.append_nil]
    exact hO.add ha hj e2 p7 p8 p5 (by omega) h7
  | k + 1, M, od, C, pre, a, hP, hk, hO, ha => by
    have h7 := hg.2.1
    obtain ⟨p1, p2, p3, p4, p5, p6, p7, p8⟩ := id hP
    unfold Sp
    show G X (2 * k + 5) kX0_hangNext 0 [.ref 59, .int (nI pre.length), .int a.1, .int a.2, .double 0] [] _ _
    iterate 3 (refine G.st rfl rfl ?_)
    refine G.get rfl (H_row (i := 12) (by omega)).1 rfl ?_
    rw [hg.1]
    refine G.brf rfl (by rw [nI_leI (by omega) (by omega)]; omega) ?_
    iterate 2 (refine G.st rfl rfl ?_)
    refine G.brt rfl (by show nI pre.length < nI 7; rw [nI_ltI (by omega) (by omega)]; omega) ?_
    iterate 2 (refine G.st rfl rfl ?_)
    refine (l0_hang X hg hgk ha hk (fun M od C pre a h1 h2 h3 h4 => s0_hangNext X hg hgk hn k M od C pre a h1 h2 h3 h4) g.length 0 od C (by omega) hP hO).imp ?_
    rintro _ _ ⟨rfl, od', rfl, q1, q2, q3⟩
    refine ⟨rfl, od', rfl, q1, q2, ?_⟩
    rw [pegF_all] at q3
    exact q3
end HANG
