/-- what the tables say of a method -/
theorem m_facts {i : Nat} {my : aM} (h : mT i = some my) : Cond.code (mN i).1 (mN i).2 my.2.1 my.2.2.1 ∈ gT ∧ Cond.initialized (mN i).1.cls ∈ gT ∧ (mN i).1.cls = oN my.2.2.2.1 ∧ plainName (mN i).1.cls = true ∧ ((mN i).1.cls ≠ "java/lang/invoke/MethodHandle" ∧ (mN i).1.cls ≠ "java/lang/invoke/VarHandle") ∧ my.2.1 ≤ 40 ∧ (ini i = true → (mN i).1.name = "<init>") := by
  have h1 := okW_all i (mT_lt h)
  unfold okW at h1
  rw [h] at h1
  simp only [Bool.and_eq_true, decide_eq_true_eq] at h1
  obtain ⟨⟨⟨⟨⟨⟨-, h3⟩, h4⟩, h5⟩, h6⟩, h7⟩, h8⟩ := h1
  exact ⟨gT_in _ (allW i my h) rfl, gT_in _ h3 rfl, h4, h5, h6, h7, h8⟩
theorem split_at {b : Nat} {st : List Value} {w : Value} (hb : 0 < b) (h : st[b - 1]? = some w) : st = st.take (b - 1) ++ w :: st.drop b ∧ (st.take b).reverse = w :: (st.take (b - 1)).reverse ∧ (st.take (b - 1)).length = b - 1 := by
  have hl := (List.getElem?_eq_some_iff.mp h).1
  have hw := (List.getElem?_eq_some_iff.mp h).2
  have e1 : st.drop (b - 1) = w :: st.drop b := by
    rw [List.drop_eq_getElem_cons hl, hw, show b - 1 + 1 = b by omega]
  refine ⟨?_, ?_, by rw [List.length_take]; omega⟩
  · conv => lhs; rw [← List.take_append_drop (b - 1) st, e1]
  · have : st.take b = st.take (b - 1) ++ [w] := by
      rw [show b = b - 1 + 1 by omega, List.take_succ, h]
      simp
    rw [this, List.reverse_append]
    rfl
/-- a return's instruction and its value -/
def rtI (i : Instr) (v : Option Value) : Prop := (i = .ireturn ∧ ∃ x, v = some (.int x)) ∨ (i = .lreturn ∧ ∃ x, v = some (.long x)) ∨ (i = .areturn ∧ ((∃ x, v = some (.ref x)) ∨ ∃ x, v = some (.retAddr x))) ∨ (i = .return_ ∧ v = none)
theorem mm_in : mm.all (fun q => decide (q.2.2.1 = 902 ∨ q.2.2.1 = 903 ∨ q.2.2.1 = 904)) = true := by decide +kernel
theorem mm_not {o i a : Nat} (h : mm.any (fun q => decide (q.1 = o ∧ q.2.1 = i ∧ q.2.2.1 = a)) = true) (h2 : ¬ a = 902) (h3 : ¬ a = 903) (h4 : ¬ a = 904) : False := by
  obtain ⟨q, hq, h1⟩ := List.any_eq_true.mp h
  have h5 := of_decide_eq_true (List.all_eq_true.mp mm_in q hq)
  have h6 := (of_decide_eq_true h1).2.2
  omega
/-- what is proved by induction on the steps -/
def Snd (X : aX) (n : Nat) : Prop := ∀ (d : Nat) (mi : aM) (pc : Nat) (lo st : List Value) (h : aH) (v : Option Value) (hf : aH), run X n d mi pc lo st h = some (v, hf) →
  ∀ (z : Nat) (D : va_G) (kA : Nat → ClassId) (E : Nat → Value) (p : Program) (l : Launch) (e : Env) (R : Room) (s : State) (m : MethodId) (args : Array Value) (below : List Frame) (meth : Method) (c : Code) (cc : ByteArray) (ii : Bool) (H : Heap) (locs : List Loc) (cells slots CF SF : Nat) (Q : State → Prop) (ls : Array Slot),
  Cx z D kA E X p s m args meth c cc mi ii → Lo z E mi.2.1 ls lo → Rl z D kA E s H locs h → s.heap.size + cells = z + h.length → cells + (hf.length - h.length) = CF → slots + (sz hf - sz h) = SF → CF ≤ R.cells → SF ≤ R.slots → d + 1 ≤ R.frames → 64 * (d + 1) ≤ R.locals →
  (∀ (pc : Nat) (i : Instr) (ls : Array Slot) (H' : Heap) (locs' : List Loc), decode cc pc = .ok (i, 1) → rtI i v → rok mi.2.2.1 v = true → Rl z D kA E s H' locs' hf → W p l e R s m args below meth c H' locs' CF SF Q (F0 m pc ls ((v.map (cv z E)).toList))) →
  W p l e R s m args below meth c H locs cells slots Q (F0 m pc ls (st.map (cv z E)))
set_option maxHeartbeats 4000000 in
/-- a method's contract, from its run -/
theorem met_of {X : aX} {n : Nat} (ih : Snd X n) (allC : ∀ i my, mT i = some my → okC (mN i).2 my.2.2.2.1 (ini i) 0 my.1 = true) {d y : Nat} {my : aM} {as : List Value} {h h1 : aH} {v : Option Value} (hy : mT y = some my) (hl : (elo as).length ≤ my.2.1) (hr : run X n d my 0 (eL my as) [] h = some (v, h1)) (z : Nat) (D : va_G) (kA : Nat → ClassId) (E : Nat → Value) (l : Launch) :
    Met l (mN y).1 (Cond.code (mN y).1 (mN y).2 my.2.1 my.2.2.1 :: gT) ({ frames := d + 1, cells := h1.length - h.length, slots := sz h1 - sz h, locals := 64 * (d + 1) } : Room) (va_Pc (as.map (cv z E)) (PcB z D kA E X h)) (QcB z D kA E v h1) (h1.length - h.length) (sz h1 - sz h) (fun q => z ≤ q) := by
  obtain ⟨f1, f2, f3, f4, f5, f6, f7⟩ := m_facts hy
  refine Met.ofW (cc := (mN y).2) (maxL := my.2.1) (ret := my.2.2.1) f4 rfl ?_
  intro p e s m args below meth c s₁ B hml hv
  obtain ⟨rfl, hK, hEx, hsz, hP⟩ := hv
  have hE : ∀ k, E k = .null ∨ ∃ t, E k = .ref t := hEx.2.2.2.2.2.2.2.2
  have hx := B.exec
  have hb := B.bytes
  have hr' := B.returns
  have hts := atoms_spec (ws := Cond.code (mN y).1 (mN y).2 my.2.1 my.2.2.1 :: gT) B.pre
  have hown : s.vm.findClass (mN y).1.cls = some m.cls := findClass_of_methodNamed B.named
  have hlocks := B.notSynchronized
  have hin := (name_of_methodNamed B.named B.method).1
  have hz : z ≤ s.heap.size := by omega
  have hl0 := lv_entry (as.map (cv z E)) (n := my.2.1) (by rw [elo_len hE]; exact hl)
  rw [lg_entry_eq]
  generalize (lg_sl (as.map (cv z E)) ++ List.replicate (my.2.1 - (lg_sl (as.map (cv z E))).length) Slot.unset).toArray = ls at hl0 ⊢
  have hL : Lo z E my.2.1 ls (eL my as) := Lo.entry hE hl hl0
  have hR : Rl z D kA E s s.heap [] h := ⟨hP, va_S.rf⟩
  refine ih d my 0 (eL my as) [] h v h1 hr z D kA E p l e _ s m _ below meth c (mN y).2 (ini y) s.heap [] 0 0 (h1.length - h.length) (sz h1 - sz h) _ ls ⟨hx, hb, hml, by rw [← f3]; exact hown, fun w hw => hts w (List.mem_cons_of_mem _ hw), allC y my hy, fun q => by rw [hin]; exact f7 q, hK, hEx, hz⟩ hL hR (by omega) (by omega) (by omega) (Nat.le_refl _) (Nat.le_refl _) (Nat.le_refl _) (Nat.le_refl _) ?_
  intro pc i ls' H' locs' hd hi hro hR'
  have hq : ∀ t : State, t.heap = H' → s.WarmedH t.vm → QcB z D kA E v h1 (as.map (cv z E)).toArray s (.returned (v.map (cv z E))) t := fun t ht _ => ⟨rfl, by rw [ht]; exact hR'.1, hR'.2.F ht⟩
  have hfr : ∀ q ∈ locs', z ≤ q.base := hR'.2.2.2
  rcases hi with ⟨rfl, x, rfl⟩ | ⟨rfl, x, rfl⟩ | ⟨rfl, hv⟩ | ⟨rfl, rfl⟩
  · cases hty : my.2.2.1 with
    | none => rw [hty] at hro; simp [rok] at hro
    | some ty =>
      rw [hty] at hro hr'
      cases ty
      case int => exact W.iret hx hb hr' hq hfr hd
      case boolean =>
        refine W.zret hx hb hr' ?_ hq hfr hd
        have : x = 0 ∨ x = 1 := by simpa [rok] using hro
        rcases this with rfl | rfl <;> rfl
      case char => exact W.zret hx hb hr' (by simpa [rok] using hro) hq hfr hd
      case byte => exact W.zret hx hb hr' (by simpa [rok] using hro) hq hfr hd
      all_goals simp [rok] at hro
  · cases hty : my.2.2.1 with
    | none => rw [hty] at hro; simp [rok] at hro
    | some ty =>
      rw [hty] at hro hr'
      cases ty
      case long => exact W.lret hx hb hr' hq hfr hd
      all_goals simp [rok] at hro
  · have hv2 : ∃ w, v = some w ∧ (cv z E w = .null ∨ ∃ a, cv z E w = .ref a) := by
      rcases hv with ⟨x, rfl⟩ | ⟨x, rfl⟩
      · exact ⟨_, rfl, Or.inr ⟨_, rfl⟩⟩
      · exact ⟨_, rfl, hE x⟩
    obtain ⟨w, rfl, hw⟩ := hv2
    cases hty : my.2.2.1 with
    | none => rw [hty] at hro; simp [rok] at hro
    | some ty =>
      rw [hty] at hro hr'
      cases ty
      case object nm => exact W.aret hx hb hr' (Or.inl ⟨_, rfl⟩) hw hq hfr hd
      all_goals (rcases hv with ⟨x, e⟩ | ⟨x, e⟩ <;> cases e <;> simp [rok] at hro)
  · cases hty : my.2.2.1 with
    | none => rw [hty] at hr'; exact W.vret hx hb hr' hq hfr hd
    | some ty => rw [hty] at hro; cases ty <;> simp [rok] at hro
set_option maxHeartbeats 8000000 in
theorem snd_all {X : aX} (allC : ∀ i my, mT i = some my → okC (mN i).2 my.2.2.2.1 (ini i) 0 my.1 = true) : ∀ n, Snd X n := by
  intro n
  induction n with
  | zero => intro d mi pc lo st h v hf hr; simp [run] at hr
  | succ n ih =>
    intro d mi pc lo st h v hf hr z D kA E p l e R s m args below meth c cc ii H locs cells slots CF SF Q ls hC hL hR hn hCF hSF hRC hRS hRF hRL hret
    unfold run at hr
    cases hs : sA X mi pc lo st h with
    | none => rw [hs] at hr; simp at hr
    | some q =>
      rw [hs] at hr
      obtain ⟨en, hen, hstp⟩ := sA_stp hs
      obtain ⟨ins, nx, a, b, w⟩ := en
      rcases q with ⟨pc', lo', st', h1⟩ | ⟨y, as, nx', st'⟩ | v'
      · have a1 := stp_len hstp
        have a2 := run_len n d mi pc' lo' st' h1 v hf hr
        refine stp_W hC hen hstp hL hR hn ⟨by omega, by omega⟩ ⟨by omega, by omega⟩ ?_
        intro ls' H' locs' hL' hR'
        exact ih d mi pc' lo' st' h1 v hf hr z D kA E p l e R s m args below meth c cc ii H' locs' _ _ CF SF Q ls' hC hL' hR' (by omega) (by omega) (by omega) hRC hRS hRF hRL hret
      · dsimp only at hr
        cases d with
        | zero => simp at hr
        | succ d =>
          cases hy : mT y with
          | none => rw [hy] at hr; simp at hr
          | some my =>
            rw [hy] at hr
            dsimp only at hr
            split at hr
            · rename_i hl
              cases hc : run X n d my 0 (eL my as) [] h with
              | none => rw [hc] at hr; simp at hr
              | some q =>
                obtain ⟨v1, h1⟩ := q
                rw [hc] at hr
                have hM := met_of ih allC hy hl hc z D kA E l
                have a1 := run_len n d my 0 (eL my as) [] h v1 h1 hc
                have a2 := run_len n (d + 1) mi nx' lo (v1.toList ++ st') h1 v hf hr
                obtain ⟨f1, f2, f3, f4, f5, f6, f7⟩ := m_facts hy
                obtain ⟨hx, hb, hml, hown, hts, hok, hini, hK, hEx, hz⟩ := id hC
                have hE : ∀ k, E k = .null ∨ ∃ t, E k = .ref t := hEx.2.2.2.2.2.2.2.2
                have ho := ent_ok hok hen
                unfold okE at ho
                rw [Bool.and_eq_true] at ho
                obtain ⟨hd, ho⟩ := ho
                refine W.hsz hz hn hR (fun hsz => ?_)
                have hcells : cells + (h1.length - h.length) ≤ R.cells ∧ slots + (sz h1 - sz h) ≤ R.slots := ⟨by omega, by omega⟩
                have hrm : d + 1 + 1 ≤ R.frames ∧ 8 + (my.2.1 + 11) + 64 * (d + 1) ≤ R.locals := ⟨by omega, by omega⟩
                -- behind the call
                have behind : ∀ (Qa : Array Value), nx' = pc + 3 → va_Run p l e R s m args below meth c H locs cells slots (h1.length - h.length) (sz h1 - sz h) (F0 m pc ls (st.map (cv z E))) (st'.map (cv z E)) (QcB z D kA E v1 h1 Qa) (fun q => z ≤ q) → W p l e R s m args below meth c H locs cells slots Q (F0 m pc ls (st.map (cv z E))) := by
                  intro Qa hnx hrun
                  refine call_go hrun (fun v2 st₀ t H1 L g1 g2 g3 g4 => ?_)
                  obtain ⟨g5, g6, g7⟩ := g3
                  cases g5
                  rw [g2] at g6
                  obtain ⟨g7, g8⟩ := g7
                  rw [g1, g2] at g7
                  have hS1 : va_S (fun q => z ≤ q) s.heap H1 (locs ++ L) := ⟨Nat.le_trans hR.2.1 g7, fun q q1 q2 => by
                    have := g8 q (by rw [g1]; exact Nat.lt_of_lt_of_le q1 hR.2.1) q2
                    rw [g1, g2] at this
                    rw [this]
                    exact hR.2.2.1 q q1 q2, fun q hq => by
                    rcases List.mem_append.mp hq with q1 | q1
                    · exact hR.2.2.2 q q1
                    · exact g4 q q1⟩
                  have := ih (d + 1) mi nx' lo (v1.toList ++ st') h1 v hf hr z D kA E p l e R s m args below meth c cc ii H1 (locs ++ L) (cells + (h1.length - h.length)) (slots + (sz h1 - sz h)) CF SF Q ls hC hL ⟨g6, hS1⟩ (by omega) (by omega) (by omega) hRC hRS hRF hRL hret
                  rw [List.map_append, hnx] at this
                  cases v1 <;> exact this
                have hFix : CallFix p m c cc mi.2.1 s args gT (oN mi.2.2.2.1) := ⟨hx, hb, hml, hown, hts⟩
                have hG := GoodIn_gT f1
                have hsum : ∀ (r : List Value), (r.map Value.category).sum ≤ 8 → 2 * (F0 m pc ls (st.map (cv z E))).monitorRoom + ((r.map (cv z E)).map fun v => v.category).sum ≤ 8 := fun r hr8 => by
                  rw [cv_sum hE]
                  show 2 * 0 + _ ≤ 8
                  omega
                have hpreS : PreS s H (va_Pc (as.map (cv z E)) (PcB z D kA E X h)) (as.map (cv z E)) := ⟨PcB.blind, fun U hU hW => ⟨rfl, PcB.to hK hEx hz hR hsz hU hW⟩⟩
                cases ins
                all_goals try (simp only [stp, reduceCtorEq] at hstp; done)
                case invokevirtual i =>
                  simp only [okD, Bool.and_eq_true, decide_eq_true_eq] at hd
                  obtain ⟨rfl, hd⟩ := hd
                  simp only [okO, Bool.and_eq_true, decide_eq_true_eq] at ho
                  obtain ⟨⟨⟨ho, hb0⟩, hpar⟩, hcls⟩ := ho
                  obtain ⟨q, hq, ho⟩ := List.any_eq_true.mp ho
                  have hml := List.all_eq_true.mp mlk_ok q hq
                  obtain ⟨qo, qi, qy, qk, qp⟩ := q
                  obtain ⟨e1, e2, e3, e4⟩ := of_decide_eq_true ho
                  simp only at e1 e2 e3 e4
                  subst e2; subst e4
                  simp only [mlk, if_pos, Bool.and_eq_true, decide_eq_true_eq] at hml
                  obtain ⟨⟨w1, w2⟩, w3⟩ := hml
                  simp only [stp] at hstp
                  split at hstp
                  · rename_i x hst
                    split at hstp
                    · rename_i ci fs hcell
                      split at hstp
                      · rename_i hcond
                        cases hstp
                        rw [e1, e3] at w1
                        rw [e3] at w2 w3
                        rw [hy] at hcls
                        obtain ⟨hv1, hv2⟩ := hcond
                        have hci : my.2.2.2.1 = ci := by
                          have h12 : w = .retAddr my.2.2.2.1 := by simpa using hcls
                          rw [h12] at hv1
                          exact Value.retAddr.inj hv1
                        obtain ⟨s1, s2, s3⟩ := split_at hb0 hst
                        have hc8 : ci < 8 := by
                          obtain ⟨r0, hr0, -⟩ := hR.1 x _ (wl_at hcell)
                          exact (List.getElem?_eq_some_iff.mp hr0).1
                        refine behind _ rfl (va_runV (As := (st.take (b - 1)).reverse.map (cv z E)) (b := z + x) hFix hM (C := (mN a).1.cls) ⟨callB_of (b - 1) hts hG rfl rfl rfl (hts _ f2) (hts _ (gT_in _ w1 rfl)) ⟨f5.1, f5.2, hpar⟩ hrm, hts _ (gT_in _ w2 rfl), hts _ (gT_in _ w3 rfl)⟩ ⟨PcB.blind, ?_, ?_⟩ rfl (by rw [List.length_map, List.length_reverse, s3]) hL.1 ?_ (hsum _ hv2) hd hcells)
                        · have := va_recv hK hR.1 (cls_at ci hc8) (wl_at hcell)
                          rw [f3, hci]
                          exact this
                        · intro U hU hW
                          exact ⟨by rw [s2]; rfl, PcB.to hK hEx hz hR hsz hU hW⟩
                        · show st.map (cv z E) = _
                          conv => lhs; rw [s1]
                          simp [cv]
                      · cases hstp
                    · cases hstp
                  · rename_i k hst
                    split at hstp
                    · rename_i hcond
                      cases hstp
                      rw [e1, e3] at w1
                      rw [e3] at w2 w3
                      rw [hy] at hcls
                      obtain ⟨hv1, hv3, hv4, hv2⟩ := hcond
                      have hci : my.2.2.2.1 = 12 := by
                        have h12 : w = .retAddr my.2.2.2.1 := by simpa using hcls
                        rw [h12] at hv1
                        exact Value.retAddr.inj hv1
                      obtain ⟨s1, s2, s3⟩ := split_at hb0 hst
                      obtain ⟨adK, adV, hsx, hsS⟩ := hEx.2.2.2.2.1
                      have hk11 : k - 10 < 11 := by have : sT.length = 11 := rfl; omega
                      obtain ⟨k1, -, -⟩ := hsx (k - 10) hk11
                      rw [show 10 + (k - 10) = k by omega] at k1
                      refine behind _ rfl (va_runV (As := (st.take (b - 1)).reverse.map (cv z E)) (b := adK (k - 10)) hFix hM (C := (mN a).1.cls) ⟨callB_of (b - 1) hts hG rfl rfl rfl (hts _ f2) (hts _ (gT_in _ w1 rfl)) ⟨f5.1, f5.2, hpar⟩ hrm, hts _ (gT_in _ w2 rfl), hts _ (gT_in _ w3 rfl)⟩ ⟨PcB.blind, ?_, ?_⟩ rfl (by rw [List.length_map, List.length_reverse, s3]) hL.1 ?_ (hsum _ hv2) hd hcells)
                      · have := vk_recv hsS hk11 hR.2
                        rw [f3, hci]
                        exact this
                      · intro U hU hW
                        exact ⟨by rw [s2, List.map_cons, cv, k1], PcB.to hK hEx hz hR hsz hU hW⟩
                      · show st.map (cv z E) = _
                        conv => lhs; rw [s1]
                        simp [cv, k1]
                    · cases hstp
                  · cases hstp
                case invokestatic i =>
                  simp only [okD, Bool.and_eq_true, decide_eq_true_eq] at hd
                  obtain ⟨rfl, hd⟩ := hd
                  simp only [stp] at hstp
                  split at hstp
                  · repeat' (split at hstp)
                    all_goals cases hstp
                  · rename_i h901
                    split at hstp
                    · repeat' (split at hstp)
                      all_goals cases hstp
                    · rename_i h902
                      split at hstp
                      · repeat' (split at hstp)
                        all_goals cases hstp
                      · rename_i h903
                        split at hstp
                        · repeat' (split at hstp)
                          all_goals cases hstp
                        · rename_i h904
                          split at hstp
                          · rename_i hcond
                            cases hstp
                            obtain ⟨hlen, hv2⟩ := hcond
                            simp only [okO, Bool.and_eq_true, Bool.or_eq_true, decide_eq_true_eq] at ho
                            rcases ho with ((ho | ho) | ho) | ⟨⟨ho1, hpar⟩, ho⟩
                            · subst ho
                              exact absurd hy (by rw [show mT 999 = none from rfl]; exact fun q => by cases q)
                            · exact absurd ho.1 h901
                            · exact (mm_not ho h902 h903 h904).elim
                            · obtain ⟨q, hq, ho⟩ := List.any_eq_true.mp ho
                              have hml := List.all_eq_true.mp mlk_ok q hq
                              obtain ⟨qo, qi, qy, qk, qp⟩ := q
                              obtain ⟨e1, e2, e3, e4⟩ := of_decide_eq_true ho
                              simp only at e1 e2 e3 e4
                              have hstack : (F0 m pc ls (st.map (cv z E))).stack = ((st.take b).reverse.map (cv z E)).reverse ++ (st.drop b).map (cv z E) := by
                                show st.map (cv z E) = _
                                rw [List.map_reverse, List.reverse_reverse, ← List.map_append, List.take_append_drop]
                              have hlas : ((st.take b).reverse.map (cv z E)).length = b := by rw [List.length_map, List.length_reverse, List.length_take]; omega
                              rcases e4 with e4 | e4
                              · subst e2; subst e4
                                simp only [mlk, Nat.succ_ne_self, Nat.one_ne_zero, if_false, if_pos, Bool.and_eq_true, decide_eq_true_eq] at hml
                                obtain ⟨w1, w2⟩ := hml
                                rw [e1, e3] at w1
                                rw [e3] at w2
                                exact behind _ rfl (va_runS hFix hM ⟨callB_of b hts hG rfl rfl rfl (hts _ f2) (hts _ (gT_in _ w1 rfl)) ⟨f5.1, f5.2, hpar⟩ hrm, hts _ (gT_in _ w2 rfl)⟩ hpreS rfl hlas hL.1 hstack (hsum _ hv2) hd hcells)
                              · subst e2; subst e4
                                have hnest := hEx.2.2.2.2.2.1 _ hq (Nat.le_refl 3)
                                simp only [mlk, Nat.reduceEqDiff, if_false, if_pos, decide_eq_true_eq] at hml
                                simp only at hnest
                                rw [e1, e3] at hnest
                                rw [e3] at hml
                                exact behind _ rfl (va_runSN (host := RX6) hFix hM ⟨va_cnB b hts hG rfl rfl rfl hnest (hts _ f2) ⟨f5.1, f5.2, hpar⟩ hrm, hts _ (gT_in _ hml rfl), trivial⟩ hpreS rfl hlas hL.1 hstack (hsum _ hv2) hd hcells)
                          · cases hstp
                case invokespecial i =>
                  simp only [okD, Bool.and_eq_true, decide_eq_true_eq] at hd
                  obtain ⟨rfl, hd⟩ := hd
                  simp only [stp] at hstp
                  split at hstp
                  · repeat' (split at hstp)
                    all_goals cases hstp
                  · rename_i h900
                    split at hstp
                    · rename_i x hw0
                      split at hstp
                      case isFalse => cases hstp
                      rename_i hv2
                      cases hstp
                      simp only [okO, Bool.and_eq_true, Bool.or_eq_true, decide_eq_true_eq] at ho
                      rcases ho with ho | ⟨⟨⟨ho1, hb0⟩, hpar⟩, ho⟩
                      · exact absurd ho.1 h900
                      · obtain ⟨q, hq, ho⟩ := List.any_eq_true.mp ho
                        have hml := List.all_eq_true.mp mlk_ok q hq
                        obtain ⟨qo, qi, qy, qk, qp⟩ := q
                        obtain ⟨e1, e2, e3, e4⟩ := of_decide_eq_true ho
                        simp only at e1 e2 e3 e4
                        obtain ⟨s1, s2, s3⟩ := split_at hb0 hw0
                        have hlas : ((st.take (b - 1)).reverse.map (cv z E)).length = b - 1 := by rw [List.length_map, List.length_reverse, s3]
                        have hstack : (F0 m pc ls (st.map (cv z E))).stack = ((st.take (b - 1)).reverse.map (cv z E)).reverse ++ .ref (z + x) :: (st.drop b).map (cv z E) := by
                          show st.map (cv z E) = _
                          conv => lhs; rw [s1]
                          simp [cv]
                        have hpre2 : PreS s H (va_Pc ((st.take b).reverse.map (cv z E)) (PcB z D kA E X h)) (.ref (z + x) :: (st.take (b - 1)).reverse.map (cv z E)) := ⟨PcB.blind, fun U hU hW => ⟨by rw [s2]; rfl, PcB.to hK hEx hz hR hsz hU hW⟩⟩
                        rcases e4 with e4 | e4
                        · subst e2; subst e4
                          simp only [mlk, Nat.reduceEqDiff, Nat.succ_ne_self, if_false, if_pos, Bool.and_eq_true, decide_eq_true_eq] at hml
                          obtain ⟨⟨⟨w1, w2⟩, w3⟩, w4⟩ := hml
                          rw [e1, e3] at w1
                          rw [e3] at w2 w3 w4
                          rw [hy] at w4
                          have w4 : my.2.2.1 = none := by simpa using w4
                          rw [w4] at hM f1
                          exact behind _ rfl (va_runI hFix hM ⟨callB_of (b - 1) hts (GoodIn_gT f1) rfl rfl rfl (hts _ f2) (hts _ (gT_in _ w1 rfl)) ⟨f5.1, f5.2, hpar⟩ hrm, w3, hts _ (gT_in _ w2 rfl)⟩ hpre2 rfl hlas hL.1 hstack (hsum _ hv2) hd hcells)
                        · subst e2; subst e4
                          have hnest := hEx.2.2.2.2.2.1 _ hq (show 3 ≤ 4 by omega)
                          simp only [mlk, Nat.reduceEqDiff, if_false, Bool.and_eq_true, decide_eq_true_eq] at hml
                          simp only at hnest
                          obtain ⟨⟨w2, w3⟩, w4⟩ := hml
                          rw [e1, e3] at hnest
                          rw [e3] at w2 w3 w4
                          rw [hy] at w4
                          have w4 : my.2.2.1 = none := by simpa using w4
                          rw [w4] at hM f1
                          exact behind _ rfl (va_runIN (host := RX6) hFix hM ⟨va_cnB (b - 1) hts (GoodIn_gT f1) rfl rfl rfl hnest (hts _ f2) ⟨f5.1, f5.2, hpar⟩ hrm, w3, hts _ (gT_in _ w2 rfl)⟩ hpre2 rfl hlas hL.1 hstack (hsum _ hv2) hd hcells)
                    · cases hstp
                case ifCond cnd f => cases cnd <;> simp only [stp] at hstp <;> split at hstp <;> cases hstp
                case if_icmp cnd f => cases cnd <;> simp only [stp] at hstp <;> split at hstp <;> cases hstp
                case newarray ty => cases ty <;> simp only [stp, reduceCtorEq] at hstp <;> (repeat' (split at hstp)) <;> cases hstp
                all_goals (simp only [stp] at hstp; (repeat' (split at hstp)) <;> cases hstp)
            · cases hr
      · dsimp only at hr
        split at hr
        · rename_i hro
          cases hr
          obtain ⟨hx, hb, hml, hown, hts, hok, hini, hK, hEx, hz⟩ := id hC
          have ho := ent_ok hok hen
          unfold okE at ho
          rw [Bool.and_eq_true] at ho
          obtain ⟨hd, -⟩ := ho
          have hC0 : CF = cells := by omega
          have hS0 : SF = slots := by omega
          subst hC0; subst hS0
          cases ins
          all_goals try (simp only [stp, reduceCtorEq] at hstp; done)
          case ireturn =>
            simp only [okD, Bool.and_eq_true, decide_eq_true_eq] at hd
            simp only [stp] at hstp
            split at hstp
            · cases hstp
              exact hret pc _ ls H locs hd.2 (Or.inl ⟨rfl, _, rfl⟩) hro hR
            · cases hstp
          case lreturn =>
            simp only [okD, Bool.and_eq_true, decide_eq_true_eq] at hd
            simp only [stp] at hstp
            split at hstp
            · cases hstp
              exact hret pc _ ls H locs hd.2 (Or.inr (Or.inl ⟨rfl, _, rfl⟩)) hro hR
            · cases hstp
          case areturn =>
            simp only [okD, Bool.and_eq_true, decide_eq_true_eq] at hd
            simp only [stp] at hstp
            split at hstp
            · cases hstp
              exact hret pc _ ls H locs hd.2 (Or.inr (Or.inr (Or.inl ⟨rfl, Or.inl ⟨_, rfl⟩⟩))) hro hR
            · cases hstp
              exact hret pc _ ls H locs hd.2 (Or.inr (Or.inr (Or.inl ⟨rfl, Or.inr ⟨_, rfl⟩⟩))) hro hR
            · cases hstp
          case return_ =>
            simp only [okD, Bool.and_eq_true, decide_eq_true_eq] at hd
            simp only [stp] at hstp
            split at hstp
            · cases hstp
              exact hret pc _ ls H locs hd.2 (Or.inr (Or.inr (Or.inr ⟨rfl, rfl⟩))) hro hR
            · cases hstp
          case ifCond cnd f => cases cnd <;> simp only [stp] at hstp <;> split at hstp <;> cases hstp
          case if_icmp cnd f => cases cnd <;> simp only [stp] at hstp <;> split at hstp <;> cases hstp
          case newarray ty => cases ty <;> simp only [stp, reduceCtorEq] at hstp <;> (repeat' (split at hstp)) <;> cases hstp
          all_goals (simp only [stp] at hstp; (repeat' (split at hstp)) <;> cases hstp)
        · cases hr
