/-! THE LAW'S ENTRY: what the Statement gives, as the small machine wants it -/
def nW : List Cond := flatC (Jvm.Cond.and given_1 narrow_1)
def tmS (i : Nat) : Term := .string "LinenSigns$Tape" (sT.getD i (0, [])).1
def lnS : List Nat := sT.map (fun q => q.2.length)
def byS : List (List Int32) := sT.map (fun q => q.2)
def stk (i : Nat) : Bool := decide (Cond.exactly (tmS i) "java/lang/String" ∈ nW) && decide (Cond.eq (.field (tmS i) "java/lang/String" "coder" "B") (.int 0) ∈ nW) && decide (Cond.arrayOf (.field (tmS i) "java/lang/String" "value" "[B") .byte ∈ nW) && decide (Cond.eq (.length (.field (tmS i) "java/lang/String" "value" "[B")) (.int (Int32.ofNat (lnS.getD i 0))) ∈ nW) && (List.range (lnS.getD i 0)).all (fun j => decide (Cond.eq (.elem (.field (tmS i) "java/lang/String" "value" "[B") (.int (Int32.ofNat j))) (.int ((byS.getD i []).getD j 0)) ∈ nW)) && (List.range 11).all (fun j => decide (i = j) || (decide (Cond.not (Cond.eq (tmS i) (tmS j)) ∈ nW) || decide (Cond.not (Cond.eq (tmS j) (tmS i)) ∈ nW))) && decide (lnS.getD i 0 < 100) && decide (Cond.stringRef "LinenSigns$Tape" (sT.getD i (0, [])).1 (sX.getD i "") ∈ lw_tbl)
theorem stk_ok : (List.range 11).all stk = true := by decide +kernel
def unk : Bool := decide (Cond.arrayOf (.static "LinenSigns" "UNDER" "[I") .int ∈ nW) && decide (Cond.eq (.length (.static "LinenSigns" "UNDER" "[I")) (.int (Int32.ofNat 6)) ∈ nW) && (List.range 6).all (fun j => decide (Cond.eq (.elem (.static "LinenSigns" "UNDER" "[I") (.int (Int32.ofNat j))) (.int (([-1, 0, 0, 0, 1, 2] : List Int32).getD j 0)) ∈ nW)) && decide (Cond.eq (.static "java/lang/String" "COMPACT_STRINGS" "Z") (.int 1) ∈ nW) && decide (Cond.isRef (.static "jdk/internal/util/Preconditions" "SIOOBE_FORMATTER" "Ljava/util/function/BiFunction;") ∈ nW)
theorem unk_ok : unk = true := by decide +kernel
theorem stw : (Cond.laysStatic "LinenSigns" "UNDER" "[I" ∈ lw_tbl ∧ Cond.initialized "LinenSigns" ∈ lw_tbl) ∧ (Cond.laysStatic "java/lang/String" "COMPACT_STRINGS" "Z" ∈ lw_tbl ∧ Cond.initialized "java/lang/String" ∈ lw_tbl) ∧ (Cond.laysStatic "jdk/internal/util/Preconditions" "SIOOBE_FORMATTER" "Ljava/util/function/BiFunction;" ∈ lw_tbl ∧ Cond.initialized "jdk/internal/util/Preconditions" ∈ lw_tbl) ∧ Cond.arrayOver (.object RX1) ∈ lw_tbl ∧ Cond.arrayOver (.object RX2) ∈ lw_tbl := by decide +kernel
def nsk (q : Nat × Nat × Nat × Nat × Nat) : Bool := decide (q.2.2.2.1 < 3) || decide (lw_tbl[q.2.2.2.2]? = some (.methodLinkNest (oN q.1) q.2.1 (mN q.2.2.1).1 RX6))
theorem nsk_ok : mL.all nsk = true := by decide +kernel
theorem Ex_start {s : State} {b L : Nat} {xs : Nat → Int32} (hts : ∀ w ∈ lw_tbl, w.before #[Value.ref b] s = true) (hX : va_X b L xs s s.heap) (hbl : b < s.heap.size) (hgv : (Jvm.Cond.and given_1 narrow_1).before #[Value.ref b] s = true) : ∃ E : Nat → Value, E 2 = .ref b ∧ Ex s.heap.size E (L, xs) s s.heap := by
  have hs : ∀ c ∈ nW, c.before #[Value.ref b] s = true := flat_of_before _ hgv
  have hA : ∀ a : Nat, a < s.heap.size → ¬ (fun q => s.heap.size ≤ q) a := fun a h => Nat.not_le.mpr h
  have hu := unk_ok
  simp only [unk, Bool.and_eq_true, decide_eq_true_eq, List.all_eq_true, List.mem_range] at hu
  obtain ⟨⟨⟨⟨u1, u2⟩, u3⟩, u4⟩, u5⟩ := hu
  obtain ⟨t, ht, hT⟩ := va_Tof (f := fun j => .int (([-1, 0, 0, 0, 1, 2] : List Int32).getD j 0)) (N := 6) (by decide) (hs _ u1) (va_eqt (hs _ u2)) (fun j hj => va_eqt (hs _ (u3 j hj))) hA
  have hZ := va_Zref (hts _ stw.1.1) (hts _ stw.1.2) ht hA
  have hc := va_Zof (hts _ stw.2.1.1) (hts _ stw.2.1.2) (va_eqt (hs _ u4)) hA
  have hq := va_Zqof (hts _ stw.2.2.1.1) (hts _ stw.2.2.1.2) (hs _ u5) hA
  have hst : ∀ i, i < 11 → stk i = true := fun i hi => List.all_eq_true.mp stk_ok i (List.mem_range.mpr hi)
  simp only [stk, Bool.and_eq_true, Bool.or_eq_true, decide_eq_true_eq, List.all_eq_true, List.mem_range] at hst
  obtain ⟨adK, adV, hS, hev⟩ := vk_Sof (N := 11) (tm := tmS) (len := lnS) (byt := byS) (A := fun q => s.heap.size ≤ q) (args := #[Value.ref b]) (s := s)
    (fun i hi => Nat.lt_trans (hst i hi).1.2 (by decide)) (fun i hi => hs _ (hst i hi).1.1.1.1.1.1.1) (fun i hi => hs _ (hst i hi).1.1.1.1.1.1.2) (fun i hi => hs _ (hst i hi).1.1.1.1.1.2) (fun i hi => hs _ (hst i hi).1.1.1.1.2) (fun i hi j hj => hs _ ((hst i hi).1.1.1.2 j hj))
    (fun i j hi hj hij => by
      rcases (hst i hi).1.1.2 j hj with h | h | h
      · exact absurd h hij
      · exact Or.inl (hs _ h)
      · exact Or.inr (hs _ h)) hA
  obtain ⟨fm, hfm, hfm2⟩ : ∃ fm : Value, va_Z "jdk/internal/util/Preconditions" "SIOOBE_FORMATTER" "Ljava/util/function/BiFunction;" fm (fun q => s.heap.size ≤ q) s s.heap ∧ (fm = .null ∨ ∃ t, fm = .ref t) := by
    rcases hq with h | ⟨t, h⟩
    · exact ⟨_, h, Or.inl rfl⟩
    · exact ⟨_, h, Or.inr ⟨t, rfl⟩⟩
  refine ⟨fun k => if k = 0 then .ref t else if k = 1 then fm else if k = 2 then .ref b else if 30 ≤ k then .ref (adV (k - 30)) else if 10 ≤ k then .ref (adK (k - 10)) else .null, rfl, ⟨t, rfl, hZ, hT⟩, hc, hfm, ⟨b, rfl, hbl, hX⟩, ⟨adK, adV, fun i hi => ⟨?_, ?_, ?_⟩, hS⟩, fun q hq h3 => ?_, va_AO.of (hts _ stw.2.2.2.1), va_AO.of (hts _ stw.2.2.2.2), fun k => ?_⟩
  · have h1 : ¬ 10 + i = 0 := by omega
    have h2 : ¬ 10 + i = 1 := by omega
    have h3 : ¬ 10 + i = 2 := by omega
    have h4 : ¬ 30 ≤ 10 + i := by omega
    simp only [h1, h2, h3, h4, if_false, Nat.le_add_right, if_true, Nat.add_sub_cancel_left]
  · have h1 : ¬ 30 + i = 0 := by omega
    have h2 : ¬ 30 + i = 1 := by omega
    have h3 : ¬ 30 + i = 2 := by omega
    simp only [h1, h2, h3, if_false, Nat.le_add_right, if_true, Nat.add_sub_cancel_left]
  · refine vk_R.of (A := #[Value.ref b]) (hts _ (hst i hi).2) ?_
    exact hev i hi
  · have h1 := List.all_eq_true.mp nsk_ok q hq
    unfold nsk at h1
    rw [Bool.or_eq_true, decide_eq_true_eq, decide_eq_true_eq] at h1
    rcases h1 with h1 | h1
    · omega
    · exact va_Nw.of rfl (hts _ (List.mem_of_getElem? h1))
  · dsimp only
    split
    · exact Or.inr ⟨_, rfl⟩
    · split
      · exact hfm2
      · split
        · exact Or.inr ⟨_, rfl⟩
        · split
          · exact Or.inr ⟨_, rfl⟩
          · split
            · exact Or.inr ⟨_, rfl⟩
            · exact Or.inl rfl
theorem K_start {s : State} {args : Array Value} (hts : ∀ w ∈ lw_tbl, w.before args s = true) : ∃ (D : va_G) (kA : Nat → ClassId), va_K D vwCl (tyl kA) s := by
  have hg : ∀ w ∈ gT, w.before args s = true := fun w h => hts w (gT_good w h).1
  have hk : ∀ i, ∃ q : ClassId × (Nat → Nat), i < 8 → u_Kn s (oN i) (tF i) (nF i) q.1 q.2 := by
    intro i
    by_cases hi : i < 8
    · obtain ⟨w1, w2, w3, w4⟩ := cls_ws hi
      obtain ⟨c, iS, h⟩ := u_known hg w1 (hg _ w2)
      exact ⟨(c, iS), fun _ => h⟩
    · exact ⟨(0, fun _ => 0), fun h => absurd h hi⟩
  obtain ⟨f, hf⟩ := Classical.axiomOfChoice hk
  obtain ⟨c0, k0, m0, a1, a2, a3⟩ := Cond.arrayClass_spec (hts _ arrw.1)
  obtain ⟨c1, k1, m1, b1, b2, b3⟩ := Cond.arrayClass_spec (hts _ arrw.2)
  obtain ⟨e1, c2, k2, d1, d2, d3, d4, d5⟩ := Cond.arrayOver_spec (hts _ stw.2.2.2.1)
  obtain ⟨e2, c3, k3, g1, g2, g3, g4, g5⟩ := Cond.arrayOver_spec (hts _ stw.2.2.2.2)
  refine ⟨(fun i => (f i).1, fun i => (f i).2), fun i => if i = 0 then c0 else if i = 1 then c1 else if i = 2 then c2 else c3, fun i q hq => ?_, fun k q hq => ?_⟩
  · have hi : i < 8 := (List.getElem?_eq_some_iff.mp hq).1
    rw [cls_at i hi] at hq
    cases hq
    exact hf i hi
  · match k, hq with
    | 0, hq => cases hq; exact ⟨fun n z => ⟨fun k h => (by cases h), k0, a2, m0, a3⟩, a1⟩
    | 1, hq => cases hq; exact ⟨fun n z => ⟨fun k h => (by cases h), k1, b2, m1, b3⟩, b1⟩
    | 2, hq => cases hq; exact ⟨fun n z => ⟨fun k h => (by cases h), k2, d3, e1, d4⟩, k2, e1, d3, d4, d1, d5⟩
    | 3, hq => cases hq; exact ⟨fun n z => ⟨fun k h => (by cases h), k3, g3, e2, g4⟩, k3, e2, g3, g4, g1, g5⟩
    | k + 4, hq => cases hq
set_option maxHeartbeats 4000000 in
theorem start_of (qlaw : okC cL_law 8 false 0 kL_law.1 = true) {p : Program} {e : Env} {s : State} {m : MethodId} {below : List Frame} {meth : Method} {c : Code} (l : Launch) {b L : Nat} {xs : Nat → Int32} (hall : Sp (L, xs) 40 kL_law [.retAddr 2] [] (fun v h' => v = some (.int 1) ∧ h'.length ≤ 600000 ∧ sz h' ≤ 7302250)) (hx : p.tables.exec = Jvm.exec) (hb : c.code = code) (hr : meth.sig.returnType = ret) (hml : c.maxLocals = 4) (hown : s.vm.findClass RL = some m.cls) (hts : ∀ w ∈ lw_tbl, w.before #[Value.ref b] s = true) (hX : va_X b L xs s s.heap) (hbl : b < s.heap.size) (hlocks : meth.locks = false) (hgv : (Jvm.Cond.and given_1 narrow_1).before #[Value.ref b] s = true) (Q : State → Prop)
    (hQ : ∀ (pc : Nat) (H : Heap) (ls : Array Slot), decode code pc = .ok (.ireturn, 1) → W p l e room_1 s m #[Value.ref b] below meth c H [] 600000 7302250 Q (F0 m pc ls [.int 1])) : W p l e room_1 s m #[Value.ref b] below meth c s.heap [] 0 0 Q (entryFrame m ([Value.ref b] : List Value).toArray 4) := by
  obtain ⟨D, kA, hK⟩ := K_start hts
  obtain ⟨E, hE2, hEx⟩ := Ex_start hts hX hbl hgv
  obtain ⟨n, v, h', hrun, hv, hlen, hsz⟩ := hall
  have hE : ∀ k, E k = .null ∨ ∃ t, E k = .ref t := hEx.2.2.2.2.2.2.2.2
  have hl0 := lv_entry ([.ref b]) (n := 4) (Nat.le_of_ble_eq_true rfl)
  rw [lg_entry_eq]
  generalize (lg_sl ([.ref b]) ++ List.replicate (4 - (lg_sl ([.ref b])).length) Slot.unset).toArray = ls at hl0 ⊢
  have hmap : ([.retAddr 2] : List Value).map (cv s.heap.size E) = [.ref b] := by simp [cv, hE2]
  have hL : Lo s.heap.size E kL_law.2.1 ls (eL kL_law [.retAddr 2]) := Lo.entry hE (Nat.le_of_ble_eq_true rfl) (by rw [hmap]; exact hl0)
  have hR : Rl s.heap.size D kA E s s.heap [] [] := ⟨fun k q h => (by simp [wl] at h), va_S.rf⟩
  refine snd_all allC n 40 kL_law 0 (eL kL_law [.retAddr 2]) [] [] v h' hrun s.heap.size D kA E p l e room_1 s m _ below meth c code false s.heap [] 0 0 (h'.length - 0) (sz h' - 0) Q ls ⟨hx, hb, hml, hown, fun w hw => hts w (gT_good w hw).1, qlaw, fun q => (by cases q), hK, hEx, Nat.le_refl _⟩ hL hR (by simp) (by simp) (by simp [sz]) (by show h'.length - 0 ≤ 600000; omega) (by show sz h' - 0 ≤ 7302250; omega) (Nat.le_of_ble_eq_true rfl) (Nat.le_of_ble_eq_true rfl) ?_
  intro pc i ls' H' locs' hd hi hro hR'
  subst hv
  rcases hi with ⟨rfl, x, hx1⟩ | ⟨rfl, x, hx1⟩ | ⟨rfl, hx1⟩ | ⟨rfl, hx1⟩
  · refine va_forget (fun q hq => hR'.2.2.2 q hq) ?_
    exact W.widen (by omega) (by omega) (hQ pc H' ls' hd)
  · cases hx1
  · rcases hx1 with ⟨x, hx1⟩ | ⟨x, hx1⟩ <;> cases hx1
  · cases hx1
