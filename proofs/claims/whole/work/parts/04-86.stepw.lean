theorem kL_int {o i : Nat} {v : Value} (h : kL.any (fun q => decide (q.1 = o ∧ q.2.1 = i ∧ q.2.2.1 = v ∧ (∃ x ∈ (match v with | .int x => some x | _ => none), v = .int x))) = true) : ∃ x, v = .int x ∧ Cond.constant (oN o) i x ∈ gT := by
  obtain ⟨q, hq, h1⟩ := List.any_eq_true.mp h
  obtain ⟨rfl, rfl, h3, x, -, rfl⟩ := of_decide_eq_true h1
  have h2 := List.all_eq_true.mp klk_ok q hq
  unfold klk at h2
  rw [h3] at h2
  exact ⟨x, rfl, gT_in _ (of_decide_eq_true h2) rfl⟩
theorem kL_long {o i : Nat} {v : Value} (h : kL.any (fun q => decide (q.1 = o ∧ q.2.1 = i ∧ q.2.2.1 = v ∧ (∃ x ∈ (match v with | .long x => some x | _ => none), v = .long x))) = true) : ∃ x, v = .long x ∧ Cond.constantLong (oN o) i x ∈ gT := by
  obtain ⟨q, hq, h1⟩ := List.any_eq_true.mp h
  obtain ⟨rfl, rfl, h3, x, -, rfl⟩ := of_decide_eq_true h1
  have h2 := List.all_eq_true.mp klk_ok q hq
  unfold klk at h2
  rw [h3] at h2
  exact ⟨x, rfl, gT_in _ (of_decide_eq_true h2) rfl⟩
def glk (q : Nat × Nat × Value × String × String × String × Nat) : Bool := decide (lw_tbl[q.2.2.2.2.2.2]? = some (.fieldLink (oN q.1) q.2.1 q.2.2.2.1 q.2.2.2.2.1 q.2.2.2.2.2.1))
theorem glk_ok : gS.all glk = true := by decide +kernel
def slk (q : Nat × Nat × Nat × Nat) : Bool := decide (lw_tbl[q.2.2.2]? = some (.fieldLink (oN q.1) q.2.1 "java/lang/String" (if q.2.2.1 = 0 then "value" else "coder") (if q.2.2.1 = 0 then "[B" else "B")))
theorem slk_ok : sL.all slk = true := by decide +kernel
def m9k (q : Nat × Nat × Nat) : Bool := decide (lw_tbl[q.2.2]? = some (.methodLink (oN q.1) q.2.1 objectInit))
theorem m9k_ok : m9.all m9k = true := by decide +kernel
def m1k (q : Nat × Nat × Nat) : Bool := decide (lw_tbl[q.2.2]? = some (.methodLink (oN q.1) q.2.1 arraycopyName))
theorem m1k_ok : m1.all m1k = true := by decide +kernel
theorem objw : Cond.instanceMethod objectInit ∈ lw_tbl ∧ Cond.code objectInit ⟨#[0xb1]⟩ 1 none ∈ lw_tbl := by decide +kernel
theorem acpw : Cond.native arraycopyName ∈ lw_tbl ∧ Cond.static arraycopyName ∈ lw_tbl ∧ Cond.initialized "java/lang/System" ∈ lw_tbl := by decide +kernel
theorem arrw : Cond.arrayClass .int ∈ lw_tbl ∧ Cond.arrayClass .long ∈ lw_tbl := by decide +kernel
def mmk (q : Nat × Nat × Nat × Nat) : Bool := decide (lw_tbl[q.2.2.2]? = some (.methodLink (oN q.1) q.2.1 (if q.2.2.1 = 902 then Lib.Math.abs.name else if q.2.2.1 = 903 then Lib.Math.max.name else Lib.Math.min.name)))
theorem mmk_ok : mm.all mmk = true := by decide +kernel
theorem mthw : Cond.initialized "java/lang/Math" ∈ lw_tbl ∧ (Cond.static Lib.Math.abs.name ∈ lw_tbl ∧ Cond.code Lib.Math.abs.name Lib.Math.abs.code 1 (some .int) ∈ lw_tbl) ∧ (Cond.static Lib.Math.max.name ∈ lw_tbl ∧ Cond.code Lib.Math.max.name Lib.Math.max.code 2 (some .int) ∈ lw_tbl) ∧ (Cond.static Lib.Math.min.name ∈ lw_tbl ∧ Cond.code Lib.Math.min.name Lib.Math.min.code 2 (some .int) ∈ lw_tbl) := by decide +kernel
theorem mm_of {o i : Nat} (n : Nat) (h : mm.any (fun q => decide (q.1 = o ∧ q.2.1 = i ∧ q.2.2.1 = n)) = true) : Cond.methodLink (oN o) i (if n = 902 then Lib.Math.abs.name else if n = 903 then Lib.Math.max.name else Lib.Math.min.name) ∈ gT := by
  obtain ⟨q, hq, h1⟩ := List.any_eq_true.mp h
  obtain ⟨rfl, rfl, rfl⟩ := of_decide_eq_true h1
  have h2 := List.all_eq_true.mp mmk_ok q hq
  unfold mmk at h2
  exact gT_in _ (of_decide_eq_true h2) rfl
theorem mm_no : mm.all (fun q => decide (q.2.2.1 ≠ 901)) = true := by decide +kernel
theorem m1_of {o i : Nat} (h : m1.any (fun q => decide (q.1 = o ∧ q.2.1 = i)) = true ∨ mm.any (fun q => decide (q.1 = o ∧ q.2.1 = i ∧ q.2.2.1 = 901)) = true) : m1.any (fun q => decide (q.1 = o ∧ q.2.1 = i)) = true := by
  rcases h with h | h
  · exact h
  · obtain ⟨q, hq, h1⟩ := List.any_eq_true.mp h
    exact absurd (of_decide_eq_true h1).2.2 (of_decide_eq_true (List.all_eq_true.mp mm_no q hq))
theorem g_of {w : Cond} (h : w ∈ lw_tbl) (hg : goodWord w = true) : w ∈ gT := List.mem_filter.mpr ⟨h, hg⟩
theorem put_ok {z : Nat} {E : Nat → Value} {T : FieldType} {v w : Value} (hk : (match T, v with | .int, .int x => decide (x = 0) | .boolean, .int x => decide (x = 1) | .object _, .null => true | .array _, .null => true | _, _ => false) = true) (hf : fok v w = true) : narrow T (cv z E w) = cv z E w ∧ fits T (cv z E w) = true := by
  split at hk
  · cases w <;> first | exact ⟨rfl, rfl⟩ | (simp [fok] at hf; done)
  · rename_i x
    have hx1 : x = 1 := of_decide_eq_true hk
    subst hx1
    cases w <;> try (simp [fok] at hf; done)
    rename_i y
    have : y = 0 ∨ y = 1 := by simpa [fok] using hf
    rcases this with rfl | rfl <;> exact ⟨rfl, rfl⟩
  · cases w <;> first | exact ⟨rfl, rfl⟩ | (simp [fok] at hf; done)
  · cases w <;> first | exact ⟨rfl, rfl⟩ | (simp [fok] at hf; done)
  · cases hk
theorem cv_cateq {z : Nat} {E : Nat → Value} (hE : ∀ k, E k = .null ∨ ∃ t, E k = .ref t) (v : Value) : (cv z E v).category = v.category := by
  cases v with
  | retAddr k => rcases hE k with e | ⟨t, e⟩ <;> simp [cv, e, Value.category]
  | _ => rfl
theorem cv_sum {z : Nat} {E : Nat → Value} (hE : ∀ k, E k = .null ∨ ∃ t, E k = .ref t) (l : List Value) : ((l.map (cv z E)).map fun v => v.category).sum = (l.map Value.category).sum := by
  rw [List.map_map]
  congr 1
  exact List.map_congr_left (fun v _ => cv_cateq hE v)
theorem dF_cv {z : Nat} {E : Nat → Value} {a : Nat} (h8 : a < 8) : (dF a).map (cv z E) = dF a := by
  rcases (show a = 0 ∨ a = 1 ∨ a = 2 ∨ a = 3 ∨ a = 4 ∨ a = 5 ∨ a = 6 ∨ a = 7 by omega) with rfl | rfl | rfl | rfl | rfl | rfl | rfl | rfl <;> rfl
theorem dF_ok0 : ∀ a, a < 8 → ∀ j, j < nF a → defaultValue (tY a j) = vp_V (dF a) j := by decide +kernel
theorem dF_ok {a : Nat} (h8 : a < 8) : ∀ j, j < nF a → defaultValue (tY a j) = vp_V (dF a) j := dF_ok0 a h8
section STEPW
variable {z : Nat} {D : va_G} {kA : Nat → ClassId} {E : Nat → Value} {X : aX} {p : Program} {l : Launch} {e : Env} {R : Room} {s : State} {m : MethodId} {args : Array Value} {below : List Frame} {meth : Method} {c : Code} {cc : ByteArray} {mi : aM} {ii : Bool} {H : Heap} {locs : List Loc} {cells slots : Nat} {Q : State → Prop} {ls : Array Slot}
variable {ins : Instr} {pc nx a b : Nat} {v : Value} {lo st : List Value} {h : aH} {pc' : Nat} {lo' st' : List Value} {h' : aH}
set_option maxHeartbeats 40000000 in
set_option maxRecDepth 100000 in
theorem stp_W (hC : Cx z D kA E X p s m args meth c cc mi ii) (he : ent mi pc = some (ins, nx, a, b, v)) (hs : stp X pc (ins, nx, a, b, v) lo st h = some (.inl (pc', lo', st', h'))) (hL : Lo z E mi.2.1 ls lo) (hR : Rl z D kA E s H locs h) (hn : s.heap.size + cells = z + h.length) (hcap : cells + (h'.length - h.length) ≤ R.cells ∧ slots + (sz h' - sz h) ≤ R.slots) (hroom : 1 ≤ R.frames ∧ 64 ≤ R.locals) (kk : KK z D kA E p l e R s m args below meth c mi.2.1 cells slots Q h pc' lo' st' h') : W p l e R s m args below meth c H locs cells slots Q (F0 m pc ls (st.map (cv z E))) := by
  obtain ⟨hx, hb, hml, hown, hts, hok, hini, hK, hEx, hz⟩ := hC
  have ho := ent_ok hok he
  unfold okE at ho
  rw [Bool.and_eq_true] at ho
  obtain ⟨hd, ho⟩ := ho
  have hE : ∀ k, E k = .null ∨ ∃ t, E k = .ref t := hEx.2.2.2.2.2.2.2.2
  cases ins
  all_goals try (simp only [stp, reduceCtorEq] at hs; done)
  case iconst n =>
    simp only [okD, Bool.and_eq_true, decide_eq_true_eq] at hd
    obtain ⟨rfl, hd⟩ := hd
    simp only [okO, Bool.and_eq_true, Bool.or_eq_true, decide_eq_true_eq] at ho
    simp only [stp] at hs
    subst ho
    cases hs
    exact lv_iconst hx hb hd rfl (KK.same kk hL hR)
  case bipush n =>
    simp only [okD, Bool.and_eq_true, decide_eq_true_eq] at hd
    obtain ⟨rfl, hd⟩ := hd
    simp only [okO, Bool.and_eq_true, Bool.or_eq_true, decide_eq_true_eq] at ho
    simp only [stp] at hs
    subst ho
    cases hs
    exact lv_bipush hx hb hd rfl (KK.same kk hL hR)
  case sipush n =>
    simp only [okD, Bool.and_eq_true, decide_eq_true_eq] at hd
    obtain ⟨rfl, hd⟩ := hd
    simp only [okO, Bool.and_eq_true, Bool.or_eq_true, decide_eq_true_eq] at ho
    simp only [stp] at hs
    subst ho
    cases hs
    exact lv_sipush hx hb hd rfl (KK.same kk hL hR)
  case lconst n =>
    simp only [okD, Bool.and_eq_true, decide_eq_true_eq] at hd
    obtain ⟨rfl, hd⟩ := hd
    simp only [okO, Bool.and_eq_true, Bool.or_eq_true, decide_eq_true_eq] at ho
    simp only [stp] at hs
    subst ho
    cases hs
    exact lv_lconst hx hb hd rfl (KK.same kk hL hR)
  case ldc i =>
    simp only [okD, Bool.and_eq_true, decide_eq_true_eq] at hd
    obtain ⟨rfl, hd⟩ := hd
    simp only [okO, Bool.and_eq_true, Bool.or_eq_true, decide_eq_true_eq] at ho
    simp only [stp] at hs
    rcases ho with ho | ⟨ho3, ho⟩
    · obtain ⟨x, rfl, hw⟩ := kL_int ho
      cases hs
      exact lv_ldc hx hb hown (hts _ hw) hd (KK.same kk hL hR)
    · obtain ⟨j, hj, ho⟩ := List.any_eq_true.mp ho
      obtain ⟨rfl, rfl⟩ := of_decide_eq_true ho
      obtain ⟨adK, adV, hsx, -⟩ := hEx.2.2.2.2.1
      obtain ⟨e1, e2, e3⟩ := hsx j (List.mem_range.mp hj)
      cases hs
      have ho3 : mi.2.2.2.1 = 3 := by simpa using ho3
      have hown3 : s.vm.findClass "LinenSigns$Tape" = some m.cls := by rw [ho3] at hown; exact hown
      refine va_ldcS hx hb hown3 e3 hd ?_
      have := KK.same kk hL hR
      simp only [List.map_cons, cv] at this
      rw [e1] at this
      exact this
  case ldc_w i =>
    simp only [okD, Bool.and_eq_true, decide_eq_true_eq] at hd
    obtain ⟨rfl, hd⟩ := hd
    simp only [okO, Bool.and_eq_true, Bool.or_eq_true, decide_eq_true_eq] at ho
    simp only [stp] at hs
    obtain ⟨x, rfl, hw⟩ := kL_int ho
    cases hs
    exact lv_ldcw hx hb hown (hts _ hw) hd (KK.same kk hL hR)
  case ldc2_w i =>
    simp only [okD, Bool.and_eq_true, decide_eq_true_eq] at hd
    obtain ⟨rfl, hd⟩ := hd
    simp only [okO, Bool.and_eq_true, Bool.or_eq_true, decide_eq_true_eq] at ho
    simp only [stp] at hs
    obtain ⟨x, rfl, hw⟩ := kL_long ho
    cases hs
    exact lv_ldc2 hx hb hown (hts _ hw) hd (KK.same kk hL hR)
  case getstatic i =>
    simp only [okD, Bool.and_eq_true, decide_eq_true_eq] at hd
    obtain ⟨rfl, hd⟩ := hd
    simp only [okO, Bool.and_eq_true, Bool.or_eq_true, decide_eq_true_eq] at ho
    simp only [stp] at hs
    obtain ⟨q, hq, ho⟩ := List.any_eq_true.mp ho
    have hg := List.all_eq_true.mp glk_ok q hq
    unfold glk at hg
    have hg := gT_in _ (of_decide_eq_true hg) rfl
    have hg := hts _ hg
    obtain ⟨e1, rfl, rfl⟩ := of_decide_eq_true ho
    rw [e1] at hg
    cases hs
    have K := KK.same kk hL hR
    obtain ⟨⟨t, t0, tZ, -⟩, cZ, fZ, -⟩ := hEx
    have hq : q ∈ [_, _, _] := hq
    rcases List.mem_cons.mp hq with rfl | hq
    · refine va_gets hx hb tZ hR.2 hown hg (fun _ h => h) hd ?_
      simp only [List.map_cons, cv] at K
      rw [t0] at K
      exact K
    · rcases List.mem_cons.mp hq with rfl | hq
      · exact va_gets hx hb cZ hR.2 hown hg (fun _ h => h) hd K
      · rcases List.mem_cons.mp hq with rfl | hq
        · exact va_gets hx hb fZ hR.2 hown hg (fun _ h => h) hd K
        · cases hq
  case iload i =>
    simp only [okD, Bool.and_eq_true, decide_eq_true_eq] at hd
    obtain ⟨rfl, hd⟩ := hd
    simp only [okO, Bool.and_eq_true, Bool.or_eq_true, decide_eq_true_eq] at ho
    simp only [stp] at hs
    subst ho
    split at hs
    · rename_i heq
      cases hs
      exact lv_iload hx hb hd (hL.2.2.2 _ _ heq (fun _ q => by cases q)) (KK.same kk hL hR)
    · cases hs
  case iload_n i =>
    simp only [okD, Bool.and_eq_true, decide_eq_true_eq] at hd
    obtain ⟨rfl, hd⟩ := hd
    simp only [okO, Bool.and_eq_true, Bool.or_eq_true, decide_eq_true_eq] at ho
    simp only [stp] at hs
    subst ho
    split at hs
    · rename_i heq
      cases hs
      exact lv_iload_n hx hb hd rfl (hL.2.2.2 _ _ heq (fun _ q => by cases q)) (KK.same kk hL hR)
    · cases hs
  case lload i =>
    simp only [okD, Bool.and_eq_true, decide_eq_true_eq] at hd
    obtain ⟨rfl, hd⟩ := hd
    simp only [okO, Bool.and_eq_true, Bool.or_eq_true, decide_eq_true_eq] at ho
    simp only [stp] at hs
    subst ho
    split at hs
    · rename_i heq
      cases hs
      exact lv_lload hx hb hd (hL.2.2.2 _ _ heq (fun _ q => by cases q)) (KK.same kk hL hR)
    · cases hs
  case lload_n i =>
    simp only [okD, Bool.and_eq_true, decide_eq_true_eq] at hd
    obtain ⟨rfl, hd⟩ := hd
    simp only [okO, Bool.and_eq_true, Bool.or_eq_true, decide_eq_true_eq] at ho
    simp only [stp] at hs
    subst ho
    split at hs
    · rename_i heq
      cases hs
      exact lv_lload_n hx hb hd rfl (hL.2.2.2 _ _ heq (fun _ q => by cases q)) (KK.same kk hL hR)
    · cases hs
  case aload i =>
    simp only [okD, Bool.and_eq_true, decide_eq_true_eq] at hd
    obtain ⟨rfl, hd⟩ := hd
    simp only [okO, Bool.and_eq_true, Bool.or_eq_true, decide_eq_true_eq] at ho
    simp only [stp] at hs
    subst ho
    split at hs
    · rename_i heq
      cases hs
      exact lv_aload hx hb hd (hL.2.2.2 _ _ heq (fun _ q => by cases q)) (KK.same kk hL hR)
    · rename_i k heq
      cases hs
      have K := KK.same kk hL hR
      have hl := hL.2.2.2 _ _ heq (fun _ q => by cases q)
      simp only [List.map_cons, cv] at K hl
      rcases hE k with e1 | ⟨t, e1⟩
      · rw [e1] at K hl
        exact lv_aloadN hx hb hd hl K
      · rw [e1] at K hl
        exact lv_aload hx hb hd hl K
    · cases hs
  case aload_n i =>
    simp only [okD, Bool.and_eq_true, decide_eq_true_eq] at hd
    obtain ⟨rfl, hd⟩ := hd
    simp only [okO, Bool.and_eq_true, Bool.or_eq_true, decide_eq_true_eq] at ho
    simp only [stp] at hs
    subst ho
    split at hs
    · rename_i heq
      cases hs
      exact lv_aload_n hx hb hd rfl (hL.2.2.2 _ _ heq (fun _ q => by cases q)) (KK.same kk hL hR)
    · rename_i k heq
      cases hs
      have K := KK.same kk hL hR
      have hl := hL.2.2.2 _ _ heq (fun _ q => by cases q)
      simp only [List.map_cons, cv] at K hl
      rcases hE k with e1 | ⟨t, e1⟩
      · rw [e1] at K hl
        exact lv_aload_nN hx hb hd rfl hl K
      · rw [e1] at K hl
        exact lv_aload_n hx hb hd rfl hl K
    · cases hs
  case istore i =>
    simp only [okD, Bool.and_eq_true, decide_eq_true_eq] at hd
    obtain ⟨rfl, hd⟩ := hd
    simp only [okO, Bool.and_eq_true, Bool.or_eq_true, decide_eq_true_eq] at ho
    simp only [stp] at hs
    subst ho
    split at hs
    · split at hs
      · rename_i hlt
        cases hs
        exact lv_istore hx hb hd hL.has (by rw [← hL.2.1]; exact hlt.1) rfl (fun ls' hl' => KK.same kk (Lo.store hE hL hlt.2 hl') hR)
      · cases hs
    · cases hs
  case istore_n i =>
    simp only [okD, Bool.and_eq_true, decide_eq_true_eq] at hd
    obtain ⟨rfl, hd⟩ := hd
    simp only [okO, Bool.and_eq_true, Bool.or_eq_true, decide_eq_true_eq] at ho
    simp only [stp] at hs
    subst ho
    split at hs
    · split at hs
      · rename_i hlt
        cases hs
        exact lv_istore_n hx hb hd rfl hL.has (by rw [← hL.2.1]; exact hlt.1) rfl (fun ls' hl' => KK.same kk (Lo.store hE hL hlt.2 hl') hR)
      · cases hs
    · cases hs
  case astore i =>
    simp only [okD, Bool.and_eq_true, decide_eq_true_eq] at hd
    obtain ⟨rfl, hd⟩ := hd
    simp only [okO, Bool.and_eq_true, Bool.or_eq_true, decide_eq_true_eq] at ho
    simp only [stp] at hs
    subst ho
    split at hs
    · split at hs
      · rename_i hlt
        cases hs
        exact lv_astore hx hb hd hL.has (by rw [← hL.2.1]; exact hlt.1) rfl (fun ls' hl' => KK.same kk (Lo.store hE hL hlt.2 hl') hR)
      · cases hs
    · cases hs
  case astore_n i =>
    simp only [okD, Bool.and_eq_true, decide_eq_true_eq] at hd
    obtain ⟨rfl, hd⟩ := hd
    simp only [okO, Bool.and_eq_true, Bool.or_eq_true, decide_eq_true_eq] at ho
    simp only [stp] at hs
    subst ho
    split at hs
    · split at hs
      · rename_i hlt
        cases hs
        exact lv_astore_n hx hb hd rfl hL.has (by rw [← hL.2.1]; exact hlt.1) rfl (fun ls' hl' => KK.same kk (Lo.store hE hL hlt.2 hl') hR)
      · cases hs
    · cases hs
  case lstore i =>
    simp only [okD, Bool.and_eq_true, decide_eq_true_eq] at hd
    obtain ⟨rfl, hd⟩ := hd
    simp only [okO, Bool.and_eq_true, Bool.or_eq_true, decide_eq_true_eq] at ho
    simp only [stp] at hs
    subst ho
    split at hs
    · split at hs
      · rename_i hlt
        cases hs
        exact lv_lstore hx hb hd hL.has (by rw [← hL.2.1]; exact hlt.1) rfl (fun ls' hl' => KK.same kk (Lo.store2 hE hL hlt.2 hl') hR)
      · cases hs
    · cases hs
  case lstore_n i =>
    simp only [okD, Bool.and_eq_true, decide_eq_true_eq] at hd
    obtain ⟨rfl, hd⟩ := hd
    simp only [okO, Bool.and_eq_true, Bool.or_eq_true, decide_eq_true_eq] at ho
    simp only [stp] at hs
    subst ho
    split at hs
    · split at hs
      · rename_i hlt
        cases hs
        exact lv_lstore_n hx hb hd rfl hL.has (by rw [← hL.2.1]; exact hlt.1) rfl (fun ls' hl' => KK.same kk (Lo.store2 hE hL hlt.2 hl') hR)
      · cases hs
    · cases hs
  case iinc i n =>
    simp only [okD, Bool.and_eq_true, decide_eq_true_eq] at hd
    obtain ⟨rfl, hd⟩ := hd
    simp only [okO, Bool.and_eq_true, Bool.or_eq_true, decide_eq_true_eq] at ho
    simp only [stp] at hs
    obtain ⟨rfl, rfl⟩ := ho
    split at hs
    · rename_i x cst heq hv
      cases hv
      split at hs
      case isFalse => cases hs
      rename_i hno
      cases hs
      obtain ⟨k, hk⟩ := List.getElem?_of_mem (lvs_mem.mpr ⟨_, heq, (fun _ q => by cases q), rfl⟩ : (a, cv z E (.int x)) ∈ lvs z E lo)
      exact lv_iinc hx hb hd hL.has hk rfl (by rw [← hL.2.1]; exact (List.getElem?_eq_some_iff.mp heq).1) rfl (fun ls' hl' => KK.same kk (Lo.store hE hL hno hl') hR)
    · cases hs
  case iadd =>
    simp only [okD, Bool.and_eq_true, decide_eq_true_eq] at hd
    obtain ⟨rfl, hd⟩ := hd
    simp only [stp] at hs
    split at hs
    · cases hs
      exact lv_iadd hx hb hd (KK.same kk hL hR)
    · cases hs
  case isub =>
    simp only [okD, Bool.and_eq_true, decide_eq_true_eq] at hd
    obtain ⟨rfl, hd⟩ := hd
    simp only [stp] at hs
    split at hs
    · cases hs
      exact lv_isub hx hb hd (KK.same kk hL hR)
    · cases hs
  case imul =>
    simp only [okD, Bool.and_eq_true, decide_eq_true_eq] at hd
    obtain ⟨rfl, hd⟩ := hd
    simp only [stp] at hs
    split at hs
    · cases hs
      exact lv_imul hx hb hd (KK.same kk hL hR)
    · cases hs
  case iand =>
    simp only [okD, Bool.and_eq_true, decide_eq_true_eq] at hd
    obtain ⟨rfl, hd⟩ := hd
    simp only [stp] at hs
    split at hs
    · cases hs
      exact lv_iand hx hb hd (KK.same kk hL hR)
    · cases hs
  case ior =>
    simp only [okD, Bool.and_eq_true, decide_eq_true_eq] at hd
    obtain ⟨rfl, hd⟩ := hd
    simp only [stp] at hs
    split at hs
    · cases hs
      exact lv_ior hx hb hd (KK.same kk hL hR)
    · cases hs
  case ixor =>
    simp only [okD, Bool.and_eq_true, decide_eq_true_eq] at hd
    obtain ⟨rfl, hd⟩ := hd
    simp only [stp] at hs
    split at hs
    · cases hs
      exact lv_ixor hx hb hd (KK.same kk hL hR)
    · cases hs
  case ishl =>
    simp only [okD, Bool.and_eq_true, decide_eq_true_eq] at hd
    obtain ⟨rfl, hd⟩ := hd
    simp only [stp] at hs
    split at hs
    · cases hs
      exact lv_ishl hx hb hd (KK.same kk hL hR)
    · cases hs
  case ishr =>
    simp only [okD, Bool.and_eq_true, decide_eq_true_eq] at hd
    obtain ⟨rfl, hd⟩ := hd
    simp only [stp] at hs
    split at hs
    · cases hs
      exact lv_ishr hx hb hd (KK.same kk hL hR)
    · cases hs
  case ladd =>
    simp only [okD, Bool.and_eq_true, decide_eq_true_eq] at hd
    obtain ⟨rfl, hd⟩ := hd
    simp only [stp] at hs
    split at hs
    · cases hs
      exact lv_ladd hx hb hd (KK.same kk hL hR)
    · cases hs
  case lsub =>
    simp only [okD, Bool.and_eq_true, decide_eq_true_eq] at hd
    obtain ⟨rfl, hd⟩ := hd
    simp only [stp] at hs
    split at hs
    · cases hs
      exact lv_lsub hx hb hd (KK.same kk hL hR)
    · cases hs
  case land =>
    simp only [okD, Bool.and_eq_true, decide_eq_true_eq] at hd
    obtain ⟨rfl, hd⟩ := hd
    simp only [stp] at hs
    split at hs
    · cases hs
      exact lv_land hx hb hd (KK.same kk hL hR)
    · cases hs
  case lor =>
    simp only [okD, Bool.and_eq_true, decide_eq_true_eq] at hd
    obtain ⟨rfl, hd⟩ := hd
    simp only [stp] at hs
    split at hs
    · cases hs
      exact lv_lor hx hb hd (KK.same kk hL hR)
    · cases hs
  case ineg =>
    simp only [okD, Bool.and_eq_true, decide_eq_true_eq] at hd
    obtain ⟨rfl, hd⟩ := hd
    simp only [stp] at hs
    split at hs
    · cases hs
      exact lv_ineg hx hb hd (KK.same kk hL hR)
    · cases hs
  case iushr =>
    simp only [okD, Bool.and_eq_true, decide_eq_true_eq] at hd
    obtain ⟨rfl, hd⟩ := hd
    simp only [stp] at hs
    split at hs
    · cases hs
      exact lv_iushr hx hb hd rfl (KK.same kk hL hR)
    · cases hs
  case lshl =>
    simp only [okD, Bool.and_eq_true, decide_eq_true_eq] at hd
    obtain ⟨rfl, hd⟩ := hd
    simp only [stp] at hs
    split at hs
    · cases hs
      exact lv_lshl hx hb hd rfl (KK.same kk hL hR)
    · cases hs
  case lushr =>
    simp only [okD, Bool.and_eq_true, decide_eq_true_eq] at hd
    obtain ⟨rfl, hd⟩ := hd
    simp only [stp] at hs
    split at hs
    · cases hs
      exact lv_lushr hx hb hd rfl (KK.same kk hL hR)
    · cases hs
  case i2l =>
    simp only [okD, Bool.and_eq_true, decide_eq_true_eq] at hd
    obtain ⟨rfl, hd⟩ := hd
    simp only [stp] at hs
    split at hs
    · cases hs
      exact lv_i2l hx hb hd rfl (KK.same kk hL hR)
    · cases hs
  case l2i =>
    simp only [okD, Bool.and_eq_true, decide_eq_true_eq] at hd
    obtain ⟨rfl, hd⟩ := hd
    simp only [stp] at hs
    split at hs
    · cases hs
      exact lv_l2i hx hb hd rfl (KK.same kk hL hR)
    · cases hs
  case i2b =>
    simp only [okD, Bool.and_eq_true, decide_eq_true_eq] at hd
    obtain ⟨rfl, hd⟩ := hd
    simp only [stp] at hs
    split at hs
    · cases hs
      exact lv_i2b hx hb hd rfl (KK.same kk hL hR)
    · cases hs
  case i2s =>
    simp only [okD, Bool.and_eq_true, decide_eq_true_eq] at hd
    obtain ⟨rfl, hd⟩ := hd
    simp only [stp] at hs
    split at hs
    · cases hs
      exact lv_i2s hx hb hd rfl (KK.same kk hL hR)
    · cases hs
  case i2c =>
    simp only [okD, Bool.and_eq_true, decide_eq_true_eq] at hd
    obtain ⟨rfl, hd⟩ := hd
    simp only [stp] at hs
    split at hs
    · cases hs
      exact lv_i2c hx hb hd rfl (KK.same kk hL hR)
    · cases hs
  case idiv =>
    simp only [okD, Bool.and_eq_true, decide_eq_true_eq] at hd
    obtain ⟨rfl, hd⟩ := hd
    simp only [stp] at hs
    split at hs
    · split at hs
      · cases hs
      · rename_i hne
        cases hs
        exact lv_idiv hx hb hd hne (KK.same kk hL hR)
    · cases hs
  case irem =>
    simp only [okD, Bool.and_eq_true, decide_eq_true_eq] at hd
    obtain ⟨rfl, hd⟩ := hd
    simp only [stp] at hs
    split at hs
    · split at hs
      · cases hs
      · rename_i hne
        cases hs
        exact lv_irem hx hb hd hne (KK.same kk hL hR)
    · cases hs
  case lrem =>
    simp only [okD, Bool.and_eq_true, decide_eq_true_eq] at hd
    obtain ⟨rfl, hd⟩ := hd
    simp only [stp] at hs
    split at hs
    · split at hs
      · cases hs
      · rename_i hne
        cases hs
        exact lv_lrem hx hb hd hne (KK.same kk hL hR)
    · cases hs
  case lcmp =>
    simp only [okD, Bool.and_eq_true, decide_eq_true_eq] at hd
    obtain ⟨rfl, hd⟩ := hd
    simp only [stp] at hs
    split at hs
    · cases hs
      exact W.lcmp hx hb hd (KK.same kk hL hR)
    · cases hs
  case dup =>
    simp only [okD, Bool.and_eq_true, decide_eq_true_eq] at hd
    obtain ⟨rfl, hd⟩ := hd
    simp only [stp] at hs
    split at hs
    · cases hs
      exact lv_dup hx hb hd rfl (KK.same kk hL hR)
    · cases hs
      exact lv_dup hx hb hd rfl (KK.same kk hL hR)
    · cases hs
  case dup2 =>
    simp only [okD, Bool.and_eq_true, decide_eq_true_eq] at hd
    obtain ⟨rfl, hd⟩ := hd
    simp only [stp] at hs
    split at hs
    · cases hs
      exact lv_dup2_11 hx hb hd rfl rfl (KK.same kk hL hR)
    · cases hs
  case pop =>
    simp only [okD, Bool.and_eq_true, decide_eq_true_eq] at hd
    obtain ⟨rfl, hd⟩ := hd
    simp only [stp] at hs
    split at hs
    · cases hs
      exact lv_pop hx hb hd rfl (KK.same kk hL hR)
    · cases hs
  case goto f =>
    simp only [okD, Bool.and_eq_true, decide_eq_true_eq] at hd
    obtain ⟨rfl, hd⟩ := hd
    simp only [okO, Bool.and_eq_true, Bool.or_eq_true, decide_eq_true_eq] at ho
    simp only [stp] at hs
    cases hs
    exact lv_goto hx hb hd ho (KK.same kk hL hR)
  case ifCond cnd f =>
    simp only [okD, Bool.and_eq_true, decide_eq_true_eq] at hd
    obtain ⟨rfl, hd⟩ := hd
    simp only [okO, Bool.and_eq_true, Bool.or_eq_true, decide_eq_true_eq] at ho
    cases cnd
    case eq =>
      simp only [stp] at hs
      split at hs
      · cases hs
        have K := KK.same kk hL hR
        exact lv_if_eq hx hb hd ho (fun hc => by rw [if_pos hc] at K; exact K) (fun hc => by rw [if_neg hc] at K; exact K)
      · cases hs
    case ne =>
      simp only [stp] at hs
      split at hs
      · cases hs
        have K := KK.same kk hL hR
        exact lv_if_ne hx hb hd ho (fun hc => by rw [if_neg hc] at K; exact K) (fun hc => by rw [if_pos hc] at K; exact K)
      · cases hs
    case lt =>
      simp only [stp] at hs
      split at hs
      · cases hs
        have K := KK.same kk hL hR
        exact lv_if_lt hx hb hd ho (fun hc => by rw [if_pos hc] at K; exact K) (fun hc => by rw [if_neg hc] at K; exact K)
      · cases hs
    case ge =>
      simp only [stp] at hs
      split at hs
      · cases hs
        have K := KK.same kk hL hR
        exact lv_if_ge hx hb hd ho (fun hc => by rw [if_pos hc] at K; exact K) (fun hc => by rw [if_neg hc] at K; exact K)
      · cases hs
    case gt =>
      simp only [stp] at hs
      split at hs
      · cases hs
        have K := KK.same kk hL hR
        exact lv_if_gt hx hb hd ho (fun hc => by rw [if_pos hc] at K; exact K) (fun hc => by rw [if_neg hc] at K; exact K)
      · cases hs
    case le =>
      simp only [stp] at hs
      split at hs
      · cases hs
        have K := KK.same kk hL hR
        exact lv_if_le hx hb hd ho (fun hc => by rw [if_pos hc] at K; exact K) (fun hc => by rw [if_neg hc] at K; exact K)
      · cases hs
  case if_icmp cnd f =>
    simp only [okD, Bool.and_eq_true, decide_eq_true_eq] at hd
    obtain ⟨rfl, hd⟩ := hd
    simp only [okO, Bool.and_eq_true, Bool.or_eq_true, decide_eq_true_eq] at ho
    cases cnd
    case eq =>
      simp only [stp] at hs
      split at hs
      · cases hs
        have K := KK.same kk hL hR
        exact lv_icmp_eq hx hb hd ho (fun hc => by rw [if_pos hc] at K; exact K) (fun hc => by rw [if_neg hc] at K; exact K)
      · cases hs
    case ne =>
      simp only [stp] at hs
      split at hs
      · cases hs
        have K := KK.same kk hL hR
        exact lv_icmp_ne hx hb hd ho (fun hc => by rw [if_neg hc] at K; exact K) (fun hc => by rw [if_pos hc] at K; exact K)
      · cases hs
    case lt =>
      simp only [stp] at hs
      split at hs
      · cases hs
        have K := KK.same kk hL hR
        exact lv_icmp_lt hx hb hd ho (fun hc => by rw [if_pos hc] at K; exact K) (fun hc => by rw [if_neg hc] at K; exact K)
      · cases hs
    case ge =>
      simp only [stp] at hs
      split at hs
      · cases hs
        have K := KK.same kk hL hR
        exact lv_icmp_ge hx hb hd ho (fun hc => by rw [if_pos hc] at K; exact K) (fun hc => by rw [if_neg hc] at K; exact K)
      · cases hs
    case gt =>
      simp only [stp] at hs
      split at hs
      · cases hs
        have K := KK.same kk hL hR
        exact lv_icmp_gt hx hb hd ho (fun hc => by rw [if_pos hc] at K; exact K) (fun hc => by rw [if_neg hc] at K; exact K)
      · cases hs
    case le =>
      simp only [stp] at hs
      split at hs
      · cases hs
        have K := KK.same kk hL hR
        exact lv_icmp_le hx hb hd ho (fun hc => by rw [if_pos hc] at K; exact K) (fun hc => by rw [if_neg hc] at K; exact K)
      · cases hs
  case tableswitch dd l u os =>
    simp only [okD, decide_eq_true_eq] at hd
    simp only [okO, Bool.and_eq_true, decide_eq_true_eq, List.all_eq_true] at ho
    simp only [stp] at hs
    split at hs
    · rename_i x r
      cases hs
      have K := KK.same kk hL hR
      unfold tsw at K
      by_cases hc : x.toInt < l ∨ u < x.toInt
      · rw [if_pos hc] at K
        exact lv_tableOut hx hb hd hc (by omega) K
      · rw [if_neg hc] at K
        cases hos : os[(x.toInt - l).toNat]? with
        | none =>
          exfalso
          have h1 := Array.getElem?_eq_none_iff.mp hos
          have h2 := ho.2
          omega
        | some off =>
          have e1 : os.getD (x.toInt - l).toNat 0 = off := by simp [Array.getD_eq_getD_getElem?, hos]
          rw [e1] at K
          have h0 := ho.1.2 off (by have := Array.mem_of_getElem? hos; simpa using this)
          exact lv_tableIn hx hb hd (fun q => hc (Or.inl q)) (fun q => hc (Or.inr q)) hos (by omega) K
    · cases hs
  case lookupswitch dd ps =>
    simp only [okD, decide_eq_true_eq] at hd
    simp only [okO, Bool.and_eq_true, decide_eq_true_eq, List.all_eq_true] at ho
    simp only [stp] at hs
    split at hs
    · rename_i x r
      cases hs
      have K := KK.same kk hL hR
      unfold lsw at K
      refine lv_lookup hx hb hd (List.all_eq_true.mpr (fun q hq => by simpa using ho.2 q hq)) rfl ?_ K
      have h0 : 0 ≤ (pc : Int) + Op.lookupswitch.offset ps.toList dd x.toInt := by
        have gen : ∀ (l : List (Int × Int)), (∀ f ∈ l, 0 ≤ (pc : Int) + f.2) → 0 ≤ (pc : Int) + Op.lookupswitch.offset l dd x.toInt := by
          intro l
          induction l with
          | nil => intro _; simpa [Op.lookupswitch.offset] using ho.1.1
          | cons q l ih =>
            intro hl
            obtain ⟨q1, q2⟩ := q
            rw [Op.lookupswitch.offset_cons]
            split
            · exact hl (q1, q2) List.mem_cons_self
            · exact ih (fun f hf => hl f (List.mem_cons_of_mem _ hf))
        exact gen _ ho.1.2
      omega
    · cases hs
  case getfield i =>
    simp only [okD, Bool.and_eq_true, decide_eq_true_eq] at hd
    obtain ⟨rfl, hd⟩ := hd
    simp only [okO, Bool.and_eq_true, Bool.or_eq_true, decide_eq_true_eq] at ho
    simp only [stp] at hs
    split at hs
    · rename_i x r
      split at hs
      · rename_i ci fs heq
        split at hs
        · rename_i hci
          subst hci
          split at hs
          · rename_i w hw
            cases hs
            rcases ho with ho | ⟨-, ho⟩
            · obtain ⟨h8, hbn, hlk⟩ := fL_at ho
              exact va_get (own := oN mi.2.2.2.1) hx hb hts (cls_ws h8).1 hown hK hR.1 x (wl_at heq) (cls_at ci h8) b hbn (hts _ hlk) (fun _ h => h) (v := cv z E w) (by simp [hw]) hd (KK.same kk hL hR)
            · exfalso
              obtain ⟨r0, hr0, -⟩ := hR.1 x _ (wl_at heq)
              subst ho
              cases hr0
          · cases hs
        · cases hs
      · cases hs
    · rename_i k r
      split at hs
      · rename_i hk
        rcases ho with ho | ⟨ho, -⟩
        · have := (fL_at ho).1
          omega
        · obtain ⟨q, hq, ho⟩ := List.any_eq_true.mp ho
          have hg := List.all_eq_true.mp slk_ok q hq
          unfold slk at hg
          have hg := hts _ (gT_in _ (of_decide_eq_true hg) rfl)
          obtain ⟨e1, rfl, rfl⟩ := of_decide_eq_true ho
          rw [e1] at hg
          obtain ⟨adK, adV, hsx, hsS, -⟩ := hEx.2.2.2.2.1
          have hk11 : k - 10 < 11 := by have : sT.length = 11 := rfl; omega
          obtain ⟨e2, e3, -⟩ := hsx (k - 10) hk11
          rw [show 10 + (k - 10) = k by omega] at e2
          rw [show 30 + (k - 10) = k + 20 by omega] at e3
          obtain ⟨-, sC, sV, -⟩ := hsS (k - 10) hk11
          split at hs
          · rename_i h0
            rw [if_pos h0, if_pos h0] at hg
            cases hs
            have K := KK.same kk hL hR
            simp only [List.map_cons, cv] at K ⊢
            rw [e3] at K
            rw [e2]
            exact vk_getf hx hb sV hR.2 hown hg (fun _ h => h) hd K
          · rename_i h0
            rw [if_neg h0, if_neg h0] at hg
            cases hs
            have K := KK.same kk hL hR
            simp only [List.map_cons, cv] at K ⊢
            rw [e2]
            exact vk_getf hx hb sC hR.2 hown hg (fun _ h => h) hd K
      · cases hs
    · cases hs
  case putfield i =>
    simp only [okD, Bool.and_eq_true, decide_eq_true_eq] at hd
    obtain ⟨rfl, hd⟩ := hd
    simp only [stp] at hs
    unfold okO at ho
    dsimp only at ho
    rw [Bool.and_eq_true, Bool.and_eq_true] at ho
    split at hs
    · rename_i w x r
      split at hs
      · rename_i ci fs heq
        split at hs
        · rename_i hci
          obtain ⟨rfl, hbl, hfk⟩ := hci
          cases hs
          obtain ⟨⟨ho, hfin⟩, hkind⟩ := ho
          obtain ⟨h8, hbn, hlk⟩ := fL_at ho
          have hty := (cls_ty h8).1 b hbn
          have hnf := put_ok (z := z) (E := E) hkind hfk
          have K : ∀ (H1 : Heap) (locs1 : List Loc), va_P D vwCl ((wl z E kA h).set x (z + x, .inr (ci, (fs.map (cv z E)).set b (cv z E w)))) H1 → va_D (fun q => z ≤ q) ((wl z E kA h).set x (z + x, .inr (ci, (fs.map (cv z E)).set b (cv z E w)))) → va_S (fun q => z ≤ q) s.heap H1 locs1 → W p l e R s m args below meth c H1 locs1 cells slots Q (F0 m (pc + 3) ls (st'.map (cv z E))) := by
            intro H1 locs1 hP1 _ hS1
            refine KK.sets kk heq rfl hL (Rl.sets ?_ hS1)
            simp only [cC, List.map_set]
            exact hP1
          have hlen : b < (fs.map (cv z E)).length := by rw [List.length_map]; exact hbl
          by_cases hf : (tF ci b).2.2.2 = true
          · rw [hf] at hfin
            have hfin : (ii && decide ((tF ci b).1 = oN mi.2.2.2.1)) = true := hfin
            rw [Bool.and_eq_true, decide_eq_true_eq] at hfin
            exact va_putF (own := oN mi.2.2.2.1) hx hb hts (cls_ws h8).1 (tY ci) (cls_ty h8).1 (cls_ty h8).2 hown hK hR.1 wl_D hR.2 x (wl_at heq) (cls_at ci h8) b hbn (hts _ hlk) (fun _ h => h) hf (hini hfin.1) hfin.2 hty hnf.1 hnf.2 hlen hd K
          · exact va_put (own := oN mi.2.2.2.1) hx hb hts (cls_ws h8).1 (tY ci) (cls_ty h8).1 (cls_ty h8).2 hown hK hR.1 wl_D hR.2 x (wl_at heq) (cls_at ci h8) b hbn (hts _ hlk) (fun _ h => h) (by simpa using hf) hty hnf.1 hnf.2 hlen hd K
        · cases hs
      · cases hs
    · cases hs
  case iaload =>
    simp only [okD, Bool.and_eq_true, decide_eq_true_eq] at hd
    obtain ⟨rfl, hd⟩ := hd
    simp only [stp] at hs
    split at hs
    · split at hs
      · rename_i heq
        split at hs
        · cases hs
        · rename_i hin
          cases hs
          exact va_iald hx hb hK hR.1 _ 0 (wl_at heq) rfl hin hd (KK.same kk hL hR)
      · cases hs
    · rename_i i k r
      split at hs
      · rename_i heq
        split at hs
        · cases hs
        · rename_i hin
          cases hs
          have K := KK.same kk hL hR
          simp only [List.map_cons, cv] at K ⊢
          unfold xI at heq
          split at heq
          · cases heq
            obtain ⟨⟨t, t0, -, tT⟩, -⟩ := hEx
            rw [t0]
            exact va_ti hx hb tT hR.2 hin rfl hd K
          · cases heq
            obtain ⟨-, -, -, ⟨bb, eb, hbz, hX⟩, -⟩ := hEx
            rw [eb]
            exact va_sld (A := fun q => z ≤ q) (H0 := s.heap) hx hb hX (show bb < s.heap.size from Nat.lt_of_lt_of_le hbz hz) (Nat.not_le.mpr hbz) hR.2 hin hd K
          · cases heq
      · cases hs
    · cases hs
  case baload =>
    simp only [okD, Bool.and_eq_true, decide_eq_true_eq] at hd
    obtain ⟨rfl, hd⟩ := hd
    simp only [stp] at hs
    split at hs
    · rename_i i k r
      split at hs
      · rename_i heq
        split at hs
        · cases hs
        · rename_i hin
          cases hs
          have K := KK.same kk hL hR
          simp only [List.map_cons, cv] at K ⊢
          unfold xB at heq
          split at heq
          · cases heq
          · rename_i hk
            cases hq : sT[k - 30]? with
            | none => rw [hq] at heq; cases heq
            | some q =>
              rw [hq] at heq
              cases heq
              have hk11 : k - 30 < 11 := (List.getElem?_eq_some_iff.mp hq).1
              obtain ⟨adK, adV, hsx, hsS, -⟩ := hEx.2.2.2.2.1
              obtain ⟨-, e3, -⟩ := hsx (k - 30) hk11
              rw [show 30 + (k - 30) = k by omega] at e3
              obtain ⟨-, -, -, sT1⟩ := hsS (k - 30) hk11
              rw [e3]
              have e4 : (sT.map (fun q => q.2.length)).getD (k - 30) 0 = q.2.length := by simp [hq]
              have e5 : (sT.map (fun q => q.2)).getD (k - 30) [] = q.2 := by simp [hq]
              rw [e4, e5] at sT1
              exact va_tb hx hb sT1 hR.2 hin rfl hd K
      · cases hs
    · cases hs
  case laload =>
    simp only [okD, Bool.and_eq_true, decide_eq_true_eq] at hd
    obtain ⟨rfl, hd⟩ := hd
    simp only [stp] at hs
    split at hs
    · split at hs
      · rename_i heq
        split at hs
        · cases hs
        · rename_i hin
          cases hs
          exact va_lald hx hb hK hR.1 _ 1 (wl_at heq) rfl hin hd (KK.same kk hL hR)
      · cases hs
    · cases hs
  case aaload =>
    simp only [okD, Bool.and_eq_true, decide_eq_true_eq] at hd
    obtain ⟨rfl, hd⟩ := hd
    simp only [stp] at hs
    split at hs
    · split at hs
      · rename_i t n f heq
        split at hs
        · cases hs
        · rename_i hin
          split at hs
          · rename_i y hy
            cases hs
            have K := KK.same kk hL hR
            have hin2 : vp_in _ n := fun q => hin (Or.inr q)
            have ht : t = 0 ∨ t = 1 := by have : ¬ 2 ≤ t := fun q => hin (Or.inl q); omega
            rcases ht with rfl | rfl
            · refine va_aldq hx hb hK hR.1 _ 2 (wl_at heq) rfl hin2 hd ?_
              rw [hy]
              exact K
            · refine va_aldq hx hb hK hR.1 _ 3 (wl_at heq) rfl hin2 hd ?_
              rw [hy]
              exact K
          · cases hs
      · cases hs
    · cases hs
  case iastore =>
    simp only [okD, Bool.and_eq_true, decide_eq_true_eq] at hd
    obtain ⟨rfl, hd⟩ := hd
    simp only [stp] at hs
    split at hs
    · split at hs
      · rename_i heq
        split at hs
        · cases hs
        · rename_i hin
          cases hs
          refine va_iast hx hb hK hR.1 wl_D hR.2 _ 0 (wl_at heq) rfl hin hd (fun H1 locs1 hP1 _ hS1 => ?_)
          exact KK.sets kk heq rfl hL (Rl.sets hP1 hS1)
      · cases hs
    · cases hs
  case lastore =>
    simp only [okD, Bool.and_eq_true, decide_eq_true_eq] at hd
    obtain ⟨rfl, hd⟩ := hd
    simp only [stp] at hs
    split at hs
    · split at hs
      · rename_i heq
        split at hs
        · cases hs
        · rename_i hin
          cases hs
          refine va_last hx hb hK hR.1 wl_D hR.2 _ 1 (wl_at heq) rfl hin hd (fun H1 locs1 hP1 _ hS1 => ?_)
          exact KK.sets kk heq rfl hL (Rl.sets hP1 hS1)
      · cases hs
    · cases hs
  case aastore =>
    simp only [okD, Bool.and_eq_true, decide_eq_true_eq] at hd
    obtain ⟨rfl, hd⟩ := hd
    simp only [stp] at hs
    split at hs
    · rename_i y i x r
      split at hs
      · rename_i t n f ci fs heq heqy
        split at hs
        · cases hs
        · rename_i hin
          split at hs
          · rename_i hci
            subst hci
            cases hs
            have hin2 : vp_in i n := fun q => hin (Or.inr q)
            have ht : t = 0 ∨ t = 1 := by have : ¬ 2 ≤ t := fun q => hin (Or.inl q); omega
            have key : ∀ (H1 : Heap) (locs1 : List Loc), va_P D vwCl ((wl z E kA h).set x (z + x, .inl (kA (2 + t), n, .inr (.inr (.inr (.inr (va_up (fun j => (f j).map (fun a => z + a)) i.toNatClampNeg (some (z + y))))))))) H1 → va_S (fun q => z ≤ q) s.heap H1 locs1 → W p l e R s m args below meth c H1 locs1 cells slots Q (F0 m (pc + 1) ls (st'.map (cv z E))) := by
              intro H1 locs1 hP1 hS1
              refine KK.sets kk heq rfl hL (Rl.sets ?_ hS1)
              simp only [cC]
              have e1 : (fun j => (va_up f i.toNatClampNeg (some y) j).map (fun a => z + a)) = va_up (fun j => (f j).map (fun a => z + a)) i.toNatClampNeg (some (z + y)) := by
                funext j
                unfold va_up
                split <;> rfl
              rw [e1]
              exact hP1
            rcases ht with rfl | rfl
            · exact va_astq (r := (RX1, TX1, 4)) hx hb hK hR.1 wl_D hR.2 x 2 y 1 (wl_at heq) rfl (wl_at heqy) rfl hin2 hd (fun H1 locs1 hP1 _ hS1 => key H1 locs1 hP1 hS1)
            · exact va_astq (r := (RX2, TX2, 3)) hx hb hK hR.1 wl_D hR.2 x 3 y 2 (wl_at heq) rfl (wl_at heqy) rfl hin2 hd (fun H1 locs1 hP1 _ hS1 => key H1 locs1 hP1 hS1)
          · cases hs
      · cases hs
    · cases hs
  case arraylength =>
    simp only [okD, Bool.and_eq_true, decide_eq_true_eq] at hd
    obtain ⟨rfl, hd⟩ := hd
    simp only [stp] at hs
    split at hs
    · split at hs
      · rename_i heq
        cases hs
        exact va_alen hx hb hK hR.1 _ 0 (wl_at heq) rfl rfl hd (KK.same kk hL hR)
      · rename_i heq
        cases hs
        exact va_alen hx hb hK hR.1 _ 1 (wl_at heq) rfl rfl hd (KK.same kk hL hR)
      · cases hs
    · rename_i k r
      split at hs
      · rename_i heq
        cases hs
        have K := KK.same kk hL hR
        simp only [List.map_cons, cv] at K ⊢
        unfold xI at heq
        split at heq
        · cases heq
          obtain ⟨⟨t, t0, -, tT⟩, -⟩ := hEx
          rw [t0]
          exact va_tlen hx hb tT hR.2 rfl hd K
        · cases heq
          obtain ⟨-, -, -, ⟨bb, eb, hbz, hX⟩, -⟩ := hEx
          rw [eb]
          exact va_slen (A := fun q => z ≤ q) (H0 := s.heap) hx hb hX (show bb < s.heap.size from Nat.lt_of_lt_of_le hbz hz) (Nat.not_le.mpr hbz) hR.2 hd K
        · cases heq
      · rename_i heqI heq
        cases hs
        have K := KK.same kk hL hR
        simp only [List.map_cons, cv] at K ⊢
        unfold xB at heq
        split at heq
        · cases heq
        · rename_i hk
          cases hq : sT[k - 30]? with
          | none => rw [hq] at heq; cases heq
          | some q =>
            rw [hq] at heq
            cases heq
            have hk11 : k - 30 < 11 := (List.getElem?_eq_some_iff.mp hq).1
            obtain ⟨adK, adV, hsx, hsS, -⟩ := hEx.2.2.2.2.1
            obtain ⟨-, e3, -⟩ := hsx (k - 30) hk11
            rw [show 30 + (k - 30) = k by omega] at e3
            obtain ⟨-, -, -, sT1⟩ := hsS (k - 30) hk11
            rw [e3]
            have e4 : (sT.map (fun q => q.2.length)).getD (k - 30) 0 = q.2.length := by simp [hq]
            rw [e4] at sT1
            exact va_tlen hx hb sT1 hR.2 rfl hd K
      · cases hs
    · cases hs
  case new i =>
    simp only [okD, Bool.and_eq_true, decide_eq_true_eq] at hd
    obtain ⟨rfl, hd⟩ := hd
    simp only [okO, Bool.and_eq_true, Bool.or_eq_true, decide_eq_true_eq] at ho
    simp only [stp] at hs
    obtain ⟨h8, hlk⟩ := nL_at ho
    cases hs
    refine W.hsz hz hn hR (fun hsz => ?_)
    have hc1 : h.length + 1 - h.length = 1 := by omega
    simp only [sz_app, List.length_append, List.length_singleton, hc1, szc, Nat.add_sub_cancel_left] at hcap
    obtain ⟨w1, w2, w3, w4⟩ := cls_ws h8
    refine my_new (own := oN mi.2.2.2.1) hx hb hts w1 (tY a) (cls_ty h8).1 hown (hts _ hlk) (hts _ w2) (hts _ w3) hK hR.1 hR.2 (cls_at a h8) (fs := (dF a).map (cv z E)) (by rw [dF_cv h8]; exact dF_ok h8) hcap.1 hcap.2 hd (fun H1 hz1 hP1 hS1 => ?_)
    have := KK.grow kk hL (Rl.grow (z := z) hsz hP1 hS1)
    simp only [List.map_cons, cv] at this
    rw [← hsz] at this
    exact this
  case newarray ty =>
    simp only [okD, Bool.and_eq_true, decide_eq_true_eq] at hd
    obtain ⟨rfl, hd⟩ := hd
    have hK2 := hK.2
    cases ty
    all_goals try (simp only [stp, reduceCtorEq] at hs; done)
    case int =>
      simp only [stp] at hs
      split at hs
      · rename_i n r
        split at hs
        · cases hs
        · rename_i hnn
          cases hs
          refine W.hsz hz hn hR (fun hsz => ?_)
          have hc1 : h.length + 1 - h.length = 1 := by omega
          simp only [sz_app, List.length_append, List.length_singleton, hc1, szc, Nat.add_sub_cancel_left] at hcap
          have hb1 : n.toNatClampNeg ≤ 100000 := by have := fun q => hnn (Or.inr q); omega
          refine my_newa (atype := .int) (ty := .int) (a0 := (n.toNatClampNeg, .inl (fun _ => 0))) hx hb (hts _ (g_of arrw.1 rfl)) rfl hR.1 hR.2 (cA := kA 0) (hK2 0 _ rfl).2 (fun cA => rfl) (fun q => hnn (Or.inl q)) rfl ?_ hcap.1 hcap.2 hd (fun H1 hz1 hP1 hS1 => ?_)
          · show n.toNatClampNeg * 4 ≤ 536870912
            omega
          · have := KK.grow kk hL (Rl.grow (z := z) hsz hP1 hS1)
            simp only [List.map_cons, cv] at this
            rw [← hsz] at this
            exact this
      · cases hs
    case long =>
      simp only [stp] at hs
      split at hs
      · rename_i n r
        split at hs
        · cases hs
        · rename_i hnn
          cases hs
          refine W.hsz hz hn hR (fun hsz => ?_)
          have hc1 : h.length + 1 - h.length = 1 := by omega
          simp only [sz_app, List.length_append, List.length_singleton, hc1, szc, Nat.add_sub_cancel_left] at hcap
          have hb1 : n.toNatClampNeg ≤ 100000 := by have := fun q => hnn (Or.inr q); omega
          refine my_newa (atype := .long) (ty := .long) (a0 := (n.toNatClampNeg, .inr (.inl (fun _ => 0)))) hx hb (hts _ (g_of arrw.2 rfl)) rfl hR.1 hR.2 (cA := kA 1) (hK2 1 _ rfl).2 (fun cA => rfl) (fun q => hnn (Or.inl q)) rfl ?_ hcap.1 hcap.2 hd (fun H1 hz1 hP1 hS1 => ?_)
          · show n.toNatClampNeg * 8 ≤ 536870912
            omega
          · have := KK.grow kk hL (Rl.grow (z := z) hsz hP1 hS1)
            simp only [List.map_cons, cv] at this
            rw [← hsz] at this
            exact this
      · cases hs
  case anewarray i =>
    simp only [okD, Bool.and_eq_true, decide_eq_true_eq] at hd
    obtain ⟨rfl, hd⟩ := hd
    simp only [okO, Bool.and_eq_true, Bool.or_eq_true, decide_eq_true_eq] at ho
    simp only [stp] at hs
    split at hs
    · rename_i n r
      split at hs
      · cases hs
      · rename_i hnn
        cases hs
        obtain ⟨ho, ha2⟩ := ho
        obtain ⟨h8, hlk⟩ := nL_at ho
        refine W.hsz hz hn hR (fun hsz => ?_)
        have hc1 : h.length + 1 - h.length = 1 := by omega
        simp only [sz_app, List.length_append, List.length_singleton, hc1, szc, Nat.add_sub_cancel_left] at hcap
        have hb1 : n.toNatClampNeg ≤ 100000 := by have := fun q => hnn (Or.inr q); omega
        have hb2 : n.toNatClampNeg * 4 ≤ 536870912 := by omega
        have hK2 := hK.2
        rcases (show a = 0 ∨ a = 1 by omega) with rfl | rfl
        · obtain ⟨kx, comp, q1, q2, q3, q4⟩ := (hK2 2 _ rfl).2
          refine my_newq (own := oN mi.2.2.2.1) (C := RX1) hx hb hown (hts _ hlk) hEx.2.2.2.2.2.2.1 hR.1 hR.2 q4 (fun q => hnn (Or.inl q)) hb2 hcap.1 hcap.2 hd (fun H1 hz1 hP1 hS1 => ?_)
          have := KK.grow kk hL (Rl.grow (z := z) hsz hP1 hS1)
          simp only [List.map_cons, cv] at this
          rw [← hsz] at this
          exact this
        · obtain ⟨kx, comp, q1, q2, q3, q4⟩ := (hK2 3 _ rfl).2
          refine my_newq (own := oN mi.2.2.2.1) (C := RX2) hx hb hown (hts _ hlk) hEx.2.2.2.2.2.2.2.1 hR.1 hR.2 q4 (fun q => hnn (Or.inl q)) hb2 hcap.1 hcap.2 hd (fun H1 hz1 hP1 hS1 => ?_)
          have := KK.grow kk hL (Rl.grow (z := z) hsz hP1 hS1)
          simp only [List.map_cons, cv] at this
          rw [← hsz] at this
          exact this
    · cases hs
  case invokevirtual i =>
    simp only [okD, Bool.and_eq_true, decide_eq_true_eq] at hd
    obtain ⟨rfl, hd⟩ := hd
    simp only [stp] at hs
    split at hs
    · split at hs
      · split at hs
        · cases hs
        · cases hs
      · cases hs
    · split at hs
      · cases hs
      · cases hs
    · cases hs
  case invokestatic i =>
    simp only [okD, Bool.and_eq_true, decide_eq_true_eq] at hd
    obtain ⟨rfl, hd⟩ := hd
    simp only [okO, Bool.and_eq_true, Bool.or_eq_true, decide_eq_true_eq] at ho
    simp only [stp] at hs
    split at hs
    · rename_i ha
      subst ha
      simp only [Nat.reduceLT, Nat.reduceEqDiff, false_and, or_false, false_or, true_and] at ho
      replace ho := m1_of ho
      split at hs
      · rename_i n dp x1 sp x0 r
        split at hs
        · rename_i hw
          split at hs
          · rename_i hh hcp
            cases hs
            obtain ⟨q, hq, ho⟩ := List.any_eq_true.mp ho
            have hg := List.all_eq_true.mp m1k_ok q hq
            unfold m1k at hg
            have hg := hts _ (gT_in _ (of_decide_eq_true hg) rfl)
            obtain ⟨e1, rfl⟩ := of_decide_eq_true ho
            rw [e1] at hg
            have hwc : ((st'.map (cv z E)).map fun v => v.category).sum ≤ 8 := by
              rw [cv_sum hE]; exact hw
            unfold cpy at hcp
            split at hcp
            · cases hcp
            · rename_i hneg
              have n1 : ¬ sp < 0 := fun q => hneg (Or.inl q)
              have n2 : ¬ dp < 0 := fun q => hneg (Or.inr (Or.inl q))
              have n3 : ¬ n < 0 := fun q => hneg (Or.inr (Or.inr q))
              split at hcp
              · rename_i n0 f n1' g h0 h1
                split at hcp
                · rename_i hbnd
                  cases hcp
                  exact va_copyi hx hb (by rw [hml]; exact hL.1.symm) hown hg (hts _ (g_of acpw.1 rfl)) (hts _ (g_of acpw.2.1 rfl)) (hts _ (g_of acpw.2.2 rfl)) hK hR.1 wl_D hR.2 x0 x1 0 0 (wl_at h0) (wl_at h1) rfl rfl rfl n1 n2 n3 hbnd.1 hbnd.2 (fun _ _ => rfl) hroom.1 (Nat.le_trans (Nat.add_le_add_right hwc _) (Nat.le_trans (by decide +kernel : 8 + (nativeFrameWords "java/lang/System" "arraycopy" 5 + 11) ≤ 64) hroom.2)) hd (fun H1 locs1 hP1 _ hS1 => KK.sets kk h1 rfl hL (Rl.sets hP1 hS1))
                · cases hcp
              · rename_i n0 f n1' g h0 h1
                split at hcp
                · rename_i hbnd
                  cases hcp
                  exact va_copyl hx hb (by rw [hml]; exact hL.1.symm) hown hg (hts _ (g_of acpw.1 rfl)) (hts _ (g_of acpw.2.1 rfl)) (hts _ (g_of acpw.2.2 rfl)) hK hR.1 wl_D hR.2 x0 x1 1 1 (wl_at h0) (wl_at h1) rfl rfl rfl n1 n2 n3 hbnd.1 hbnd.2 (fun _ _ => rfl) hroom.1 (Nat.le_trans (Nat.add_le_add_right hwc _) (Nat.le_trans (by decide +kernel : 8 + (nativeFrameWords "java/lang/System" "arraycopy" 5 + 11) ≤ 64) hroom.2)) hd (fun H1 locs1 hP1 _ hS1 => KK.sets kk h1 rfl hL (Rl.sets hP1 hS1))
                · cases hcp
              · cases hcp
          · cases hs
        · cases hs
      · cases hs
    · split at hs
      · rename_i ha
        subst ha
        split at hs
        · rename_i x r
          split at hs
          · rename_i hw
            cases hs
            have hg := hts _ (mm_of 902 (by simpa using ho))
            have hwc : ((r.map (cv z E)).map fun v => v.category).sum ≤ 8 := by
              rw [cv_sum hE]; exact hw
            simp only [Nat.sub_self, Nat.add_zero] at hcap
            exact va_mabs hx hb (by rw [hml]; exact hL.1.symm) hown hg (hts _ (g_of (mthw.2.1).1 rfl)) (hts _ (g_of mthw.1 rfl)) (hts _ (g_of (mthw.2.1).2 rfl)) hroom.1 (by have := hroom.2; omega) hcap.1 hcap.2 hd (KK.same kk hL hR)
          · cases hs
        · cases hs
      · split at hs
        · rename_i ha
          subst ha
          split at hs
          · rename_i y x r
            split at hs
            · rename_i hw
              cases hs
              have hg := hts _ (mm_of 903 (by simpa using ho))
              have hwc : ((r.map (cv z E)).map fun v => v.category).sum ≤ 8 := by
                rw [cv_sum hE]; exact hw
              simp only [Nat.sub_self, Nat.add_zero] at hcap
              exact va_mmax hx hb (by rw [hml]; exact hL.1.symm) hown hg (hts _ (g_of (mthw.2.2.1).1 rfl)) (hts _ (g_of mthw.1 rfl)) (hts _ (g_of (mthw.2.2.1).2 rfl)) hroom.1 (by have := hroom.2; omega) hcap.1 hcap.2 hd (KK.same kk hL hR)
            · cases hs
          · cases hs
        · split at hs
          · rename_i ha
            subst ha
            split at hs
            · rename_i y x r
              split at hs
              · rename_i hw
                cases hs
                have hg := hts _ (mm_of 904 (by simpa using ho))
                have hwc : ((r.map (cv z E)).map fun v => v.category).sum ≤ 8 := by
                  rw [cv_sum hE]; exact hw
                simp only [Nat.sub_self, Nat.add_zero] at hcap
                exact va_mmin hx hb (by rw [hml]; exact hL.1.symm) hown hg (hts _ (g_of (mthw.2.2.2).1 rfl)) (hts _ (g_of mthw.1 rfl)) (hts _ (g_of (mthw.2.2.2).2 rfl)) hroom.1 (by have := hroom.2; omega) hcap.1 hcap.2 hd (KK.same kk hL hR)
              · cases hs
            · cases hs
          · (repeat' (split at hs)) <;> cases hs
  case invokespecial i =>
    simp only [okD, Bool.and_eq_true, decide_eq_true_eq] at hd
    obtain ⟨rfl, hd⟩ := hd
    simp only [okO, Bool.and_eq_true, Bool.or_eq_true, decide_eq_true_eq] at ho
    simp only [stp] at hs
    split at hs
    · rename_i ha
      subst ha
      simp only [Nat.lt_irrefl, false_and, or_false, true_and] at ho
      split at hs
      · rename_i x r
        split at hs
        · rename_i hw
          cases hs
          obtain ⟨q, hq, ho⟩ := List.any_eq_true.mp ho
          have hg := List.all_eq_true.mp m9k_ok q hq
          unfold m9k at hg
          have hg := hts _ (gT_in _ (of_decide_eq_true hg) rfl)
          obtain ⟨e1, rfl⟩ := of_decide_eq_true ho
          rw [e1] at hg
          have hwc : ((st'.map (cv z E)).map fun v => v.category).sum ≤ 8 := by
            rw [cv_sum hE]; exact hw
          refine W.objInit hx hb hown hg (hts _ (g_of objw.1 rfl)) (hts _ (g_of objw.2 rfl)) rfl (by rw [hml]; exact hL.1) rfl hd hroom.1 ?_ (KK.same kk hL hR)
          show 2 * 0 + _ + 12 ≤ R.locals
          have := hroom.2
          omega
        · cases hs
      · cases hs
    · (repeat' (split at hs)) <;> cases hs
  case ireturn =>
    simp only [okD, Bool.and_eq_true, decide_eq_true_eq] at hd
    obtain ⟨rfl, hd⟩ := hd
    simp only [stp] at hs
    split at hs <;> cases hs
  case lreturn =>
    simp only [okD, Bool.and_eq_true, decide_eq_true_eq] at hd
    obtain ⟨rfl, hd⟩ := hd
    simp only [stp] at hs
    split at hs <;> cases hs
  case areturn =>
    simp only [okD, Bool.and_eq_true, decide_eq_true_eq] at hd
    obtain ⟨rfl, hd⟩ := hd
    simp only [stp] at hs
    split at hs <;> cases hs
  case return_ =>
    simp only [okD, Bool.and_eq_true, decide_eq_true_eq] at hd
    obtain ⟨rfl, hd⟩ := hd
    simp only [stp] at hs
    split at hs <;> cases hs
end STEPW
