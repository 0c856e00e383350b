/-! THE SMALL MACHINE AND THE MACHINE -/
def cv (z : Nat) (E : Nat → Value) : Value → Value
  | .ref a => .ref (z + a)
  | .retAddr k => E k
  | v => v
def cC (z : Nat) (E : Nat → Value) (kA : Nat → ClassId) : aC → va_E
  | .inl (ci, fs) => .inr (ci, fs.map (cv z E))
  | .inr (.inl (n, f)) => .inl (kA 0, n, .inl f)
  | .inr (.inr (.inl (n, f))) => .inl (kA 1, n, .inr (.inl f))
  | .inr (.inr (.inr (t, n, f))) => .inl (kA (2 + t), n, .inr (.inr (.inr (.inr (fun j => (f j).map (fun a => z + a))))))
def wl (z : Nat) (E : Nat → Value) (kA : Nat → ClassId) (h : aH) : va_W := h.mapIdx (fun i c => (z + i, cC z E kA c))
theorem wl_at {z : Nat} {E : Nat → Value} {kA : Nat → ClassId} {h : aH} {x : Nat} {c : aC} (hx : h[x]? = some c) : (wl z E kA h)[x]? = some (z + x, cC z E kA c) := by
  simp [wl, List.getElem?_mapIdx, hx]
theorem wl_set {z : Nat} {E : Nat → Value} {kA : Nat → ClassId} {h : aH} {x : Nat} {c : aC} : wl z E kA (h.set x c) = (wl z E kA h).set x (z + x, cC z E kA c) := by
  simp [wl, List.mapIdx_set]
theorem wl_app {z : Nat} {E : Nat → Value} {kA : Nat → ClassId} {h : aH} {c : aC} : wl z E kA (h ++ [c]) = wl z E kA h ++ [(z + h.length, cC z E kA c)] := by
  simp [wl, List.mapIdx_append]
theorem wl_D {z : Nat} {E : Nat → Value} {kA : Nat → ClassId} {h : aH} : va_D (fun q => z ≤ q) (wl z E kA h) := by
  have key : ∀ (i : Nat) (p : Nat × va_E), (wl z E kA h)[i]? = some p → p.1 = z + i := by
    intro i p hi
    rw [wl, List.getElem?_mapIdx] at hi
    cases hc : h[i]? with
    | none => rw [hc] at hi; cases hi
    | some c => rw [hc] at hi; cases hi; rfl
  refine ⟨fun i j p q hi hj e => ?_, fun k q hk => ?_⟩
  · have h1 := key i p hi
    have h2 := key j q hj
    omega
  · have h1 := key k q hk
    show z ≤ q.1
    omega
def tyl (kA : Nat → ClassId) : List (ClassId × FieldType) := [(kA 0, .int), (kA 1, .long), (kA 2, .object RX1), (kA 3, .object RX2)]
/-- what lies outside -/
def Ex (z : Nat) (E : Nat → Value) (X : aX) (U : State) (H : Heap) : Prop :=
  (∃ t, E 0 = .ref t ∧ va_Z "LinenSigns" "UNDER" "[I" (.ref t) (fun q => z ≤ q) U H ∧ va_T .int t 6 (fun j => .int (([-1, 0, 0, 0, 1, 2] : List Int32).getD j 0)) (fun q => z ≤ q) U H) ∧
  va_Z "java/lang/String" "COMPACT_STRINGS" "Z" (.int 1) (fun q => z ≤ q) U H ∧
  va_Z "jdk/internal/util/Preconditions" "SIOOBE_FORMATTER" "Ljava/util/function/BiFunction;" (E 1) (fun q => z ≤ q) U H ∧
  (∃ b, E 2 = .ref b ∧ b < z ∧ va_X b X.1 X.2 U H) ∧
  (∃ adK adV : Nat → Nat, (∀ i, i < 11 → E (10 + i) = .ref (adK i) ∧ E (30 + i) = .ref (adV i) ∧ vk_R "LinenSigns$Tape" (sT.getD i (0, [])).1 (sX.getD i "") (adK i) U) ∧ vk_S 11 (sT.map (fun q => q.2.length)) (sT.map (fun q => q.2)) adK adV (fun q => z ≤ q) U H) ∧
  (∀ q ∈ mL, 3 ≤ q.2.2.2.1 → va_Nw (.methodLinkNest (oN q.1) q.2.1 (mN q.2.2.1).1 RX6) U) ∧ va_AO RX1 U ∧ va_AO RX2 U ∧ ∀ k, E k = .null ∨ ∃ t, E k = .ref t
theorem Ex.to {z : Nat} {E : Nat → Value} {X : aX} {s U : State} {H H1 : Heap} (h : Ex z E X s H) (hW : s.WarmedH U.vm) (hk : ∀ a : Nat, a < H.size → ¬ z ≤ a → H1[a]? = H[a]?) : Ex z E X U H1 := by
  obtain ⟨⟨t, e0, hZ, hT⟩, h1, h2, ⟨b, eb, hb, hX⟩, ⟨adK, adV, hs, hS⟩, hn, ho1, ho2, hE⟩ := h
  have ha := hW.alike
  refine ⟨⟨t, e0, (va_Z.moved ha hZ).kept hk, (va_T.moved ha hT).kept hk⟩, (va_Z.moved ha h1).kept hk, (va_Z.moved ha h2).kept hk, ⟨b, eb, hb, ?_⟩, ⟨adK, adV, fun i hi => ⟨(hs i hi).1, (hs i hi).2.1, (hs i hi).2.2.warm hW⟩, (vk_S.moved ha hS).kept hk⟩, fun q hq h3 => (hn q hq h3).warmM hW, ho1.moved ha, ho2.moved ha, hE⟩
  obtain ⟨scr, g1, -⟩ := id hX
  exact (va_X.moved ha hX).kept (hk b (Array.getElem?_eq_some_iff.mp g1).1 (Nat.not_le.mpr hb))
/-- a method's run, at its start s: what it may count on -/
def Cx (z : Nat) (D : va_G) (kA : Nat → ClassId) (E : Nat → Value) (X : aX) (p : Program) (s : State) (m : MethodId) (args : Array Value) (meth : Method) (c : Code) (cc : ByteArray) (mi : aM) (ii : Bool) : Prop :=
  p.tables.exec = Jvm.exec ∧ c.code = cc ∧ c.maxLocals = mi.2.1 ∧ s.vm.findClass (oN mi.2.2.2.1) = some m.cls ∧ (∀ w ∈ gT, w.before args s = true) ∧ okC cc mi.2.2.2.1 ii 0 mi.1 = true ∧ (ii = true → meth.name = "<init>") ∧ va_K D vwCl (tyl kA) s ∧ Ex z E X s s.heap ∧ z ≤ s.heap.size
def Rl (z : Nat) (D : va_G) (kA : Nat → ClassId) (E : Nat → Value) (s : State) (H : Heap) (locs : List Loc) (h : aH) : Prop := va_P D vwCl (wl z E kA h) H ∧ va_S (fun q => z ≤ q) s.heap H locs
def Lo (z : Nat) (E : Nat → Value) (nL : Nat) (ls : Array Slot) (lo : List Value) : Prop := ls.size = nL ∧ lo.length = nL ∧ lv_wf ls ∧ ∀ (i : Nat) (v : Value), lo[i]? = some v → (∀ b, v ≠ .double b) → ls[i]? = some (.val (cv z E v))
theorem sz_set {h : aH} {x : Nat} {c c' : aC} (hx : h[x]? = some c) (hc : szc c' = szc c) : sz (h.set x c') = sz h := by
  unfold sz
  have : (h.set x c').map szc = h.map szc := by
    rw [List.map_set, hc]
    apply List.ext_getElem?
    intro i
    by_cases hi : i = x
    · subst hi
      rw [List.getElem?_set_self (by rw [List.length_map]; exact (List.getElem?_eq_some_iff.mp hx).1)]
      simp [hx]
    · rw [List.getElem?_set_ne (Ne.symm hi)]
  rw [this]
theorem sz_app {h : aH} {c : aC} : sz (h ++ [c]) = sz h + szc c := by simp [sz]
/-- the locals, as the rows want them -/
def lvs (z : Nat) (E : Nat → Value) (lo : List Value) : List (Nat × Value) := (lo.zipIdx.filter (fun q => match q.1 with | .double _ => false | _ => true)).map (fun q => (q.2, cv z E q.1))
theorem lvs_mem {z : Nat} {E : Nat → Value} {lo : List Value} {i : Nat} {w : Value} : (i, w) ∈ lvs z E lo ↔ ∃ v, lo[i]? = some v ∧ (∀ b, v ≠ .double b) ∧ w = cv z E v := by
  unfold lvs
  constructor
  · intro h
    obtain ⟨⟨v, k⟩, h1, h2⟩ := List.mem_map.mp h
    obtain ⟨h3, h4⟩ := List.mem_filter.mp h1
    have h5 : lo[k]? = some v := by
      have := List.mem_zipIdx_iff_getElem?.mp h3
      simpa using this
    cases h2
    exact ⟨v, h5, fun b e => by subst e; simp at h4, rfl⟩
  · rintro ⟨v, h1, h2, rfl⟩
    refine List.mem_map.mpr ⟨(v, i), List.mem_filter.mpr ⟨List.mem_zipIdx_iff_getElem?.mpr (by simpa using h1), ?_⟩, rfl⟩
    cases v <;> first | rfl | exact absurd rfl (h2 _)
theorem Lo.has {z : Nat} {E : Nat → Value} {nL : Nat} {ls : Array Slot} {lo : List Value} (h : Lo z E nL ls lo) : lv_has ls nL (lvs z E lo) := by
  refine ⟨h.1, h.2.2.1, fun q hq => ?_⟩
  obtain ⟨i, w⟩ := q
  obtain ⟨v, h1, h2, rfl⟩ := lvs_mem.mp hq
  exact h.2.2.2 i v h1 h2
theorem cv_cat {z : Nat} {E : Nat → Value} (hE : ∀ k, E k = .null ∨ ∃ t, E k = .ref t) (v : Value) (h2 : ∀ b, v ≠ .double b) (hl : ∀ x, v ≠ .long x) : (cv z E v).category = 1 := by
  cases v with
  | double b => exact absurd rfl (h2 b)
  | long x => exact absurd rfl (hl x)
  | retAddr k => rcases hE k with e | ⟨t, e⟩ <;> simp [cv, e, Value.category]
  | _ => rfl
theorem sto_at {lo : List Value} {a i : Nat} {v w : Value} (hno : noL lo a = true) (h : (lo.set a v)[i]? = some w) : (i = a ∧ w = v) ∨ (i ≠ a ∧ lo[i]? = some w ∧ (i + 1 = a → ∀ x, w ≠ .long x)) := by
  by_cases e : i = a
  · subst e
    rw [List.getElem?_set] at h
    simp at h
    exact Or.inl ⟨rfl, h.2.symm⟩
  · rw [List.getElem?_set_ne (Ne.symm e)] at h
    refine Or.inr ⟨e, h, fun e2 x hx => ?_⟩
    subst e2
    subst hx
    simp only [noL, h] at hno
    cases hno
theorem Lo.store {z : Nat} {E : Nat → Value} {nL : Nat} {ls ls' : Array Slot} {lo : List Value} {a : Nat} {v : Value} (hE : ∀ k, E k = .null ∨ ∃ t, E k = .ref t) (h : Lo z E nL ls lo) (hno : noL lo a = true) (h' : lv_has ls' nL ((a, cv z E v) :: (lvs z E lo).filter (fun q => !(q.1 == a) && !(q.1 + 1 == a && q.2.category == 2)))) : Lo z E nL ls' (lo.set a v) := by
  refine ⟨h'.1, by rw [List.length_set]; exact h.2.1, h'.2.1, fun i w hi hd => ?_⟩
  rcases sto_at hno hi with ⟨rfl, rfl⟩ | ⟨h1, h2, h3⟩
  · exact h'.2.2 (i, cv z E w) List.mem_cons_self
  · refine h'.2.2 (i, cv z E w) (List.mem_cons_of_mem _ (List.mem_filter.mpr ⟨lvs_mem.mpr ⟨w, h2, hd, rfl⟩, ?_⟩))
    by_cases e : i + 1 = a
    · have := cv_cat hE w hd (h3 e) (z := z)
      simp [h1, this]
    · simp [h1, e]
theorem Lo.store2 {z : Nat} {E : Nat → Value} {nL : Nat} {ls ls' : Array Slot} {lo : List Value} {a : Nat} {v : Value} (hE : ∀ k, E k = .null ∨ ∃ t, E k = .ref t) (h : Lo z E nL ls lo) (hno : noL lo a = true) (h' : lv_has ls' nL ((a, cv z E v) :: (lvs z E lo).filter (fun q => !(q.1 == a) && (!(q.1 == a + 1) && !(q.1 + 1 == a && q.2.category == 2))))) : Lo z E nL ls' ((lo.set a v).set (a + 1) (.double 0)) := by
  refine ⟨h'.1, by rw [List.length_set, List.length_set]; exact h.2.1, h'.2.1, fun i w hi hd => ?_⟩
  have hne : i ≠ a + 1 := by
    intro e
    subst e
    rw [List.getElem?_set] at hi
    simp at hi
    exact hd 0 hi.2.symm
  rw [List.getElem?_set_ne (Ne.symm hne)] at hi
  rcases sto_at hno hi with ⟨rfl, rfl⟩ | ⟨h1, h2, h3⟩
  · exact h'.2.2 (i, cv z E w) List.mem_cons_self
  · refine h'.2.2 (i, cv z E w) (List.mem_cons_of_mem _ (List.mem_filter.mpr ⟨lvs_mem.mpr ⟨w, h2, hd, rfl⟩, ?_⟩))
    by_cases e : i + 1 = a
    · have := cv_cat hE w hd (h3 e) (z := z)
      simp [h1, hne, this]
    · simp [h1, hne, e]
/-! ===== what the tables say ===== -/
def clk (i : Nat) : Bool := decide (vwCl.length = 8) && (match vwCl[i]? with
  | none => false
  | some (C, _, N) => decide (C = oN i ∧ N = nF i ∧ (dF i).length = N) && ((u_ws C (tF i) N).all (fun w => decide (w ∈ lw_tbl) && goodWord w)) && decide (Cond.instantiable C N ∈ lw_tbl) && decide (Cond.initialized C ∈ lw_tbl))
theorem clk_ok : (List.range 8).all clk = true := by decide +kernel
theorem cls_at : ∀ i, i < 8 → vwCl[i]? = some (oN i, tF i, nF i) := by
  intro i hi
  rcases (show i = 0 ∨ i = 1 ∨ i = 2 ∨ i = 3 ∨ i = 4 ∨ i = 5 ∨ i = 6 ∨ i = 7 by omega) with rfl | rfl | rfl | rfl | rfl | rfl | rfl | rfl <;> rfl
theorem cls_ws {i : Nat} (hi : i < 8) : (∀ w ∈ u_ws (oN i) (tF i) (nF i), w ∈ gT) ∧ Cond.instantiable (oN i) (nF i) ∈ gT ∧ Cond.initialized (oN i) ∈ gT ∧ (dF i).length = nF i := by
  have h := List.all_eq_true.mp clk_ok i (List.mem_range.mpr hi)
  unfold clk at h
  rw [cls_at i hi] at h
  simp only [Bool.and_eq_true, decide_eq_true_eq, List.all_eq_true] at h
  obtain ⟨-, ⟨⟨h1, h2⟩, h3⟩, h4⟩ := h
  exact ⟨fun w hw => List.mem_filter.mpr ⟨(h2 w hw).1, (h2 w hw).2⟩, List.mem_filter.mpr ⟨h3, rfl⟩, List.mem_filter.mpr ⟨h4, rfl⟩, h1.2.2⟩
theorem cls_ty {i : Nat} (hi : i < 8) : (∀ k, k < nF i → parseFieldDescriptor (tF i k).2.2.1 = some (tY i k)) ∧ (∀ a, a < nF i → ∀ b, b < nF i → a ≠ b → (tF i a).2.1 ≠ (tF i b).2.1) := by
  rcases (show i = 0 ∨ i = 1 ∨ i = 2 ∨ i = 3 ∨ i = 4 ∨ i = 5 ∨ i = 6 ∨ i = 7 by omega) with rfl | rfl | rfl | rfl | rfl | rfl | rfl | rfl
  · exact ⟨tyX0_ok, nmX0⟩
  · exact ⟨tyX1_ok, nmX1⟩
  · exact ⟨tyX2_ok, nmX2⟩
  · exact ⟨tyX3_ok, nmX3⟩
  · exact ⟨tyX4_ok, nmX4⟩
  · exact ⟨tyX5_ok, nmX5⟩
  · exact ⟨tyX6_ok, nmX6⟩
  · exact ⟨tyX7_ok, nmX7⟩
def flk (q : Nat × Nat × Nat × Nat × Nat) : Bool := decide (q.2.2.1 < 8) && decide (q.2.2.2.1 < nF q.2.2.1) && decide (lw_tbl[q.2.2.2.2]? = some (.fieldLink (oN q.1) q.2.1 (tF q.2.2.1 q.2.2.2.1).1 (tF q.2.2.1 q.2.2.2.1).2.1 (tF q.2.2.1 q.2.2.2.1).2.2.1))
theorem flk_ok : fL.all flk = true := by decide +kernel
theorem fL_at {o i a b : Nat} (h : fL.any (fun q => decide (q.1 = o ∧ q.2.1 = i ∧ q.2.2.1 = a ∧ q.2.2.2.1 = b)) = true) : a < 8 ∧ b < nF a ∧ Cond.fieldLink (oN o) i (tF a b).1 (tF a b).2.1 (tF a b).2.2.1 ∈ gT := by
  obtain ⟨q, hq, h1⟩ := List.any_eq_true.mp h
  obtain ⟨rfl, rfl, rfl, rfl⟩ := of_decide_eq_true h1
  have h2 := List.all_eq_true.mp flk_ok q hq
  unfold flk at h2
  simp only [Bool.and_eq_true, decide_eq_true_eq] at h2
  exact ⟨h2.1.1, h2.1.2, gT_in _ h2.2 rfl⟩
def klk (q : Nat × Nat × Value × Nat) : Bool := match q.2.2.1 with
  | .int x => decide (lw_tbl[q.2.2.2]? = some (.constant (oN q.1) q.2.1 x))
  | .long x => decide (lw_tbl[q.2.2.2]? = some (.constantLong (oN q.1) q.2.1 x))
  | _ => false
theorem klk_ok : kL.all klk = true := by decide +kernel
def nlk (q : Nat × Nat × Nat × Nat) : Bool := decide (q.2.2.1 < 8) && decide (lw_tbl[q.2.2.2]? = some (.classLink (oN q.1) q.2.1 (oN q.2.2.1)))
theorem nlk_ok : nL.all nlk = true := by decide +kernel
theorem nL_at {o i a : Nat} (h : nL.any (fun q => decide (q.1 = o ∧ q.2.1 = i ∧ q.2.2.1 = a)) = true) : a < 8 ∧ Cond.classLink (oN o) i (oN a) ∈ gT := by
  obtain ⟨q, hq, h1⟩ := List.any_eq_true.mp h
  obtain ⟨rfl, rfl, rfl⟩ := of_decide_eq_true h1
  have h2 := List.all_eq_true.mp nlk_ok q hq
  unfold nlk at h2
  simp only [Bool.and_eq_true, decide_eq_true_eq] at h2
  exact ⟨h2.1, gT_in _ h2.2 rfl⟩
