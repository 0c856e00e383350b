section STEP
variable {z : Nat} {D : va_G} {kA : Nat → ClassId} {E : Nat → Value} {X : aX} {p : Program} {l : Launch} {e : Env} {R : Room} {s : State} {m : MethodId} {args : Array Value} {below : List Frame} {meth : Method} {c : Code} {cc : ByteArray} {mi : aM} {ii : Bool} {H : Heap} {locs : List Loc} {cells slots : Nat} {Q : State → Prop} {ls : Array Slot}
/-- a new array of ints or longs, at the heap's end -/
theorem my_newa (hexec : p.tables.exec = Jvm.exec) (hb : c.code = cc) {pc : Nat} {rest : List Value} {ws : va_W} {H0 : Heap} {A : Nat → Prop} {atype : ArrayType} (harr : (Cond.arrayClass (newarray.typeOf atype)).before args s = true) {ty : FieldType} (hty : newarray.typeOf atype = ty) (hP : va_P D vwCl ws H) (hS : va_S A H0 H locs) {cA : ClassId} (hcA : s.vm.findClass ("[" ++ ty.toString) = some cA)
    {n : Int32} {N' : Nat} {a0 : vp_A} (ha : ∀ cA : ClassId, vp_cell cA a0 = arrV cA N' (fun _ => defaultValue ty)) (hn : ¬ n < 0) (hN : n.toNatClampNeg = N') (hbytes : N' * componentBytes ty ≤ 536870912) (hcells : cells + 1 ≤ R.cells) (hslots : slots + N' ≤ R.slots) (hdg : decode cc pc = .ok (.newarray atype, 2))
    (kk : ∀ (H1 : Heap), H1.size = H.size + 1 → va_P D vwCl (ws ++ [(H.size, .inl (cA, a0))]) H1 → va_S A H0 H1 locs → W p l e R s m args below meth c H1 locs (cells + 1) (slots + N') Q (F0 m (pc + 2) ls (.ref H.size :: rest))) : W p l e R s m args below meth c H locs cells slots Q (F0 m pc ls (.int n :: rest)) := by
  subst hty
  refine va_newaK hexec hb harr rfl hdg rfl hn hN hbytes hcells hslots rfl fun H1 cA' e1 z1 o1 hAr hNm => ?_
  have hcc : cA' = cA := Option.some.inj (hNm.symm.trans hcA)
  subst hcc
  have hk : ∀ (k : Nat) (x : Nat × va_E), ws[k]? = some x → H1[x.1]? = H[x.1]? := fun k x hx => o1 x.1 ((hP k x hx).lt)
  refine kk H1 z1 ((hP.kept hk).app (fun k x hx => ?_)) ⟨Nat.le_trans hS.1 (by omega), fun x h1 h2 => (o1 x (Nat.lt_of_lt_of_le h1 hS.1)).trans (hS.2.1 x h1 h2), hS.2.2⟩
  have hz : k < 1 := (List.getElem?_eq_some_iff.mp hx).1
  rw [show k = 0 by omega] at hx
  cases hx
  show H1[H.size]? = some (vp_cell _ _)
  rw [ha]
  exact e1
theorem my_newq (hexec : p.tables.exec = Jvm.exec) (hb : c.code = cc) {pc : Nat} {rest : List Value} {ws : va_W} {H0 : Heap} {A : Nat → Prop} {own C : String} {index : Nat} (hown : s.vm.findClass own = some m.cls) (hclink : (Cond.classLink own index C).before args s = true) (hover : va_AO C s) (hP : va_P D vwCl ws H) (hS : va_S A H0 H locs) {cA : ClassId} (hcA : s.vm.findClass ("[" ++ (FieldType.object C).toString) = some cA)
    {n : Int32} (hn : ¬ n < 0) (hbytes : n.toNatClampNeg * 4 ≤ 536870912) (hcells : cells + 1 ≤ R.cells) (hslots : slots + n.toNatClampNeg ≤ R.slots) (hdg : decode cc pc = .ok (.anewarray index, 3))
    (kk : ∀ (H1 : Heap), H1.size = H.size + 1 → va_P D vwCl (ws ++ [(H.size, .inl (cA, n.toNatClampNeg, .inr (.inr (.inr (.inr (fun _ => none))))))]) H1 → va_S A H0 H1 locs → W p l e R s m args below meth c H1 locs (cells + 1) (slots + n.toNatClampNeg) Q (F0 m (pc + 3) ls (.ref H.size :: rest))) : W p l e R s m args below meth c H locs cells slots Q (F0 m pc ls (.int n :: rest)) := by
  refine W.anew hexec hb hown hclink (va_AO.use hover) rfl hdg rfl hn hbytes hcells hslots fun cA' kA' comp f1 f2 f3 f4 => ?_
  have hcc : cA' = cA := Option.some.inj (f1.symm.trans hcA)
  subst hcc
  generalize hH1 : H.push ({ cls := cA', slots := Array.replicate n.toNatClampNeg .null, vm := .none } : Cell) = H1
  have z1 : H1.size = H.size + 1 := by rw [← hH1, Array.size_push]
  have e1 : H1[H.size]? = some (arrV cA' n.toNatClampNeg (fun _ => .null)) := by rw [← hH1, Array.getElem?_push_size, ← arrV_new]
  have o1 : ∀ q : Nat, q < H.size → H1[q]? = H[q]? := fun q hq => by rw [← hH1, Array.getElem?_push, if_neg (Nat.ne_of_lt hq)]
  have hk : ∀ (k : Nat) (x : Nat × va_E), ws[k]? = some x → H1[x.1]? = H[x.1]? := fun k x hx => o1 x.1 ((hP k x hx).lt)
  refine kk H1 z1 ((hP.kept hk).app (fun k x hx => ?_)) ⟨Nat.le_trans hS.1 (by omega), fun x h1 h2 => (o1 x (Nat.lt_of_lt_of_le h1 hS.1)).trans (hS.2.1 x h1 h2), hS.2.2⟩
  have hz : k < 1 := (List.getElem?_eq_some_iff.mp hx).1
  rw [show k = 0 by omega] at hx
  cases hx
  exact e1
theorem my_new (hexec : p.tables.exec = Jvm.exec) (hb : c.code = cc) {pc : Nat} {rest : List Value} {ws : va_W} {H0 : Heap} {A : Nat → Prop} {own C : String} {T : u_T} {N ci index : Nat} {Ts : List Cond} (hts : ∀ w ∈ Ts, w.before args s = true) (hin : ∀ w ∈ u_ws C T N, w ∈ Ts) (ty : Nat → FieldType) (hty : ∀ k, k < N → parseFieldDescriptor (T k).2.2.1 = some (ty k)) (hown : s.vm.findClass own = some m.cls) (hcl : (Cond.classLink own index C).before args s = true) (hinst : (Cond.instantiable C N).before args s = true) (hini : (Cond.initialized C).before args s = true) {tys : List (ClassId × FieldType)}
    (hK : va_K D vwCl tys s) (hP : va_P D vwCl ws H) (hS : va_S A H0 H locs) (hc : vwCl[ci]? = some (C, T, N)) {fs : List Value} (hfs : ∀ j, j < N → defaultValue (ty j) = vp_V fs j) (hcells : cells + 1 ≤ R.cells) (hslots : slots + N ≤ R.slots) (hdg : decode cc pc = .ok (.new index, 3))
    (kk : ∀ (H1 : Heap), H1.size = H.size + 1 → va_P D vwCl (ws ++ [(H.size, .inr (ci, fs))]) H1 → va_S A H0 H1 locs → W p l e R s m args below meth c H1 locs (cells + 1) (slots + N) Q (F0 m (pc + 3) ls (.ref H.size :: rest))) : W p l e R s m args below meth c H locs cells slots Q (F0 m pc ls rest) := by
  have hKn := hK.1 ci _ hc
  refine W.newcK hexec hb hown hcl hinst hini rfl hdg hcells hslots hKn.2.1 rfl fun H1 kC hkC e1 z1 o1 => ?_
  have hk : ∀ (k : Nat) (x : Nat × va_E), ws[k]? = some x → H1[x.1]? = H[x.1]? := fun k x hx => o1 x.1 ((hP k x hx).lt)
  refine kk H1 z1 ((hP.kept hk).app (fun k x hx => ?_)) ⟨Nat.le_trans hS.1 (by omega), fun x h1 h2 => (o1 x (Nat.lt_of_lt_of_le h1 hS.1)).trans (hS.2.1 x h1 h2), hS.2.2⟩
  have hz : k < 1 := (List.getElem?_eq_some_iff.mp hx).1
  rw [show k = 0 by omega] at hx
  cases hx
  exact ⟨_, hc, (u_born ty hts hin hKn hkC e1 hty).to hfs⟩
/-- what a step's continuation is -/
abbrev KK (z : Nat) (D : va_G) (kA : Nat → ClassId) (E : Nat → Value) (p : Program) (l : Launch) (e : Env) (R : Room) (s : State) (m : MethodId) (args : Array Value) (below : List Frame) (meth : Method) (c : Code) (nL cells slots : Nat) (Q : State → Prop) (h : aH) (pc' : Nat) (lo' st' : List Value) (h' : aH) : Prop :=
  ∀ (ls' : Array Slot) (H' : Heap) (locs' : List Loc), Lo z E nL ls' lo' → Rl z D kA E s H' locs' h' → W p l e R s m args below meth c H' locs' (cells + (h'.length - h.length)) (slots + (sz h' - sz h)) Q (F0 m pc' ls' (st'.map (cv z E)))
variable {pc nx a b : Nat} {v : Value} {lo st : List Value} {h : aH} {pc' : Nat} {lo' st' : List Value} {h' : aH}
theorem KK.same (kk : KK z D kA E p l e R s m args below meth c mi.2.1 cells slots Q h pc' lo' st' h) (hL : Lo z E mi.2.1 ls lo') (hR : Rl z D kA E s H locs h) : W p l e R s m args below meth c H locs cells slots Q (F0 m pc' ls (st'.map (cv z E))) := by
  have := kk ls H locs hL hR
  rwa [Nat.sub_self, Nat.sub_self, Nat.add_zero, Nat.add_zero] at this
theorem KK.sets {x : Nat} {c0 c1 : aC} (kk : KK z D kA E p l e R s m args below meth c mi.2.1 cells slots Q h pc' lo' st' (h.set x c1)) (hx : h[x]? = some c0) (hc : szc c1 = szc c0) (hL : Lo z E mi.2.1 ls lo') {H1 : Heap} {locs1 : List Loc} (hR : Rl z D kA E s H1 locs1 (h.set x c1)) : W p l e R s m args below meth c H1 locs1 cells slots Q (F0 m pc' ls (st'.map (cv z E))) := by
  have := kk ls H1 locs1 hL hR
  rwa [sz_set hx hc, List.length_set, Nat.sub_self, Nat.sub_self, Nat.add_zero, Nat.add_zero] at this
theorem KK.grow {c1 : aC} (kk : KK z D kA E p l e R s m args below meth c mi.2.1 cells slots Q h pc' lo' st' (h ++ [c1])) (hL : Lo z E mi.2.1 ls lo') {H1 : Heap} {locs1 : List Loc} (hR : Rl z D kA E s H1 locs1 (h ++ [c1])) : W p l e R s m args below meth c H1 locs1 (cells + 1) (slots + szc c1) Q (F0 m pc' ls (st'.map (cv z E))) := by
  have := kk ls H1 locs1 hL hR
  rw [sz_app, List.length_append] at this
  rwa [show h.length + [c1].length - h.length = 1 by simp, show sz h + szc c1 - sz h = szc c1 by omega] at this
/-- a cell is set -/
theorem Rl.sets {x : Nat} {c1 : aC} {H1 : Heap} {locs1 : List Loc} (hP : va_P D vwCl ((wl z E kA h).set x (z + x, cC z E kA c1)) H1) (hS : va_S (fun q => z ≤ q) s.heap H1 locs1) : Rl z D kA E s H1 locs1 (h.set x c1) :=
  ⟨by rw [wl_set]; exact hP, hS⟩
theorem Rl.grow {c1 : aC} {H1 : Heap} {locs1 : List Loc} (hz : H.size = z + h.length) (hP : va_P D vwCl (wl z E kA h ++ [(H.size, cC z E kA c1)]) H1) (hS : va_S (fun q => z ≤ q) s.heap H1 locs1) : Rl z D kA E s H1 locs1 (h ++ [c1]) :=
  ⟨by rw [wl_app, ← hz]; exact hP, hS⟩
/-- the heap's size, by the cells that were made -/
theorem W.hsz (hz : z ≤ s.heap.size) (hn : s.heap.size + cells = z + h.length) (hR : Rl z D kA E s H locs h) {g : JFrame} (k : H.size = z + h.length → W p l e R s m args below meth c H locs cells slots Q g) : W p l e R s m args below meth c H locs cells slots Q g := by
  intro T hT X0
  have h1 := X0.heapSize
  rw [hT] at h1
  refine k ?_ T hT X0
  have h2 : z + h.length ≤ H.size := by
    cases hh : h.length with
    | zero => exact Nat.le_trans hz hR.2.1
    | succ n =>
      obtain ⟨c0, hc0⟩ : ∃ c0, h[n]? = some c0 := ⟨_, List.getElem?_eq_getElem (by omega)⟩
      have := (hR.1 n _ (wl_at (z := z) (E := E) (kA := kA) hc0)).lt
      simp only at this
      omega
  omega
end STEP
