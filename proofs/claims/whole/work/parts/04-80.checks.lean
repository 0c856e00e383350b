/-! WHAT THE TABLES MUST BE, and that they are -/
/-- the words that may stand in a contract -/
def gT : List Cond := lw_tbl.filter goodWord
theorem gT_good : ∀ w ∈ gT, w ∈ lw_tbl ∧ goodWord w = true := fun w h => by
  unfold gT at h
  exact List.mem_filter.mp h
theorem gT_in {w : Cond} (i : Nat) (h : lw_tbl[i]? = some w) (hg : goodWord w = true) : w ∈ gT := List.mem_filter.mpr ⟨List.mem_of_getElem? h, hg⟩
def lnJ : Instr → Nat
  | .bipush _ => 2
  | .sipush _ => 3
  | .ldc _ => 2
  | .ldc_w _ => 3
  | .ldc2_w _ => 3
  | .getstatic _ => 3
  | .iload _ => 2
  | .lload _ => 2
  | .aload _ => 2
  | .istore _ => 2
  | .lstore _ => 2
  | .astore _ => 2
  | .iinc _ _ => 3
  | .ifCond _ _ => 3
  | .if_icmp _ _ => 3
  | .goto _ => 3
  | .getfield _ => 3
  | .putfield _ => 3
  | .new _ => 3
  | .newarray _ => 2
  | .anewarray _ => 3
  | .invokevirtual _ => 3
  | .invokestatic _ => 3
  | .invokespecial _ => 3
  | _ => 1
def npar (i : Nat) : Option Nat := (parseMethodDescriptor (mN i).1.desc).map (fun d => d.parameters.length)
/-- what an entry's own numbers must be, for a class o; ini: in a constructor -/
def okO (o : Nat) (ini : Bool) (pc : Nat) (e : aE) : Bool := match e with
  | (ins, nx, a, b, v) => match ins with
  | .iconst n => decide (v = .int (Int32.ofInt n))
  | .bipush n => decide (v = .int (Int8.ofInt n).toInt32)
  | .sipush n => decide (v = .int (Int16.ofInt n).toInt32)
  | .lconst n => decide (v = .long (Int64.ofNat n))
  | .ldc i => kL.any (fun q => decide (q.1 = o ∧ q.2.1 = i ∧ q.2.2.1 = v ∧ (∃ x ∈ (match v with | .int x => some x | _ => none), v = .int x))) || (o == 3 && (List.range 11).any (fun j => decide (v = .retAddr (10 + j) ∧ (sT.getD j (0, [])).1 = i)))
  | .ldc_w i => kL.any (fun q => decide (q.1 = o ∧ q.2.1 = i ∧ q.2.2.1 = v ∧ (∃ x ∈ (match v with | .int x => some x | _ => none), v = .int x)))
  | .ldc2_w i => kL.any (fun q => decide (q.1 = o ∧ q.2.1 = i ∧ q.2.2.1 = v ∧ (∃ x ∈ (match v with | .long x => some x | _ => none), v = .long x)))
  | .getstatic i => gS.any (fun q => decide (q.1 = o ∧ q.2.1 = i ∧ q.2.2.1 = v))
  | .iload i => decide (a = i)
  | .lload i => decide (a = i)
  | .aload i => decide (a = i)
  | .istore i => decide (a = i)
  | .lstore i => decide (a = i)
  | .astore i => decide (a = i)
  | .iload_n i => decide (a = i.val)
  | .lload_n i => decide (a = i.val)
  | .aload_n i => decide (a = i.val)
  | .istore_n i => decide (a = i.val)
  | .lstore_n i => decide (a = i.val)
  | .astore_n i => decide (a = i.val)
  | .iinc i n => decide (a = i ∧ v = .int (Int32.ofInt n))
  | .ifCond _ f => decide ((pc : Int) + f = a)
  | .if_icmp _ f => decide ((pc : Int) + f = a)
  | .goto f => decide ((pc : Int) + f = a)
  | .tableswitch d l u os => decide (0 ≤ (pc : Int) + d) && os.toList.all (fun f => decide (0 ≤ (pc : Int) + f)) && decide ((os.size : Int) = u - l + 1)
  | .lookupswitch d ps => decide (0 ≤ (pc : Int) + d) && ps.toList.all (fun f => decide (0 ≤ (pc : Int) + f.2)) && (ps.toList.zip (ps.toList.drop 1)).all (fun (a, next) => a.1 < next.1)
  | .getfield i => fL.any (fun q => decide (q.1 = o ∧ q.2.1 = i ∧ q.2.2.1 = a ∧ q.2.2.2.1 = b)) || (sL.any (fun q => decide (q.1 = o ∧ q.2.1 = i ∧ q.2.2.1 = b)) && decide (a = 100))
  | .putfield i => fL.any (fun q => decide (q.1 = o ∧ q.2.1 = i ∧ q.2.2.1 = a ∧ q.2.2.2.1 = b)) && (!(tF a b).2.2.2 || (ini && decide ((tF a b).1 = oN o))) && (match tY a b, v with | .int, .int x => decide (x = 0) | .boolean, .int x => decide (x = 1) | .object _, .null => true | .array _, .null => true | _, _ => false)
  | .new i => nL.any (fun q => decide (q.1 = o ∧ q.2.1 = i ∧ q.2.2.1 = a))
  | .anewarray i => nL.any (fun q => decide (q.1 = o ∧ q.2.1 = i ∧ q.2.2.1 = a + 1)) && decide (a < 2)
  | .invokevirtual i => mL.any (fun q => decide (q.1 = o ∧ q.2.1 = i ∧ q.2.2.1 = a ∧ q.2.2.2.1 = 0)) && decide (0 < b) && decide (npar a = some (b - 1)) && (match mT a with | some my => decide (v = .retAddr my.2.2.2.1) | none => false)
  | .invokestatic i => decide (a = 999) || (decide (a = 901) && m1.any (fun q => decide (q.1 = o ∧ q.2.1 = i))) || mm.any (fun q => decide (q.1 = o ∧ q.2.1 = i ∧ q.2.2.1 = a)) || (decide (a < 900) && decide (npar a = some b) && mL.any (fun q => decide (q.1 = o ∧ q.2.1 = i ∧ q.2.2.1 = a ∧ (q.2.2.2.1 = 1 ∨ q.2.2.2.1 = 3))))
  | .invokespecial i => (decide (a = 900) && m9.any (fun q => decide (q.1 = o ∧ q.2.1 = i))) || (decide (a < 900) && decide (0 < b) && decide (npar a = some (b - 1)) && mL.any (fun q => decide (q.1 = o ∧ q.2.1 = i ∧ q.2.2.1 = a ∧ (q.2.2.2.1 = 2 ∨ q.2.2.2.1 = 4))))
  | _ => true
/-- the bytes of a method, and an entry of ours -/
def okD (cc : ByteArray) (pc : Nat) (e : aE) : Bool := match e with
  | (ins, nx, _, _, _) => match ins with
    | .tableswitch _ _ _ _ => decide (decode cc pc = .ok (ins, nx - pc))
    | .lookupswitch _ _ => decide (decode cc pc = .ok (ins, nx - pc))
    | _ => decide (nx = pc + lnJ ins) && decide (decode cc pc = .ok (ins, lnJ ins))
def okE (cc : ByteArray) (o : Nat) (ini : Bool) (pc : Nat) (e : aE) : Bool := okD cc pc e && okO o ini pc e
/-- all entries of a list, the first of which stands at pc -/
def okL (cc : ByteArray) (o : Nat) (ini : Bool) : Nat → List (Option aE) → Bool
  | _, [] => true
  | pc, some e :: l => okE cc o ini pc e && okL cc o ini (pc + 1) l
  | pc, none :: l => okL cc o ini (pc + 1) l
def okC (cc : ByteArray) (o : Nat) (ini : Bool) : Nat → List (List (Option aE)) → Bool
  | _, [] => true
  | pc, c :: l => okL cc o ini pc c && (decide (c.length ≤ 16) && okC cc o ini (pc + 16) l)
theorem okL_at {cc : ByteArray} {o : Nat} {ini : Bool} : ∀ {l : List (Option aE)} {pc k : Nat} {e : aE}, okL cc o ini pc l = true → l[k]? = some (some e) → okE cc o ini (pc + k) e = true
  | [], _, _, _, _, hk => by simp at hk
  | some x :: l, pc, 0, e, h, hk => by
    simp only [okL, Bool.and_eq_true] at h
    simp at hk
    subst hk
    exact h.1
  | none :: l, pc, 0, e, h, hk => by simp at hk
  | some x :: l, pc, k + 1, e, h, hk => by
    simp only [okL, Bool.and_eq_true] at h
    have := okL_at (pc := pc + 1) (k := k) h.2 (by simpa using hk)
    rwa [show pc + (k + 1) = pc + 1 + k by omega]
  | none :: l, pc, k + 1, e, h, hk => by
    simp only [okL] at h
    have := okL_at (pc := pc + 1) (k := k) h (by simpa using hk)
    rwa [show pc + (k + 1) = pc + 1 + k by omega]
theorem okC_at {cc : ByteArray} {o : Nat} {ini : Bool} : ∀ {l : List (List (Option aE))} {pc k : Nat} {c : List (Option aE)}, okC cc o ini pc l = true → l[k]? = some c → okL cc o ini (pc + 16 * k) c = true
  | [], _, _, _, _, hk => by simp at hk
  | x :: l, pc, 0, c, h, hk => by
    simp only [okC, Bool.and_eq_true] at h
    simp at hk
    subst hk
    exact h.1
  | x :: l, pc, k + 1, c, h, hk => by
    simp only [okC, Bool.and_eq_true] at h
    have := okC_at (pc := pc + 16) (k := k) h.2.2 (by simpa using hk)
    rwa [show pc + 16 * (k + 1) = pc + 16 + 16 * k by omega]
theorem ent_ok {cc : ByteArray} {ini : Bool} {mi : aM} (h : okC cc mi.2.2.2.1 ini 0 mi.1 = true) {pc : Nat} {e : aE} (he : ent mi pc = some e) : okE cc mi.2.2.2.1 ini pc e = true := by
  unfold ent at he
  cases h1 : mi.1[pc / 16]? with
  | none => rw [h1] at he; simp at he
  | some c =>
    rw [h1] at he
    simp only at he
    cases h2 : c[pc % 16]? with
    | none => rw [h2] at he; simp at he
    | some x =>
      rw [h2] at he
      simp only at he
      subst he
      have := okL_at (okC_at h h1) h2
      rwa [show 0 + 16 * (pc / 16) + pc % 16 = pc by omega] at this
/-- what a method's own words must be -/
def okW (i : Nat) : Bool := match mT i with
  | none => true
  | some my => decide (my.2.2.2.2 = i) && decide (lw_tbl[(mP i).2.2.2]? = some (.initialized (mN i).1.cls)) && decide ((mN i).1.cls = oN my.2.2.2.1) && plainName (mN i).1.cls && decide ((mN i).1.cls ≠ "java/lang/invoke/MethodHandle" ∧ (mN i).1.cls ≠ "java/lang/invoke/VarHandle") && decide (my.2.1 ≤ 40) && decide (ini i = true → (mN i).1.name = "<init>")
