/-! THE SMALL MACHINE: cells by number, methods by number; what lies outside (the script, the texts, UNDER) is .retAddr k; an unset local is .double 0 -/
abbrev aX : Type := Nat × (Nat → Int32)
/-- a step's end: it goes on (place, locals, stack, cells); it calls (method, arguments, place behind, stack behind); it answers -/
abbrev aR : Type := (Nat × List Value × List Value × aH) ⊕ (Nat × List Value × Nat × List Value) ⊕ Option Value
def xI (X : aX) : Nat → Option aX
  | 0 => some (6, fun j => ([-1, 0, 0, 0, 1, 2] : List Int32).getD j 0)
  | 2 => some X
  | _ => none
def xB (k : Nat) : Option aX := if k < 30 then none else (sT[k - 30]?).map (fun q => (q.2.length, fun j => q.2.getD j 0))
/-- no long's second half lies at a -/
def noL (lo : List Value) (a : Nat) : Bool := match a with
  | 0 => true
  | a + 1 => match lo[a]? with
    | some (.long _) => false
    | _ => true
/-- what may be put into a field: k .int 0: an int, .int 1: a boolean, .null: a reference -/
def fok (k v : Value) : Bool := match k, v with
  | .null, .ref _ => true
  | .null, .null => true
  | .int x, .int y => x == 0 || (y == 0 || y == 1)
  | _, _ => false
def cpy (h : aH) (x0 : Nat) (sp : Int32) (x1 : Nat) (dp n : Int32) : Option aH :=
  if sp < 0 ∨ dp < 0 ∨ n < 0 then none else
  match h[x0]?, h[x1]? with
  | some (.inr (.inl (n0, f))), some (.inr (.inl (n1, g))) => if sp.toNatClampNeg + n.toNatClampNeg ≤ n0 ∧ dp.toNatClampNeg + n.toNatClampNeg ≤ n1 then some (h.set x1 (.inr (.inl (n1, va_cpy f g sp.toNatClampNeg dp.toNatClampNeg n.toNatClampNeg)))) else none
  | some (.inr (.inr (.inl (n0, f)))), some (.inr (.inr (.inl (n1, g)))) => if sp.toNatClampNeg + n.toNatClampNeg ≤ n0 ∧ dp.toNatClampNeg + n.toNatClampNeg ≤ n1 then some (h.set x1 (.inr (.inr (.inl (n1, va_cpy f g sp.toNatClampNeg dp.toNatClampNeg n.toNatClampNeg))))) else none
  | _, _ => none
def tsw (pc : Nat) (d lo hi : Int) (os : Array Int) (x : Int32) : Nat := ((pc : Int) + (if x.toInt < lo ∨ hi < x.toInt then d else os.getD (x.toInt - lo).toNat 0)).toNat
def lsw (pc : Nat) (d : Int) (ps : Array (Int × Int)) (x : Int32) : Nat := ((pc : Int) + Op.lookupswitch.offset ps.toList d x.toInt).toNat
def stp (X : aX) (pc : Nat) (e : aE) (lo st : List Value) (h : aH) : Option aR :=
  match e with
  | (ins, nx, a, b, v) =>
  match ins with
  | .iconst _ => some (.inl (nx, lo, v :: st, h))
  | .bipush _ => some (.inl (nx, lo, v :: st, h))
  | .sipush _ => some (.inl (nx, lo, v :: st, h))
  | .lconst _ => some (.inl (nx, lo, v :: st, h))
  | .ldc _ => some (.inl (nx, lo, v :: st, h))
  | .ldc_w _ => some (.inl (nx, lo, v :: st, h))
  | .ldc2_w _ => some (.inl (nx, lo, v :: st, h))
  | .getstatic _ => some (.inl (nx, lo, v :: st, h))
  | .iload _ => match lo[a]? with | some (.int x) => some (.inl (nx, lo, .int x :: st, h)) | _ => none
  | .iload_n _ => match lo[a]? with | some (.int x) => some (.inl (nx, lo, .int x :: st, h)) | _ => none
  | .lload _ => match lo[a]? with | some (.long x) => some (.inl (nx, lo, .long x :: st, h)) | _ => none
  | .lload_n _ => match lo[a]? with | some (.long x) => some (.inl (nx, lo, .long x :: st, h)) | _ => none
  | .aload _ => match lo[a]? with | some (.ref x) => some (.inl (nx, lo, .ref x :: st, h)) | some (.retAddr x) => some (.inl (nx, lo, .retAddr x :: st, h)) | _ => none
  | .aload_n _ => match lo[a]? with | some (.ref x) => some (.inl (nx, lo, .ref x :: st, h)) | some (.retAddr x) => some (.inl (nx, lo, .retAddr x :: st, h)) | _ => none
  | .istore _ => match st with | .int x :: r => if a < lo.length ∧ noL lo a = true then some (.inl (nx, lo.set a (.int x), r, h)) else none | _ => none
  | .istore_n _ => match st with | .int x :: r => if a < lo.length ∧ noL lo a = true then some (.inl (nx, lo.set a (.int x), r, h)) else none | _ => none
  | .lstore _ => match st with | .long x :: r => if a + 1 < lo.length ∧ noL lo a = true then some (.inl (nx, (lo.set a (.long x)).set (a + 1) (.double 0), r, h)) else none | _ => none
  | .lstore_n _ => match st with | .long x :: r => if a + 1 < lo.length ∧ noL lo a = true then some (.inl (nx, (lo.set a (.long x)).set (a + 1) (.double 0), r, h)) else none | _ => none
  | .astore _ => match st with | .ref x :: r => if a < lo.length ∧ noL lo a = true then some (.inl (nx, lo.set a (.ref x), r, h)) else none | _ => none
  | .astore_n _ => match st with | .ref x :: r => if a < lo.length ∧ noL lo a = true then some (.inl (nx, lo.set a (.ref x), r, h)) else none | _ => none
  | .iinc _ _ => match lo[a]?, v with | some (.int x), .int c => if noL lo a = true then some (.inl (nx, lo.set a (.int (x + c)), st, h)) else none | _, _ => none
  | .iadd => match st with | .int y :: .int x :: r => some (.inl (nx, lo, .int (x + y) :: r, h)) | _ => none
  | .isub => match st with | .int y :: .int x :: r => some (.inl (nx, lo, .int (x - y) :: r, h)) | _ => none
  | .imul => match st with | .int y :: .int x :: r => some (.inl (nx, lo, .int (x * y) :: r, h)) | _ => none
  | .iand => match st with | .int y :: .int x :: r => some (.inl (nx, lo, .int (x &&& y) :: r, h)) | _ => none
  | .ior => match st with | .int y :: .int x :: r => some (.inl (nx, lo, .int (x ||| y) :: r, h)) | _ => none
  | .ixor => match st with | .int y :: .int x :: r => some (.inl (nx, lo, .int (x ^^^ y) :: r, h)) | _ => none
  | .idiv => match st with | .int y :: .int x :: r => if y = 0 then none else some (.inl (nx, lo, .int (x / y) :: r, h)) | _ => none
  | .irem => match st with | .int y :: .int x :: r => if y = 0 then none else some (.inl (nx, lo, .int (x - x / y * y) :: r, h)) | _ => none
  | .ineg => match st with | .int x :: r => some (.inl (nx, lo, .int (-x) :: r, h)) | _ => none
  | .ishl => match st with | .int y :: .int x :: r => some (.inl (nx, lo, .int (x <<< (y &&& 31)) :: r, h)) | _ => none
  | .ishr => match st with | .int y :: .int x :: r => some (.inl (nx, lo, .int (x >>> (y &&& 31)) :: r, h)) | _ => none
  | .iushr => match st with | .int y :: .int x :: r => some (.inl (nx, lo, .int ((x.toUInt32 >>> (y.toUInt32 &&& Int32.toUInt32 31)).toInt32) :: r, h)) | _ => none
  | .ladd => match st with | .long y :: .long x :: r => some (.inl (nx, lo, .long (x + y) :: r, h)) | _ => none
  | .lsub => match st with | .long y :: .long x :: r => some (.inl (nx, lo, .long (x - y) :: r, h)) | _ => none
  | .land => match st with | .long y :: .long x :: r => some (.inl (nx, lo, .long (x &&& y) :: r, h)) | _ => none
  | .lor => match st with | .long y :: .long x :: r => some (.inl (nx, lo, .long (x ||| y) :: r, h)) | _ => none
  | .lrem => match st with | .long y :: .long x :: r => if y = 0 then none else some (.inl (nx, lo, .long (x - x / y * y) :: r, h)) | _ => none
  | .lshl => match st with | .int y :: .long x :: r => some (.inl (nx, lo, .long (x <<< (y.toInt64 &&& 63)) :: r, h)) | _ => none
  | .lushr => match st with | .int y :: .long x :: r => some (.inl (nx, lo, .long ((x.toUInt64 >>> (y.toInt64.toUInt64 &&& Int64.toUInt64 63)).toInt64) :: r, h)) | _ => none
  | .lcmp => match st with | .long y :: .long x :: r => some (.inl (nx, lo, .int (lg_cmp x y) :: r, h)) | _ => none
  | .i2l => match st with | .int x :: r => some (.inl (nx, lo, .long x.toInt64 :: r, h)) | _ => none
  | .l2i => match st with | .long x :: r => some (.inl (nx, lo, .int x.toInt32 :: r, h)) | _ => none
  | .i2b => match st with | .int x :: r => some (.inl (nx, lo, .int x.toInt8.toInt32 :: r, h)) | _ => none
  | .i2s => match st with | .int x :: r => some (.inl (nx, lo, .int x.toInt16.toInt32 :: r, h)) | _ => none
  | .i2c => match st with | .int x :: r => some (.inl (nx, lo, .int ((x.toUInt32 % 65536).toInt32) :: r, h)) | _ => none
  | .dup => match st with | .int x :: r => some (.inl (nx, lo, .int x :: .int x :: r, h)) | .ref x :: r => some (.inl (nx, lo, .ref x :: .ref x :: r, h)) | _ => none
  | .dup2 => match st with | .int x :: .ref y :: r => some (.inl (nx, lo, .int x :: .ref y :: .int x :: .ref y :: r, h)) | _ => none
  | .pop => match st with | .int _ :: r => some (.inl (nx, lo, r, h)) | _ => none
  | .goto _ => some (.inl (a, lo, st, h))
  | .ifCond .eq _ => match st with | .int x :: r => some (.inl (if x = 0 then a else nx, lo, r, h)) | _ => none
  | .ifCond .ne _ => match st with | .int x :: r => some (.inl (if x = 0 then nx else a, lo, r, h)) | _ => none
  | .ifCond .lt _ => match st with | .int x :: r => some (.inl (if x < 0 then a else nx, lo, r, h)) | _ => none
  | .ifCond .ge _ => match st with | .int x :: r => some (.inl (if 0 ≤ x then a else nx, lo, r, h)) | _ => none
  | .ifCond .gt _ => match st with | .int x :: r => some (.inl (if 0 < x then a else nx, lo, r, h)) | _ => none
  | .ifCond .le _ => match st with | .int x :: r => some (.inl (if x ≤ 0 then a else nx, lo, r, h)) | _ => none
  | .if_icmp .eq _ => match st with | .int y :: .int x :: r => some (.inl (if x = y then a else nx, lo, r, h)) | _ => none
  | .if_icmp .ne _ => match st with | .int y :: .int x :: r => some (.inl (if x = y then nx else a, lo, r, h)) | _ => none
  | .if_icmp .lt _ => match st with | .int y :: .int x :: r => some (.inl (if x < y then a else nx, lo, r, h)) | _ => none
  | .if_icmp .ge _ => match st with | .int y :: .int x :: r => some (.inl (if y ≤ x then a else nx, lo, r, h)) | _ => none
  | .if_icmp .gt _ => match st with | .int y :: .int x :: r => some (.inl (if y < x then a else nx, lo, r, h)) | _ => none
  | .if_icmp .le _ => match st with | .int y :: .int x :: r => some (.inl (if x ≤ y then a else nx, lo, r, h)) | _ => none
  | .tableswitch d l u os => match st with | .int x :: r => some (.inl (tsw pc d l u os x, lo, r, h)) | _ => none
  | .lookupswitch d ps => match st with | .int x :: r => some (.inl (lsw pc d ps x, lo, r, h)) | _ => none
  | .getfield _ => match st with
    | .ref x :: r => match h[x]? with
      | some (.inl (ci, fs)) => if ci = a then (match fs[b]? with | some w => some (.inl (nx, lo, w :: r, h)) | none => none) else none
      | _ => none
    | .retAddr k :: r => if a = 100 ∧ 10 ≤ k ∧ k < 10 + sT.length then (if b = 0 then some (.inl (nx, lo, .retAddr (k + 20) :: r, h)) else some (.inl (nx, lo, .int 0 :: r, h))) else none
    | _ => none
  | .putfield _ => match st with
    | w :: .ref x :: r => match h[x]? with
      | some (.inl (ci, fs)) => if ci = a ∧ b < fs.length ∧ fok v w = true then some (.inl (nx, lo, r, h.set x (.inl (ci, fs.set b w)))) else none
      | _ => none
    | _ => none
  | .iaload => match st with
    | .int i :: .ref x :: r => match h[x]? with
      | some (.inr (.inl (n, f))) => if i < 0 ∨ n ≤ i.toNatClampNeg then none else some (.inl (nx, lo, .int (f i.toNatClampNeg) :: r, h))
      | _ => none
    | .int i :: .retAddr k :: r => match xI X k with
      | some (n, f) => if i < 0 ∨ n ≤ i.toNatClampNeg then none else some (.inl (nx, lo, .int (f i.toNatClampNeg) :: r, h))
      | none => none
    | _ => none
  | .baload => match st with
    | .int i :: .retAddr k :: r => match xB k with
      | some (n, f) => if i < 0 ∨ n ≤ i.toNatClampNeg then none else some (.inl (nx, lo, .int (f i.toNatClampNeg) :: r, h))
      | none => none
    | _ => none
  | .laload => match st with
    | .int i :: .ref x :: r => match h[x]? with
      | some (.inr (.inr (.inl (n, f)))) => if i < 0 ∨ n ≤ i.toNatClampNeg then none else some (.inl (nx, lo, .long (f i.toNatClampNeg) :: r, h))
      | _ => none
    | _ => none
  | .aaload => match st with
    | .int i :: .ref x :: r => match h[x]? with
      | some (.inr (.inr (.inr (t, n, f)))) => if 2 ≤ t ∨ i < 0 ∨ n ≤ i.toNatClampNeg then none else (match f i.toNatClampNeg with | some y => some (.inl (nx, lo, .ref y :: r, h)) | none => none)
      | _ => none
    | _ => none
  | .iastore => match st with
    | .int w :: .int i :: .ref x :: r => match h[x]? with
      | some (.inr (.inl (n, f))) => if i < 0 ∨ n ≤ i.toNatClampNeg then none else some (.inl (nx, lo, r, h.set x (.inr (.inl (n, upd f i.toNatClampNeg w)))))
      | _ => none
    | _ => none
  | .lastore => match st with
    | .long w :: .int i :: .ref x :: r => match h[x]? with
      | some (.inr (.inr (.inl (n, f)))) => if i < 0 ∨ n ≤ i.toNatClampNeg then none else some (.inl (nx, lo, r, h.set x (.inr (.inr (.inl (n, vp_updL f i.toNatClampNeg w))))))
      | _ => none
    | _ => none
  | .aastore => match st with
    | .ref y :: .int i :: .ref x :: r => match h[x]?, h[y]? with
      | some (.inr (.inr (.inr (t, n, f)))), some (.inl (ci, _)) => if 2 ≤ t ∨ i < 0 ∨ n ≤ i.toNatClampNeg then none else if ci = t + 1 then some (.inl (nx, lo, r, h.set x (.inr (.inr (.inr (t, n, va_up f i.toNatClampNeg (some y))))))) else none
      | _, _ => none
    | _ => none
  | .arraylength => match st with
    | .ref x :: r => match h[x]? with
      | some (.inr (.inl (n, _))) => some (.inl (nx, lo, .int (nI n) :: r, h))
      | some (.inr (.inr (.inl (n, _)))) => some (.inl (nx, lo, .int (nI n) :: r, h))
      | _ => none
    | .retAddr k :: r => match xI X k, xB k with
      | some (n, _), _ => some (.inl (nx, lo, .int (nI n) :: r, h))
      | none, some (n, _) => some (.inl (nx, lo, .int (nI n) :: r, h))
      | none, none => none
    | _ => none
  | .new _ => some (.inl (nx, lo, .ref h.length :: st, h ++ [.inl (a, dF a)]))
  | .newarray .int => match st with | .int n :: r => if n < 0 ∨ 100000 < n.toNatClampNeg then none else some (.inl (nx, lo, .ref h.length :: r, h ++ [.inr (.inl (n.toNatClampNeg, fun _ => 0))])) | _ => none
  | .newarray .long => match st with | .int n :: r => if n < 0 ∨ 100000 < n.toNatClampNeg then none else some (.inl (nx, lo, .ref h.length :: r, h ++ [.inr (.inr (.inl (n.toNatClampNeg, fun _ => 0)))])) | _ => none
  | .anewarray _ => match st with | .int n :: r => if n < 0 ∨ 100000 < n.toNatClampNeg then none else some (.inl (nx, lo, .ref h.length :: r, h ++ [.inr (.inr (.inr (a, n.toNatClampNeg, fun _ => none)))])) | _ => none
  | .invokevirtual _ => match st[b - 1]? with
    | some (.ref x) => match h[x]? with
      | some (.inl (ci, _)) => if v = .retAddr ci ∧ ((st.drop b).map Value.category).sum ≤ 8 then some (.inr (.inl (a, (st.take b).reverse, nx, st.drop b))) else none
      | _ => none
    | some (.retAddr k) => if v = .retAddr 12 ∧ 10 ≤ k ∧ k < 10 + sT.length ∧ ((st.drop b).map Value.category).sum ≤ 8 then some (.inr (.inl (a, (st.take b).reverse, nx, st.drop b))) else none
    | _ => none
  | .invokestatic _ => if a = 901 then (match st with
      | .int n :: .int dp :: .ref x1 :: .int sp :: .ref x0 :: r => if (r.map Value.category).sum ≤ 8 then (match cpy h x0 sp x1 dp n with | some h' => some (.inl (nx, lo, r, h')) | none => none) else none
      | _ => none)
    else if a = 902 then (match st with
      | .int x :: r => if (r.map Value.category).sum ≤ 8 then some (.inl (nx, lo, .int (if 0 ≤ x then x else 0 - x) :: r, h)) else none
      | _ => none)
    else if a = 903 then (match st with
      | .int y :: .int x :: r => if (r.map Value.category).sum ≤ 8 then some (.inl (nx, lo, .int (if x < y then y else x) :: r, h)) else none
      | _ => none)
    else if a = 904 then (match st with
      | .int y :: .int x :: r => if (r.map Value.category).sum ≤ 8 then some (.inl (nx, lo, .int (if y < x then y else x) :: r, h)) else none
      | _ => none)
    else if b ≤ st.length ∧ ((st.drop b).map Value.category).sum ≤ 8 then some (.inr (.inl (a, (st.take b).reverse, nx, st.drop b))) else none
  | .invokespecial _ => if a = 900 then (match st with
      | .ref _ :: r => if (r.map Value.category).sum ≤ 8 then some (.inl (nx, lo, r, h)) else none
      | _ => none)
    else (match st[b - 1]? with
      | some (.ref _) => if ((st.drop b).map Value.category).sum ≤ 8 then some (.inr (.inl (a, (st.take b).reverse, nx, st.drop b))) else none
      | _ => none)
  | .ireturn => match st with | [.int x] => some (.inr (.inr (some (.int x)))) | _ => none
  | .lreturn => match st with | [.long x] => some (.inr (.inr (some (.long x)))) | _ => none
  | .areturn => match st with | [.ref x] => some (.inr (.inr (some (.ref x)))) | [.retAddr x] => some (.inr (.inr (some (.retAddr x)))) | _ => none
  | .return_ => match st with | [] => some (.inr (.inr none)) | _ => none
  | _ => none
def ent (mi : aM) (pc : Nat) : Option aE := match mi.1[pc / 16]? with
  | some l => match l[pc % 16]? with
    | some e => e
    | none => none
  | none => none
def sA (X : aX) (mi : aM) (pc : Nat) (lo st : List Value) (h : aH) : Option aR := match ent mi pc with
  | some e => stp X pc e lo st h
  | none => none
def rok (r : Option FieldType) (v : Option Value) : Bool := match r, v with
  | none, none => true
  | some .int, some (.int _) => true
  | some .boolean, some (.int x) => x == 0 || x == 1
  | some .char, some (.int x) => narrow .char (.int x) == .int x
  | some .byte, some (.int x) => narrow .byte (.int x) == .int x
  | some .long, some (.long _) => true
  | some (.object _), some (.ref _) => true
  | some (.object _), some (.retAddr _) => true
  | _, _ => false
/-- a method's locals at its entry -/
def elo : List Value → List Value
  | [] => []
  | .long x :: l => .long x :: .double 0 :: elo l
  | .double x :: l => .double x :: .double 0 :: elo l
  | v :: l => v :: elo l
def eL (mi : aM) (as : List Value) : List Value := elo as ++ List.replicate (mi.2.1 - (elo as).length) (.double 0)
def run (X : aX) : Nat → Nat → aM → Nat → List Value → List Value → aH → Option (Option Value × aH)
  | 0, _, _, _, _, _, _ => none
  | n + 1, d, mi, pc, lo, st, h => match sA X mi pc lo st h with
    | some (.inl (pc', lo', st', h')) => run X n d mi pc' lo' st' h'
    | some (.inr (.inl (y, as, nx, st'))) => match d, mT y with
      | d' + 1, some my => if (elo as).length ≤ my.2.1 then (match run X n d' my 0 (eL my as) [] h with
          | some (v, h1) => run X n (d' + 1) mi nx lo (v.toList ++ st') h1
          | none => none) else none
      | _, _ => none
    | some (.inr (.inr v)) => if rok mi.2.2.1 v = true then some (v, h) else none
    | none => none
theorem run_up (X : aX) : ∀ (n d : Nat) (mi : aM) (pc : Nat) (lo st : List Value) (h : aH) (r : Option Value × aH), run X n d mi pc lo st h = some r → ∀ (n' d' : Nat), n ≤ n' → d ≤ d' → run X n' d' mi pc lo st h = some r
  | 0, _, _, _, _, _, _, _, hr, _, _, _, _ => by simp [run] at hr
  | n + 1, d, mi, pc, lo, st, h, r, hr, n', d', hn, hd => by
    obtain ⟨k, rfl⟩ : ∃ k, n' = k + 1 := ⟨n' - 1, by omega⟩
    have hk : n ≤ k := by omega
    unfold run at hr ⊢
    cases hs : sA X mi pc lo st h with
    | none => rw [hs] at hr; simp at hr
    | some q =>
      rw [hs] at hr
      rcases q with ⟨pc', lo', st', h'⟩ | ⟨y, as, nx, st'⟩ | v
      · exact run_up X n d mi pc' lo' st' h' r hr k d' hk hd
      · dsimp only at hr ⊢
        cases d with
        | zero => simp at hr
        | succ d =>
          obtain ⟨j, rfl⟩ : ∃ j, d' = j + 1 := ⟨d' - 1, by omega⟩
          cases hy : mT y with
          | none => rw [hy] at hr; simp at hr
          | some my =>
            rw [hy] at hr
            dsimp only at hr ⊢
            by_cases hl : (elo as).length ≤ my.2.1
            · rw [if_pos hl] at hr ⊢
              cases hc : run X n d my 0 (eL my as) [] h with
              | none => rw [hc] at hr; simp at hr
              | some q =>
                obtain ⟨v, h1⟩ := q
                rw [hc] at hr
                rw [run_up X n d my 0 (eL my as) [] h (v, h1) hc k j hk (by omega)]
                exact run_up X n (d + 1) mi nx lo (v.toList ++ st') h1 r hr k (j + 1) hk hd
            · rw [if_neg hl] at hr; simp at hr
      · exact hr
/-- from here the method comes to an end with Q, with at most d calls open above it -/
def G (X : aX) (d : Nat) (mi : aM) (pc : Nat) (lo st : List Value) (h : aH) (Q : Option Value → aH → Prop) : Prop := ∃ (n : Nat) (v : Option Value) (h' : aH), run X n d mi pc lo st h = some (v, h') ∧ Q v h'
/-- a call of a method -/
def Sp (X : aX) (d : Nat) (mi : aM) (as : List Value) (h : aH) (Q : Option Value → aH → Prop) : Prop := G X d mi 0 (eL mi as) [] h Q
section GL
variable {X : aX} {d : Nat} {mi : aM} {pc : Nat} {lo st : List Value} {h : aH} {Q : Option Value → aH → Prop}
theorem G.up {d' : Nat} (k : G X d mi pc lo st h Q) (hd : d ≤ d') : G X d' mi pc lo st h Q := by
  obtain ⟨n, v, h', hr, hq⟩ := k
  exact ⟨n, v, h', run_up X n d mi pc lo st h (v, h') hr n d' (Nat.le_refl n) hd, hq⟩
theorem Sp.up {as : List Value} {d' : Nat} (k : Sp X d mi as h Q) (hd : d ≤ d') : Sp X d' mi as h Q := G.up k hd
theorem G.imp {Q' : Option Value → aH → Prop} (k : G X d mi pc lo st h Q) (hq : ∀ v h', Q v h' → Q' v h') : G X d mi pc lo st h Q' := by
  obtain ⟨n, v, h', hr, hv⟩ := k
  exact ⟨n, v, h', hr, hq v h' hv⟩
theorem Sp.imp {as : List Value} {Q' : Option Value → aH → Prop} (k : Sp X d mi as h Q) (hq : ∀ v h', Q v h' → Q' v h') : Sp X d mi as h Q' := G.imp k hq
/-- steps without a choice -/
theorem G.go {pc' : Nat} {lo' st' : List Value} {h' : aH} (hs : sA X mi pc lo st h = some (.inl (pc', lo', st', h'))) (k : G X d mi pc' lo' st' h' Q) : G X d mi pc lo st h Q := by
  obtain ⟨n, v, h1, hr, hq⟩ := k
  refine ⟨n + 1, v, h1, ?_, hq⟩
  unfold run
  rw [hs]
  exact hr
/-- a choice -/
theorem G.br {c : Prop} {ic : Decidable c} {t f : Nat} {lo' st' : List Value} {h' : aH} (hs : sA X mi pc lo st h = some (.inl (if c then t else f, lo', st', h'))) (kt : c → G X d mi t lo' st' h' Q) (kf : ¬ c → G X d mi f lo' st' h' Q) : G X d mi pc lo st h Q := by
  refine G.go hs ?_
  by_cases hc : c
  · rw [if_pos hc]; exact kt hc
  · rw [if_neg hc]; exact kf hc
theorem G.ret {v : Option Value} (hs : sA X mi pc lo st h = some (.inr (.inr v))) (hr : rok mi.2.2.1 v = true) (hq : Q v h) : G X d mi pc lo st h Q := by
  refine ⟨1, v, h, ?_, hq⟩
  unfold run
  rw [hs]
  exact if_pos hr
theorem G.call {y : Nat} {as : List Value} {nx : Nat} {st' : List Value} {my : aM} {Q' : Option Value → aH → Prop} (hs : sA X mi pc lo st h = some (.inr (.inl (y, as, nx, st')))) (hy : mT y = some my) (hl : (elo as).length ≤ my.2.1) (kc : Sp X d my as h Q') (k : ∀ v h', Q' v h' → G X (d + 1) mi nx lo (v.toList ++ st') h' Q) : G X (d + 1) mi pc lo st h Q := by
  obtain ⟨n1, v, h1, hr1, hq1⟩ := kc
  obtain ⟨n2, v2, h2, hr2, hq2⟩ := k v h1 hq1
  refine ⟨n1 + n2 + 1, v2, h2, ?_, hq2⟩
  unfold run
  rw [hs]
  dsimp only
  rw [hy]
  dsimp only
  rw [if_pos hl, run_up X n1 d my 0 (eL my as) [] h (v, h1) hr1 (n1 + n2) d (by omega) (Nat.le_refl d)]
  exact run_up X n2 (d + 1) mi nx lo _ h1 (v2, h2) hr2 (n1 + n2) (d + 1) (by omega) (Nat.le_refl _)
/-- an index, as a number -/
def ix (i : Int32) (n j : Nat) : Prop := ¬ i < 0 ∧ i.toNatClampNeg = j ∧ j < n
theorem ix_nI {n j : Nat} (h : j < n) (hn : n ≤ 2147483647) : ix (nI j) n j := ⟨nI_pos (by omega), nI_clamp (by omega), h⟩
theorem ix_no {i : Int32} {n j : Nat} (h : ix i n j) : ¬ (i < 0 ∨ n ≤ i.toNatClampNeg) := by
  obtain ⟨h1, h2, h3⟩ := h
  rintro (q | q)
  · exact h1 q
  · omega
theorem G.iald {nx a b : Nat} {v : Value} {i : Int32} {x : Nat} {r : List Value} {n j : Nat} {f : Nat → Int32} (he : ent mi pc = some (.iaload, nx, a, b, v)) (hc : h[x]? = some (.inr (.inl (n, f)))) (hi : ix i n j) (k : G X d mi nx lo (.int (f j) :: r) h Q) : G X d mi pc lo (.int i :: .ref x :: r) h Q := by
  refine G.go ?_ k
  simp only [sA, he, stp, hc]
  rw [if_neg (ix_no hi), hi.2.1]
theorem G.xald {nx a b : Nat} {v : Value} {i : Int32} {x : Nat} {r : List Value} {n j : Nat} {f : Nat → Int32} (he : ent mi pc = some (.iaload, nx, a, b, v)) (hc : xI X x = some (n, f)) (hi : ix i n j) (k : G X d mi nx lo (.int (f j) :: r) h Q) : G X d mi pc lo (.int i :: .retAddr x :: r) h Q := by
  refine G.go ?_ k
  simp only [sA, he, stp, hc]
  rw [if_neg (ix_no hi), hi.2.1]
theorem G.bald {nx a b : Nat} {v : Value} {i : Int32} {x : Nat} {r : List Value} {n j : Nat} {f : Nat → Int32} (he : ent mi pc = some (.baload, nx, a, b, v)) (hc : xB x = some (n, f)) (hi : ix i n j) (k : G X d mi nx lo (.int (f j) :: r) h Q) : G X d mi pc lo (.int i :: .retAddr x :: r) h Q := by
  refine G.go ?_ k
  simp only [sA, he, stp, hc]
  rw [if_neg (ix_no hi), hi.2.1]
theorem G.lald {nx a b : Nat} {v : Value} {i : Int32} {x : Nat} {r : List Value} {n j : Nat} {f : Nat → Int64} (he : ent mi pc = some (.laload, nx, a, b, v)) (hc : h[x]? = some (.inr (.inr (.inl (n, f))))) (hi : ix i n j) (k : G X d mi nx lo (.long (f j) :: r) h Q) : G X d mi pc lo (.int i :: .ref x :: r) h Q := by
  refine G.go ?_ k
  simp only [sA, he, stp, hc]
  rw [if_neg (ix_no hi), hi.2.1]
theorem G.aald {nx a b : Nat} {v : Value} {i : Int32} {x : Nat} {r : List Value} {t n j y : Nat} {f : Nat → Option Nat} (he : ent mi pc = some (.aaload, nx, a, b, v)) (hc : h[x]? = some (.inr (.inr (.inr (t, n, f))))) (ht : t < 2) (hi : ix i n j) (hy : f j = some y) (k : G X d mi nx lo (.ref y :: r) h Q) : G X d mi pc lo (.int i :: .ref x :: r) h Q := by
  refine G.go ?_ k
  simp only [sA, he, stp, hc]
  rw [if_neg (fun q => q.elim (fun q => absurd ht (by omega)) (ix_no hi)), hi.2.1, hy]
theorem G.iast {nx a b : Nat} {v : Value} {i w : Int32} {x : Nat} {r : List Value} {n j : Nat} {f : Nat → Int32} (he : ent mi pc = some (.iastore, nx, a, b, v)) (hc : h[x]? = some (.inr (.inl (n, f)))) (hi : ix i n j) (k : G X d mi nx lo r (h.set x (.inr (.inl (n, upd f j w)))) Q) : G X d mi pc lo (.int w :: .int i :: .ref x :: r) h Q := by
  refine G.go ?_ k
  simp only [sA, he, stp, hc]
  rw [if_neg (ix_no hi), hi.2.1]
theorem G.last {nx a b : Nat} {v : Value} {i : Int32} {w : Int64} {x : Nat} {r : List Value} {n j : Nat} {f : Nat → Int64} (he : ent mi pc = some (.lastore, nx, a, b, v)) (hc : h[x]? = some (.inr (.inr (.inl (n, f))))) (hi : ix i n j) (k : G X d mi nx lo r (h.set x (.inr (.inr (.inl (n, vp_updL f j w))))) Q) : G X d mi pc lo (.long w :: .int i :: .ref x :: r) h Q := by
  refine G.go ?_ k
  simp only [sA, he, stp, hc]
  rw [if_neg (ix_no hi), hi.2.1]
theorem G.get {nx a b i : Nat} {v w : Value} {x : Nat} {r : List Value} {fs : List Value} (he : ent mi pc = some (.getfield i, nx, a, b, v)) (hc : h[x]? = some (.inl (a, fs))) (hw : fs[b]? = some w) (k : G X d mi nx lo (w :: r) h Q) : G X d mi pc lo (.ref x :: r) h Q := by
  refine G.go ?_ k
  simp only [sA, he, stp, hc, hw, if_pos]
theorem G.put {nx a b i : Nat} {v w : Value} {x : Nat} {r : List Value} {fs : List Value} (he : ent mi pc = some (.putfield i, nx, a, b, v)) (hc : h[x]? = some (.inl (a, fs))) (hb : b < fs.length) (hk : fok v w = true) (k : G X d mi nx lo r (h.set x (.inl (a, fs.set b w))) Q) : G X d mi pc lo (w :: .ref x :: r) h Q := by
  refine G.go ?_ k
  simp only [sA, he, stp, hc]
  rw [if_pos ⟨trivial, hb, hk⟩]
end GL
/-- slots of the cells -/
def szc : aC → Nat
  | .inl (ci, _) => nF ci
  | .inr (.inl (n, _)) => n
  | .inr (.inr (.inl (n, _))) => n
  | .inr (.inr (.inr (_, n, _))) => n
def sz (h : aH) : Nat := (h.map szc).sum
