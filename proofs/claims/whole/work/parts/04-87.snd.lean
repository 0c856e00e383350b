/-! ===== a run of the small machine is one of the machine ===== -/
theorem cpy_len {h : aH} {x0 : Nat} {sp : Int32} {x1 : Nat} {dp n : Int32} {h' : aH} (hc : cpy h x0 sp x1 dp n = some h') : h.length ≤ h'.length ∧ sz h ≤ sz h' := by
  unfold cpy at hc
  split at hc
  · cases hc
  · split at hc
    · rename_i h0 h1
      split at hc
      · cases hc
        exact ⟨by simp, Nat.le_of_eq (Eq.symm (sz_set h1 rfl))⟩
      · cases hc
    · rename_i h0 h1
      split at hc
      · cases hc
        exact ⟨by simp, Nat.le_of_eq (Eq.symm (sz_set h1 rfl))⟩
      · cases hc
    · cases hc
set_option maxHeartbeats 4000000 in
theorem stp_len {X : aX} {pc : Nat} {e : aE} {lo st : List Value} {h : aH} {pc' : Nat} {lo' st' : List Value} {h' : aH} (hs : stp X pc e lo st h = some (.inl (pc', lo', st', h'))) : h.length ≤ h'.length ∧ sz h ≤ sz h' := by
  obtain ⟨ins, nx, a, b, v⟩ := e
  cases ins
  case ifCond cnd f =>
    cases cnd <;> simp only [stp] at hs <;> split at hs <;> first | (cases hs; done) | (cases hs; exact ⟨Nat.le_refl _, Nat.le_refl _⟩)
  case if_icmp cnd f =>
    cases cnd <;> simp only [stp] at hs <;> split at hs <;> first | (cases hs; done) | (cases hs; exact ⟨Nat.le_refl _, Nat.le_refl _⟩)
  case newarray ty =>
    cases ty
    all_goals try (simp only [stp, reduceCtorEq] at hs; done)
    all_goals
      simp only [stp] at hs
      split at hs
      · split at hs
        · cases hs
        · cases hs
          exact ⟨by simp, by rw [sz_app]; omega⟩
      · cases hs
  case putfield i =>
    simp only [stp] at hs
    split at hs
    · split at hs
      · rename_i heq
        split at hs
        · cases hs
          exact ⟨by simp, Nat.le_of_eq (Eq.symm (sz_set heq rfl))⟩
        · cases hs
      · cases hs
    · cases hs
  case iastore =>
    simp only [stp] at hs
    split at hs
    · split at hs
      · rename_i heq
        split at hs
        · cases hs
        · cases hs
          exact ⟨by simp, Nat.le_of_eq (Eq.symm (sz_set heq rfl))⟩
      · cases hs
    · cases hs
  case lastore =>
    simp only [stp] at hs
    split at hs
    · split at hs
      · rename_i heq
        split at hs
        · cases hs
        · cases hs
          exact ⟨by simp, Nat.le_of_eq (Eq.symm (sz_set heq rfl))⟩
      · cases hs
    · cases hs
  case aastore =>
    simp only [stp] at hs
    split at hs
    · split at hs
      · rename_i heq heqy
        split at hs
        · cases hs
        · split at hs
          · cases hs
            exact ⟨by simp, Nat.le_of_eq (Eq.symm (sz_set heq rfl))⟩
          · cases hs
      · cases hs
    · cases hs
  case invokestatic i =>
    simp only [stp] at hs
    split at hs
    · split at hs
      · split at hs
        · split at hs
          · rename_i hc
            cases hs
            exact cpy_len hc
          · cases hs
        · cases hs
      · cases hs
    · (repeat' (split at hs)) <;> first | (cases hs; done) | (cases hs; exact ⟨Nat.le_refl _, Nat.le_refl _⟩)
  case new i =>
    simp only [stp] at hs
    cases hs
    exact ⟨by simp, by rw [sz_app]; omega⟩
  case anewarray i =>
    simp only [stp] at hs
    split at hs
    · split at hs
      · cases hs
      · cases hs
        exact ⟨by simp, by rw [sz_app]; omega⟩
    · cases hs
  all_goals try (simp only [stp, reduceCtorEq] at hs; done)
  all_goals simp only [stp] at hs
  all_goals repeat' (split at hs)
  all_goals first | (cases hs; done) | (cases hs; exact ⟨Nat.le_refl _, Nat.le_refl _⟩)
theorem sA_stp {X : aX} {mi : aM} {pc : Nat} {lo st : List Value} {h : aH} {r : aR} (hs : sA X mi pc lo st h = some r) : ∃ e, ent mi pc = some e ∧ stp X pc e lo st h = some r := by
  unfold sA at hs
  cases he : ent mi pc with
  | none => rw [he] at hs; cases hs
  | some e => rw [he] at hs; exact ⟨e, rfl, hs⟩
theorem run_len {X : aX} : ∀ (n d : Nat) (mi : aM) (pc : Nat) (lo st : List Value) (h : aH) (v : Option Value) (h' : aH), run X n d mi pc lo st h = some (v, h') → h.length ≤ h'.length ∧ sz h ≤ sz h'
  | 0, _, _, _, _, _, _, _, _, hr => by simp [run] at hr
  | n + 1, d, mi, pc, lo, st, h, v, h', hr => by
    unfold run at hr
    cases hs : sA X mi pc lo st h with
    | none => rw [hs] at hr; simp at hr
    | some q =>
      rw [hs] at hr
      rcases q with ⟨pc', lo', st', h1⟩ | ⟨y, as, nx, st'⟩ | w
      · obtain ⟨e, -, he⟩ := sA_stp hs
        have a1 := stp_len he
        have a2 := run_len n d mi pc' lo' st' h1 v h' hr
        exact ⟨Nat.le_trans a1.1 a2.1, Nat.le_trans a1.2 a2.2⟩
      · dsimp only at hr
        cases d with
        | zero => simp at hr
        | succ d =>
          cases hy : mT y with
          | none => rw [hy] at hr; simp at hr
          | some my =>
            rw [hy] at hr
            dsimp only at hr
            split at hr
            · cases hc : run X n d my 0 (eL my as) [] h with
              | none => rw [hc] at hr; simp at hr
              | some q =>
                obtain ⟨w, h1⟩ := q
                rw [hc] at hr
                have a1 := run_len n d my 0 (eL my as) [] h w h1 hc
                have a2 := run_len n (d + 1) mi nx lo (w.toList ++ st') h1 v h' hr
                exact ⟨Nat.le_trans a1.1 a2.1, Nat.le_trans a1.2 a2.2⟩
            · cases hr
      · dsimp only at hr
        split at hr
        · cases hr
          exact ⟨Nat.le_refl _, Nat.le_refl _⟩
        · cases hr
/-! the entry -/
theorem elo_args {z : Nat} {E : Nat → Value} (hE : ∀ k, E k = .null ∨ ∃ t, E k = .ref t) : ∀ (as : List Value) (k i : Nat) (v : Value), (elo as)[i]? = some v → (∀ b, v ≠ .double b) → (k + i, cv z E v) ∈ lv_args k (as.map (cv z E))
  | [], _, _, _, h, _ => by simp [elo] at h
  | w :: as, k, i, v, h, hd => by
    rw [List.map_cons]
    unfold lv_args
    have two : ∀ (h2 : w.category = 2) (he : elo (w :: as) = w :: .double 0 :: elo as), (k + i, cv z E v) ∈ (k, cv z E w) :: lv_args (if (cv z E w).category = 2 then k + 2 else k + 1) (as.map (cv z E)) := by
      intro h2 he
      rw [he] at h
      rw [cv_cateq hE, if_pos h2]
      match i, h with
      | 0, h => simp at h; subst h; exact List.mem_cons_self
      | 1, h => simp at h; exact absurd h.symm (hd 0)
      | i + 2, h =>
        have := elo_args hE as (k + 2) i v (by simpa using h) hd (z := z)
        rw [show k + (i + 2) = k + 2 + i by omega]
        exact List.mem_cons_of_mem _ this
    have one : ∀ (h1 : ¬ w.category = 2) (he : elo (w :: as) = w :: elo as), (k + i, cv z E v) ∈ (k, cv z E w) :: lv_args (if (cv z E w).category = 2 then k + 2 else k + 1) (as.map (cv z E)) := by
      intro h1 he
      rw [he] at h
      rw [cv_cateq hE, if_neg h1]
      match i, h with
      | 0, h => simp at h; subst h; exact List.mem_cons_self
      | i + 1, h =>
        have := elo_args hE as (k + 1) i v (by simpa using h) hd (z := z)
        rw [show k + (i + 1) = k + 1 + i by omega]
        exact List.mem_cons_of_mem _ this
    cases w with
    | long x => exact two rfl rfl
    | double x => exact two rfl rfl
    | _ => exact one (by simp [Value.category]) rfl
theorem elo_len {z : Nat} {E : Nat → Value} (hE : ∀ k, E k = .null ∨ ∃ t, E k = .ref t) : ∀ (as : List Value), (lg_sl (as.map (cv z E))).length = (elo as).length
  | [] => rfl
  | w :: as => by
    have ih := elo_len hE as (z := z)
    rw [List.map_cons, show lg_sl (cv z E w :: as.map (cv z E)) = (if (cv z E w).category = 2 then [Slot.val (cv z E w), .second] else [.val (cv z E w)]) ++ lg_sl (as.map (cv z E)) from rfl, cv_cateq hE, List.length_append, ih]
    cases w <;> simp [Value.category, elo] <;> omega
theorem Lo.entry {z : Nat} {E : Nat → Value} (hE : ∀ k, E k = .null ∨ ∃ t, E k = .ref t) {mi : aM} {as : List Value} {ls : Array Slot} (hle : (elo as).length ≤ mi.2.1) (h : lv_has ls mi.2.1 (lv_args 0 (as.map (cv z E)))) : Lo z E mi.2.1 ls (eL mi as) := by
  refine ⟨h.1, by simp [eL]; omega, h.2.1, fun i v hi hd => ?_⟩
  unfold eL at hi
  by_cases hl : i < (elo as).length
  · rw [List.getElem?_append_left hl] at hi
    have := elo_args hE as 0 i v hi hd (z := z)
    rw [Nat.zero_add] at this
    exact h.2.2 _ this
  · rw [List.getElem?_append_right (by omega)] at hi
    have := List.mem_of_getElem? hi
    rw [List.mem_replicate] at this
    exact absurd this.2 (hd 0)
/-! calls -/
theorem call_go {p : Program} {l : Launch} {e : Env} {R : Room} {s : State} {m : MethodId} {args : Array Value} {below : List Frame} {meth : Method} {c : Code} {H : Heap} {locs : List Loc} {cells slots mc ms : Nat} {Q : State → Prop} {pc : Nat} {ls : Array Slot} {st0 rest : List Value} {Qa : State → Outcome → State → Prop} {free : Addr → Prop}
    (hr : va_Run p l e R s m args below meth c H locs cells slots mc ms (F0 m pc ls st0) rest Qa free)
    (kk : ∀ (v : Option Value) (st₀ t : State) (H1 : Heap) (L : List Loc), st₀.heap = H → t.heap = H1 → Qa st₀ (.returned v) t → (∀ q ∈ L, free q.base) → W p l e R s m args below meth c H1 (locs ++ L) (cells + mc) (slots + ms) Q (F0 m (pc + 3) ls (v.toList ++ rest))) : W p l e R s m args below meth c H locs cells slots Q (F0 m pc ls st0) := by
  intro T hT X0
  obtain ⟨v, st₀, t, T', L, h0, X', hL, e1, e2, hq, st⟩ := hr T hT X0
  obtain ⟨t2, a1, b1⟩ := kk v st₀ t T'.heap L h0 e1.symm hq hL T' rfl X'
  exact ⟨t2, st t2 a1, b1⟩
/-- a method's start, and its end -/
def PcB (z : Nat) (D : va_G) (kA : Nat → ClassId) (E : Nat → Value) (X : aX) (h : aH) (U : State) : Prop := va_K D vwCl (tyl kA) U ∧ Ex z E X U U.heap ∧ U.heap.size = z + h.length ∧ va_P D vwCl (wl z E kA h) U.heap
def QcB (z : Nat) (D : va_G) (kA : Nat → ClassId) (E : Nat → Value) (v : Option Value) (h : aH) : Array Value → State → Outcome → State → Prop := fun _ st o t => o = .returned (v.map (cv z E)) ∧ va_P D vwCl (wl z E kA h) t.heap ∧ va_F (fun q => z ≤ q) st t
theorem PcB.to {z : Nat} {D : va_G} {kA : Nat → ClassId} {E : Nat → Value} {X : aX} {h : aH} {s U : State} {H : Heap} (hK : va_K D vwCl (tyl kA) s) (hEx : Ex z E X s s.heap) (hz : z ≤ s.heap.size) {locs : List Loc} (hR : Rl z D kA E s H locs h) (hsz : H.size = z + h.length) (hU : U.heap = H) (hW : s.WarmedH U.vm) : PcB z D kA E X h U := by
  refine ⟨va_K.moved hW.alike hK, ?_, by rw [hU]; exact hsz, by rw [hU]; exact hR.1⟩
  rw [hU]
  exact hEx.to hW (fun a h1 h2 => hR.2.2.1 a h1 h2)
theorem PcB.blind {z : Nat} {D : va_G} {kA : Nat → ClassId} {E : Nat → Value} {X : aX} {h : aH} {av : List Value} : FrameBlind (va_Pc av (PcB z D kA E X h)) := by
  intro a U g mk hq
  obtain ⟨h1, h2, h3, h4, h5⟩ := hq
  exact ⟨h1, va_K.moved (u := U) (U := U.calling g mk a) (Vm.Alike.refl U.vm) h2, h3.to (U := U.calling g mk a) (State.WarmedH.refl U) (fun _ _ _ => rfl), h4, h5⟩
theorem GoodIn_gT {w : Cond} (hw : w ∈ gT) : GoodIn gT (w :: gT) := by
  intro x hx
  have hx2 : x ∈ gT := by
    rcases List.mem_cons.mp hx with rfl | h
    · exact hw
    · exact h
  exact ⟨hx2, good_of_word (gT_good x hx2).2⟩
