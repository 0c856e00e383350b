/-! ===== Integer.bitCount ===== -/
def usI (x y : Int32) : Int32 := (x.toUInt32 >>> (y.toUInt32 &&& Int32.toUInt32 31)).toInt32
def bc1 (x : Int32) : Int32 := x - (usI x 1 &&& 1431655765)
def bc2 (x : Int32) : Int32 := (x &&& 858993459) + (usI x 2 &&& 858993459)
def bc3 (x : Int32) : Int32 := (x + usI x 4) &&& 252645135
def bc4 (x : Int32) : Int32 := x + usI x 8
def bc5 (x : Int32) : Int32 := x + usI x 16
def bcI (x : Int32) : Int32 := bc5 (bc4 (bc3 (bc2 (bc1 x)))) &&& 63
theorem sj_bitCount (X : aX) (x : Int32) (h : aH) : Sp X 0 kJ6_bitCount_0f7a4 [.int x] h (An (some (.int (bcI x))) h) := by
  unfold Sp
  show G X 0 kJ6_bitCount_0f7a4 0 [.int x] [] h _
  iterate 8 (refine G.st rfl rfl ?_)
  show G X 0 kJ6_bitCount_0f7a4 10 [.int (bc1 x)] [] h _
  generalize he : bc1 x = y
  iterate 10 (refine G.st rfl rfl ?_)
  show G X 0 kJ6_bitCount_0f7a4 24 [.int (bc2 y)] [] h _
  generalize he2 : bc2 y = z
  iterate 8 (refine G.st rfl rfl ?_)
  show G X 0 kJ6_bitCount_0f7a4 34 [.int (bc3 z)] [] h _
  generalize he3 : bc3 z = u
  iterate 6 (refine G.st rfl rfl ?_)
  show G X 0 kJ6_bitCount_0f7a4 41 [.int (bc4 u)] [] h _
  generalize he4 : bc4 u = v
  iterate 6 (refine G.st rfl rfl ?_)
  show G X 0 kJ6_bitCount_0f7a4 48 [.int (bc5 v)] [] h _
  generalize he5 : bc5 v = w
  iterate 3 (refine G.st rfl rfl ?_)
  refine G.ret rfl rfl ⟨?_, rfl⟩
  unfold bcI
  rw [he, he2, he3, he4, he5]
/-- how many there are in a set -/
def popN (n : Nat) : Nat := ((List.range 32).filter (fun i => n.testBit i)).length
theorem bcI_128 : ∀ p, p < 128 → bcI (nI p) = nI (popN p) ∧ popN p < 8 := by decide +kernel
theorem shl_8 : ∀ n, n < 8 → (1 : Int32) <<< (nI n &&& 31) = nI (2 ^ n) := by decide +kernel
/-- the least set of the fewest, of the first s sets -/
def fwN (nm : Nat → Option Int32) (w : Int32) (g : List Gar) (mn : Int32) : Nat → Option Nat
  | 0 => none
  | s + 1 => if rdI (rd nm (wlst w (fil (nI s) g 0 g.length))) = mn ∧ ((fwN nm w g mn s) = none ∨ ∃ b ∈ fwN nm w g mn s, popN s < popN b) then some s else fwN nm w g mn s
theorem fwN_lt {nm : Nat → Option Int32} {w : Int32} {g : List Gar} {mn : Int32} : ∀ (s b : Nat), fwN nm w g mn s = some b → b < s
  | 0, b, h => by cases h
  | s + 1, b, h => by
    unfold fwN at h
    split at h
    · cases h
      omega
    · have := fwN_lt s b h
      omega
section FEW
variable {rw : Nat → sR} {nu : Nat → Nat → Int32} {wd : Nat → Int32 × Int32} {vo : sV} {od : sO} {tp : sP} {sh : Nat → sS} {fi : Nat → Int32} {ik : Int32} {m : sM} {nm : Nat → Option Int32}
theorem l6_fewestOff (X : aX) {i : Nat} {g : List Gar} {mn : Int32} (hn : NumR (nu 0) nm) (hi : i < 13) (hg : Rep (rw i) g) (hgk : gKs g) : ∀ (k s : Nat) (vo : sV) (u : Value), s + k = 2 ^ g.length → G X 6 kX6_fewestOff 17 [.ref 0, .ref (rb i), .int mn, .int (rdI (fwN nm (wd 0).1 g mn s)), .int (nI (((fwN nm (wd 0).1 g mn s).map popN).getD 8)), .int (nI (2 ^ g.length)), .int (nI s), u] [] (H rw nu wd vo od tp sh fi ik m) (Av (some (.int (rdI (fwN nm (wd 0).1 g mn (2 ^ g.length))))) rw nu wd od tp sh fi ik m) := by
  have h7 := hg.2.1
  have h128 : 2 ^ g.length ≤ 2 ^ 7 := Nat.pow_le_pow_right (by omega) h7
  intro k
  induction k with
  | zero =>
    intro s vo u hs
    iterate 2 (refine G.st rfl rfl ?_)
    refine G.brt rfl (by rw [nI_leI (by omega) (by omega)]; omega) ?_
    iterate 1 (refine G.st rfl rfl ?_)
    refine G.ret rfl rfl ⟨?_, _, rfl⟩
    rw [show s = 2 ^ g.length by omega]
  | succ k ih =>
    intro s vo u hs
    obtain ⟨hb1, hb2⟩ := bcI_128 s (by omega)
    iterate 2 (refine G.st rfl rfl ?_)
    refine G.brf rfl (by rw [nI_leI (by omega) (by omega)]; omega) ?_
    iterate 1 (refine G.st rfl rfl ?_)
    refine G.call rfl rfl (Nat.le_of_ble_eq_true rfl) (Sp.up (sj_bitCount X _ _) (Nat.le_of_ble_eq_true rfl)) ?_
    rintro _ _ ⟨rfl, rfl⟩
    rw [hb1]
    iterate 3 (refine G.st rfl rfl ?_)
    have skip : ∀ vo, fwN nm (wd 0).1 g mn (s + 1) = fwN nm (wd 0).1 g mn s → G X 6 kX6_fewestOff 56 [.ref 0, .ref (rb i), .int mn, .int (rdI (fwN nm (wd 0).1 g mn s)), .int (nI (((fwN nm (wd 0).1 g mn s).map popN).getD 8)), .int (nI (2 ^ g.length)), .int (nI s), .int (nI (popN s))] [] (H rw nu wd vo od tp sh fi ik m) (Av (some (.int (rdI (fwN nm (wd 0).1 g mn (2 ^ g.length))))) rw nu wd od tp sh fi ik m) := by
      intro vo e
      iterate 1 (refine G.st rfl rfl ?_)
      rw [nI_1]
      iterate 1 (refine G.st rfl rfl ?_)
      have := ih (s + 1) vo (.int (nI (popN s))) (by omega)
      rw [e] at this
      exact this
    have hpb : ((fwN nm (wd 0).1 g mn s).map popN).getD 8 < 2 ^ 31 := by
      cases hb : fwN nm (wd 0).1 g mn s with
      | none => simp
      | some b =>
        have := (bcI_128 b (by have := fwN_lt s b hb; omega)).2
        show popN b < 2 ^ 31
        omega
    refine G.br rfl (fun hc => ?_) (fun hc => ?_)
    · rw [nI_leI hpb (by omega)] at hc
      refine skip vo ?_
      conv => lhs; unfold fwN
      rw [if_neg]
      rintro ⟨-, h2⟩
      rcases h2 with h2 | ⟨b, h2, h3⟩
      · rw [h2] at hc
        simp at hc
        omega
      · have h2 : fwN nm (wd 0).1 g mn s = some b := h2
        rw [h2] at hc
        simp at hc
        omega
    · rw [nI_leI hpb (by omega)] at hc
      iterate 3 (refine G.st rfl rfl ?_)
      refine G.call rfl rfl (Nat.le_of_ble_eq_true rfl) (Sp.up (s6_readWithout X hn hi hg hgk) (Nat.le_of_ble_eq_true rfl)) ?_
      rintro _ _ ⟨rfl, vo1, rfl⟩
      iterate 1 (refine G.st rfl rfl ?_)
      refine G.br rfl (fun hc2 => ?_) (fun hc2 => ?_)
      · have e : fwN nm (wd 0).1 g mn (s + 1) = some s := by
          conv => lhs; unfold fwN
          rw [if_pos]
          refine ⟨hc2, ?_⟩
          cases hb : fwN nm (wd 0).1 g mn s with
          | none => exact Or.inl rfl
          | some b =>
            rw [hb] at hc
            simp at hc
            exact Or.inr ⟨b, rfl, hc⟩
        iterate 5 (refine G.st rfl rfl ?_)
        rw [nI_1]
        iterate 1 (refine G.st rfl rfl ?_)
        have := ih (s + 1) vo1 (.int (nI (popN s))) (by omega)
        rw [e] at this
        exact this
      · refine skip vo1 ?_
        conv => lhs; unfold fwN
        rw [if_neg (fun q => hc2 q.1)]
theorem s6_fewestOff (X : aX) {i : Nat} {g : List Gar} {mn : Int32} (hn : NumR (nu 0) nm) (hi : i < 13) (hg : Rep (rw i) g) (hgk : gKs g) : Sp X 6 kX6_fewestOff [.ref 0, .ref (rb i), .int mn] (H rw nu wd vo od tp sh fi ik m) (Av (some (.int (rdI (fwN nm (wd 0).1 g mn (2 ^ g.length))))) rw nu wd od tp sh fi ik m) := by
  unfold Sp
  iterate 6 (refine G.st rfl rfl ?_)
  refine G.get rfl (H_row hi).1 rfl ?_
  rw [hg.1]
  iterate 1 (refine G.st rfl rfl ?_)
  rw [shl_8 _ (by have := hg.2.1; omega)]
  iterate 3 (refine G.st rfl rfl ?_)
  exact l6_fewestOff X hn hi hg hgk (2 ^ g.length) 0 vo (.double 0) (by omega)
end FEW
