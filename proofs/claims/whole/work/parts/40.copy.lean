section COPY
variable {rw : Nat → sR} {nu : Nat → Nat → Int32} {wd : Nat → Int32 × Int32} {vo : sV} {od : sO} {tp : sP} {sh : Nat → sS} {fi : Nat → Int32} {ik : Int32} {m : sM} {s : Sg}
theorem G.cpL {X : aX} {d : Nat} {mi : aM} {pc : Nat} {lo : List Value} {h h' : aH} {Q : Option Value → aH → Prop} {i nx b : Nat} {v : Value} {x0 x1 : Nat} {sp dp n : Int32} {r : List Value} (he : ent mi pc = some (.invokestatic i, nx, 901, b, v)) (h8 : (r.map Value.category).sum ≤ 8) (hc : cpy h x0 sp x1 dp n = some h') (k : G X d mi nx lo r h' Q) : G X d mi pc lo (.int n :: .int dp :: .ref x1 :: .int sp :: .ref x0 :: r) h Q := by
  refine G.go ?_ k
  simp only [sA, he, stp, hc, if_pos h8, if_pos]
theorem cpy_L {h : aH} {x0 x1 n0 n1 a b n : Nat} {f g : Nat → Int64} (h0 : h[x0]? = some (.inr (.inr (.inl (n0, f))))) (h1 : h[x1]? = some (.inr (.inr (.inl (n1, g))))) (ha : a + n ≤ n0) (hb : b + n ≤ n1) (hn0 : n0 < 2 ^ 30) (hn1 : n1 < 2 ^ 30) : cpy h x0 (nI a) x1 (nI b) (nI n) = some (h.set x1 (.inr (.inr (.inl (n1, va_cpy f g a b n))))) := by
  unfold cpy
  have e : ∀ k, k < 2 ^ 30 → ¬ nI k < 0 := fun k hk => Int32.not_lt.mpr (nI_pos' (by omega))
  rw [if_neg (fun q => by rcases q with q | q | q; exact e a (by omega) q; exact e b (by omega) q; exact e n (by omega) q), h0, h1]
  simp only [nI_clamp (show a < 2 ^ 31 by omega), nI_clamp (show b < 2 ^ 31 by omega), nI_clamp (show n < 2 ^ 31 by omega)]
  rw [if_pos ⟨ha, hb⟩]
/-- n numbers of one list, from p on, to another, from q on -/
def cpyL (f g : List Int64) (p q n : Nat) : List Int64 := (List.range g.length).map (fun j => if q ≤ j ∧ j < q + n then f.getD (p + (j - q)) 0 else g.getD j 0)
abbrev rngOk (q : Int32 × List Int64) (p n : Int32) : Prop := 0 ≤ p ∧ 0 ≤ n ∧ n ≤ nI q.2.length ∧ p ≤ nI q.2.length - n
theorem rng_n {len : Nat} {p n : Int32} (hl : len ≤ 40) (h : 0 ≤ p ∧ 0 ≤ n ∧ n ≤ nI len ∧ p ≤ nI len - n) : ∃ a b, p = nI a ∧ n = nI b ∧ a + b ≤ len := by
  obtain ⟨h1, h2, h3, h4⟩ := h
  obtain ⟨b, hb, rfl⟩ := nI_arg (k := len) rfl (by omega) h2 h3
  have e : nI len - nI b = nI (len - b) := by
    have := nI_add (a := len - b) (b := b)
    rw [show len - b + b = len by omega] at this
    rw [← this]
    grind
  rw [e] at h4
  obtain ⟨a, ha, rfl⟩ := nI_arg (k := len - b) rfl (by omega) h1 h4
  exact ⟨a, b, rfl, rfl, by omega⟩
end COPY
