theorem t_isWithin (X : aX) (d : Nat) (v l u : Int32) (h : aH) (Q : Option Value → aH → Prop) (hq : Q (some (.int (if l ≤ v ∧ v ≤ u then 1 else 0))) h) : Sp X d kX6_isWithin [.int v, .int l, .int u] h Q := by
  unfold Sp
  refine G.go rfl ?_
  refine G.go rfl ?_
  refine G.br rfl (fun c => ?_) (fun c => ?_)
  · refine G.go rfl ?_
    refine G.go rfl ?_
    trace_state
    sorry
  · sorry
