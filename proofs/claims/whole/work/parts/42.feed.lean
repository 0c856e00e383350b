section FEED
variable {rw : Nat → sR} {nu : Nat → Nat → Int32} {wd : Nat → Int32 × Int32} {vo : sV} {od : sO} {tp : sP} {sh : Nat → sS} {fi : Nat → Int32} {ik : Int32} {m : sM} {s : Sg}
theorem s3_add (X : aX) {n : Nat} {v : Int32} (hn : pln tp = nI n) (h : n < 120) : Sp X 0 kX3_add [.ref 69, .int v] (H rw nu wd vo od tp sh fi ik m) (An none (H rw nu wd vo od (pSln (pSby tp (upd (pby tp) n v)) (nI (n + 1))) sh fi ik m)) := by
  unfold Sp
  iterate 3 (refine G.st rfl rfl ?_)
  rw [hn]
  refine G.brf rfl (nle_nI (k := 120) rfl h (by omega)) ?_
  iterate 5 (refine G.st rfl rfl ?_)
  rw [hn]
  refine G.iast rfl rfl (ix_nI h (by omega)) ?_
  iterate 5 (refine G.st rfl rfl ?_)
  rw [hn, nI_1]
  iterate 1 (refine G.st rfl rfl ?_)
  exact G.ret rfl rfl ⟨rfl, rfl⟩
end FEED
