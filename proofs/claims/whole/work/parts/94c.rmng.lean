/-! ===== the reference: a meaning of the text ===== -/
section RMNG
variable {c : Nat → aC} {m : sM} {s : Sg} {n : Nat}
theorem MR.mean (hM : MR n m s) {j : Nat} (hj : j < 10) (x : Int32) : MR n (mSs m (upd (upd (ms m) (6 + j) 1) (16 + j) x)) (zTw s ((zt s).1, va_up (zt s).2.1 j (some x), (zt s).2.2)) := by
  refine ⟨?_, hM.2⟩
  refine hM.1.low (fun i hi => ?_) ?_ ?_ (fun i hi => ?_)
  · show upd (upd (ms m) (6 + j) 1) (16 + j) x i = _
    rw [upd_n (by omega), upd_n (by omega)]
  · show upd (upd (ms m) (6 + j) 1) (16 + j) x 4 = _
    rw [upd_n (by omega), upd_n (by omega)]; exact hM.1.2.1
  · show upd (upd (ms m) (6 + j) 1) (16 + j) x 5 = _
    rw [upd_n (by omega), upd_n (by omega)]; exact hM.1.2.2.1
  · show upd (upd (ms m) (6 + j) 1) (16 + j) x (6 + i) = bI ((va_up (zN s) j (some x) i).isSome = true) ∧ ∀ y, va_up (zN s) j (some x) i = some y → upd (upd (ms m) (6 + j) 1) (16 + j) x (16 + i) = y
    by_cases e : i = j
    · subst e
      rw [va_up_s, upd_n (by omega), upd_s, upd_s, bI_t (show (some x).isSome = true from rfl)]
      exact ⟨rfl, fun y hy => Option.some.inj hy⟩
    · rw [va_up_n e, upd_n (by omega), upd_n (by omega), upd_n (by omega), upd_n (by omega)]
      exact hM.1.2.2.2 i hi
end RMNG
