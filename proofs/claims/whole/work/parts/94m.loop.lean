/-! ===== the law: its loop ===== -/
section LAWM
variable {X : aX} {e n : Nat} {s : Sg} {m : sM} {h : aH} {Q : Option Value → aH → Prop}
theorem lw_sw (hX : X.1 ≤ 3072) (hi : 6 * e + 6 ≤ X.1) (hn : n < 2 ^ 29) (hC : CI m s h) (hM : MR n m s) (k : ∀ s' m' h', CI m' s' h' → MR (n + 1) m' s' → G X 40 kL_law 1648 [.retAddr 2, .ref 0, .ref 81, .int (nI (6 * e))] [] h' Q) {q : Nat} (hq : q < 64) : G X 40 kL_law 33 [.retAddr 2, .ref 0, .ref 81, .int (nI (6 * e))] [.int (nI q)] h Q := by
  by_cases h47 : q < 47
  case neg =>
    refine G.tsw (t := 1648) rfl ?_ (k s m h hC (hM.mono (Nat.le_succ n)))
    rcases (show q = 47 ∨ q = 48 ∨ q = 49 ∨ q = 50 ∨ q = 51 ∨ q = 52 ∨ q = 53 ∨ q = 54 ∨ q = 55 ∨ q = 56 ∨ q = 57 ∨ q = 58 ∨ q = 59 ∨ q = 60 ∨ q = 61 ∨ q = 62 ∨ q = 63 by omega) with rfl | rfl | rfl | rfl | rfl | rfl | rfl | rfl | rfl | rfl | rfl | rfl | rfl | rfl | rfl | rfl | rfl <;> decide
  rcases (show q = 0 ∨ q = 1 ∨ q = 2 ∨ q = 3 ∨ q = 4 ∨ q = 5 ∨ q = 6 ∨ q = 7 ∨ q = 8 ∨ q = 9 ∨ q = 10 ∨ q = 11 ∨ q = 12 ∨ q = 13 ∨ q = 14 ∨ q = 15 ∨ q = 16 ∨ q = 17 ∨ q = 18 ∨ q = 19 ∨ q = 20 ∨ q = 21 ∨ q = 22 ∨ q = 23 ∨ q = 24 ∨ q = 25 ∨ q = 26 ∨ q = 27 ∨ q = 28 ∨ q = 29 ∨ q = 30 ∨ q = 31 ∨ q = 32 ∨ q = 33 ∨ q = 34 ∨ q = 35 ∨ q = 36 ∨ q = 37 ∨ q = 38 ∨ q = 39 ∨ q = 40 ∨ q = 41 ∨ q = 42 ∨ q = 43 ∨ q = 44 ∨ q = 45 ∨ q = 46 by omega) with rfl | rfl | rfl | rfl | rfl | rfl | rfl | rfl | rfl | rfl | rfl | rfl | rfl | rfl | rfl | rfl | rfl | rfl | rfl | rfl | rfl | rfl | rfl | rfl | rfl | rfl | rfl | rfl | rfl | rfl | rfl | rfl | rfl | rfl | rfl | rfl | rfl | rfl | rfl | rfl | rfl | rfl | rfl | rfl | rfl | rfl | rfl
  · exact G.tsw (t := 236) rfl (by decide) (w_hang hX hi hn hC hM k)
  · exact G.tsw (t := 279) rfl (by decide) (w_off hX hi hn hC hM k)
  · exact G.tsw (t := 312) rfl (by decide) (w_of hX hi hn hC hM k)
  · exact G.tsw (t := 355) rfl (by decide) (w_set hX hi hn hC hM k)
  · exact G.tsw (t := 408) rfl (by decide) (w_turn hX hi hn hC hM k)
  · exact G.tsw (t := 451) rfl (by decide) (w_as hX hi hn hC hM k)
  · exact G.tsw (t := 494) rfl (by decide) (w_swap hX hi hn hC hM k)
  · exact G.tsw (t := 537) rfl (by decide) (w_take hX hi hn hC hM k)
  · exact G.tsw (t := 560) rfl (by decide) (w_like hX hi hn hC hM k)
  · exact G.tsw (t := 593) rfl (by decide) (w_wind hX hi hn hC hM k)
  · exact G.tsw (t := 616) rfl (by decide) (w_days hX hi hn hC hM k)
  · exact G.tsw (t := 639) rfl (by decide) (w_means hX hi hn hC hM k)
  · exact G.tsw (t := 672) rfl (by decide) (w_forget hX hi hn hC hM k)
  · exact G.tsw (t := 695) rfl (by decide) (w_number hX hi hn hC hM k)
  · exact G.tsw (t := 718) rfl (by decide) (w_read hX hi hn hC hM k)
  · exact G.tsw (t := 741) rfl (by decide) (w_apart hX hi hn hC hM k)
  · exact G.tsw (t := 754) rfl (by decide) (w_worth hX hi hn hC hM k)
  · exact G.tsw (t := 777) rfl (by decide) (w_worthIn hX hi hn hC hM k)
  · exact G.tsw (t := 810) rfl (by decide) (w_says hX hi hn hC hM k)
  · exact G.tsw (t := 833) rfl (by decide) (w_winds hX hi hn hC hM k)
  · exact G.tsw (t := 856) rfl (by decide) (w_lost hX hi hn hC hM k)
  · exact G.tsw (t := 879) rfl (by decide) (w_fewest hX hi hn hC hM k)
  · exact G.tsw (t := 912) rfl (by decide) (w_which hX hi hn hC hM k)
  · exact G.tsw (t := 945) rfl (by decide) (w_more hX hi hn hC hM k)
  · exact G.tsw (t := 978) rfl (by decide) (w_orders hX hi hn hC hM k)
  · exact G.tsw (t := 1011) rfl (by decide) (w_most hX hi hn hC hM k)
  · exact G.tsw (t := 1034) rfl (by decide) (w_least hX hi hn hC hM k)
  · exact G.tsw (t := 1057) rfl (by decide) (w_order hX hi hn hC hM k)
  · exact G.tsw (t := 1090) rfl (by decide) (w_worths hX hi hn hC hM k)
  · exact G.tsw (t := 1113) rfl (by decide) (w_can hX hi hn hC hM k)
  · exact G.tsw (t := 1136) rfl (by decide) (w_join hX hi hn hC hM k)
  · exact G.tsw (t := 1169) rfl (by decide) (w_same hX hi hn hC hM k)
  · exact G.tsw (t := 1202) rfl (by decide) (w_best hX hi hn hC hM k)
  · exact G.tsw (t := 1225) rfl (by decide) (w_feed hX hi hn hC hM k)
  · exact G.tsw (t := 1258) rfl (by decide) (w_wipe hX hi hn hC hM k)
  · exact G.tsw (t := 1271) rfl (by decide) (w_town hX hi hn hC hM k)
  · exact G.tsw (t := 1284) rfl (by decide) (w_sheet hX hi hn hC hM k)
  · exact G.tsw (t := 1327) rfl (by decide) (w_write hX hi hn hC hM k)
  · exact G.tsw (t := 1401) rfl (by decide) (w_copy hX hi hn hC hM k)
  · exact G.tsw (t := 1464) rfl (by decide) (w_lays hX hi hn hC hM k)
  · exact G.tsw (t := 1497) rfl (by decide) (w_show hX hi hn hC hM k)
  · exact G.tsw (t := 1530) rfl (by decide) (w_check hX hi hn hC hM k)
  · exact G.tsw (t := 1563) rfl (by decide) (w_image hX hi hn hC hM k)
  · exact G.tsw (t := 1576) rfl (by decide) (w_undo hX hi hn hC hM k)
  · exact G.tsw (t := 1589) rfl (by decide) (w_tear hX hi hn hC hM k)
  · exact G.tsw (t := 1602) rfl (by decide) (w_count hX hi hn hC hM k)
  · exact G.tsw (t := 1625) rfl (by decide) (w_status hX hi hn hC hM k)
abbrev LawEnd : Option Value → aH → Prop := fun v h' => v = some (.int 1) ∧ h'.length ≤ 600000 ∧ sz h' ≤ 7302250
theorem lw_loop (hX : X.1 ≤ 3072) : ∀ (k e n : Nat) (s : Sg) (m : sM) (h : aH), e + k = 513 → n ≤ e → CI m s h → MR n m s → G X 40 kL_law 18 [.retAddr 2, .ref 0, .ref 81, .int (nI (6 * e))] [] h LawEnd := by
  intro k
  induction k with
  | zero =>
    intro e n s m h he hn hC hM
    iterate 5 (refine G.st rfl rfl ?_)
    refine G.brt rfl ((lw_len hX (by omega)).mpr (by omega)) ?_
    iterate 1 (refine G.st rfl rfl ?_)
    exact G.ret rfl rfl ⟨rfl, hC.room⟩
  | succ k ih =>
    intro e n s m h he hn hC hM
    iterate 5 (refine G.st rfl rfl ?_)
    by_cases hi : X.1 < 6 * e + 6
    · refine G.brt rfl ((lw_len hX (by omega)).mpr hi) ?_
      iterate 1 (refine G.st rfl rfl ?_)
      exact G.ret rfl rfl ⟨rfl, hC.room⟩
    refine G.brf rfl (fun q => hi ((lw_len hX (by omega)).mp q)) ?_
    iterate 2 (refine G.st rfl rfl ?_)
    refine G.xald rfl rfl (ix_nI (show 6 * e < X.1 by omega) (by omega)) ?_
    iterate 2 (refine G.st rfl rfl ?_)
    obtain ⟨q, hq, eq⟩ := lw_and (X.2 (6 * e))
    rw [eq]
    refine lw_sw hX (by omega) (by omega) hC hM (fun s' m' h' hC' hM' => ?_) hq
    iterate 1 (refine G.st rfl rfl ?_)
    rw [show (6 : Int32) = nI 6 from rfl, nI_add]
    iterate 1 (refine G.st rfl rfl ?_)
    exact ih (e + 1) (n + 1) s' m' h' (by omega) (by omega) hC' hM'
theorem law_all : ∀ X : aX, X.1 ≤ 3072 → Sp X 40 kL_law [.retAddr 2] [] LawEnd := by
  intro X hX
  unfold Sp
  refine G.newo rfl ?_
  iterate 1 (refine G.st rfl rfl ?_)
  refine G.call rfl rfl (Nat.le_of_ble_eq_true rfl) (Sp.up (s6_init X) (Nat.le_of_ble_eq_true rfl)) ?_
  rintro _ _ ⟨rfl, f0, f1, f2, rfl, h0, h1, h2⟩
  iterate 1 (refine G.st rfl rfl ?_)
  have hl : (c81 f0 f1 f2).length = 81 := rfl
  refine G.newo rfl ?_
  iterate 1 (refine G.st rfl rfl ?_)
  refine G.call rfl rfl (Nat.le_of_ble_eq_true rfl) (Sp.up (s7_init X (c81 f0 f1 f2)) (Nat.le_of_ble_eq_true rfl)) ?_
  rintro _ _ ⟨rfl, rfl⟩
  have hC := CI00 (f1 := f1) (f2 := f2) h0
  rw [hl]
  generalize c81 f0 f1 f2 ++ cRef 81 = h at hC ⊢
  iterate 3 (refine G.st rfl rfl ?_)
  exact lw_loop hX 513 0 0 s00 m00 h (by omega) (Nat.le_refl _) hC MR00
end LAWM
