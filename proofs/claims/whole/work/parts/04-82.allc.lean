theorem mT_lt {i : Nat} {my : aM} (h : mT i = some my) : i < 243 := by
  unfold mT at h
  cases h1 : mTl[i / 16]? with
  | none => rw [h1] at h; cases h
  | some c =>
    rw [h1] at h
    have h2 : c[i % 16]? = some my := h
    have h3 := (List.getElem?_eq_some_iff.mp h1).1
    have h4 := (List.getElem?_eq_some_iff.mp h2).1
    have e1 : mTl.length = 16 := rfl
    by_cases hq : i / 16 = 15
    · rw [hq] at h1
      have h1 : some [_, _, _] = some c := h1
      have h5 : c.length = 3 := by cases h1; rfl
      omega
    · omega
theorem allC_0 : ∀ k, k < 16 → ∀ my, mT (16 * 0 + k) = some my → okC (mN (16 * 0 + k)).2 my.2.2.2.1 (ini (16 * 0 + k)) 0 my.1 = true := by
  intro k hk my h
  match k, hk with
  | 0, _ => cases h; exact qX0_init
  | 1, _ => cases h; exact qX0_walk
  | 2, _ => cases h; exact qX0_findTwins
  | 3, _ => cases h; exact qX0_saying
  | 4, _ => cases h; exact qX0_hangNext
  | 5, _ => cases h; exact qX0_sayThenHangNext
  | 6, _ => cases h; exact qX0_mayHang
  | 7, _ => cases h; exact qX0_isHanging
  | 8, _ => cases h; exact qX0_arrive
  | 9, _ => cases h; exact qX0_arrangeNearest
  | 10, _ => cases h; exact qX0_unlikeWorths
  | 11, _ => cases h; exact qX0_meaningsMet
  | 12, _ => cases h; exact qX0_meaningBit
  | 13, _ => cases h; exact qX1_init
  | 14, _ => cases h; exact qX1_clear
  | 15, _ => cases h; exact qX1_add
  | k + 16, hk => omega
theorem allC_1 : ∀ k, k < 16 → ∀ my, mT (16 * 1 + k) = some my → okC (mN (16 * 1 + k)).2 my.2.2.2.1 (ini (16 * 1 + k)) 0 my.1 = true := by
  intro k hk my h
  match k, hk with
  | 0, _ => cases h; exact qX1_put
  | 1, _ => cases h; exact qX1_remove
  | 2, _ => cases h; exact qX1_exchange
  | 3, _ => cases h; exact qX1_become
  | 4, _ => cases h; exact qX1_isSeenAt
  | 5, _ => cases h; exact qX1_pegsLike
  | 6, _ => cases h; exact qX1_dry
  | 7, _ => cases h; exact qX2_init
  | 8, _ => cases h; exact qX2_begin
  | 9, _ => cases h; exact qX2_put
  | 10, _ => cases h; exact qX2_hasRange
  | 11, _ => cases h; exact qX3_init
  | 12, _ => cases h; exact qX3_add
  | 13, _ => cases h; exact qX3_tell
  | 14, _ => cases h; exact qX3_lineItem
  | 15, _ => cases h; exact qX3_garment
  | k + 16, hk => omega
theorem allC_2 : ∀ k, k < 16 → ∀ my, mT (16 * 2 + k) = some my → okC (mN (16 * 2 + k)).2 my.2.2.2.1 (ini (16 * 2 + k)) 0 my.1 = true := by
  intro k hk my h
  match k, hk with
  | 0, _ => cases h; exact qX3_windItem
  | 1, _ => cases h; exact qX3_meaningItem
  | 2, _ => cases h; exact qX3_forgetItem
  | 3, _ => cases h; exact qX3_takeNumber
  | 4, _ => cases h; exact qX3_kindTold
  | 5, _ => cases h; exact qX3_kindName
  | 6, _ => cases h; exact qX3_isWord
  | 7, _ => cases h; exact qX3_step
  | 8, _ => cases h; exact qX3_numberHere
  | 9, _ => cases h; exact qX3_sortOf
  | 10, _ => cases h; exact qX4_init
  | 11, _ => cases h; exact qX4_become
  | 12, _ => cases h; exact qX4_garments
  | 13, _ => cases h; exact qX4_letDaysGo
  | 14, _ => cases h; exact qX4_hasNumber
  | 15, _ => cases h; exact qX4_meaningsTold
  | k + 16, hk => omega
theorem allC_3 : ∀ k, k < 16 → ∀ my, mT (16 * 3 + k) = some my → okC (mN (16 * 3 + k)).2 my.2.2.2.1 (ini (16 * 3 + k)) 0 my.1 = true := by
  intro k hk my h
  match k, hk with
  | 0, _ => cases h; exact qX4_readAs
  | 1, _ => cases h; exact qX4_leastDifference
  | 2, _ => cases h; exact qX5_init
  | 3, _ => cases h; exact qX5_begin
  | 4, _ => cases h; exact qX5_hear
  | 5, _ => cases h; exact qX5_hearGarment
  | 6, _ => cases h; exact qX6_init
  | 7, _ => cases h; exact qX6_hang
  | 8, _ => cases h; exact qX6_off
  | 9, _ => cases h; exact qX6_of
  | 10, _ => cases h; exact qX6_set
  | 11, _ => cases h; exact qX6_turn
  | 12, _ => cases h; exact qX6_as
  | 13, _ => cases h; exact qX6_swap
  | 14, _ => cases h; exact qX6_take
  | 15, _ => cases h; exact qX6_like
  | k + 16, hk => omega
theorem allC_4 : ∀ k, k < 16 → ∀ my, mT (16 * 4 + k) = some my → okC (mN (16 * 4 + k)).2 my.2.2.2.1 (ini (16 * 4 + k)) 0 my.1 = true := by
  intro k hk my h
  match k, hk with
  | 0, _ => cases h; exact qX6_wind
  | 1, _ => cases h; exact qX6_days
  | 2, _ => cases h; exact qX6_means
  | 3, _ => cases h; exact qX6_forget
  | 4, _ => cases h; exact qX6_number
  | 5, _ => cases h; exact qX6_read
  | 6, _ => cases h; exact qX6_apart
  | 7, _ => cases h; exact qX6_worth
  | 8, _ => cases h; exact qX6_worthIn
  | 9, _ => cases h; exact qX6_says
  | 10, _ => cases h; exact qX6_winds
  | 11, _ => cases h; exact qX6_lost
  | 12, _ => cases h; exact qX6_fewest
  | 13, _ => cases h; exact qX6_which
  | 14, _ => cases h; exact qX6_more
  | 15, _ => cases h; exact qX6_orders
  | k + 16, hk => omega
theorem allC_5 : ∀ k, k < 16 → ∀ my, mT (16 * 5 + k) = some my → okC (mN (16 * 5 + k)).2 my.2.2.2.1 (ini (16 * 5 + k)) 0 my.1 = true := by
  intro k hk my h
  match k, hk with
  | 0, _ => cases h; exact qX6_most
  | 1, _ => cases h; exact qX6_least
  | 2, _ => cases h; exact qX6_order
  | 3, _ => cases h; exact qX6_worths
  | 4, _ => cases h; exact qX6_can
  | 5, _ => cases h; exact qX6_join
  | 6, _ => cases h; exact qX6_same
  | 7, _ => cases h; exact qX6_best
  | 8, _ => cases h; exact qX6_feed
  | 9, _ => cases h; exact qX6_wipe
  | 10, _ => cases h; exact qX6_town
  | 11, _ => cases h; exact qX6_sheet
  | 12, _ => cases h; exact qX6_write
  | 13, _ => cases h; exact qX6_copy
  | 14, _ => cases h; exact qX6_lays
  | 15, _ => cases h; exact qX6_show
  | k + 16, hk => omega
theorem allC_6 : ∀ k, k < 16 → ∀ my, mT (16 * 6 + k) = some my → okC (mN (16 * 6 + k)).2 my.2.2.2.1 (ini (16 * 6 + k)) 0 my.1 = true := by
  intro k hk my h
  match k, hk with
  | 0, _ => cases h; exact qX6_check
  | 1, _ => cases h; exact qX6_image
  | 2, _ => cases h; exact qX6_undo
  | 3, _ => cases h; exact qX6_tear
  | 4, _ => cases h; exact qX6_count
  | 5, _ => cases h; exact qX6_status
  | 6, _ => cases h; exact qX6_finding
  | 7, _ => cases h; exact qX6_isGarment
  | 8, _ => cases h; exact qX6_sheetFinding
  | 9, _ => cases h; exact qX6_sheetAndLineFinding
  | 10, _ => cases h; exact qX6_isWithin
  | 11, _ => cases h; exact qX6_isLine
  | 12, _ => cases h; exact qX6_isKind
  | 13, _ => cases h; exact qX6_isSize
  | 14, _ => cases h; exact qX6_isWind
  | 15, _ => cases h; exact qX6_isMeaning
  | k + 16, hk => omega
theorem allC_7 : ∀ k, k < 16 → ∀ my, mT (16 * 7 + k) = some my → okC (mN (16 * 7 + k)).2 my.2.2.2.1 (ini (16 * 7 + k)) 0 my.1 = true := by
  intro k hk my h
  match k, hk with
  | 0, _ => cases h; exact qX6_isWorth
  | 1, _ => cases h; exact qX6_isSheet
  | 2, _ => cases h; exact qX6_isBits
  | 3, _ => cases h; exact qX6_isGarmentCode
  | 4, _ => cases h; exact qX6_isOfKind
  | 5, _ => cases h; exact qX6_isSeen
  | 6, _ => cases h; exact qX6_worthAfter
  | 7, _ => cases h; exact qX6_stockingsAfter
  | 8, _ => cases h; exact qX6_held
  | 9, _ => cases h; exact qX6_worthOf
  | 10, _ => cases h; exact qX6_worthBehind
  | 11, _ => cases h; exact qX6_worthJoined
  | 12, _ => cases h; exact qX6_readNow
  | 13, _ => cases h; exact qX6_readWithout
  | 14, _ => cases h; exact qX6_readWithOneMore
  | 15, _ => cases h; exact qX6_windsReadAs
  | k + 16, hk => omega
theorem allC_8 : ∀ k, k < 16 → ∀ my, mT (16 * 8 + k) = some my → okC (mN (16 * 8 + k)).2 my.2.2.2.1 (ini (16 * 8 + k)) 0 my.1 = true := by
  intro k hk my h
  match k, hk with
  | 0, _ => cases h; exact qX6_fewestOff
  | 1, _ => cases h; exact qX7_init
  | 2, _ => cases h; exact qX7_isIn
  | 3, _ => cases h; exact qX7_finds
  | 4, _ => cases h; exact qX7_becomes
  | 5, _ => cases h; exact qX7_isLine
  | 6, _ => cases h; exact qX7_isPeg
  | 7, _ => cases h; exact qX7_isMeaning
  | 8, _ => cases h; exact qX7_placeOf
  | 9, _ => cases h; exact qX7_copyRow
  | 10, _ => cases h; exact qX7_apartBy
  | 11, _ => cases h; exact qX7_hangs
  | 12, _ => cases h; exact qX7_isGarment
  | 13, _ => cases h; exact qX7_hang
  | 14, _ => cases h; exact qX7_off
  | 15, _ => cases h; exact qX7_lays
  | k + 16, hk => omega
theorem allC_9 : ∀ k, k < 16 → ∀ my, mT (16 * 9 + k) = some my → okC (mN (16 * 9 + k)).2 my.2.2.2.1 (ini (16 * 9 + k)) 0 my.1 = true := by
  intro k hk my h
  match k, hk with
  | 0, _ => cases h; exact qX7_isSeen
  | 1, _ => cases h; exact qX7_kept
  | 2, _ => cases h; exact qX7_isStocking
  | 3, _ => cases h; exact qX7_becomesBy
  | 4, _ => cases h; exact qX7_worthOfFirst
  | 5, _ => cases h; exact qX7_worthBy
  | 6, _ => cases h; exact qX7_worthAside
  | 7, _ => cases h; exact qX7_readAs
  | 8, _ => cases h; exact qX7_of
  | 9, _ => cases h; exact qX7_set
  | 10, _ => cases h; exact qX7_turn
  | 11, _ => cases h; exact qX7_isUnder
  | 12, _ => cases h; exact qX7_as
  | 13, _ => cases h; exact qX7_swap
  | 14, _ => cases h; exact qX7_take
  | 15, _ => cases h; exact qX7_hangsAside
  | k + 16, hk => omega
theorem allC_10 : ∀ k, k < 16 → ∀ my, mT (16 * 10 + k) = some my → okC (mN (16 * 10 + k)).2 my.2.2.2.1 (ini (16 * 10 + k)) 0 my.1 = true := by
  intro k hk my h
  match k, hk with
  | 0, _ => cases h; exact qX7_like
  | 1, _ => cases h; exact qX7_wind
  | 2, _ => cases h; exact qX7_garments
  | 3, _ => cases h; exact qX7_days
  | 4, _ => cases h; exact qX7_means
  | 5, _ => cases h; exact qX7_forget
  | 6, _ => cases h; exact qX7_number
  | 7, _ => cases h; exact qX7_orNone
  | 8, _ => cases h; exact qX7_read
  | 9, _ => cases h; exact qX7_apart
  | 10, _ => cases h; exact qX7_worth
  | 11, _ => cases h; exact qX7_worthIn
  | 12, _ => cases h; exact qX7_says
  | 13, _ => cases h; exact qX7_windsOf
  | 14, _ => cases h; exact qX7_winds
  | 15, _ => cases h; exact qX7_laysBut
  | k + 16, hk => omega
theorem allC_11 : ∀ k, k < 16 → ∀ my, mT (16 * 11 + k) = some my → okC (mN (16 * 11 + k)).2 my.2.2.2.1 (ini (16 * 11 + k)) 0 my.1 = true := by
  intro k hk my h
  match k, hk with
  | 0, _ => cases h; exact qX7_lost
  | 1, _ => cases h; exact qX7_manyIn
  | 2, _ => cases h; exact qX7_fewestSet
  | 3, _ => cases h; exact qX7_fewest
  | 4, _ => cases h; exact qX7_which
  | 5, _ => cases h; exact qX7_more
  | 6, _ => cases h; exact qX7_beginsOrders
  | 7, _ => cases h; exact qX7_hasNext
  | 8, _ => cases h; exact qX7_swapsOrder
  | 9, _ => cases h; exact qX7_laysOrder
  | 10, _ => cases h; exact qX7_orders
  | 11, _ => cases h; exact qX7_furthest
  | 12, _ => cases h; exact qX7_most
  | 13, _ => cases h; exact qX7_least
  | 14, _ => cases h; exact qX7_notesOrder
  | 15, _ => cases h; exact qX7_order
  | k + 16, hk => omega
theorem allC_12 : ∀ k, k < 16 → ∀ my, mT (16 * 12 + k) = some my → okC (mN (16 * 12 + k)).2 my.2.2.2.1 (ini (16 * 12 + k)) 0 my.1 = true := by
  intro k hk my h
  match k, hk with
  | 0, _ => cases h; exact qX7_worths
  | 1, _ => cases h; exact qX7_can
  | 2, _ => cases h; exact qX7_join
  | 3, _ => cases h; exact qX7_same
  | 4, _ => cases h; exact qX7_best
  | 5, _ => cases h; exact qX7_feed
  | 6, _ => cases h; exact qX7_wipe
  | 7, _ => cases h; exact qX7_isLetter
  | 8, _ => cases h; exact qX7_isDigit
  | 9, _ => cases h; exact qX7_byteAt
  | 10, _ => cases h; exact qX7_nextToken
  | 11, _ => cases h; exact qX7_has3
  | 12, _ => cases h; exact qX7_isWord
  | 13, _ => cases h; exact qX7_fails
  | 14, _ => cases h; exact qX7_isFour
  | 15, _ => cases h; exact qX7_isFive
  | k + 16, hk => omega
theorem allC_13 : ∀ k, k < 16 → ∀ my, mT (16 * 13 + k) = some my → okC (mN (16 * 13 + k)).2 my.2.2.2.1 (ini (16 * 13 + k)) 0 my.1 = true := by
  intro k hk my h
  match k, hk with
  | 0, _ => cases h; exact qX7_isSix
  | 1, _ => cases h; exact qX7_kindHere
  | 2, _ => cases h; exact qX7_isNumber
  | 3, _ => cases h; exact qX7_garmentHere
  | 4, _ => cases h; exact qX7_lineHere
  | 5, _ => cases h; exact qX7_windHere
  | 6, _ => cases h; exact qX7_meaningHere
  | 7, _ => cases h; exact qX7_forgetHere
  | 8, _ => cases h; exact qX7_itemHere
  | 9, _ => cases h; exact qX7_town
  | 10, _ => cases h; exact qX7_isSheet
  | 11, _ => cases h; exact qX7_narrow
  | 12, _ => cases h; exact qX7_sheet
  | 13, _ => cases h; exact qX7_write
  | 14, _ => cases h; exact qX7_copy
  | 15, _ => cases h; exact qX7_wants
  | k + 16, hk => omega
theorem allC_14 : ∀ k, k < 16 → ∀ my, mT (16 * 14 + k) = some my → okC (mN (16 * 14 + k)).2 my.2.2.2.1 (ini (16 * 14 + k)) 0 my.1 = true := by
  intro k hk my h
  match k, hk with
  | 0, _ => cases h; exact qX7_lays_
  | 1, _ => cases h; exact qX7_show
  | 2, _ => cases h; exact qX7_check
  | 3, _ => cases h; exact qX7_image
  | 4, _ => cases h; exact qX7_undo
  | 5, _ => cases h; exact qX7_tear
  | 6, _ => cases h; exact qX7_count
  | 7, _ => cases h; exact qX7_status
  | 8, _ => cases h; exact qJ6_bitCount_0f7a4
  | 9, _ => cases h; exact qJ13_bitCount_95d88
  | 10, _ => cases h; exact qJ0_length_8abf5
  | 11, _ => cases h; exact qJ0_charAt_5068e
  | 12, _ => cases h; exact qJ0_coder_7d493
  | 13, _ => cases h; exact qJ0_isLatin1_aae02
  | 14, _ => cases h; exact qJ0_checkIndex_df160
  | 15, _ => cases h; exact qJ1_charAt_3b067
  | k + 16, hk => omega
theorem allC_15 : ∀ k, k < 3 → ∀ my, mT (16 * 15 + k) = some my → okC (mN (16 * 15 + k)).2 my.2.2.2.1 (ini (16 * 15 + k)) 0 my.1 = true := by
  intro k hk my h
  match k, hk with
  | 0, _ => cases h; exact qJ7_fill_d0a16
  | 1, _ => cases h; exact qJ7_fill_53178
  | 2, _ => cases h; exact qJ3_checkIndex_8e157
  | k + 3, hk => omega
theorem allC : ∀ i my, mT i = some my → okC (mN i).2 my.2.2.2.1 (ini i) 0 my.1 = true := by
  intro i my h
  have hi : i < 243 := mT_lt h
  obtain ⟨j, k, hk, rfl⟩ : ∃ j k, k < 16 ∧ i = 16 * j + k := ⟨i / 16, i % 16, Nat.mod_lt _ (by omega), by omega⟩
  match j with
  | 0 => exact allC_0 k (by omega) my h
  | 1 => exact allC_1 k (by omega) my h
  | 2 => exact allC_2 k (by omega) my h
  | 3 => exact allC_3 k (by omega) my h
  | 4 => exact allC_4 k (by omega) my h
  | 5 => exact allC_5 k (by omega) my h
  | 6 => exact allC_6 k (by omega) my h
  | 7 => exact allC_7 k (by omega) my h
  | 8 => exact allC_8 k (by omega) my h
  | 9 => exact allC_9 k (by omega) my h
  | 10 => exact allC_10 k (by omega) my h
  | 11 => exact allC_11 k (by omega) my h
  | 12 => exact allC_12 k (by omega) my h
  | 13 => exact allC_13 k (by omega) my h
  | 14 => exact allC_14 k (by omega) my h
  | 15 => exact allC_15 k (by omega) my h
  | j + 16 => omega
