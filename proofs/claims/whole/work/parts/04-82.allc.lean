theorem mT_lt {i : Nat} {my : aM} (h : mT i = some my) : i < 242 := by
  unfold mT at h
  cases h1 : mTl[i / 16]? with
  | none => rw [h1] at h; cases h
  | some c =>
    rw [h1] at h
    have h2 : c[i % 16]? = some my := h
    have h3 := (List.getElem?_eq_some_iff.mp h1).1
    have h4 := (List.getElem?_eq_some_iff.mp h2).1
    have e1 : mTl.length = 16 := rfl
    by_cases hq : i / 16 = 15
    · rw [hq] at h1
      have h1 : some [_, _] = some c := h1
      have h5 : c.length = 2 := by cases h1; rfl
      omega
    · omega
theorem allC_0 : ∀ k, k < 16 → ∀ my, mT (16 * 0 + k) = some my → okC (mN (16 * 0 + k)).2 my.2.2.2.1 (ini (16 * 0 + k)) 0 my.1 = true := by
  intro k hk my h
  match k, hk with
  | 0, _ => cases h; exact qX0_init
  | 1, _ => cases h; exact qX0_walk
  | 2, _ => cases h; exact qX0_findTwins
  | 3, _ => cases h; exact qX0_saying
  | 4, _ => cases h; exact qX0_hangNext
  | 5, _ => cases h; exact qX0_mayHang
  | 6, _ => cases h; exact qX0_isHanging
  | 7, _ => cases h; exact qX0_arrive
  | 8, _ => cases h; exact qX0_arrangeNearest
  | 9, _ => cases h; exact qX0_unlikeWorths
  | 10, _ => cases h; exact qX0_meaningsMet
  | 11, _ => cases h; exact qX0_meaningBit
  | 12, _ => cases h; exact qX1_init
  | 13, _ => cases h; exact qX1_clear
  | 14, _ => cases h; exact qX1_add
  | 15, _ => cases h; exact qX1_put
  | k + 16, hk => omega
theorem allC_1 : ∀ k, k < 16 → ∀ my, mT (16 * 1 + k) = some my → okC (mN (16 * 1 + k)).2 my.2.2.2.1 (ini (16 * 1 + k)) 0 my.1 = true := by
  intro k hk my h
  match k, hk with
  | 0, _ => cases h; exact qX1_remove
  | 1, _ => cases h; exact qX1_exchange
  | 2, _ => cases h; exact qX1_become
  | 3, _ => cases h; exact qX1_isSeenAt
  | 4, _ => cases h; exact qX1_pegsLike
  | 5, _ => cases h; exact qX1_dry
  | 6, _ => cases h; exact qX2_init
  | 7, _ => cases h; exact qX2_begin
  | 8, _ => cases h; exact qX2_put
  | 9, _ => cases h; exact qX2_hasRange
  | 10, _ => cases h; exact qX3_init
  | 11, _ => cases h; exact qX3_add
  | 12, _ => cases h; exact qX3_tell
  | 13, _ => cases h; exact qX3_lineItem
  | 14, _ => cases h; exact qX3_garment
  | 15, _ => cases h; exact qX3_windItem
  | k + 16, hk => omega
theorem allC_2 : ∀ k, k < 16 → ∀ my, mT (16 * 2 + k) = some my → okC (mN (16 * 2 + k)).2 my.2.2.2.1 (ini (16 * 2 + k)) 0 my.1 = true := by
  intro k hk my h
  match k, hk with
  | 0, _ => cases h; exact qX3_meaningItem
  | 1, _ => cases h; exact qX3_forgetItem
  | 2, _ => cases h; exact qX3_takeNumber
  | 3, _ => cases h; exact qX3_kindTold
  | 4, _ => cases h; exact qX3_kindName
  | 5, _ => cases h; exact qX3_isWord
  | 6, _ => cases h; exact qX3_step
  | 7, _ => cases h; exact qX3_numberHere
  | 8, _ => cases h; exact qX3_sortOf
  | 9, _ => cases h; exact qX4_init
  | 10, _ => cases h; exact qX4_become
  | 11, _ => cases h; exact qX4_garments
  | 12, _ => cases h; exact qX4_letDaysGo
  | 13, _ => cases h; exact qX4_hasNumber
  | 14, _ => cases h; exact qX4_meaningsTold
  | 15, _ => cases h; exact qX4_readAs
  | k + 16, hk => omega
theorem allC_3 : ∀ k, k < 16 → ∀ my, mT (16 * 3 + k) = some my → okC (mN (16 * 3 + k)).2 my.2.2.2.1 (ini (16 * 3 + k)) 0 my.1 = true := by
  intro k hk my h
  match k, hk with
  | 0, _ => cases h; exact qX4_leastDifference
  | 1, _ => cases h; exact qX5_init
  | 2, _ => cases h; exact qX5_begin
  | 3, _ => cases h; exact qX5_hear
  | 4, _ => cases h; exact qX5_hearGarment
  | 5, _ => cases h; exact qX6_init
  | 6, _ => cases h; exact qX6_hang
  | 7, _ => cases h; exact qX6_off
  | 8, _ => cases h; exact qX6_of
  | 9, _ => cases h; exact qX6_set
  | 10, _ => cases h; exact qX6_turn
  | 11, _ => cases h; exact qX6_as
  | 12, _ => cases h; exact qX6_swap
  | 13, _ => cases h; exact qX6_take
  | 14, _ => cases h; exact qX6_like
  | 15, _ => cases h; exact qX6_wind
  | k + 16, hk => omega
theorem allC_4 : ∀ k, k < 16 → ∀ my, mT (16 * 4 + k) = some my → okC (mN (16 * 4 + k)).2 my.2.2.2.1 (ini (16 * 4 + k)) 0 my.1 = true := by
  intro k hk my h
  match k, hk with
  | 0, _ => cases h; exact qX6_days
  | 1, _ => cases h; exact qX6_means
  | 2, _ => cases h; exact qX6_forget
  | 3, _ => cases h; exact qX6_number
  | 4, _ => cases h; exact qX6_read
  | 5, _ => cases h; exact qX6_apart
  | 6, _ => cases h; exact qX6_worth
  | 7, _ => cases h; exact qX6_worthIn
  | 8, _ => cases h; exact qX6_says
  | 9, _ => cases h; exact qX6_winds
  | 10, _ => cases h; exact qX6_lost
  | 11, _ => cases h; exact qX6_fewest
  | 12, _ => cases h; exact qX6_which
  | 13, _ => cases h; exact qX6_more
  | 14, _ => cases h; exact qX6_orders
  | 15, _ => cases h; exact qX6_most
  | k + 16, hk => omega
theorem allC_5 : ∀ k, k < 16 → ∀ my, mT (16 * 5 + k) = some my → okC (mN (16 * 5 + k)).2 my.2.2.2.1 (ini (16 * 5 + k)) 0 my.1 = true := by
  intro k hk my h
  match k, hk with
  | 0, _ => cases h; exact qX6_least
  | 1, _ => cases h; exact qX6_order
  | 2, _ => cases h; exact qX6_worths
  | 3, _ => cases h; exact qX6_can
  | 4, _ => cases h; exact qX6_join
  | 5, _ => cases h; exact qX6_same
  | 6, _ => cases h; exact qX6_best
  | 7, _ => cases h; exact qX6_feed
  | 8, _ => cases h; exact qX6_wipe
  | 9, _ => cases h; exact qX6_town
  | 10, _ => cases h; exact qX6_sheet
  | 11, _ => cases h; exact qX6_write
  | 12, _ => cases h; exact qX6_copy
  | 13, _ => cases h; exact qX6_lays
  | 14, _ => cases h; exact qX6_show
  | 15, _ => cases h; exact qX6_check
  | k + 16, hk => omega
theorem allC_6 : ∀ k, k < 16 → ∀ my, mT (16 * 6 + k) = some my → okC (mN (16 * 6 + k)).2 my.2.2.2.1 (ini (16 * 6 + k)) 0 my.1 = true := by
  intro k hk my h
  match k, hk with
  | 0, _ => cases h; exact qX6_image
  | 1, _ => cases h; exact qX6_undo
  | 2, _ => cases h; exact qX6_tear
  | 3, _ => cases h; exact qX6_count
  | 4, _ => cases h; exact qX6_status
  | 5, _ => cases h; exact qX6_finding
  | 6, _ => cases h; exact qX6_isGarment
  | 7, _ => cases h; exact qX6_sheetFinding
  | 8, _ => cases h; exact qX6_sheetAndLineFinding
  | 9, _ => cases h; exact qX6_isWithin
  | 10, _ => cases h; exact qX6_isLine
  | 11, _ => cases h; exact qX6_isKind
  | 12, _ => cases h; exact qX6_isSize
  | 13, _ => cases h; exact qX6_isWind
  | 14, _ => cases h; exact qX6_isMeaning
  | 15, _ => cases h; exact qX6_isWorth
  | k + 16, hk => omega
theorem allC_7 : ∀ k, k < 16 → ∀ my, mT (16 * 7 + k) = some my → okC (mN (16 * 7 + k)).2 my.2.2.2.1 (ini (16 * 7 + k)) 0 my.1 = true := by
  intro k hk my h
  match k, hk with
  | 0, _ => cases h; exact qX6_isSheet
  | 1, _ => cases h; exact qX6_isBits
  | 2, _ => cases h; exact qX6_isGarmentCode
  | 3, _ => cases h; exact qX6_isOfKind
  | 4, _ => cases h; exact qX6_isSeen
  | 5, _ => cases h; exact qX6_worthAfter
  | 6, _ => cases h; exact qX6_stockingsAfter
  | 7, _ => cases h; exact qX6_held
  | 8, _ => cases h; exact qX6_worthOf
  | 9, _ => cases h; exact qX6_worthBehind
  | 10, _ => cases h; exact qX6_worthJoined
  | 11, _ => cases h; exact qX6_readNow
  | 12, _ => cases h; exact qX6_readWithout
  | 13, _ => cases h; exact qX6_readWithOneMore
  | 14, _ => cases h; exact qX6_windsReadAs
  | 15, _ => cases h; exact qX6_fewestOff
  | k + 16, hk => omega
theorem allC_8 : ∀ k, k < 16 → ∀ my, mT (16 * 8 + k) = some my → okC (mN (16 * 8 + k)).2 my.2.2.2.1 (ini (16 * 8 + k)) 0 my.1 = true := by
  intro k hk my h
  match k, hk with
  | 0, _ => cases h; exact qX7_init
  | 1, _ => cases h; exact qX7_isIn
  | 2, _ => cases h; exact qX7_finds
  | 3, _ => cases h; exact qX7_becomes
  | 4, _ => cases h; exact qX7_isLine
  | 5, _ => cases h; exact qX7_isPeg
  | 6, _ => cases h; exact qX7_isMeaning
  | 7, _ => cases h; exact qX7_placeOf
  | 8, _ => cases h; exact qX7_copyRow
  | 9, _ => cases h; exact qX7_apartBy
  | 10, _ => cases h; exact qX7_hangs
  | 11, _ => cases h; exact qX7_isGarment
  | 12, _ => cases h; exact qX7_hang
  | 13, _ => cases h; exact qX7_off
  | 14, _ => cases h; exact qX7_lays
  | 15, _ => cases h; exact qX7_isSeen
  | k + 16, hk => omega
theorem allC_9 : ∀ k, k < 16 → ∀ my, mT (16 * 9 + k) = some my → okC (mN (16 * 9 + k)).2 my.2.2.2.1 (ini (16 * 9 + k)) 0 my.1 = true := by
  intro k hk my h
  match k, hk with
  | 0, _ => cases h; exact qX7_kept
  | 1, _ => cases h; exact qX7_isStocking
  | 2, _ => cases h; exact qX7_becomesBy
  | 3, _ => cases h; exact qX7_worthOfFirst
  | 4, _ => cases h; exact qX7_worthBy
  | 5, _ => cases h; exact qX7_worthAside
  | 6, _ => cases h; exact qX7_readAs
  | 7, _ => cases h; exact qX7_of
  | 8, _ => cases h; exact qX7_set
  | 9, _ => cases h; exact qX7_turn
  | 10, _ => cases h; exact qX7_isUnder
  | 11, _ => cases h; exact qX7_as
  | 12, _ => cases h; exact qX7_swap
  | 13, _ => cases h; exact qX7_take
  | 14, _ => cases h; exact qX7_hangsAside
  | 15, _ => cases h; exact qX7_like
  | k + 16, hk => omega
theorem allC_10 : ∀ k, k < 16 → ∀ my, mT (16 * 10 + k) = some my → okC (mN (16 * 10 + k)).2 my.2.2.2.1 (ini (16 * 10 + k)) 0 my.1 = true := by
  intro k hk my h
  match k, hk with
  | 0, _ => cases h; exact qX7_wind
  | 1, _ => cases h; exact qX7_garments
  | 2, _ => cases h; exact qX7_days
  | 3, _ => cases h; exact qX7_means
  | 4, _ => cases h; exact qX7_forget
  | 5, _ => cases h; exact qX7_number
  | 6, _ => cases h; exact qX7_orNone
  | 7, _ => cases h; exact qX7_read
  | 8, _ => cases h; exact qX7_apart
  | 9, _ => cases h; exact qX7_worth
  | 10, _ => cases h; exact qX7_worthIn
  | 11, _ => cases h; exact qX7_says
  | 12, _ => cases h; exact qX7_windsOf
  | 13, _ => cases h; exact qX7_winds
  | 14, _ => cases h; exact qX7_laysBut
  | 15, _ => cases h; exact qX7_lost
  | k + 16, hk => omega
theorem allC_11 : ∀ k, k < 16 → ∀ my, mT (16 * 11 + k) = some my → okC (mN (16 * 11 + k)).2 my.2.2.2.1 (ini (16 * 11 + k)) 0 my.1 = true := by
  intro k hk my h
  match k, hk with
  | 0, _ => cases h; exact qX7_manyIn
  | 1, _ => cases h; exact qX7_fewestSet
  | 2, _ => cases h; exact qX7_fewest
  | 3, _ => cases h; exact qX7_which
  | 4, _ => cases h; exact qX7_more
  | 5, _ => cases h; exact qX7_beginsOrders
  | 6, _ => cases h; exact qX7_hasNext
  | 7, _ => cases h; exact qX7_swapsOrder
  | 8, _ => cases h; exact qX7_laysOrder
  | 9, _ => cases h; exact qX7_orders
  | 10, _ => cases h; exact qX7_furthest
  | 11, _ => cases h; exact qX7_most
  | 12, _ => cases h; exact qX7_least
  | 13, _ => cases h; exact qX7_notesOrder
  | 14, _ => cases h; exact qX7_order
  | 15, _ => cases h; exact qX7_worths
  | k + 16, hk => omega
theorem allC_12 : ∀ k, k < 16 → ∀ my, mT (16 * 12 + k) = some my → okC (mN (16 * 12 + k)).2 my.2.2.2.1 (ini (16 * 12 + k)) 0 my.1 = true := by
  intro k hk my h
  match k, hk with
  | 0, _ => cases h; exact qX7_can
  | 1, _ => cases h; exact qX7_join
  | 2, _ => cases h; exact qX7_same
  | 3, _ => cases h; exact qX7_best
  | 4, _ => cases h; exact qX7_feed
  | 5, _ => cases h; exact qX7_wipe
  | 6, _ => cases h; exact qX7_isLetter
  | 7, _ => cases h; exact qX7_isDigit
  | 8, _ => cases h; exact qX7_byteAt
  | 9, _ => cases h; exact qX7_nextToken
  | 10, _ => cases h; exact qX7_has3
  | 11, _ => cases h; exact qX7_isWord
  | 12, _ => cases h; exact qX7_fails
  | 13, _ => cases h; exact qX7_isFour
  | 14, _ => cases h; exact qX7_isFive
  | 15, _ => cases h; exact qX7_isSix
  | k + 16, hk => omega
theorem allC_13 : ∀ k, k < 16 → ∀ my, mT (16 * 13 + k) = some my → okC (mN (16 * 13 + k)).2 my.2.2.2.1 (ini (16 * 13 + k)) 0 my.1 = true := by
  intro k hk my h
  match k, hk with
  | 0, _ => cases h; exact qX7_kindHere
  | 1, _ => cases h; exact qX7_isNumber
  | 2, _ => cases h; exact qX7_garmentHere
  | 3, _ => cases h; exact qX7_lineHere
  | 4, _ => cases h; exact qX7_windHere
  | 5, _ => cases h; exact qX7_meaningHere
  | 6, _ => cases h; exact qX7_forgetHere
  | 7, _ => cases h; exact qX7_itemHere
  | 8, _ => cases h; exact qX7_town
  | 9, _ => cases h; exact qX7_isSheet
  | 10, _ => cases h; exact qX7_narrow
  | 11, _ => cases h; exact qX7_sheet
  | 12, _ => cases h; exact qX7_write
  | 13, _ => cases h; exact qX7_copy
  | 14, _ => cases h; exact qX7_wants
  | 15, _ => cases h; exact qX7_lays_
  | k + 16, hk => omega
theorem allC_14 : ∀ k, k < 16 → ∀ my, mT (16 * 14 + k) = some my → okC (mN (16 * 14 + k)).2 my.2.2.2.1 (ini (16 * 14 + k)) 0 my.1 = true := by
  intro k hk my h
  match k, hk with
  | 0, _ => cases h; exact qX7_show
  | 1, _ => cases h; exact qX7_check
  | 2, _ => cases h; exact qX7_image
  | 3, _ => cases h; exact qX7_undo
  | 4, _ => cases h; exact qX7_tear
  | 5, _ => cases h; exact qX7_count
  | 6, _ => cases h; exact qX7_status
  | 7, _ => cases h; exact qJ6_bitCount_0f7a4
  | 8, _ => cases h; exact qJ13_bitCount_95d88
  | 9, _ => cases h; exact qJ0_length_8abf5
  | 10, _ => cases h; exact qJ0_charAt_5068e
  | 11, _ => cases h; exact qJ0_coder_7d493
  | 12, _ => cases h; exact qJ0_isLatin1_aae02
  | 13, _ => cases h; exact qJ0_checkIndex_df160
  | 14, _ => cases h; exact qJ1_charAt_3b067
  | 15, _ => cases h; exact qJ7_fill_d0a16
  | k + 16, hk => omega
theorem allC_15 : ∀ k, k < 2 → ∀ my, mT (16 * 15 + k) = some my → okC (mN (16 * 15 + k)).2 my.2.2.2.1 (ini (16 * 15 + k)) 0 my.1 = true := by
  intro k hk my h
  match k, hk with
  | 0, _ => cases h; exact qJ7_fill_53178
  | 1, _ => cases h; exact qJ3_checkIndex_8e157
  | k + 2, hk => omega
theorem allC : ∀ i my, mT i = some my → okC (mN i).2 my.2.2.2.1 (ini i) 0 my.1 = true := by
  intro i my h
  have hi : i < 242 := mT_lt h
  obtain ⟨j, k, hk, rfl⟩ : ∃ j k, k < 16 ∧ i = 16 * j + k := ⟨i / 16, i % 16, Nat.mod_lt _ (by omega), by omega⟩
  match j with
  | 0 => exact allC_0 k (by omega) my h
  | 1 => exact allC_1 k (by omega) my h
  | 2 => exact allC_2 k (by omega) my h
  | 3 => exact allC_3 k (by omega) my h
  | 4 => exact allC_4 k (by omega) my h
  | 5 => exact allC_5 k (by omega) my h
  | 6 => exact allC_6 k (by omega) my h
  | 7 => exact allC_7 k (by omega) my h
  | 8 => exact allC_8 k (by omega) my h
  | 9 => exact allC_9 k (by omega) my h
  | 10 => exact allC_10 k (by omega) my h
  | 11 => exact allC_11 k (by omega) my h
  | 12 => exact allC_12 k (by omega) my h
  | 13 => exact allC_13 k (by omega) my h
  | 14 => exact allC_14 k (by omega) my h
  | 15 => exact allC_15 k (by omega) my h
  | j + 16 => omega
