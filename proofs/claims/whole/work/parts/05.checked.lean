theorem qX0_init : okC cX0_init 0 true 0 kX0_init.1 = true := by decide +kernel
theorem qX0_walk : okC cX0_walk 0 false 0 kX0_walk.1 = true := by decide +kernel
theorem qX0_findTwins : okC cX0_findTwins 0 false 0 kX0_findTwins.1 = true := by decide +kernel
theorem qX0_saying : okC cX0_saying 0 false 0 kX0_saying.1 = true := by decide +kernel
theorem qX0_hangNext : okC cX0_hangNext 0 false 0 kX0_hangNext.1 = true := by decide +kernel
theorem qX0_mayHang : okC cX0_mayHang 0 false 0 kX0_mayHang.1 = true := by decide +kernel
theorem qX0_isHanging : okC cX0_isHanging 0 false 0 kX0_isHanging.1 = true := by decide +kernel
theorem qX0_arrive : okC cX0_arrive 0 false 0 kX0_arrive.1 = true := by decide +kernel
theorem qX0_arrangeNearest : okC cX0_arrangeNearest 0 false 0 kX0_arrangeNearest.1 = true := by decide +kernel
theorem qX0_unlikeWorths : okC cX0_unlikeWorths 0 false 0 kX0_unlikeWorths.1 = true := by decide +kernel
theorem qX0_meaningsMet : okC cX0_meaningsMet 0 false 0 kX0_meaningsMet.1 = true := by decide +kernel
theorem qX0_meaningBit : okC cX0_meaningBit 0 false 0 kX0_meaningBit.1 = true := by decide +kernel
theorem qX1_init : okC cX1_init 1 true 0 kX1_init.1 = true := by decide +kernel
theorem qX1_clear : okC cX1_clear 1 false 0 kX1_clear.1 = true := by decide +kernel
theorem qX1_add : okC cX1_add 1 false 0 kX1_add.1 = true := by decide +kernel
theorem qX1_put : okC cX1_put 1 false 0 kX1_put.1 = true := by decide +kernel
theorem qX1_remove : okC cX1_remove 1 false 0 kX1_remove.1 = true := by decide +kernel
theorem qX1_exchange : okC cX1_exchange 1 false 0 kX1_exchange.1 = true := by decide +kernel
theorem qX1_become : okC cX1_become 1 false 0 kX1_become.1 = true := by decide +kernel
theorem qX1_isSeenAt : okC cX1_isSeenAt 1 false 0 kX1_isSeenAt.1 = true := by decide +kernel
theorem qX1_pegsLike : okC cX1_pegsLike 1 false 0 kX1_pegsLike.1 = true := by decide +kernel
theorem qX1_dry : okC cX1_dry 1 false 0 kX1_dry.1 = true := by decide +kernel
theorem qX2_init : okC cX2_init 2 true 0 kX2_init.1 = true := by decide +kernel
theorem qX2_begin : okC cX2_begin 2 false 0 kX2_begin.1 = true := by decide +kernel
theorem qX2_put : okC cX2_put 2 false 0 kX2_put.1 = true := by decide +kernel
theorem qX2_hasRange : okC cX2_hasRange 2 false 0 kX2_hasRange.1 = true := by decide +kernel
theorem qX3_init : okC cX3_init 3 true 0 kX3_init.1 = true := by decide +kernel
theorem qX3_add : okC cX3_add 3 false 0 kX3_add.1 = true := by decide +kernel
theorem qX3_tell : okC cX3_tell 3 false 0 kX3_tell.1 = true := by decide +kernel
theorem qX3_lineItem : okC cX3_lineItem 3 false 0 kX3_lineItem.1 = true := by decide +kernel
theorem qX3_garment : okC cX3_garment 3 false 0 kX3_garment.1 = true := by decide +kernel
theorem qX3_windItem : okC cX3_windItem 3 false 0 kX3_windItem.1 = true := by decide +kernel
theorem qX3_meaningItem : okC cX3_meaningItem 3 false 0 kX3_meaningItem.1 = true := by decide +kernel
theorem qX3_forgetItem : okC cX3_forgetItem 3 false 0 kX3_forgetItem.1 = true := by decide +kernel
theorem qX3_takeNumber : okC cX3_takeNumber 3 false 0 kX3_takeNumber.1 = true := by decide +kernel
theorem qX3_kindTold : okC cX3_kindTold 3 false 0 kX3_kindTold.1 = true := by decide +kernel
theorem qX3_kindName : okC cX3_kindName 3 false 0 kX3_kindName.1 = true := by decide +kernel
theorem qX3_isWord : okC cX3_isWord 3 false 0 kX3_isWord.1 = true := by decide +kernel
theorem qX3_step : okC cX3_step 3 false 0 kX3_step.1 = true := by decide +kernel
theorem qX3_numberHere : okC cX3_numberHere 3 false 0 kX3_numberHere.1 = true := by decide +kernel
theorem qX3_sortOf : okC cX3_sortOf 3 false 0 kX3_sortOf.1 = true := by decide +kernel
theorem qX4_init : okC cX4_init 4 true 0 kX4_init.1 = true := by decide +kernel
theorem qX4_become : okC cX4_become 4 false 0 kX4_become.1 = true := by decide +kernel
theorem qX4_garments : okC cX4_garments 4 false 0 kX4_garments.1 = true := by decide +kernel
theorem qX4_letDaysGo : okC cX4_letDaysGo 4 false 0 kX4_letDaysGo.1 = true := by decide +kernel
theorem qX4_hasNumber : okC cX4_hasNumber 4 false 0 kX4_hasNumber.1 = true := by decide +kernel
theorem qX4_meaningsTold : okC cX4_meaningsTold 4 false 0 kX4_meaningsTold.1 = true := by decide +kernel
theorem qX4_readAs : okC cX4_readAs 4 false 0 kX4_readAs.1 = true := by decide +kernel
theorem qX4_leastDifference : okC cX4_leastDifference 4 false 0 kX4_leastDifference.1 = true := by decide +kernel
theorem qX5_init : okC cX5_init 5 true 0 kX5_init.1 = true := by decide +kernel
theorem qX5_begin : okC cX5_begin 5 false 0 kX5_begin.1 = true := by decide +kernel
theorem qX5_hear : okC cX5_hear 5 false 0 kX5_hear.1 = true := by decide +kernel
theorem qX5_hearGarment : okC cX5_hearGarment 5 false 0 kX5_hearGarment.1 = true := by decide +kernel
theorem qX6_init : okC cX6_init 6 true 0 kX6_init.1 = true := by decide +kernel
theorem qX6_hang : okC cX6_hang 6 false 0 kX6_hang.1 = true := by decide +kernel
theorem qX6_off : okC cX6_off 6 false 0 kX6_off.1 = true := by decide +kernel
theorem qX6_of : okC cX6_of 6 false 0 kX6_of.1 = true := by decide +kernel
theorem qX6_set : okC cX6_set 6 false 0 kX6_set.1 = true := by decide +kernel
theorem qX6_turn : okC cX6_turn 6 false 0 kX6_turn.1 = true := by decide +kernel
theorem qX6_as : okC cX6_as 6 false 0 kX6_as.1 = true := by decide +kernel
theorem qX6_swap : okC cX6_swap 6 false 0 kX6_swap.1 = true := by decide +kernel
theorem qX6_take : okC cX6_take 6 false 0 kX6_take.1 = true := by decide +kernel
theorem qX6_like : okC cX6_like 6 false 0 kX6_like.1 = true := by decide +kernel
theorem qX6_wind : okC cX6_wind 6 false 0 kX6_wind.1 = true := by decide +kernel
theorem qX6_days : okC cX6_days 6 false 0 kX6_days.1 = true := by decide +kernel
theorem qX6_means : okC cX6_means 6 false 0 kX6_means.1 = true := by decide +kernel
theorem qX6_forget : okC cX6_forget 6 false 0 kX6_forget.1 = true := by decide +kernel
theorem qX6_number : okC cX6_number 6 false 0 kX6_number.1 = true := by decide +kernel
theorem qX6_read : okC cX6_read 6 false 0 kX6_read.1 = true := by decide +kernel
theorem qX6_apart : okC cX6_apart 6 false 0 kX6_apart.1 = true := by decide +kernel
theorem qX6_worth : okC cX6_worth 6 false 0 kX6_worth.1 = true := by decide +kernel
theorem qX6_worthIn : okC cX6_worthIn 6 false 0 kX6_worthIn.1 = true := by decide +kernel
theorem qX6_says : okC cX6_says 6 false 0 kX6_says.1 = true := by decide +kernel
theorem qX6_winds : okC cX6_winds 6 false 0 kX6_winds.1 = true := by decide +kernel
theorem qX6_lost : okC cX6_lost 6 false 0 kX6_lost.1 = true := by decide +kernel
theorem qX6_fewest : okC cX6_fewest 6 false 0 kX6_fewest.1 = true := by decide +kernel
theorem qX6_which : okC cX6_which 6 false 0 kX6_which.1 = true := by decide +kernel
theorem qX6_more : okC cX6_more 6 false 0 kX6_more.1 = true := by decide +kernel
theorem qX6_orders : okC cX6_orders 6 false 0 kX6_orders.1 = true := by decide +kernel
theorem qX6_most : okC cX6_most 6 false 0 kX6_most.1 = true := by decide +kernel
theorem qX6_least : okC cX6_least 6 false 0 kX6_least.1 = true := by decide +kernel
theorem qX6_order : okC cX6_order 6 false 0 kX6_order.1 = true := by decide +kernel
theorem qX6_worths : okC cX6_worths 6 false 0 kX6_worths.1 = true := by decide +kernel
theorem qX6_can : okC cX6_can 6 false 0 kX6_can.1 = true := by decide +kernel
theorem qX6_join : okC cX6_join 6 false 0 kX6_join.1 = true := by decide +kernel
theorem qX6_same : okC cX6_same 6 false 0 kX6_same.1 = true := by decide +kernel
theorem qX6_best : okC cX6_best 6 false 0 kX6_best.1 = true := by decide +kernel
theorem qX6_feed : okC cX6_feed 6 false 0 kX6_feed.1 = true := by decide +kernel
theorem qX6_wipe : okC cX6_wipe 6 false 0 kX6_wipe.1 = true := by decide +kernel
theorem qX6_town : okC cX6_town 6 false 0 kX6_town.1 = true := by decide +kernel
theorem qX6_sheet : okC cX6_sheet 6 false 0 kX6_sheet.1 = true := by decide +kernel
theorem qX6_write : okC cX6_write 6 false 0 kX6_write.1 = true := by decide +kernel
theorem qX6_copy : okC cX6_copy 6 false 0 kX6_copy.1 = true := by decide +kernel
theorem qX6_lays : okC cX6_lays 6 false 0 kX6_lays.1 = true := by decide +kernel
theorem qX6_show : okC cX6_show 6 false 0 kX6_show.1 = true := by decide +kernel
theorem qX6_check : okC cX6_check 6 false 0 kX6_check.1 = true := by decide +kernel
theorem qX6_image : okC cX6_image 6 false 0 kX6_image.1 = true := by decide +kernel
theorem qX6_undo : okC cX6_undo 6 false 0 kX6_undo.1 = true := by decide +kernel
theorem qX6_tear : okC cX6_tear 6 false 0 kX6_tear.1 = true := by decide +kernel
theorem qX6_count : okC cX6_count 6 false 0 kX6_count.1 = true := by decide +kernel
theorem qX6_status : okC cX6_status 6 false 0 kX6_status.1 = true := by decide +kernel
theorem qX6_finding : okC cX6_finding 6 false 0 kX6_finding.1 = true := by decide +kernel
theorem qX6_isGarment : okC cX6_isGarment 6 false 0 kX6_isGarment.1 = true := by decide +kernel
theorem qX6_sheetFinding : okC cX6_sheetFinding 6 false 0 kX6_sheetFinding.1 = true := by decide +kernel
theorem qX6_sheetAndLineFinding : okC cX6_sheetAndLineFinding 6 false 0 kX6_sheetAndLineFinding.1 = true := by decide +kernel
theorem qX6_isWithin : okC cX6_isWithin 6 false 0 kX6_isWithin.1 = true := by decide +kernel
theorem qX6_isLine : okC cX6_isLine 6 false 0 kX6_isLine.1 = true := by decide +kernel
theorem qX6_isKind : okC cX6_isKind 6 false 0 kX6_isKind.1 = true := by decide +kernel
theorem qX6_isSize : okC cX6_isSize 6 false 0 kX6_isSize.1 = true := by decide +kernel
theorem qX6_isWind : okC cX6_isWind 6 false 0 kX6_isWind.1 = true := by decide +kernel
theorem qX6_isMeaning : okC cX6_isMeaning 6 false 0 kX6_isMeaning.1 = true := by decide +kernel
theorem qX6_isWorth : okC cX6_isWorth 6 false 0 kX6_isWorth.1 = true := by decide +kernel
theorem qX6_isSheet : okC cX6_isSheet 6 false 0 kX6_isSheet.1 = true := by decide +kernel
theorem qX6_isBits : okC cX6_isBits 6 false 0 kX6_isBits.1 = true := by decide +kernel
theorem qX6_isGarmentCode : okC cX6_isGarmentCode 6 false 0 kX6_isGarmentCode.1 = true := by decide +kernel
theorem qX6_isOfKind : okC cX6_isOfKind 6 false 0 kX6_isOfKind.1 = true := by decide +kernel
theorem qX6_isSeen : okC cX6_isSeen 6 false 0 kX6_isSeen.1 = true := by decide +kernel
theorem qX6_worthAfter : okC cX6_worthAfter 6 false 0 kX6_worthAfter.1 = true := by decide +kernel
theorem qX6_stockingsAfter : okC cX6_stockingsAfter 6 false 0 kX6_stockingsAfter.1 = true := by decide +kernel
theorem qX6_held : okC cX6_held 6 false 0 kX6_held.1 = true := by decide +kernel
theorem qX6_worthOf : okC cX6_worthOf 6 false 0 kX6_worthOf.1 = true := by decide +kernel
theorem qX6_worthBehind : okC cX6_worthBehind 6 false 0 kX6_worthBehind.1 = true := by decide +kernel
theorem qX6_worthJoined : okC cX6_worthJoined 6 false 0 kX6_worthJoined.1 = true := by decide +kernel
theorem qX6_readNow : okC cX6_readNow 6 false 0 kX6_readNow.1 = true := by decide +kernel
theorem qX6_readWithout : okC cX6_readWithout 6 false 0 kX6_readWithout.1 = true := by decide +kernel
theorem qX6_readWithOneMore : okC cX6_readWithOneMore 6 false 0 kX6_readWithOneMore.1 = true := by decide +kernel
theorem qX6_windsReadAs : okC cX6_windsReadAs 6 false 0 kX6_windsReadAs.1 = true := by decide +kernel
theorem qX6_fewestOff : okC cX6_fewestOff 6 false 0 kX6_fewestOff.1 = true := by decide +kernel
theorem qX7_init : okC cX7_init 7 true 0 kX7_init.1 = true := by decide +kernel
theorem qX7_isIn : okC cX7_isIn 7 false 0 kX7_isIn.1 = true := by decide +kernel
theorem qX7_finds : okC cX7_finds 7 false 0 kX7_finds.1 = true := by decide +kernel
theorem qX7_becomes : okC cX7_becomes 7 false 0 kX7_becomes.1 = true := by decide +kernel
theorem qX7_isLine : okC cX7_isLine 7 false 0 kX7_isLine.1 = true := by decide +kernel
theorem qX7_isPeg : okC cX7_isPeg 7 false 0 kX7_isPeg.1 = true := by decide +kernel
theorem qX7_isMeaning : okC cX7_isMeaning 7 false 0 kX7_isMeaning.1 = true := by decide +kernel
theorem qX7_placeOf : okC cX7_placeOf 7 false 0 kX7_placeOf.1 = true := by decide +kernel
theorem qX7_copyRow : okC cX7_copyRow 7 false 0 kX7_copyRow.1 = true := by decide +kernel
theorem qX7_apartBy : okC cX7_apartBy 7 false 0 kX7_apartBy.1 = true := by decide +kernel
theorem qX7_hangs : okC cX7_hangs 7 false 0 kX7_hangs.1 = true := by decide +kernel
theorem qX7_isGarment : okC cX7_isGarment 7 false 0 kX7_isGarment.1 = true := by decide +kernel
theorem qX7_hang : okC cX7_hang 7 false 0 kX7_hang.1 = true := by decide +kernel
theorem qX7_off : okC cX7_off 7 false 0 kX7_off.1 = true := by decide +kernel
theorem qX7_lays : okC cX7_lays 7 false 0 kX7_lays.1 = true := by decide +kernel
theorem qX7_isSeen : okC cX7_isSeen 7 false 0 kX7_isSeen.1 = true := by decide +kernel
theorem qX7_kept : okC cX7_kept 7 false 0 kX7_kept.1 = true := by decide +kernel
theorem qX7_isStocking : okC cX7_isStocking 7 false 0 kX7_isStocking.1 = true := by decide +kernel
theorem qX7_becomesBy : okC cX7_becomesBy 7 false 0 kX7_becomesBy.1 = true := by decide +kernel
theorem qX7_worthOfFirst : okC cX7_worthOfFirst 7 false 0 kX7_worthOfFirst.1 = true := by decide +kernel
theorem qX7_worthBy : okC cX7_worthBy 7 false 0 kX7_worthBy.1 = true := by decide +kernel
theorem qX7_worthAside : okC cX7_worthAside 7 false 0 kX7_worthAside.1 = true := by decide +kernel
theorem qX7_readAs : okC cX7_readAs 7 false 0 kX7_readAs.1 = true := by decide +kernel
theorem qX7_of : okC cX7_of 7 false 0 kX7_of.1 = true := by decide +kernel
theorem qX7_set : okC cX7_set 7 false 0 kX7_set.1 = true := by decide +kernel
theorem qX7_turn : okC cX7_turn 7 false 0 kX7_turn.1 = true := by decide +kernel
theorem qX7_isUnder : okC cX7_isUnder 7 false 0 kX7_isUnder.1 = true := by decide +kernel
theorem qX7_as : okC cX7_as 7 false 0 kX7_as.1 = true := by decide +kernel
theorem qX7_swap : okC cX7_swap 7 false 0 kX7_swap.1 = true := by decide +kernel
theorem qX7_take : okC cX7_take 7 false 0 kX7_take.1 = true := by decide +kernel
theorem qX7_hangsAside : okC cX7_hangsAside 7 false 0 kX7_hangsAside.1 = true := by decide +kernel
theorem qX7_like : okC cX7_like 7 false 0 kX7_like.1 = true := by decide +kernel
theorem qX7_wind : okC cX7_wind 7 false 0 kX7_wind.1 = true := by decide +kernel
theorem qX7_garments : okC cX7_garments 7 false 0 kX7_garments.1 = true := by decide +kernel
theorem qX7_days : okC cX7_days 7 false 0 kX7_days.1 = true := by decide +kernel
theorem qX7_means : okC cX7_means 7 false 0 kX7_means.1 = true := by decide +kernel
theorem qX7_forget : okC cX7_forget 7 false 0 kX7_forget.1 = true := by decide +kernel
theorem qX7_number : okC cX7_number 7 false 0 kX7_number.1 = true := by decide +kernel
theorem qX7_orNone : okC cX7_orNone 7 false 0 kX7_orNone.1 = true := by decide +kernel
theorem qX7_read : okC cX7_read 7 false 0 kX7_read.1 = true := by decide +kernel
theorem qX7_apart : okC cX7_apart 7 false 0 kX7_apart.1 = true := by decide +kernel
theorem qX7_worth : okC cX7_worth 7 false 0 kX7_worth.1 = true := by decide +kernel
theorem qX7_worthIn : okC cX7_worthIn 7 false 0 kX7_worthIn.1 = true := by decide +kernel
theorem qX7_says : okC cX7_says 7 false 0 kX7_says.1 = true := by decide +kernel
theorem qX7_windsOf : okC cX7_windsOf 7 false 0 kX7_windsOf.1 = true := by decide +kernel
theorem qX7_winds : okC cX7_winds 7 false 0 kX7_winds.1 = true := by decide +kernel
theorem qX7_laysBut : okC cX7_laysBut 7 false 0 kX7_laysBut.1 = true := by decide +kernel
theorem qX7_lost : okC cX7_lost 7 false 0 kX7_lost.1 = true := by decide +kernel
theorem qX7_manyIn : okC cX7_manyIn 7 false 0 kX7_manyIn.1 = true := by decide +kernel
theorem qX7_fewestSet : okC cX7_fewestSet 7 false 0 kX7_fewestSet.1 = true := by decide +kernel
theorem qX7_fewest : okC cX7_fewest 7 false 0 kX7_fewest.1 = true := by decide +kernel
theorem qX7_which : okC cX7_which 7 false 0 kX7_which.1 = true := by decide +kernel
theorem qX7_more : okC cX7_more 7 false 0 kX7_more.1 = true := by decide +kernel
theorem qX7_beginsOrders : okC cX7_beginsOrders 7 false 0 kX7_beginsOrders.1 = true := by decide +kernel
theorem qX7_hasNext : okC cX7_hasNext 7 false 0 kX7_hasNext.1 = true := by decide +kernel
theorem qX7_swapsOrder : okC cX7_swapsOrder 7 false 0 kX7_swapsOrder.1 = true := by decide +kernel
theorem qX7_laysOrder : okC cX7_laysOrder 7 false 0 kX7_laysOrder.1 = true := by decide +kernel
theorem qX7_orders : okC cX7_orders 7 false 0 kX7_orders.1 = true := by decide +kernel
theorem qX7_furthest : okC cX7_furthest 7 false 0 kX7_furthest.1 = true := by decide +kernel
theorem qX7_most : okC cX7_most 7 false 0 kX7_most.1 = true := by decide +kernel
theorem qX7_least : okC cX7_least 7 false 0 kX7_least.1 = true := by decide +kernel
theorem qX7_notesOrder : okC cX7_notesOrder 7 false 0 kX7_notesOrder.1 = true := by decide +kernel
theorem qX7_order : okC cX7_order 7 false 0 kX7_order.1 = true := by decide +kernel
theorem qX7_worths : okC cX7_worths 7 false 0 kX7_worths.1 = true := by decide +kernel
theorem qX7_can : okC cX7_can 7 false 0 kX7_can.1 = true := by decide +kernel
theorem qX7_join : okC cX7_join 7 false 0 kX7_join.1 = true := by decide +kernel
theorem qX7_same : okC cX7_same 7 false 0 kX7_same.1 = true := by decide +kernel
theorem qX7_best : okC cX7_best 7 false 0 kX7_best.1 = true := by decide +kernel
theorem qX7_feed : okC cX7_feed 7 false 0 kX7_feed.1 = true := by decide +kernel
theorem qX7_wipe : okC cX7_wipe 7 false 0 kX7_wipe.1 = true := by decide +kernel
theorem qX7_isLetter : okC cX7_isLetter 7 false 0 kX7_isLetter.1 = true := by decide +kernel
theorem qX7_isDigit : okC cX7_isDigit 7 false 0 kX7_isDigit.1 = true := by decide +kernel
theorem qX7_byteAt : okC cX7_byteAt 7 false 0 kX7_byteAt.1 = true := by decide +kernel
theorem qX7_nextToken : okC cX7_nextToken 7 false 0 kX7_nextToken.1 = true := by decide +kernel
theorem qX7_has3 : okC cX7_has3 7 false 0 kX7_has3.1 = true := by decide +kernel
theorem qX7_isWord : okC cX7_isWord 7 false 0 kX7_isWord.1 = true := by decide +kernel
theorem qX7_fails : okC cX7_fails 7 false 0 kX7_fails.1 = true := by decide +kernel
theorem qX7_isFour : okC cX7_isFour 7 false 0 kX7_isFour.1 = true := by decide +kernel
theorem qX7_isFive : okC cX7_isFive 7 false 0 kX7_isFive.1 = true := by decide +kernel
theorem qX7_isSix : okC cX7_isSix 7 false 0 kX7_isSix.1 = true := by decide +kernel
theorem qX7_kindHere : okC cX7_kindHere 7 false 0 kX7_kindHere.1 = true := by decide +kernel
theorem qX7_isNumber : okC cX7_isNumber 7 false 0 kX7_isNumber.1 = true := by decide +kernel
theorem qX7_garmentHere : okC cX7_garmentHere 7 false 0 kX7_garmentHere.1 = true := by decide +kernel
theorem qX7_lineHere : okC cX7_lineHere 7 false 0 kX7_lineHere.1 = true := by decide +kernel
theorem qX7_windHere : okC cX7_windHere 7 false 0 kX7_windHere.1 = true := by decide +kernel
theorem qX7_meaningHere : okC cX7_meaningHere 7 false 0 kX7_meaningHere.1 = true := by decide +kernel
theorem qX7_forgetHere : okC cX7_forgetHere 7 false 0 kX7_forgetHere.1 = true := by decide +kernel
theorem qX7_itemHere : okC cX7_itemHere 7 false 0 kX7_itemHere.1 = true := by decide +kernel
theorem qX7_town : okC cX7_town 7 false 0 kX7_town.1 = true := by decide +kernel
theorem qX7_isSheet : okC cX7_isSheet 7 false 0 kX7_isSheet.1 = true := by decide +kernel
theorem qX7_narrow : okC cX7_narrow 7 false 0 kX7_narrow.1 = true := by decide +kernel
theorem qX7_sheet : okC cX7_sheet 7 false 0 kX7_sheet.1 = true := by decide +kernel
theorem qX7_write : okC cX7_write 7 false 0 kX7_write.1 = true := by decide +kernel
theorem qX7_copy : okC cX7_copy 7 false 0 kX7_copy.1 = true := by decide +kernel
theorem qX7_wants : okC cX7_wants 7 false 0 kX7_wants.1 = true := by decide +kernel
theorem qX7_lays_ : okC cX7_lays_ 7 false 0 kX7_lays_.1 = true := by decide +kernel
theorem qX7_show : okC cX7_show 7 false 0 kX7_show.1 = true := by decide +kernel
theorem qX7_check : okC cX7_check 7 false 0 kX7_check.1 = true := by decide +kernel
theorem qX7_image : okC cX7_image 7 false 0 kX7_image.1 = true := by decide +kernel
theorem qX7_undo : okC cX7_undo 7 false 0 kX7_undo.1 = true := by decide +kernel
theorem qX7_tear : okC cX7_tear 7 false 0 kX7_tear.1 = true := by decide +kernel
theorem qX7_count : okC cX7_count 7 false 0 kX7_count.1 = true := by decide +kernel
theorem qX7_status : okC cX7_status 7 false 0 kX7_status.1 = true := by decide +kernel
theorem qJ6_bitCount_0f7a4 : okC cJ6_bitCount_0f7a4 9 false 0 kJ6_bitCount_0f7a4.1 = true := by decide +kernel
theorem qJ13_bitCount_95d88 : okC cJ13_bitCount_95d88 10 false 0 kJ13_bitCount_95d88.1 = true := by decide +kernel
theorem qJ9_abs_0f7a4 : okC cJ9_abs_0f7a4 11 false 0 kJ9_abs_0f7a4.1 = true := by decide +kernel
theorem qJ9_max_7cf53 : okC cJ9_max_7cf53 11 false 0 kJ9_max_7cf53.1 = true := by decide +kernel
theorem qJ9_min_7cf53 : okC cJ9_min_7cf53 11 false 0 kJ9_min_7cf53.1 = true := by decide +kernel
theorem qJ0_length_8abf5 : okC cJ0_length_8abf5 12 false 0 kJ0_length_8abf5.1 = true := by decide +kernel
theorem qJ0_charAt_5068e : okC cJ0_charAt_5068e 12 false 0 kJ0_charAt_5068e.1 = true := by decide +kernel
theorem qJ0_coder_7d493 : okC cJ0_coder_7d493 12 false 0 kJ0_coder_7d493.1 = true := by decide +kernel
theorem qJ0_isLatin1_aae02 : okC cJ0_isLatin1_aae02 12 false 0 kJ0_isLatin1_aae02.1 = true := by decide +kernel
theorem qJ0_checkIndex_df160 : okC cJ0_checkIndex_df160 12 false 0 kJ0_checkIndex_df160.1 = true := by decide +kernel
theorem qJ1_charAt_3b067 : okC cJ1_charAt_3b067 13 false 0 kJ1_charAt_3b067.1 = true := by decide +kernel
theorem qJ7_fill_d0a16 : okC cJ7_fill_d0a16 14 false 0 kJ7_fill_d0a16.1 = true := by decide +kernel
theorem qJ7_fill_53178 : okC cJ7_fill_53178 14 false 0 kJ7_fill_53178.1 = true := by decide +kernel
theorem qJ3_checkIndex_8e157 : okC cJ3_checkIndex_8e157 15 false 0 kJ3_checkIndex_8e157.1 = true := by decide +kernel
theorem allC_0 : ∀ k, k < 16 → ∀ my, mT (16 * 0 + k) = some my → okC (mN (16 * 0 + k)).2 my.2.2.2.1 (ini (16 * 0 + k)) 0 my.1 = true := by
  intro k hk my h
  match k, hk with
  | 0, _ => cases h; exact qX0_init
  | 1, _ => cases h; exact qX0_walk
  | 2, _ => cases h; exact qX0_findTwins
  | 3, _ => cases h; exact qX0_saying
  | 4, _ => cases h; exact qX0_hangNext
  | 5, _ => cases h; exact qX0_mayHang
  | 6, _ => cases h; exact qX0_isHanging
  | 7, _ => cases h; exact qX0_arrive
  | 8, _ => cases h; exact qX0_arrangeNearest
  | 9, _ => cases h; exact qX0_unlikeWorths
  | 10, _ => cases h; exact qX0_meaningsMet
  | 11, _ => cases h; exact qX0_meaningBit
  | 12, _ => cases h; exact qX1_init
  | 13, _ => cases h; exact qX1_clear
  | 14, _ => cases h; exact qX1_add
  | 15, _ => cases h; exact qX1_put
theorem allC_1 : ∀ k, k < 16 → ∀ my, mT (16 * 1 + k) = some my → okC (mN (16 * 1 + k)).2 my.2.2.2.1 (ini (16 * 1 + k)) 0 my.1 = true := by
  intro k hk my h
  match k, hk with
  | 0, _ => cases h; exact qX1_remove
  | 1, _ => cases h; exact qX1_exchange
  | 2, _ => cases h; exact qX1_become
  | 3, _ => cases h; exact qX1_isSeenAt
  | 4, _ => cases h; exact qX1_pegsLike
  | 5, _ => cases h; exact qX1_dry
  | 6, _ => cases h; exact qX2_init
  | 7, _ => cases h; exact qX2_begin
  | 8, _ => cases h; exact qX2_put
  | 9, _ => cases h; exact qX2_hasRange
  | 10, _ => cases h; exact qX3_init
  | 11, _ => cases h; exact qX3_add
  | 12, _ => cases h; exact qX3_tell
  | 13, _ => cases h; exact qX3_lineItem
  | 14, _ => cases h; exact qX3_garment
  | 15, _ => cases h; exact qX3_windItem
theorem allC_2 : ∀ k, k < 16 → ∀ my, mT (16 * 2 + k) = some my → okC (mN (16 * 2 + k)).2 my.2.2.2.1 (ini (16 * 2 + k)) 0 my.1 = true := by
  intro k hk my h
  match k, hk with
  | 0, _ => cases h; exact qX3_meaningItem
  | 1, _ => cases h; exact qX3_forgetItem
  | 2, _ => cases h; exact qX3_takeNumber
  | 3, _ => cases h; exact qX3_kindTold
  | 4, _ => cases h; exact qX3_kindName
  | 5, _ => cases h; exact qX3_isWord
  | 6, _ => cases h; exact qX3_step
  | 7, _ => cases h; exact qX3_numberHere
  | 8, _ => cases h; exact qX3_sortOf
  | 9, _ => cases h; exact qX4_init
  | 10, _ => cases h; exact qX4_become
  | 11, _ => cases h; exact qX4_garments
  | 12, _ => cases h; exact qX4_letDaysGo
  | 13, _ => cases h; exact qX4_hasNumber
  | 14, _ => cases h; exact qX4_meaningsTold
  | 15, _ => cases h; exact qX4_readAs
theorem allC_3 : ∀ k, k < 16 → ∀ my, mT (16 * 3 + k) = some my → okC (mN (16 * 3 + k)).2 my.2.2.2.1 (ini (16 * 3 + k)) 0 my.1 = true := by
  intro k hk my h
  match k, hk with
  | 0, _ => cases h; exact qX4_leastDifference
  | 1, _ => cases h; exact qX5_init
  | 2, _ => cases h; exact qX5_begin
  | 3, _ => cases h; exact qX5_hear
  | 4, _ => cases h; exact qX5_hearGarment
  | 5, _ => cases h; exact qX6_init
  | 6, _ => cases h; exact qX6_hang
  | 7, _ => cases h; exact qX6_off
  | 8, _ => cases h; exact qX6_of
  | 9, _ => cases h; exact qX6_set
  | 10, _ => cases h; exact qX6_turn
  | 11, _ => cases h; exact qX6_as
  | 12, _ => cases h; exact qX6_swap
  | 13, _ => cases h; exact qX6_take
  | 14, _ => cases h; exact qX6_like
  | 15, _ => cases h; exact qX6_wind
theorem allC_4 : ∀ k, k < 16 → ∀ my, mT (16 * 4 + k) = some my → okC (mN (16 * 4 + k)).2 my.2.2.2.1 (ini (16 * 4 + k)) 0 my.1 = true := by
  intro k hk my h
  match k, hk with
  | 0, _ => cases h; exact qX6_days
  | 1, _ => cases h; exact qX6_means
  | 2, _ => cases h; exact qX6_forget
  | 3, _ => cases h; exact qX6_number
  | 4, _ => cases h; exact qX6_read
  | 5, _ => cases h; exact qX6_apart
  | 6, _ => cases h; exact qX6_worth
  | 7, _ => cases h; exact qX6_worthIn
  | 8, _ => cases h; exact qX6_says
  | 9, _ => cases h; exact qX6_winds
  | 10, _ => cases h; exact qX6_lost
  | 11, _ => cases h; exact qX6_fewest
  | 12, _ => cases h; exact qX6_which
  | 13, _ => cases h; exact qX6_more
  | 14, _ => cases h; exact qX6_orders
  | 15, _ => cases h; exact qX6_most
theorem allC_5 : ∀ k, k < 16 → ∀ my, mT (16 * 5 + k) = some my → okC (mN (16 * 5 + k)).2 my.2.2.2.1 (ini (16 * 5 + k)) 0 my.1 = true := by
  intro k hk my h
  match k, hk with
  | 0, _ => cases h; exact qX6_least
  | 1, _ => cases h; exact qX6_order
  | 2, _ => cases h; exact qX6_worths
  | 3, _ => cases h; exact qX6_can
  | 4, _ => cases h; exact qX6_join
  | 5, _ => cases h; exact qX6_same
  | 6, _ => cases h; exact qX6_best
  | 7, _ => cases h; exact qX6_feed
  | 8, _ => cases h; exact qX6_wipe
  | 9, _ => cases h; exact qX6_town
  | 10, _ => cases h; exact qX6_sheet
  | 11, _ => cases h; exact qX6_write
  | 12, _ => cases h; exact qX6_copy
  | 13, _ => cases h; exact qX6_lays
  | 14, _ => cases h; exact qX6_show
  | 15, _ => cases h; exact qX6_check
theorem allC_6 : ∀ k, k < 16 → ∀ my, mT (16 * 6 + k) = some my → okC (mN (16 * 6 + k)).2 my.2.2.2.1 (ini (16 * 6 + k)) 0 my.1 = true := by
  intro k hk my h
  match k, hk with
  | 0, _ => cases h; exact qX6_image
  | 1, _ => cases h; exact qX6_undo
  | 2, _ => cases h; exact qX6_tear
  | 3, _ => cases h; exact qX6_count
  | 4, _ => cases h; exact qX6_status
  | 5, _ => cases h; exact qX6_finding
  | 6, _ => cases h; exact qX6_isGarment
  | 7, _ => cases h; exact qX6_sheetFinding
  | 8, _ => cases h; exact qX6_sheetAndLineFinding
  | 9, _ => cases h; exact qX6_isWithin
  | 10, _ => cases h; exact qX6_isLine
  | 11, _ => cases h; exact qX6_isKind
  | 12, _ => cases h; exact qX6_isSize
  | 13, _ => cases h; exact qX6_isWind
  | 14, _ => cases h; exact qX6_isMeaning
  | 15, _ => cases h; exact qX6_isWorth
theorem allC_7 : ∀ k, k < 16 → ∀ my, mT (16 * 7 + k) = some my → okC (mN (16 * 7 + k)).2 my.2.2.2.1 (ini (16 * 7 + k)) 0 my.1 = true := by
  intro k hk my h
  match k, hk with
  | 0, _ => cases h; exact qX6_isSheet
  | 1, _ => cases h; exact qX6_isBits
  | 2, _ => cases h; exact qX6_isGarmentCode
  | 3, _ => cases h; exact qX6_isOfKind
  | 4, _ => cases h; exact qX6_isSeen
  | 5, _ => cases h; exact qX6_worthAfter
  | 6, _ => cases h; exact qX6_stockingsAfter
  | 7, _ => cases h; exact qX6_held
  | 8, _ => cases h; exact qX6_worthOf
  | 9, _ => cases h; exact qX6_worthBehind
  | 10, _ => cases h; exact qX6_worthJoined
  | 11, _ => cases h; exact qX6_readNow
  | 12, _ => cases h; exact qX6_readWithout
  | 13, _ => cases h; exact qX6_readWithOneMore
  | 14, _ => cases h; exact qX6_windsReadAs
  | 15, _ => cases h; exact qX6_fewestOff
theorem allC_8 : ∀ k, k < 16 → ∀ my, mT (16 * 8 + k) = some my → okC (mN (16 * 8 + k)).2 my.2.2.2.1 (ini (16 * 8 + k)) 0 my.1 = true := by
  intro k hk my h
  match k, hk with
  | 0, _ => cases h; exact qX7_init
  | 1, _ => cases h; exact qX7_isIn
  | 2, _ => cases h; exact qX7_finds
  | 3, _ => cases h; exact qX7_becomes
  | 4, _ => cases h; exact qX7_isLine
  | 5, _ => cases h; exact qX7_isPeg
  | 6, _ => cases h; exact qX7_isMeaning
  | 7, _ => cases h; exact qX7_placeOf
  | 8, _ => cases h; exact qX7_copyRow
  | 9, _ => cases h; exact qX7_apartBy
  | 10, _ => cases h; exact qX7_hangs
  | 11, _ => cases h; exact qX7_isGarment
  | 12, _ => cases h; exact qX7_hang
  | 13, _ => cases h; exact qX7_off
  | 14, _ => cases h; exact qX7_lays
  | 15, _ => cases h; exact qX7_isSeen
theorem allC_9 : ∀ k, k < 16 → ∀ my, mT (16 * 9 + k) = some my → okC (mN (16 * 9 + k)).2 my.2.2.2.1 (ini (16 * 9 + k)) 0 my.1 = true := by
  intro k hk my h
  match k, hk with
  | 0, _ => cases h; exact qX7_kept
  | 1, _ => cases h; exact qX7_isStocking
  | 2, _ => cases h; exact qX7_becomesBy
  | 3, _ => cases h; exact qX7_worthOfFirst
  | 4, _ => cases h; exact qX7_worthBy
  | 5, _ => cases h; exact qX7_worthAside
  | 6, _ => cases h; exact qX7_readAs
  | 7, _ => cases h; exact qX7_of
  | 8, _ => cases h; exact qX7_set
  | 9, _ => cases h; exact qX7_turn
  | 10, _ => cases h; exact qX7_isUnder
  | 11, _ => cases h; exact qX7_as
  | 12, _ => cases h; exact qX7_swap
  | 13, _ => cases h; exact qX7_take
  | 14, _ => cases h; exact qX7_hangsAside
  | 15, _ => cases h; exact qX7_like
theorem allC_10 : ∀ k, k < 16 → ∀ my, mT (16 * 10 + k) = some my → okC (mN (16 * 10 + k)).2 my.2.2.2.1 (ini (16 * 10 + k)) 0 my.1 = true := by
  intro k hk my h
  match k, hk with
  | 0, _ => cases h; exact qX7_wind
  | 1, _ => cases h; exact qX7_garments
  | 2, _ => cases h; exact qX7_days
  | 3, _ => cases h; exact qX7_means
  | 4, _ => cases h; exact qX7_forget
  | 5, _ => cases h; exact qX7_number
  | 6, _ => cases h; exact qX7_orNone
  | 7, _ => cases h; exact qX7_read
  | 8, _ => cases h; exact qX7_apart
  | 9, _ => cases h; exact qX7_worth
  | 10, _ => cases h; exact qX7_worthIn
  | 11, _ => cases h; exact qX7_says
  | 12, _ => cases h; exact qX7_windsOf
  | 13, _ => cases h; exact qX7_winds
  | 14, _ => cases h; exact qX7_laysBut
  | 15, _ => cases h; exact qX7_lost
theorem allC_11 : ∀ k, k < 16 → ∀ my, mT (16 * 11 + k) = some my → okC (mN (16 * 11 + k)).2 my.2.2.2.1 (ini (16 * 11 + k)) 0 my.1 = true := by
  intro k hk my h
  match k, hk with
  | 0, _ => cases h; exact qX7_manyIn
  | 1, _ => cases h; exact qX7_fewestSet
  | 2, _ => cases h; exact qX7_fewest
  | 3, _ => cases h; exact qX7_which
  | 4, _ => cases h; exact qX7_more
  | 5, _ => cases h; exact qX7_beginsOrders
  | 6, _ => cases h; exact qX7_hasNext
  | 7, _ => cases h; exact qX7_swapsOrder
  | 8, _ => cases h; exact qX7_laysOrder
  | 9, _ => cases h; exact qX7_orders
  | 10, _ => cases h; exact qX7_furthest
  | 11, _ => cases h; exact qX7_most
  | 12, _ => cases h; exact qX7_least
  | 13, _ => cases h; exact qX7_notesOrder
  | 14, _ => cases h; exact qX7_order
  | 15, _ => cases h; exact qX7_worths
theorem allC_12 : ∀ k, k < 16 → ∀ my, mT (16 * 12 + k) = some my → okC (mN (16 * 12 + k)).2 my.2.2.2.1 (ini (16 * 12 + k)) 0 my.1 = true := by
  intro k hk my h
  match k, hk with
  | 0, _ => cases h; exact qX7_can
  | 1, _ => cases h; exact qX7_join
  | 2, _ => cases h; exact qX7_same
  | 3, _ => cases h; exact qX7_best
  | 4, _ => cases h; exact qX7_feed
  | 5, _ => cases h; exact qX7_wipe
  | 6, _ => cases h; exact qX7_isLetter
  | 7, _ => cases h; exact qX7_isDigit
  | 8, _ => cases h; exact qX7_byteAt
  | 9, _ => cases h; exact qX7_nextToken
  | 10, _ => cases h; exact qX7_has3
  | 11, _ => cases h; exact qX7_isWord
  | 12, _ => cases h; exact qX7_fails
  | 13, _ => cases h; exact qX7_isFour
  | 14, _ => cases h; exact qX7_isFive
  | 15, _ => cases h; exact qX7_isSix
theorem allC_13 : ∀ k, k < 16 → ∀ my, mT (16 * 13 + k) = some my → okC (mN (16 * 13 + k)).2 my.2.2.2.1 (ini (16 * 13 + k)) 0 my.1 = true := by
  intro k hk my h
  match k, hk with
  | 0, _ => cases h; exact qX7_kindHere
  | 1, _ => cases h; exact qX7_isNumber
  | 2, _ => cases h; exact qX7_garmentHere
  | 3, _ => cases h; exact qX7_lineHere
  | 4, _ => cases h; exact qX7_windHere
  | 5, _ => cases h; exact qX7_meaningHere
  | 6, _ => cases h; exact qX7_forgetHere
  | 7, _ => cases h; exact qX7_itemHere
  | 8, _ => cases h; exact qX7_town
  | 9, _ => cases h; exact qX7_isSheet
  | 10, _ => cases h; exact qX7_narrow
  | 11, _ => cases h; exact qX7_sheet
  | 12, _ => cases h; exact qX7_write
  | 13, _ => cases h; exact qX7_copy
  | 14, _ => cases h; exact qX7_wants
  | 15, _ => cases h; exact qX7_lays_
theorem allC_14 : ∀ k, k < 16 → ∀ my, mT (16 * 14 + k) = some my → okC (mN (16 * 14 + k)).2 my.2.2.2.1 (ini (16 * 14 + k)) 0 my.1 = true := by
  intro k hk my h
  match k, hk with
  | 0, _ => cases h; exact qX7_show
  | 1, _ => cases h; exact qX7_check
  | 2, _ => cases h; exact qX7_image
  | 3, _ => cases h; exact qX7_undo
  | 4, _ => cases h; exact qX7_tear
  | 5, _ => cases h; exact qX7_count
  | 6, _ => cases h; exact qX7_status
  | 7, _ => cases h; exact qJ6_bitCount_0f7a4
  | 8, _ => cases h; exact qJ13_bitCount_95d88
  | 9, _ => cases h; exact qJ9_abs_0f7a4
  | 10, _ => cases h; exact qJ9_max_7cf53
  | 11, _ => cases h; exact qJ9_min_7cf53
  | 12, _ => cases h; exact qJ0_length_8abf5
  | 13, _ => cases h; exact qJ0_charAt_5068e
  | 14, _ => cases h; exact qJ0_coder_7d493
  | 15, _ => cases h; exact qJ0_isLatin1_aae02
theorem allC_15 : ∀ k, k < 5 → ∀ my, mT (16 * 15 + k) = some my → okC (mN (16 * 15 + k)).2 my.2.2.2.1 (ini (16 * 15 + k)) 0 my.1 = true := by
  intro k hk my h
  match k, hk with
  | 0, _ => cases h; exact qJ0_checkIndex_df160
  | 1, _ => cases h; exact qJ1_charAt_3b067
  | 2, _ => cases h; exact qJ7_fill_d0a16
  | 3, _ => cases h; exact qJ7_fill_53178
  | 4, _ => cases h; exact qJ3_checkIndex_8e157
theorem allC : ∀ i my, mT i = some my → okC (mN i).2 my.2.2.2.1 (ini i) 0 my.1 = true := by
  intro i my h
  have hi : i < 245 := mT_lt h
  obtain ⟨j, k, hk, rfl⟩ : ∃ j k, k < 16 ∧ i = 16 * j + k := ⟨i / 16, i % 16, Nat.mod_lt _ (by omega), by omega⟩
  match j with
  | 0 => exact allC_0 k (by omega) my h
  | 1 => exact allC_1 k (by omega) my h
  | 2 => exact allC_2 k (by omega) my h
  | 3 => exact allC_3 k (by omega) my h
  | 4 => exact allC_4 k (by omega) my h
  | 5 => exact allC_5 k (by omega) my h
  | 6 => exact allC_6 k (by omega) my h
  | 7 => exact allC_7 k (by omega) my h
  | 8 => exact allC_8 k (by omega) my h
  | 9 => exact allC_9 k (by omega) my h
  | 10 => exact allC_10 k (by omega) my h
  | 11 => exact allC_11 k (by omega) my h
  | 12 => exact allC_12 k (by omega) my h
  | 13 => exact allC_13 k (by omega) my h
  | 14 => exact allC_14 k (by omega) my h
  | 15 => exact allC_15 k (by omega) my h
  | j + 16 => omega
