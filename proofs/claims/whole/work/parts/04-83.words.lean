set_option maxRecDepth 100000 in
theorem pwX0_init : lw_tbl[181]? = some (.code yX0_init cX0_init 2 none) := rfl
set_option maxRecDepth 100000 in
theorem pwX0_walk : lw_tbl[583]? = some (.code yX0_walk cX0_walk 4 none) := rfl
set_option maxRecDepth 100000 in
theorem pwX0_findTwins : lw_tbl[591]? = some (.code yX0_findTwins cX0_findTwins 4 none) := rfl
set_option maxRecDepth 100000 in
theorem pwX0_saying : lw_tbl[595]? = some (.code yX0_saying cX0_saying 4 (some .int)) := rfl
set_option maxRecDepth 100000 in
theorem pwX0_hangNext : lw_tbl[600]? = some (.code yX0_hangNext cX0_hangNext 7 none) := rfl
set_option maxRecDepth 100000 in
theorem pwX0_mayHang : lw_tbl[615]? = some (.code yX0_mayHang cX0_mayHang 2 (some .boolean)) := rfl
set_option maxRecDepth 100000 in
theorem pwX0_isHanging : lw_tbl[619]? = some (.code yX0_isHanging cX0_isHanging 2 (some .boolean)) := rfl
set_option maxRecDepth 100000 in
theorem pwX0_arrive : lw_tbl[604]? = some (.code yX0_arrive cX0_arrive 3 none) := rfl
set_option maxRecDepth 100000 in
theorem pwX0_arrangeNearest : lw_tbl[637]? = some (.code yX0_arrangeNearest cX0_arrangeNearest 4 none) := rfl
set_option maxRecDepth 100000 in
theorem pwX0_unlikeWorths : lw_tbl[647]? = some (.code yX0_unlikeWorths cX0_unlikeWorths 3 (some .int)) := rfl
set_option maxRecDepth 100000 in
theorem pwX0_meaningsMet : lw_tbl[661]? = some (.code yX0_meaningsMet cX0_meaningsMet 4 (some .int)) := rfl
set_option maxRecDepth 100000 in
theorem pwX0_meaningBit : lw_tbl[665]? = some (.code yX0_meaningBit cX0_meaningBit 3 (some .int)) := rfl
set_option maxRecDepth 100000 in
theorem pwX1_init : lw_tbl[107]? = some (.code yX1_init cX1_init 1 none) := rfl
set_option maxRecDepth 100000 in
theorem pwX1_clear : lw_tbl[428]? = some (.code yX1_clear cX1_clear 1 none) := rfl
set_option maxRecDepth 100000 in
theorem pwX1_add : lw_tbl[338]? = some (.code yX1_add cX1_add 4 none) := rfl
set_option maxRecDepth 100000 in
theorem pwX1_put : lw_tbl[342]? = some (.code yX1_put cX1_put 5 none) := rfl
set_option maxRecDepth 100000 in
theorem pwX1_remove : lw_tbl[354]? = some (.code yX1_remove cX1_remove 3 none) := rfl
set_option maxRecDepth 100000 in
theorem pwX1_exchange : lw_tbl[417]? = some (.code yX1_exchange cX1_exchange 6 none) := rfl
set_option maxRecDepth 100000 in
theorem pwX1_become : lw_tbl[436]? = some (.code yX1_become cX1_become 3 none) := rfl
set_option maxRecDepth 100000 in
theorem pwX1_isSeenAt : lw_tbl[362]? = some (.code yX1_isSeenAt cX1_isSeenAt 3 (some .boolean)) := rfl
set_option maxRecDepth 100000 in
theorem pwX1_pegsLike : lw_tbl[681]? = some (.code yX1_pegsLike cX1_pegsLike 5 (some .int)) := rfl
set_option maxRecDepth 100000 in
theorem pwX1_dry : lw_tbl[456]? = some (.code yX1_dry cX1_dry 4 (some .int)) := rfl
set_option maxRecDepth 100000 in
theorem pwX2_init : lw_tbl[270]? = some (.code yX2_init cX2_init 1 none) := rfl
set_option maxRecDepth 100000 in
theorem pwX2_begin : lw_tbl[836]? = some (.code yX2_begin cX2_begin 3 none) := rfl
set_option maxRecDepth 100000 in
theorem pwX2_put : lw_tbl[850]? = some (.code yX2_put cX2_put 4 none) := rfl
set_option maxRecDepth 100000 in
theorem pwX2_hasRange : lw_tbl[858]? = some (.code yX2_hasRange cX2_hasRange 3 (some .boolean)) := rfl
set_option maxRecDepth 100000 in
theorem pwX3_init : lw_tbl[243]? = some (.code yX3_init cX3_init 1 none) := rfl
set_option maxRecDepth 100000 in
theorem pwX3_add : lw_tbl[694]? = some (.code yX3_add cX3_add 2 none) := rfl
set_option maxRecDepth 100000 in
theorem pwX3_tell : lw_tbl[712]? = some (.code yX3_tell cX3_tell 4 (some .int)) := rfl
set_option maxRecDepth 100000 in
theorem pwX3_lineItem : lw_tbl[776]? = some (.code yX3_lineItem cX3_lineItem 4 (some .boolean)) := rfl
set_option maxRecDepth 100000 in
theorem pwX3_garment : lw_tbl[790]? = some (.code yX3_garment cX3_garment 5 (some .boolean)) := rfl
set_option maxRecDepth 100000 in
theorem pwX3_windItem : lw_tbl[810]? = some (.code yX3_windItem cX3_windItem 2 (some .boolean)) := rfl
set_option maxRecDepth 100000 in
theorem pwX3_meaningItem : lw_tbl[815]? = some (.code yX3_meaningItem cX3_meaningItem 4 (some .boolean)) := rfl
set_option maxRecDepth 100000 in
theorem pwX3_forgetItem : lw_tbl[820]? = some (.code yX3_forgetItem cX3_forgetItem 2 (some .boolean)) := rfl
set_option maxRecDepth 100000 in
theorem pwX3_takeNumber : lw_tbl[780]? = some (.code yX3_takeNumber cX3_takeNumber 4 (some .boolean)) := rfl
set_option maxRecDepth 100000 in
theorem pwX3_kindTold : lw_tbl[794]? = some (.code yX3_kindTold cX3_kindTold 2 (some .int)) := rfl
set_option maxRecDepth 100000 in
theorem pwX3_kindName : lw_tbl[797]? = some (.code yX3_kindName cX3_kindName 1 (some (.object "java/lang/String"))) := rfl
set_option maxRecDepth 100000 in
theorem pwX3_isWord : lw_tbl[724]? = some (.code yX3_isWord cX3_isWord 3 (some .boolean)) := rfl
set_option maxRecDepth 100000 in
theorem pwX3_step : lw_tbl[716]? = some (.code yX3_step cX3_step 2 none) := rfl
set_option maxRecDepth 100000 in
theorem pwX3_numberHere : lw_tbl[784]? = some (.code yX3_numberHere cX3_numberHere 3 (some .int)) := rfl
set_option maxRecDepth 100000 in
theorem pwX3_sortOf : lw_tbl[719]? = some (.code yX3_sortOf cX3_sortOf 1 (some .int)) := rfl
set_option maxRecDepth 100000 in
theorem pwX4_init : lw_tbl[100]? = some (.code yX4_init cX4_init 2 none) := rfl
set_option maxRecDepth 100000 in
theorem pwX4_become : lw_tbl[706]? = some (.code yX4_become cX4_become 3 none) := rfl
set_option maxRecDepth 100000 in
theorem pwX4_garments : lw_tbl[888]? = some (.code yX4_garments cX4_garments 3 (some .int)) := rfl
set_option maxRecDepth 100000 in
theorem pwX4_letDaysGo : lw_tbl[452]? = some (.code yX4_letDaysGo cX4_letDaysGo 4 (some .int)) := rfl
set_option maxRecDepth 100000 in
theorem pwX4_hasNumber : lw_tbl[474]? = some (.code yX4_hasNumber cX4_hasNumber 2 (some .boolean)) := rfl
set_option maxRecDepth 100000 in
theorem pwX4_meaningsTold : lw_tbl[500]? = some (.code yX4_meaningsTold cX4_meaningsTold 3 (some .int)) := rfl
set_option maxRecDepth 100000 in
theorem pwX4_readAs : lw_tbl[490]? = some (.code yX4_readAs cX4_readAs 6 (some .int)) := rfl
set_option maxRecDepth 100000 in
theorem pwX4_leastDifference : lw_tbl[504]? = some (.code yX4_leastDifference cX4_leastDifference 4 (some .int)) := rfl
set_option maxRecDepth 100000 in
theorem pwX5_init : lw_tbl[164]? = some (.code yX5_init cX5_init 1 none) := rfl
set_option maxRecDepth 100000 in
theorem pwX5_begin : lw_tbl[373]? = some (.code yX5_begin cX5_begin 2 none) := rfl
set_option maxRecDepth 100000 in
theorem pwX5_hear : lw_tbl[377]? = some (.code yX5_hear cX5_hear 6 none) := rfl
set_option maxRecDepth 100000 in
theorem pwX5_hearGarment : lw_tbl[381]? = some (.code yX5_hearGarment cX5_hearGarment 4 none) := rfl
set_option maxRecDepth 100000 in
theorem pwX6_init : lw_tbl[92]? = some (.code yX6_init cX6_init 2 none) := rfl
set_option maxRecDepth 100000 in
theorem pwX6_hang : lw_tbl[316]? = some (.code yX6_hang cX6_hang 5 (some .int)) := rfl
set_option maxRecDepth 100000 in
theorem pwX6_off : lw_tbl[346]? = some (.code yX6_off cX6_off 5 (some .int)) := rfl
set_option maxRecDepth 100000 in
theorem pwX6_of : lw_tbl[358]? = some (.code yX6_of cX6_of 5 (some .int)) := rfl
set_option maxRecDepth 100000 in
theorem pwX6_set : lw_tbl[395]? = some (.code yX6_set cX6_set 7 (some .int)) := rfl
set_option maxRecDepth 100000 in
theorem pwX6_turn : lw_tbl[399]? = some (.code yX6_turn cX6_turn 6 (some .int)) := rfl
set_option maxRecDepth 100000 in
theorem pwX6_as : lw_tbl[403]? = some (.code yX6_as cX6_as 5 (some .int)) := rfl
set_option maxRecDepth 100000 in
theorem pwX6_swap : lw_tbl[413]? = some (.code yX6_swap cX6_swap 4 (some .int)) := rfl
set_option maxRecDepth 100000 in
theorem pwX6_take : lw_tbl[424]? = some (.code yX6_take cX6_take 4 (some .int)) := rfl
set_option maxRecDepth 100000 in
theorem pwX6_like : lw_tbl[432]? = some (.code yX6_like cX6_like 3 (some .int)) := rfl
set_option maxRecDepth 100000 in
theorem pwX6_wind : lw_tbl[440]? = some (.code yX6_wind cX6_wind 3 (some .int)) := rfl
set_option maxRecDepth 100000 in
theorem pwX6_days : lw_tbl[447]? = some (.code yX6_days cX6_days 2 (some .int)) := rfl
set_option maxRecDepth 100000 in
theorem pwX6_means : lw_tbl[463]? = some (.code yX6_means cX6_means 4 (some .int)) := rfl
set_option maxRecDepth 100000 in
theorem pwX6_forget : lw_tbl[470]? = some (.code yX6_forget cX6_forget 3 (some .int)) := rfl
set_option maxRecDepth 100000 in
theorem pwX6_number : lw_tbl[478]? = some (.code yX6_number cX6_number 2 (some .int)) := rfl
set_option maxRecDepth 100000 in
theorem pwX6_read : lw_tbl[483]? = some (.code yX6_read cX6_read 3 (some .int)) := rfl
set_option maxRecDepth 100000 in
theorem pwX6_apart : lw_tbl[496]? = some (.code yX6_apart cX6_apart 1 (some .int)) := rfl
set_option maxRecDepth 100000 in
theorem pwX6_worth : lw_tbl[511]? = some (.code yX6_worth cX6_worth 2 (some .int)) := rfl
set_option maxRecDepth 100000 in
theorem pwX6_worthIn : lw_tbl[519]? = some (.code yX6_worthIn cX6_worthIn 3 (some .int)) := rfl
set_option maxRecDepth 100000 in
theorem pwX6_says : lw_tbl[523]? = some (.code yX6_says cX6_says 3 (some .int)) := rfl
set_option maxRecDepth 100000 in
theorem pwX6_winds : lw_tbl[531]? = some (.code yX6_winds cX6_winds 4 (some .int)) := rfl
set_option maxRecDepth 100000 in
theorem pwX6_lost : lw_tbl[539]? = some (.code yX6_lost cX6_lost 6 (some .int)) := rfl
set_option maxRecDepth 100000 in
theorem pwX6_fewest : lw_tbl[547]? = some (.code yX6_fewest cX6_fewest 4 (some .int)) := rfl
set_option maxRecDepth 100000 in
theorem pwX6_which : lw_tbl[561]? = some (.code yX6_which cX6_which 4 (some .int)) := rfl
set_option maxRecDepth 100000 in
theorem pwX6_more : lw_tbl[565]? = some (.code yX6_more cX6_more 5 (some .int)) := rfl
set_option maxRecDepth 100000 in
theorem pwX6_orders : lw_tbl[579]? = some (.code yX6_orders cX6_orders 3 (some .int)) := rfl
set_option maxRecDepth 100000 in
theorem pwX6_most : lw_tbl[625]? = some (.code yX6_most cX6_most 2 (some .int)) := rfl
set_option maxRecDepth 100000 in
theorem pwX6_least : lw_tbl[629]? = some (.code yX6_least cX6_least 2 (some .int)) := rfl
set_option maxRecDepth 100000 in
theorem pwX6_order : lw_tbl[633]? = some (.code yX6_order cX6_order 4 (some .int)) := rfl
set_option maxRecDepth 100000 in
theorem pwX6_worths : lw_tbl[643]? = some (.code yX6_worths cX6_worths 2 (some .int)) := rfl
set_option maxRecDepth 100000 in
theorem pwX6_can : lw_tbl[657]? = some (.code yX6_can cX6_can 2 (some .int)) := rfl
set_option maxRecDepth 100000 in
theorem pwX6_join : lw_tbl[669]? = some (.code yX6_join cX6_join 8 (some .int)) := rfl
set_option maxRecDepth 100000 in
theorem pwX6_same : lw_tbl[677]? = some (.code yX6_same cX6_same 3 (some .int)) := rfl
set_option maxRecDepth 100000 in
theorem pwX6_best : lw_tbl[686]? = some (.code yX6_best cX6_best 6 (some .int)) := rfl
set_option maxRecDepth 100000 in
theorem pwX6_feed : lw_tbl[690]? = some (.code yX6_feed cX6_feed 4 (some .int)) := rfl
set_option maxRecDepth 100000 in
theorem pwX6_wipe : lw_tbl[698]? = some (.code yX6_wipe cX6_wipe 2 (some .int)) := rfl
set_option maxRecDepth 100000 in
theorem pwX6_town : lw_tbl[702]? = some (.code yX6_town cX6_town 2 (some .int)) := rfl
set_option maxRecDepth 100000 in
theorem pwX6_sheet : lw_tbl[825]? = some (.code yX6_sheet cX6_sheet 4 (some .int)) := rfl
set_option maxRecDepth 100000 in
theorem pwX6_write : lw_tbl[841]? = some (.code yX6_write cX6_write 9 (some .long)) := rfl
set_option maxRecDepth 100000 in
theorem pwX6_copy : lw_tbl[854]? = some (.code yX6_copy cX6_copy 8 (some .int)) := rfl
set_option maxRecDepth 100000 in
theorem pwX6_lays : lw_tbl[863]? = some (.code yX6_lays cX6_lays 9 (some .int)) := rfl
set_option maxRecDepth 100000 in
theorem pwX6_show : lw_tbl[872]? = some (.code yX6_show cX6_show 7 (some .int)) := rfl
set_option maxRecDepth 100000 in
theorem pwX6_check : lw_tbl[876]? = some (.code yX6_check cX6_check 8 (some .int)) := rfl
set_option maxRecDepth 100000 in
theorem pwX6_image : lw_tbl[880]? = some (.code yX6_image cX6_image 1 (some .int)) := rfl
set_option maxRecDepth 100000 in
theorem pwX6_undo : lw_tbl[884]? = some (.code yX6_undo cX6_undo 1 (some .int)) := rfl
set_option maxRecDepth 100000 in
theorem pwX6_tear : lw_tbl[892]? = some (.code yX6_tear cX6_tear 2 (some .int)) := rfl
set_option maxRecDepth 100000 in
theorem pwX6_count : lw_tbl[896]? = some (.code yX6_count cX6_count 2 (some .int)) := rfl
set_option maxRecDepth 100000 in
theorem pwX6_status : lw_tbl[900]? = some (.code yX6_status cX6_status 4 (some .int)) := rfl
set_option maxRecDepth 100000 in
theorem pwX6_finding : lw_tbl[333]? = some (.code yX6_finding cX6_finding 3 (some .int)) := rfl
set_option maxRecDepth 100000 in
theorem pwX6_isGarment : lw_tbl[350]? = some (.code yX6_isGarment cX6_isGarment 3 (some .boolean)) := rfl
set_option maxRecDepth 100000 in
theorem pwX6_sheetFinding : lw_tbl[845]? = some (.code yX6_sheetFinding cX6_sheetFinding 2 (some .int)) := rfl
set_option maxRecDepth 100000 in
theorem pwX6_sheetAndLineFinding : lw_tbl[867]? = some (.code yX6_sheetAndLineFinding cX6_sheetAndLineFinding 4 (some .int)) := rfl
set_option maxRecDepth 100000 in
theorem pwX6_isWithin : lw_tbl[322]? = some (.code yX6_isWithin cX6_isWithin 3 (some .boolean)) := rfl
set_option maxRecDepth 100000 in
theorem pwX6_isLine : lw_tbl[319]? = some (.code yX6_isLine cX6_isLine 1 (some .boolean)) := rfl
set_option maxRecDepth 100000 in
theorem pwX6_isKind : lw_tbl[325]? = some (.code yX6_isKind cX6_isKind 1 (some .boolean)) := rfl
set_option maxRecDepth 100000 in
theorem pwX6_isSize : lw_tbl[328]? = some (.code yX6_isSize cX6_isSize 1 (some .boolean)) := rfl
set_option maxRecDepth 100000 in
theorem pwX6_isWind : lw_tbl[443]? = some (.code yX6_isWind cX6_isWind 1 (some .boolean)) := rfl
set_option maxRecDepth 100000 in
theorem pwX6_isMeaning : lw_tbl[466]? = some (.code yX6_isMeaning cX6_isMeaning 1 (some .boolean)) := rfl
set_option maxRecDepth 100000 in
theorem pwX6_isWorth : lw_tbl[486]? = some (.code yX6_isWorth cX6_isWorth 1 (some .boolean)) := rfl
set_option maxRecDepth 100000 in
theorem pwX6_isSheet : lw_tbl[828]? = some (.code yX6_isSheet cX6_isSheet 1 (some .boolean)) := rfl
set_option maxRecDepth 100000 in
theorem pwX6_isBits : lw_tbl[831]? = some (.code yX6_isBits cX6_isBits 1 (some .boolean)) := rfl
set_option maxRecDepth 100000 in
theorem pwX6_isGarmentCode : lw_tbl[568]? = some (.code yX6_isGarmentCode cX6_isGarmentCode 2 (some .boolean)) := rfl
set_option maxRecDepth 100000 in
theorem pwX6_isOfKind : lw_tbl[406]? = some (.code yX6_isOfKind cX6_isOfKind 4 (some .boolean)) := rfl
set_option maxRecDepth 100000 in
theorem pwX6_isSeen : lw_tbl[365]? = some (.code yX6_isSeen cX6_isSeen 5 (some .boolean)) := rfl
set_option maxRecDepth 100000 in
theorem pwX6_worthAfter : lw_tbl[385]? = some (.code yX6_worthAfter cX6_worthAfter 4 (some .int)) := rfl
set_option maxRecDepth 100000 in
theorem pwX6_stockingsAfter : lw_tbl[391]? = some (.code yX6_stockingsAfter cX6_stockingsAfter 2 (some .int)) := rfl
set_option maxRecDepth 100000 in
theorem pwX6_held : lw_tbl[388]? = some (.code yX6_held cX6_held 1 (some .int)) := rfl
set_option maxRecDepth 100000 in
theorem pwX6_worthOf : lw_tbl[515]? = some (.code yX6_worthOf cX6_worthOf 3 (some .int)) := rfl
set_option maxRecDepth 100000 in
theorem pwX6_worthBehind : lw_tbl[369]? = some (.code yX6_worthBehind cX6_worthBehind 3 (some .int)) := rfl
set_option maxRecDepth 100000 in
theorem pwX6_worthJoined : lw_tbl[673]? = some (.code yX6_worthJoined cX6_worthJoined 4 (some .int)) := rfl
set_option maxRecDepth 100000 in
theorem pwX6_readNow : lw_tbl[527]? = some (.code yX6_readNow cX6_readNow 2 (some .int)) := rfl
set_option maxRecDepth 100000 in
theorem pwX6_readWithout : lw_tbl[543]? = some (.code yX6_readWithout cX6_readWithout 3 (some .int)) := rfl
set_option maxRecDepth 100000 in
theorem pwX6_readWithOneMore : lw_tbl[574]? = some (.code yX6_readWithOneMore cX6_readWithOneMore 3 (some .int)) := rfl
set_option maxRecDepth 100000 in
theorem pwX6_windsReadAs : lw_tbl[535]? = some (.code yX6_windsReadAs cX6_windsReadAs 5 (some .int)) := rfl
set_option maxRecDepth 100000 in
theorem pwX6_fewestOff : lw_tbl[551]? = some (.code yX6_fewestOff cX6_fewestOff 8 (some .int)) := rfl
set_option maxRecDepth 100000 in
theorem pwX7_init : lw_tbl[905]? = some (.code yX7_init cX7_init 1 none) := rfl
set_option maxRecDepth 100000 in
theorem pwX7_isIn : lw_tbl[984]? = some (.code yX7_isIn cX7_isIn 6 (some .boolean)) := rfl
set_option maxRecDepth 100000 in
theorem pwX7_finds : lw_tbl[990]? = some (.code yX7_finds cX7_finds 2 (some .int)) := rfl
set_option maxRecDepth 100000 in
theorem pwX7_becomes : lw_tbl[1042]? = some (.code yX7_becomes cX7_becomes 4 (some .int)) := rfl
set_option maxRecDepth 100000 in
theorem pwX7_isLine : lw_tbl[977]? = some (.code yX7_isLine cX7_isLine 1 (some .boolean)) := rfl
set_option maxRecDepth 100000 in
theorem pwX7_isPeg : lw_tbl[1006]? = some (.code yX7_isPeg cX7_isPeg 3 (some .boolean)) := rfl
set_option maxRecDepth 100000 in
theorem pwX7_isMeaning : lw_tbl[1091]? = some (.code yX7_isMeaning cX7_isMeaning 1 (some .boolean)) := rfl
set_option maxRecDepth 100000 in
theorem pwX7_placeOf : lw_tbl[998]? = some (.code yX7_placeOf cX7_placeOf 2 (some .int)) := rfl
set_option maxRecDepth 100000 in
theorem pwX7_copyRow : lw_tbl[1249]? = some (.code yX7_copyRow cX7_copyRow 3 none) := rfl
set_option maxRecDepth 100000 in
theorem pwX7_apartBy : lw_tbl[1061]? = some (.code yX7_apartBy cX7_apartBy 2 (some .int)) := rfl
set_option maxRecDepth 100000 in
theorem pwX7_hangs : lw_tbl[995]? = some (.code yX7_hangs cX7_hangs 6 none) := rfl
set_option maxRecDepth 100000 in
theorem pwX7_isGarment : lw_tbl[980]? = some (.code yX7_isGarment cX7_isGarment 2 (some .boolean)) := rfl
set_option maxRecDepth 100000 in
theorem pwX7_hang : lw_tbl[974]? = some (.code yX7_hang cX7_hang 4 (some .int)) := rfl
set_option maxRecDepth 100000 in
theorem pwX7_off : lw_tbl[1002]? = some (.code yX7_off cX7_off 5 (some .int)) := rfl
set_option maxRecDepth 100000 in
theorem pwX7_lays : lw_tbl[1015]? = some (.code yX7_lays cX7_lays 3 none) := rfl
set_option maxRecDepth 100000 in
theorem pwX7_isSeen : lw_tbl[1019]? = some (.code yX7_isSeen cX7_isSeen 4 (some .boolean)) := rfl
set_option maxRecDepth 100000 in
theorem pwX7_kept : lw_tbl[1030]? = some (.code yX7_kept cX7_kept 1 (some .int)) := rfl
set_option maxRecDepth 100000 in
theorem pwX7_isStocking : lw_tbl[1033]? = some (.code yX7_isStocking cX7_isStocking 1 (some .boolean)) := rfl
set_option maxRecDepth 100000 in
theorem pwX7_becomesBy : lw_tbl[1027]? = some (.code yX7_becomesBy cX7_becomesBy 5 (some .int)) := rfl
set_option maxRecDepth 100000 in
theorem pwX7_worthOfFirst : lw_tbl[1023]? = some (.code yX7_worthOfFirst cX7_worthOfFirst 6 (some .int)) := rfl
set_option maxRecDepth 100000 in
theorem pwX7_worthBy : lw_tbl[1127]? = some (.code yX7_worthBy cX7_worthBy 3 (some .int)) := rfl
set_option maxRecDepth 100000 in
theorem pwX7_worthAside : lw_tbl[1155]? = some (.code yX7_worthAside cX7_worthAside 1 (some .int)) := rfl
set_option maxRecDepth 100000 in
theorem pwX7_readAs : lw_tbl[1111]? = some (.code yX7_readAs cX7_readAs 5 (some .int)) := rfl
set_option maxRecDepth 100000 in
theorem pwX7_of : lw_tbl[1010]? = some (.code yX7_of cX7_of 4 (some .int)) := rfl
set_option maxRecDepth 100000 in
theorem pwX7_set : lw_tbl[1037]? = some (.code yX7_set cX7_set 5 (some .int)) := rfl
set_option maxRecDepth 100000 in
theorem pwX7_turn : lw_tbl[1046]? = some (.code yX7_turn cX7_turn 4 (some .int)) := rfl
set_option maxRecDepth 100000 in
theorem pwX7_isUnder : lw_tbl[1053]? = some (.code yX7_isUnder cX7_isUnder 2 (some .boolean)) := rfl
set_option maxRecDepth 100000 in
theorem pwX7_as : lw_tbl[1050]? = some (.code yX7_as cX7_as 4 (some .int)) := rfl
set_option maxRecDepth 100000 in
theorem pwX7_swap : lw_tbl[1058]? = some (.code yX7_swap cX7_swap 5 (some .int)) := rfl
set_option maxRecDepth 100000 in
theorem pwX7_take : lw_tbl[1065]? = some (.code yX7_take cX7_take 2 (some .int)) := rfl
set_option maxRecDepth 100000 in
theorem pwX7_hangsAside : lw_tbl[1073]? = some (.code yX7_hangsAside cX7_hangsAside 3 none) := rfl
set_option maxRecDepth 100000 in
theorem pwX7_like : lw_tbl[1069]? = some (.code yX7_like cX7_like 3 (some .int)) := rfl
set_option maxRecDepth 100000 in
theorem pwX7_wind : lw_tbl[1077]? = some (.code yX7_wind cX7_wind 2 (some .int)) := rfl
set_option maxRecDepth 100000 in
theorem pwX7_garments : lw_tbl[1368]? = some (.code yX7_garments cX7_garments 1 (some .int)) := rfl
set_option maxRecDepth 100000 in
theorem pwX7_days : lw_tbl[1082]? = some (.code yX7_days cX7_days 6 (some .int)) := rfl
set_option maxRecDepth 100000 in
theorem pwX7_means : lw_tbl[1088]? = some (.code yX7_means cX7_means 4 (some .int)) := rfl
set_option maxRecDepth 100000 in
theorem pwX7_forget : lw_tbl[1097]? = some (.code yX7_forget cX7_forget 2 (some .int)) := rfl
set_option maxRecDepth 100000 in
theorem pwX7_number : lw_tbl[1101]? = some (.code yX7_number cX7_number 2 (some .int)) := rfl
set_option maxRecDepth 100000 in
theorem pwX7_orNone : lw_tbl[1115]? = some (.code yX7_orNone cX7_orNone 2 (some .int)) := rfl
set_option maxRecDepth 100000 in
theorem pwX7_read : lw_tbl[1106]? = some (.code yX7_read cX7_read 2 (some .int)) := rfl
set_option maxRecDepth 100000 in
theorem pwX7_apart : lw_tbl[1119]? = some (.code yX7_apart cX7_apart 5 (some .int)) := rfl
set_option maxRecDepth 100000 in
theorem pwX7_worth : lw_tbl[1123]? = some (.code yX7_worth cX7_worth 2 (some .int)) := rfl
set_option maxRecDepth 100000 in
theorem pwX7_worthIn : lw_tbl[1131]? = some (.code yX7_worthIn cX7_worthIn 3 (some .int)) := rfl
set_option maxRecDepth 100000 in
theorem pwX7_says : lw_tbl[1135]? = some (.code yX7_says cX7_says 2 (some .int)) := rfl
set_option maxRecDepth 100000 in
theorem pwX7_windsOf : lw_tbl[1143]? = some (.code yX7_windsOf cX7_windsOf 5 (some .int)) := rfl
set_option maxRecDepth 100000 in
theorem pwX7_winds : lw_tbl[1139]? = some (.code yX7_winds cX7_winds 3 (some .int)) := rfl
set_option maxRecDepth 100000 in
theorem pwX7_laysBut : lw_tbl[1151]? = some (.code yX7_laysBut cX7_laysBut 5 none) := rfl
set_option maxRecDepth 100000 in
theorem pwX7_lost : lw_tbl[1147]? = some (.code yX7_lost cX7_lost 5 (some .int)) := rfl
set_option maxRecDepth 100000 in
theorem pwX7_manyIn : lw_tbl[1166]? = some (.code yX7_manyIn cX7_manyIn 3 (some .int)) := rfl
set_option maxRecDepth 100000 in
theorem pwX7_fewestSet : lw_tbl[1163]? = some (.code yX7_fewestSet cX7_fewestSet 6 (some .int)) := rfl
set_option maxRecDepth 100000 in
theorem pwX7_fewest : lw_tbl[1159]? = some (.code yX7_fewest cX7_fewest 4 (some .int)) := rfl
set_option maxRecDepth 100000 in
theorem pwX7_which : lw_tbl[1170]? = some (.code yX7_which cX7_which 3 (some .int)) := rfl
set_option maxRecDepth 100000 in
theorem pwX7_more : lw_tbl[1174]? = some (.code yX7_more cX7_more 5 (some .int)) := rfl
set_option maxRecDepth 100000 in
theorem pwX7_beginsOrders : lw_tbl[1182]? = some (.code yX7_beginsOrders cX7_beginsOrders 3 none) := rfl
set_option maxRecDepth 100000 in
theorem pwX7_hasNext : lw_tbl[1186]? = some (.code yX7_hasNext cX7_hasNext 7 (some .boolean)) := rfl
set_option maxRecDepth 100000 in
theorem pwX7_swapsOrder : lw_tbl[1190]? = some (.code yX7_swapsOrder cX7_swapsOrder 4 none) := rfl
set_option maxRecDepth 100000 in
theorem pwX7_laysOrder : lw_tbl[1194]? = some (.code yX7_laysOrder cX7_laysOrder 4 none) := rfl
set_option maxRecDepth 100000 in
theorem pwX7_orders : lw_tbl[1178]? = some (.code yX7_orders cX7_orders 5 (some .int)) := rfl
set_option maxRecDepth 100000 in
theorem pwX7_furthest : lw_tbl[1202]? = some (.code yX7_furthest cX7_furthest 4 (some .int)) := rfl
set_option maxRecDepth 100000 in
theorem pwX7_most : lw_tbl[1198]? = some (.code yX7_most cX7_most 2 (some .int)) := rfl
set_option maxRecDepth 100000 in
theorem pwX7_least : lw_tbl[1206]? = some (.code yX7_least cX7_least 2 (some .int)) := rfl
set_option maxRecDepth 100000 in
theorem pwX7_notesOrder : lw_tbl[1214]? = some (.code yX7_notesOrder cX7_notesOrder 2 none) := rfl
set_option maxRecDepth 100000 in
theorem pwX7_order : lw_tbl[1210]? = some (.code yX7_order cX7_order 5 (some .int)) := rfl
set_option maxRecDepth 100000 in
theorem pwX7_worths : lw_tbl[1218]? = some (.code yX7_worths cX7_worths 5 (some .int)) := rfl
set_option maxRecDepth 100000 in
theorem pwX7_can : lw_tbl[1222]? = some (.code yX7_can cX7_can 4 (some .int)) := rfl
set_option maxRecDepth 100000 in
theorem pwX7_join : lw_tbl[1226]? = some (.code yX7_join cX7_join 8 (some .int)) := rfl
set_option maxRecDepth 100000 in
theorem pwX7_same : lw_tbl[1230]? = some (.code yX7_same cX7_same 7 (some .int)) := rfl
set_option maxRecDepth 100000 in
theorem pwX7_best : lw_tbl[1234]? = some (.code yX7_best cX7_best 6 (some .int)) := rfl
set_option maxRecDepth 100000 in
theorem pwX7_feed : lw_tbl[1238]? = some (.code yX7_feed cX7_feed 4 (some .int)) := rfl
set_option maxRecDepth 100000 in
theorem pwX7_wipe : lw_tbl[1242]? = some (.code yX7_wipe cX7_wipe 2 (some .int)) := rfl
set_option maxRecDepth 100000 in
theorem pwX7_isLetter : lw_tbl[1260]? = some (.code yX7_isLetter cX7_isLetter 1 (some .boolean)) := rfl
set_option maxRecDepth 100000 in
theorem pwX7_isDigit : lw_tbl[1263]? = some (.code yX7_isDigit cX7_isDigit 1 (some .boolean)) := rfl
set_option maxRecDepth 100000 in
theorem pwX7_byteAt : lw_tbl[1257]? = some (.code yX7_byteAt cX7_byteAt 2 (some .int)) := rfl
set_option maxRecDepth 100000 in
theorem pwX7_nextToken : lw_tbl[1253]? = some (.code yX7_nextToken cX7_nextToken 2 none) := rfl
set_option maxRecDepth 100000 in
theorem pwX7_has3 : lw_tbl[1279]? = some (.code yX7_has3 cX7_has3 5 (some .boolean)) := rfl
set_option maxRecDepth 100000 in
theorem pwX7_isWord : lw_tbl[1275]? = some (.code yX7_isWord cX7_isWord 2 (some .boolean)) := rfl
set_option maxRecDepth 100000 in
theorem pwX7_fails : lw_tbl[1291]? = some (.code yX7_fails cX7_fails 1 (some .boolean)) := rfl
set_option maxRecDepth 100000 in
theorem pwX7_isFour : lw_tbl[1271]? = some (.code yX7_isFour cX7_isFour 5 (some .boolean)) := rfl
set_option maxRecDepth 100000 in
theorem pwX7_isFive : lw_tbl[1303]? = some (.code yX7_isFive cX7_isFive 6 (some .boolean)) := rfl
set_option maxRecDepth 100000 in
theorem pwX7_isSix : lw_tbl[1315]? = some (.code yX7_isSix cX7_isSix 7 (some .boolean)) := rfl
set_option maxRecDepth 100000 in
theorem pwX7_kindHere : lw_tbl[1299]? = some (.code yX7_kindHere cX7_kindHere 1 (some .int)) := rfl
set_option maxRecDepth 100000 in
theorem pwX7_isNumber : lw_tbl[1287]? = some (.code yX7_isNumber cX7_isNumber 3 (some .boolean)) := rfl
set_option maxRecDepth 100000 in
theorem pwX7_garmentHere : lw_tbl[1295]? = some (.code yX7_garmentHere cX7_garmentHere 3 (some .boolean)) := rfl
set_option maxRecDepth 100000 in
theorem pwX7_lineHere : lw_tbl[1283]? = some (.code yX7_lineHere cX7_lineHere 3 (some .boolean)) := rfl
set_option maxRecDepth 100000 in
theorem pwX7_windHere : lw_tbl[1307]? = some (.code yX7_windHere cX7_windHere 1 (some .boolean)) := rfl
set_option maxRecDepth 100000 in
theorem pwX7_meaningHere : lw_tbl[1311]? = some (.code yX7_meaningHere cX7_meaningHere 3 (some .boolean)) := rfl
set_option maxRecDepth 100000 in
theorem pwX7_forgetHere : lw_tbl[1319]? = some (.code yX7_forgetHere cX7_forgetHere 1 (some .boolean)) := rfl
set_option maxRecDepth 100000 in
theorem pwX7_itemHere : lw_tbl[1267]? = some (.code yX7_itemHere cX7_itemHere 1 (some .boolean)) := rfl
set_option maxRecDepth 100000 in
theorem pwX7_town : lw_tbl[1246]? = some (.code yX7_town cX7_town 3 (some .int)) := rfl
set_option maxRecDepth 100000 in
theorem pwX7_isSheet : lw_tbl[1326]? = some (.code yX7_isSheet cX7_isSheet 1 (some .boolean)) := rfl
set_option maxRecDepth 100000 in
theorem pwX7_narrow : lw_tbl[1335]? = some (.code yX7_narrow cX7_narrow 3 (some .long)) := rfl
set_option maxRecDepth 100000 in
theorem pwX7_sheet : lw_tbl[1323]? = some (.code yX7_sheet cX7_sheet 5 (some .int)) := rfl
set_option maxRecDepth 100000 in
theorem pwX7_write : lw_tbl[1331]? = some (.code yX7_write cX7_write 7 (some .long)) := rfl
set_option maxRecDepth 100000 in
theorem pwX7_copy : lw_tbl[1339]? = some (.code yX7_copy cX7_copy 10 (some .int)) := rfl
set_option maxRecDepth 100000 in
theorem pwX7_wants : lw_tbl[1347]? = some (.code yX7_wants cX7_wants 2 (some .int)) := rfl
set_option maxRecDepth 100000 in
theorem pwX7_lays_ : lw_tbl[1343]? = some (.code yX7_lays_ cX7_lays_ 7 (some .int)) := rfl
set_option maxRecDepth 100000 in
theorem pwX7_show : lw_tbl[1352]? = some (.code yX7_show cX7_show 6 (some .int)) := rfl
set_option maxRecDepth 100000 in
theorem pwX7_check : lw_tbl[1356]? = some (.code yX7_check cX7_check 5 (some .int)) := rfl
set_option maxRecDepth 100000 in
theorem pwX7_image : lw_tbl[1360]? = some (.code yX7_image cX7_image 1 (some .int)) := rfl
set_option maxRecDepth 100000 in
theorem pwX7_undo : lw_tbl[1364]? = some (.code yX7_undo cX7_undo 1 (some .int)) := rfl
set_option maxRecDepth 100000 in
theorem pwX7_tear : lw_tbl[1372]? = some (.code yX7_tear cX7_tear 2 (some .int)) := rfl
set_option maxRecDepth 100000 in
theorem pwX7_count : lw_tbl[1376]? = some (.code yX7_count cX7_count 4 (some .int)) := rfl
set_option maxRecDepth 100000 in
theorem pwX7_status : lw_tbl[1380]? = some (.code yX7_status cX7_status 2 (some .int)) := rfl
set_option maxRecDepth 100000 in
theorem pwJ6_bitCount_0f7a4 : lw_tbl[554]? = some (.code yJ6_bitCount_0f7a4 cJ6_bitCount_0f7a4 1 (some .int)) := rfl
set_option maxRecDepth 100000 in
theorem pwJ13_bitCount_95d88 : lw_tbl[650]? = some (.code yJ13_bitCount_95d88 cJ13_bitCount_95d88 2 (some .int)) := rfl
set_option maxRecDepth 100000 in
theorem pwJ0_length_8abf5 : lw_tbl[728]? = some (.code yJ0_length_8abf5 cJ0_length_8abf5 1 (some .int)) := rfl
set_option maxRecDepth 100000 in
theorem pwJ0_charAt_5068e : lw_tbl[738]? = some (.code yJ0_charAt_5068e cJ0_charAt_5068e 2 (some .char)) := rfl
set_option maxRecDepth 100000 in
theorem pwJ0_coder_7d493 : lw_tbl[732]? = some (.code yJ0_coder_7d493 cJ0_coder_7d493 1 (some .byte)) := rfl
set_option maxRecDepth 100000 in
theorem pwJ0_isLatin1_aae02 : lw_tbl[742]? = some (.code yJ0_isLatin1_aae02 cJ0_isLatin1_aae02 1 (some .boolean)) := rfl
set_option maxRecDepth 100000 in
theorem pwJ0_checkIndex_df160 : lw_tbl[748]? = some (.code yJ0_checkIndex_df160 cJ0_checkIndex_df160 2 none) := rfl
set_option maxRecDepth 100000 in
theorem pwJ1_charAt_3b067 : lw_tbl[745]? = some (.code yJ1_charAt_3b067 cJ1_charAt_3b067 2 (some .char)) := rfl
set_option maxRecDepth 100000 in
theorem pwJ7_fill_d0a16 : lw_tbl[587]? = some (.code yJ7_fill_d0a16 cJ7_fill_d0a16 5 none) := rfl
set_option maxRecDepth 100000 in
theorem pwJ7_fill_53178 : lw_tbl[138]? = some (.code yJ7_fill_53178 cJ7_fill_53178 4 none) := rfl
set_option maxRecDepth 100000 in
theorem pwJ3_checkIndex_8e157 : lw_tbl[753]? = some (.code yJ3_checkIndex_8e157 cJ3_checkIndex_8e157 3 (some .int)) := rfl
theorem allW_0 : ∀ k, k < 16 → ∀ my, mT (16 * 0 + k) = some my → lw_tbl[(mP (16 * 0 + k)).1]? = some (.code (mN (16 * 0 + k)).1 (mN (16 * 0 + k)).2 my.2.1 my.2.2.1) := by
  intro k hk my h
  match k, hk with
  | 0, _ => cases h; exact pwX0_init
  | 1, _ => cases h; exact pwX0_walk
  | 2, _ => cases h; exact pwX0_findTwins
  | 3, _ => cases h; exact pwX0_saying
  | 4, _ => cases h; exact pwX0_hangNext
  | 5, _ => cases h; exact pwX0_mayHang
  | 6, _ => cases h; exact pwX0_isHanging
  | 7, _ => cases h; exact pwX0_arrive
  | 8, _ => cases h; exact pwX0_arrangeNearest
  | 9, _ => cases h; exact pwX0_unlikeWorths
  | 10, _ => cases h; exact pwX0_meaningsMet
  | 11, _ => cases h; exact pwX0_meaningBit
  | 12, _ => cases h; exact pwX1_init
  | 13, _ => cases h; exact pwX1_clear
  | 14, _ => cases h; exact pwX1_add
  | 15, _ => cases h; exact pwX1_put
  | k + 16, hk => omega
theorem allW_1 : ∀ k, k < 16 → ∀ my, mT (16 * 1 + k) = some my → lw_tbl[(mP (16 * 1 + k)).1]? = some (.code (mN (16 * 1 + k)).1 (mN (16 * 1 + k)).2 my.2.1 my.2.2.1) := by
  intro k hk my h
  match k, hk with
  | 0, _ => cases h; exact pwX1_remove
  | 1, _ => cases h; exact pwX1_exchange
  | 2, _ => cases h; exact pwX1_become
  | 3, _ => cases h; exact pwX1_isSeenAt
  | 4, _ => cases h; exact pwX1_pegsLike
  | 5, _ => cases h; exact pwX1_dry
  | 6, _ => cases h; exact pwX2_init
  | 7, _ => cases h; exact pwX2_begin
  | 8, _ => cases h; exact pwX2_put
  | 9, _ => cases h; exact pwX2_hasRange
  | 10, _ => cases h; exact pwX3_init
  | 11, _ => cases h; exact pwX3_add
  | 12, _ => cases h; exact pwX3_tell
  | 13, _ => cases h; exact pwX3_lineItem
  | 14, _ => cases h; exact pwX3_garment
  | 15, _ => cases h; exact pwX3_windItem
  | k + 16, hk => omega
theorem allW_2 : ∀ k, k < 16 → ∀ my, mT (16 * 2 + k) = some my → lw_tbl[(mP (16 * 2 + k)).1]? = some (.code (mN (16 * 2 + k)).1 (mN (16 * 2 + k)).2 my.2.1 my.2.2.1) := by
  intro k hk my h
  match k, hk with
  | 0, _ => cases h; exact pwX3_meaningItem
  | 1, _ => cases h; exact pwX3_forgetItem
  | 2, _ => cases h; exact pwX3_takeNumber
  | 3, _ => cases h; exact pwX3_kindTold
  | 4, _ => cases h; exact pwX3_kindName
  | 5, _ => cases h; exact pwX3_isWord
  | 6, _ => cases h; exact pwX3_step
  | 7, _ => cases h; exact pwX3_numberHere
  | 8, _ => cases h; exact pwX3_sortOf
  | 9, _ => cases h; exact pwX4_init
  | 10, _ => cases h; exact pwX4_become
  | 11, _ => cases h; exact pwX4_garments
  | 12, _ => cases h; exact pwX4_letDaysGo
  | 13, _ => cases h; exact pwX4_hasNumber
  | 14, _ => cases h; exact pwX4_meaningsTold
  | 15, _ => cases h; exact pwX4_readAs
  | k + 16, hk => omega
theorem allW_3 : ∀ k, k < 16 → ∀ my, mT (16 * 3 + k) = some my → lw_tbl[(mP (16 * 3 + k)).1]? = some (.code (mN (16 * 3 + k)).1 (mN (16 * 3 + k)).2 my.2.1 my.2.2.1) := by
  intro k hk my h
  match k, hk with
  | 0, _ => cases h; exact pwX4_leastDifference
  | 1, _ => cases h; exact pwX5_init
  | 2, _ => cases h; exact pwX5_begin
  | 3, _ => cases h; exact pwX5_hear
  | 4, _ => cases h; exact pwX5_hearGarment
  | 5, _ => cases h; exact pwX6_init
  | 6, _ => cases h; exact pwX6_hang
  | 7, _ => cases h; exact pwX6_off
  | 8, _ => cases h; exact pwX6_of
  | 9, _ => cases h; exact pwX6_set
  | 10, _ => cases h; exact pwX6_turn
  | 11, _ => cases h; exact pwX6_as
  | 12, _ => cases h; exact pwX6_swap
  | 13, _ => cases h; exact pwX6_take
  | 14, _ => cases h; exact pwX6_like
  | 15, _ => cases h; exact pwX6_wind
  | k + 16, hk => omega
theorem allW_4 : ∀ k, k < 16 → ∀ my, mT (16 * 4 + k) = some my → lw_tbl[(mP (16 * 4 + k)).1]? = some (.code (mN (16 * 4 + k)).1 (mN (16 * 4 + k)).2 my.2.1 my.2.2.1) := by
  intro k hk my h
  match k, hk with
  | 0, _ => cases h; exact pwX6_days
  | 1, _ => cases h; exact pwX6_means
  | 2, _ => cases h; exact pwX6_forget
  | 3, _ => cases h; exact pwX6_number
  | 4, _ => cases h; exact pwX6_read
  | 5, _ => cases h; exact pwX6_apart
  | 6, _ => cases h; exact pwX6_worth
  | 7, _ => cases h; exact pwX6_worthIn
  | 8, _ => cases h; exact pwX6_says
  | 9, _ => cases h; exact pwX6_winds
  | 10, _ => cases h; exact pwX6_lost
  | 11, _ => cases h; exact pwX6_fewest
  | 12, _ => cases h; exact pwX6_which
  | 13, _ => cases h; exact pwX6_more
  | 14, _ => cases h; exact pwX6_orders
  | 15, _ => cases h; exact pwX6_most
  | k + 16, hk => omega
theorem allW_5 : ∀ k, k < 16 → ∀ my, mT (16 * 5 + k) = some my → lw_tbl[(mP (16 * 5 + k)).1]? = some (.code (mN (16 * 5 + k)).1 (mN (16 * 5 + k)).2 my.2.1 my.2.2.1) := by
  intro k hk my h
  match k, hk with
  | 0, _ => cases h; exact pwX6_least
  | 1, _ => cases h; exact pwX6_order
  | 2, _ => cases h; exact pwX6_worths
  | 3, _ => cases h; exact pwX6_can
  | 4, _ => cases h; exact pwX6_join
  | 5, _ => cases h; exact pwX6_same
  | 6, _ => cases h; exact pwX6_best
  | 7, _ => cases h; exact pwX6_feed
  | 8, _ => cases h; exact pwX6_wipe
  | 9, _ => cases h; exact pwX6_town
  | 10, _ => cases h; exact pwX6_sheet
  | 11, _ => cases h; exact pwX6_write
  | 12, _ => cases h; exact pwX6_copy
  | 13, _ => cases h; exact pwX6_lays
  | 14, _ => cases h; exact pwX6_show
  | 15, _ => cases h; exact pwX6_check
  | k + 16, hk => omega
theorem allW_6 : ∀ k, k < 16 → ∀ my, mT (16 * 6 + k) = some my → lw_tbl[(mP (16 * 6 + k)).1]? = some (.code (mN (16 * 6 + k)).1 (mN (16 * 6 + k)).2 my.2.1 my.2.2.1) := by
  intro k hk my h
  match k, hk with
  | 0, _ => cases h; exact pwX6_image
  | 1, _ => cases h; exact pwX6_undo
  | 2, _ => cases h; exact pwX6_tear
  | 3, _ => cases h; exact pwX6_count
  | 4, _ => cases h; exact pwX6_status
  | 5, _ => cases h; exact pwX6_finding
  | 6, _ => cases h; exact pwX6_isGarment
  | 7, _ => cases h; exact pwX6_sheetFinding
  | 8, _ => cases h; exact pwX6_sheetAndLineFinding
  | 9, _ => cases h; exact pwX6_isWithin
  | 10, _ => cases h; exact pwX6_isLine
  | 11, _ => cases h; exact pwX6_isKind
  | 12, _ => cases h; exact pwX6_isSize
  | 13, _ => cases h; exact pwX6_isWind
  | 14, _ => cases h; exact pwX6_isMeaning
  | 15, _ => cases h; exact pwX6_isWorth
  | k + 16, hk => omega
theorem allW_7 : ∀ k, k < 16 → ∀ my, mT (16 * 7 + k) = some my → lw_tbl[(mP (16 * 7 + k)).1]? = some (.code (mN (16 * 7 + k)).1 (mN (16 * 7 + k)).2 my.2.1 my.2.2.1) := by
  intro k hk my h
  match k, hk with
  | 0, _ => cases h; exact pwX6_isSheet
  | 1, _ => cases h; exact pwX6_isBits
  | 2, _ => cases h; exact pwX6_isGarmentCode
  | 3, _ => cases h; exact pwX6_isOfKind
  | 4, _ => cases h; exact pwX6_isSeen
  | 5, _ => cases h; exact pwX6_worthAfter
  | 6, _ => cases h; exact pwX6_stockingsAfter
  | 7, _ => cases h; exact pwX6_held
  | 8, _ => cases h; exact pwX6_worthOf
  | 9, _ => cases h; exact pwX6_worthBehind
  | 10, _ => cases h; exact pwX6_worthJoined
  | 11, _ => cases h; exact pwX6_readNow
  | 12, _ => cases h; exact pwX6_readWithout
  | 13, _ => cases h; exact pwX6_readWithOneMore
  | 14, _ => cases h; exact pwX6_windsReadAs
  | 15, _ => cases h; exact pwX6_fewestOff
  | k + 16, hk => omega
theorem allW_8 : ∀ k, k < 16 → ∀ my, mT (16 * 8 + k) = some my → lw_tbl[(mP (16 * 8 + k)).1]? = some (.code (mN (16 * 8 + k)).1 (mN (16 * 8 + k)).2 my.2.1 my.2.2.1) := by
  intro k hk my h
  match k, hk with
  | 0, _ => cases h; exact pwX7_init
  | 1, _ => cases h; exact pwX7_isIn
  | 2, _ => cases h; exact pwX7_finds
  | 3, _ => cases h; exact pwX7_becomes
  | 4, _ => cases h; exact pwX7_isLine
  | 5, _ => cases h; exact pwX7_isPeg
  | 6, _ => cases h; exact pwX7_isMeaning
  | 7, _ => cases h; exact pwX7_placeOf
  | 8, _ => cases h; exact pwX7_copyRow
  | 9, _ => cases h; exact pwX7_apartBy
  | 10, _ => cases h; exact pwX7_hangs
  | 11, _ => cases h; exact pwX7_isGarment
  | 12, _ => cases h; exact pwX7_hang
  | 13, _ => cases h; exact pwX7_off
  | 14, _ => cases h; exact pwX7_lays
  | 15, _ => cases h; exact pwX7_isSeen
  | k + 16, hk => omega
theorem allW_9 : ∀ k, k < 16 → ∀ my, mT (16 * 9 + k) = some my → lw_tbl[(mP (16 * 9 + k)).1]? = some (.code (mN (16 * 9 + k)).1 (mN (16 * 9 + k)).2 my.2.1 my.2.2.1) := by
  intro k hk my h
  match k, hk with
  | 0, _ => cases h; exact pwX7_kept
  | 1, _ => cases h; exact pwX7_isStocking
  | 2, _ => cases h; exact pwX7_becomesBy
  | 3, _ => cases h; exact pwX7_worthOfFirst
  | 4, _ => cases h; exact pwX7_worthBy
  | 5, _ => cases h; exact pwX7_worthAside
  | 6, _ => cases h; exact pwX7_readAs
  | 7, _ => cases h; exact pwX7_of
  | 8, _ => cases h; exact pwX7_set
  | 9, _ => cases h; exact pwX7_turn
  | 10, _ => cases h; exact pwX7_isUnder
  | 11, _ => cases h; exact pwX7_as
  | 12, _ => cases h; exact pwX7_swap
  | 13, _ => cases h; exact pwX7_take
  | 14, _ => cases h; exact pwX7_hangsAside
  | 15, _ => cases h; exact pwX7_like
  | k + 16, hk => omega
theorem allW_10 : ∀ k, k < 16 → ∀ my, mT (16 * 10 + k) = some my → lw_tbl[(mP (16 * 10 + k)).1]? = some (.code (mN (16 * 10 + k)).1 (mN (16 * 10 + k)).2 my.2.1 my.2.2.1) := by
  intro k hk my h
  match k, hk with
  | 0, _ => cases h; exact pwX7_wind
  | 1, _ => cases h; exact pwX7_garments
  | 2, _ => cases h; exact pwX7_days
  | 3, _ => cases h; exact pwX7_means
  | 4, _ => cases h; exact pwX7_forget
  | 5, _ => cases h; exact pwX7_number
  | 6, _ => cases h; exact pwX7_orNone
  | 7, _ => cases h; exact pwX7_read
  | 8, _ => cases h; exact pwX7_apart
  | 9, _ => cases h; exact pwX7_worth
  | 10, _ => cases h; exact pwX7_worthIn
  | 11, _ => cases h; exact pwX7_says
  | 12, _ => cases h; exact pwX7_windsOf
  | 13, _ => cases h; exact pwX7_winds
  | 14, _ => cases h; exact pwX7_laysBut
  | 15, _ => cases h; exact pwX7_lost
  | k + 16, hk => omega
theorem allW_11 : ∀ k, k < 16 → ∀ my, mT (16 * 11 + k) = some my → lw_tbl[(mP (16 * 11 + k)).1]? = some (.code (mN (16 * 11 + k)).1 (mN (16 * 11 + k)).2 my.2.1 my.2.2.1) := by
  intro k hk my h
  match k, hk with
  | 0, _ => cases h; exact pwX7_manyIn
  | 1, _ => cases h; exact pwX7_fewestSet
  | 2, _ => cases h; exact pwX7_fewest
  | 3, _ => cases h; exact pwX7_which
  | 4, _ => cases h; exact pwX7_more
  | 5, _ => cases h; exact pwX7_beginsOrders
  | 6, _ => cases h; exact pwX7_hasNext
  | 7, _ => cases h; exact pwX7_swapsOrder
  | 8, _ => cases h; exact pwX7_laysOrder
  | 9, _ => cases h; exact pwX7_orders
  | 10, _ => cases h; exact pwX7_furthest
  | 11, _ => cases h; exact pwX7_most
  | 12, _ => cases h; exact pwX7_least
  | 13, _ => cases h; exact pwX7_notesOrder
  | 14, _ => cases h; exact pwX7_order
  | 15, _ => cases h; exact pwX7_worths
  | k + 16, hk => omega
theorem allW_12 : ∀ k, k < 16 → ∀ my, mT (16 * 12 + k) = some my → lw_tbl[(mP (16 * 12 + k)).1]? = some (.code (mN (16 * 12 + k)).1 (mN (16 * 12 + k)).2 my.2.1 my.2.2.1) := by
  intro k hk my h
  match k, hk with
  | 0, _ => cases h; exact pwX7_can
  | 1, _ => cases h; exact pwX7_join
  | 2, _ => cases h; exact pwX7_same
  | 3, _ => cases h; exact pwX7_best
  | 4, _ => cases h; exact pwX7_feed
  | 5, _ => cases h; exact pwX7_wipe
  | 6, _ => cases h; exact pwX7_isLetter
  | 7, _ => cases h; exact pwX7_isDigit
  | 8, _ => cases h; exact pwX7_byteAt
  | 9, _ => cases h; exact pwX7_nextToken
  | 10, _ => cases h; exact pwX7_has3
  | 11, _ => cases h; exact pwX7_isWord
  | 12, _ => cases h; exact pwX7_fails
  | 13, _ => cases h; exact pwX7_isFour
  | 14, _ => cases h; exact pwX7_isFive
  | 15, _ => cases h; exact pwX7_isSix
  | k + 16, hk => omega
theorem allW_13 : ∀ k, k < 16 → ∀ my, mT (16 * 13 + k) = some my → lw_tbl[(mP (16 * 13 + k)).1]? = some (.code (mN (16 * 13 + k)).1 (mN (16 * 13 + k)).2 my.2.1 my.2.2.1) := by
  intro k hk my h
  match k, hk with
  | 0, _ => cases h; exact pwX7_kindHere
  | 1, _ => cases h; exact pwX7_isNumber
  | 2, _ => cases h; exact pwX7_garmentHere
  | 3, _ => cases h; exact pwX7_lineHere
  | 4, _ => cases h; exact pwX7_windHere
  | 5, _ => cases h; exact pwX7_meaningHere
  | 6, _ => cases h; exact pwX7_forgetHere
  | 7, _ => cases h; exact pwX7_itemHere
  | 8, _ => cases h; exact pwX7_town
  | 9, _ => cases h; exact pwX7_isSheet
  | 10, _ => cases h; exact pwX7_narrow
  | 11, _ => cases h; exact pwX7_sheet
  | 12, _ => cases h; exact pwX7_write
  | 13, _ => cases h; exact pwX7_copy
  | 14, _ => cases h; exact pwX7_wants
  | 15, _ => cases h; exact pwX7_lays_
  | k + 16, hk => omega
theorem allW_14 : ∀ k, k < 16 → ∀ my, mT (16 * 14 + k) = some my → lw_tbl[(mP (16 * 14 + k)).1]? = some (.code (mN (16 * 14 + k)).1 (mN (16 * 14 + k)).2 my.2.1 my.2.2.1) := by
  intro k hk my h
  match k, hk with
  | 0, _ => cases h; exact pwX7_show
  | 1, _ => cases h; exact pwX7_check
  | 2, _ => cases h; exact pwX7_image
  | 3, _ => cases h; exact pwX7_undo
  | 4, _ => cases h; exact pwX7_tear
  | 5, _ => cases h; exact pwX7_count
  | 6, _ => cases h; exact pwX7_status
  | 7, _ => cases h; exact pwJ6_bitCount_0f7a4
  | 8, _ => cases h; exact pwJ13_bitCount_95d88
  | 9, _ => cases h; exact pwJ0_length_8abf5
  | 10, _ => cases h; exact pwJ0_charAt_5068e
  | 11, _ => cases h; exact pwJ0_coder_7d493
  | 12, _ => cases h; exact pwJ0_isLatin1_aae02
  | 13, _ => cases h; exact pwJ0_checkIndex_df160
  | 14, _ => cases h; exact pwJ1_charAt_3b067
  | 15, _ => cases h; exact pwJ7_fill_d0a16
  | k + 16, hk => omega
theorem allW_15 : ∀ k, k < 2 → ∀ my, mT (16 * 15 + k) = some my → lw_tbl[(mP (16 * 15 + k)).1]? = some (.code (mN (16 * 15 + k)).1 (mN (16 * 15 + k)).2 my.2.1 my.2.2.1) := by
  intro k hk my h
  match k, hk with
  | 0, _ => cases h; exact pwJ7_fill_53178
  | 1, _ => cases h; exact pwJ3_checkIndex_8e157
  | k + 2, hk => omega
theorem allW : ∀ i my, mT i = some my → lw_tbl[(mP i).1]? = some (.code (mN i).1 (mN i).2 my.2.1 my.2.2.1) := by
  intro i my h
  have hi : i < 242 := mT_lt h
  obtain ⟨j, k, hk, rfl⟩ : ∃ j k, k < 16 ∧ i = 16 * j + k := ⟨i / 16, i % 16, Nat.mod_lt _ (by omega), by omega⟩
  match j with
  | 0 => exact allW_0 k (by omega) my h
  | 1 => exact allW_1 k (by omega) my h
  | 2 => exact allW_2 k (by omega) my h
  | 3 => exact allW_3 k (by omega) my h
  | 4 => exact allW_4 k (by omega) my h
  | 5 => exact allW_5 k (by omega) my h
  | 6 => exact allW_6 k (by omega) my h
  | 7 => exact allW_7 k (by omega) my h
  | 8 => exact allW_8 k (by omega) my h
  | 9 => exact allW_9 k (by omega) my h
  | 10 => exact allW_10 k (by omega) my h
  | 11 => exact allW_11 k (by omega) my h
  | 12 => exact allW_12 k (by omega) my h
  | 13 => exact allW_13 k (by omega) my h
  | 14 => exact allW_14 k (by omega) my h
  | 15 => exact allW_15 k (by omega) my h
  | j + 16 => omega
theorem okW_0 : (List.range 16).all (fun k => okW (16 * 0 + k)) = true := by decide +kernel
theorem okW_1 : (List.range 16).all (fun k => okW (16 * 1 + k)) = true := by decide +kernel
theorem okW_2 : (List.range 16).all (fun k => okW (16 * 2 + k)) = true := by decide +kernel
theorem okW_3 : (List.range 16).all (fun k => okW (16 * 3 + k)) = true := by decide +kernel
theorem okW_4 : (List.range 16).all (fun k => okW (16 * 4 + k)) = true := by decide +kernel
theorem okW_5 : (List.range 16).all (fun k => okW (16 * 5 + k)) = true := by decide +kernel
theorem okW_6 : (List.range 16).all (fun k => okW (16 * 6 + k)) = true := by decide +kernel
theorem okW_7 : (List.range 16).all (fun k => okW (16 * 7 + k)) = true := by decide +kernel
theorem okW_8 : (List.range 16).all (fun k => okW (16 * 8 + k)) = true := by decide +kernel
theorem okW_9 : (List.range 16).all (fun k => okW (16 * 9 + k)) = true := by decide +kernel
theorem okW_10 : (List.range 16).all (fun k => okW (16 * 10 + k)) = true := by decide +kernel
theorem okW_11 : (List.range 16).all (fun k => okW (16 * 11 + k)) = true := by decide +kernel
theorem okW_12 : (List.range 16).all (fun k => okW (16 * 12 + k)) = true := by decide +kernel
theorem okW_13 : (List.range 16).all (fun k => okW (16 * 13 + k)) = true := by decide +kernel
theorem okW_14 : (List.range 16).all (fun k => okW (16 * 14 + k)) = true := by decide +kernel
theorem okW_15 : (List.range 2).all (fun k => okW (16 * 15 + k)) = true := by decide +kernel
theorem okW_all : ∀ i, i < 242 → okW i = true := by
  intro i hi
  obtain ⟨j, k, hk, rfl⟩ : ∃ j k, k < 16 ∧ i = 16 * j + k := ⟨i / 16, i % 16, Nat.mod_lt _ (by omega), by omega⟩
  match j with
  | 0 => exact List.all_eq_true.mp okW_0 k (List.mem_range.mpr (by omega))
  | 1 => exact List.all_eq_true.mp okW_1 k (List.mem_range.mpr (by omega))
  | 2 => exact List.all_eq_true.mp okW_2 k (List.mem_range.mpr (by omega))
  | 3 => exact List.all_eq_true.mp okW_3 k (List.mem_range.mpr (by omega))
  | 4 => exact List.all_eq_true.mp okW_4 k (List.mem_range.mpr (by omega))
  | 5 => exact List.all_eq_true.mp okW_5 k (List.mem_range.mpr (by omega))
  | 6 => exact List.all_eq_true.mp okW_6 k (List.mem_range.mpr (by omega))
  | 7 => exact List.all_eq_true.mp okW_7 k (List.mem_range.mpr (by omega))
  | 8 => exact List.all_eq_true.mp okW_8 k (List.mem_range.mpr (by omega))
  | 9 => exact List.all_eq_true.mp okW_9 k (List.mem_range.mpr (by omega))
  | 10 => exact List.all_eq_true.mp okW_10 k (List.mem_range.mpr (by omega))
  | 11 => exact List.all_eq_true.mp okW_11 k (List.mem_range.mpr (by omega))
  | 12 => exact List.all_eq_true.mp okW_12 k (List.mem_range.mpr (by omega))
  | 13 => exact List.all_eq_true.mp okW_13 k (List.mem_range.mpr (by omega))
  | 14 => exact List.all_eq_true.mp okW_14 k (List.mem_range.mpr (by omega))
  | 15 => exact List.all_eq_true.mp okW_15 k (List.mem_range.mpr (by omega))
  | j + 16 => omega
theorem all_td {α : Type} {p : α → Bool} {l : List α} (n : Nat) (h1 : (l.take n).all p = true) (h2 : (l.drop n).all p = true) : l.all p = true := by
  rw [← List.take_append_drop n l, List.all_append, h1, h2]
  rfl
def mlk (q : Nat × Nat × Nat × Nat × Nat) : Bool := match q with
  | (o, i, y, k, ps) => if k = 0 then decide (lw_tbl[ps]? = some (.methodLink (oN o) i (mN y).1)) && decide (lw_tbl[(mP y).2.1]? = some (.instanceMethod (mN y).1)) && decide (lw_tbl[(mP y).2.2.1]? = some (.selects (mN y).1.cls (mN y).1 (mN y).1))
    else if k = 1 then decide (lw_tbl[ps]? = some (.methodLink (oN o) i (mN y).1)) && decide (lw_tbl[(mP y).2.1]? = some (.static (mN y).1))
    else if k = 2 then decide (lw_tbl[ps]? = some (.methodLink (oN o) i (mN y).1)) && decide (lw_tbl[(mP y).2.1]? = some (.instanceMethod (mN y).1)) && decide ((mN y).1.name = "<init>") && (match mT y with | some my => decide (my.2.2.1 = none) | none => true)
    else if k = 3 then decide (lw_tbl[(mP y).2.1]? = some (.static (mN y).1))
    else decide (lw_tbl[(mP y).2.1]? = some (.instanceMethod (mN y).1)) && decide ((mN y).1.name = "<init>") && (match mT y with | some my => decide (my.2.2.1 = none) | none => true)
theorem mlk_0 : ((mL.drop 0).take 32).all mlk = true := by decide +kernel
theorem mlk_32 : ((mL.drop 32).take 32).all mlk = true := by decide +kernel
theorem mlk_64 : ((mL.drop 64).take 32).all mlk = true := by decide +kernel
theorem mlk_96 : ((mL.drop 96).take 32).all mlk = true := by decide +kernel
theorem mlk_128 : ((mL.drop 128).take 32).all mlk = true := by decide +kernel
theorem mlk_160 : ((mL.drop 160).take 32).all mlk = true := by decide +kernel
theorem mlk_192 : ((mL.drop 192).take 32).all mlk = true := by decide +kernel
theorem mlk_224 : ((mL.drop 224).take 32).all mlk = true := by decide +kernel
theorem mlk_256 : ((mL.drop 256).take 32).all mlk = true := by decide +kernel
theorem mle_288 : (mL.drop 288).all mlk = true := by decide +kernel
theorem mle_256 : (mL.drop 256).all mlk = true := all_td 32 mlk_256 (by rw [List.drop_drop]; exact mle_288)
theorem mle_224 : (mL.drop 224).all mlk = true := all_td 32 mlk_224 (by rw [List.drop_drop]; exact mle_256)
theorem mle_192 : (mL.drop 192).all mlk = true := all_td 32 mlk_192 (by rw [List.drop_drop]; exact mle_224)
theorem mle_160 : (mL.drop 160).all mlk = true := all_td 32 mlk_160 (by rw [List.drop_drop]; exact mle_192)
theorem mle_128 : (mL.drop 128).all mlk = true := all_td 32 mlk_128 (by rw [List.drop_drop]; exact mle_160)
theorem mle_96 : (mL.drop 96).all mlk = true := all_td 32 mlk_96 (by rw [List.drop_drop]; exact mle_128)
theorem mle_64 : (mL.drop 64).all mlk = true := all_td 32 mlk_64 (by rw [List.drop_drop]; exact mle_96)
theorem mle_32 : (mL.drop 32).all mlk = true := all_td 32 mlk_32 (by rw [List.drop_drop]; exact mle_64)
theorem mle_0 : (mL.drop 0).all mlk = true := all_td 32 mlk_0 (by rw [List.drop_drop]; exact mle_32)
theorem mlk_ok : mL.all mlk = true := mle_0
