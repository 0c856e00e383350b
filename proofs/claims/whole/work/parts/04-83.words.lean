set_option maxRecDepth 100000 in
theorem pwX0_init : lw_tbl[182]? = some (.code yX0_init cX0_init 2 none) := rfl
set_option maxRecDepth 100000 in
theorem pwX0_walk : lw_tbl[584]? = some (.code yX0_walk cX0_walk 4 none) := rfl
set_option maxRecDepth 100000 in
theorem pwX0_findTwins : lw_tbl[592]? = some (.code yX0_findTwins cX0_findTwins 4 none) := rfl
set_option maxRecDepth 100000 in
theorem pwX0_saying : lw_tbl[596]? = some (.code yX0_saying cX0_saying 4 (some .int)) := rfl
set_option maxRecDepth 100000 in
theorem pwX0_hangNext : lw_tbl[601]? = some (.code yX0_hangNext cX0_hangNext 5 none) := rfl
set_option maxRecDepth 100000 in
theorem pwX0_sayThenHangNext : lw_tbl[625]? = some (.code yX0_sayThenHangNext cX0_sayThenHangNext 7 none) := rfl
set_option maxRecDepth 100000 in
theorem pwX0_mayHang : lw_tbl[617]? = some (.code yX0_mayHang cX0_mayHang 2 (some .boolean)) := rfl
set_option maxRecDepth 100000 in
theorem pwX0_isHanging : lw_tbl[621]? = some (.code yX0_isHanging cX0_isHanging 2 (some .boolean)) := rfl
set_option maxRecDepth 100000 in
theorem pwX0_arrive : lw_tbl[605]? = some (.code yX0_arrive cX0_arrive 3 none) := rfl
set_option maxRecDepth 100000 in
theorem pwX0_arrangeNearest : lw_tbl[643]? = some (.code yX0_arrangeNearest cX0_arrangeNearest 4 none) := rfl
set_option maxRecDepth 100000 in
theorem pwX0_unlikeWorths : lw_tbl[653]? = some (.code yX0_unlikeWorths cX0_unlikeWorths 3 (some .int)) := rfl
set_option maxRecDepth 100000 in
theorem pwX0_meaningsMet : lw_tbl[667]? = some (.code yX0_meaningsMet cX0_meaningsMet 4 (some .int)) := rfl
set_option maxRecDepth 100000 in
theorem pwX0_meaningBit : lw_tbl[671]? = some (.code yX0_meaningBit cX0_meaningBit 3 (some .int)) := rfl
set_option maxRecDepth 100000 in
theorem pwX1_init : lw_tbl[108]? = some (.code yX1_init cX1_init 1 none) := rfl
set_option maxRecDepth 100000 in
theorem pwX1_clear : lw_tbl[429]? = some (.code yX1_clear cX1_clear 1 none) := rfl
set_option maxRecDepth 100000 in
theorem pwX1_add : lw_tbl[339]? = some (.code yX1_add cX1_add 4 none) := rfl
set_option maxRecDepth 100000 in
theorem pwX1_put : lw_tbl[343]? = some (.code yX1_put cX1_put 5 none) := rfl
set_option maxRecDepth 100000 in
theorem pwX1_remove : lw_tbl[355]? = some (.code yX1_remove cX1_remove 3 none) := rfl
set_option maxRecDepth 100000 in
theorem pwX1_exchange : lw_tbl[418]? = some (.code yX1_exchange cX1_exchange 6 none) := rfl
set_option maxRecDepth 100000 in
theorem pwX1_become : lw_tbl[437]? = some (.code yX1_become cX1_become 3 none) := rfl
set_option maxRecDepth 100000 in
theorem pwX1_isSeenAt : lw_tbl[363]? = some (.code yX1_isSeenAt cX1_isSeenAt 3 (some .boolean)) := rfl
set_option maxRecDepth 100000 in
theorem pwX1_pegsLike : lw_tbl[687]? = some (.code yX1_pegsLike cX1_pegsLike 5 (some .int)) := rfl
set_option maxRecDepth 100000 in
theorem pwX1_dry : lw_tbl[457]? = some (.code yX1_dry cX1_dry 4 (some .int)) := rfl
set_option maxRecDepth 100000 in
theorem pwX2_init : lw_tbl[271]? = some (.code yX2_init cX2_init 1 none) := rfl
set_option maxRecDepth 100000 in
theorem pwX2_begin : lw_tbl[842]? = some (.code yX2_begin cX2_begin 3 none) := rfl
set_option maxRecDepth 100000 in
theorem pwX2_put : lw_tbl[856]? = some (.code yX2_put cX2_put 4 none) := rfl
set_option maxRecDepth 100000 in
theorem pwX2_hasRange : lw_tbl[864]? = some (.code yX2_hasRange cX2_hasRange 3 (some .boolean)) := rfl
set_option maxRecDepth 100000 in
theorem pwX3_init : lw_tbl[244]? = some (.code yX3_init cX3_init 1 none) := rfl
set_option maxRecDepth 100000 in
theorem pwX3_add : lw_tbl[700]? = some (.code yX3_add cX3_add 2 none) := rfl
set_option maxRecDepth 100000 in
theorem pwX3_tell : lw_tbl[718]? = some (.code yX3_tell cX3_tell 4 (some .int)) := rfl
set_option maxRecDepth 100000 in
theorem pwX3_lineItem : lw_tbl[782]? = some (.code yX3_lineItem cX3_lineItem 4 (some .boolean)) := rfl
set_option maxRecDepth 100000 in
theorem pwX3_garment : lw_tbl[796]? = some (.code yX3_garment cX3_garment 5 (some .boolean)) := rfl
set_option maxRecDepth 100000 in
theorem pwX3_windItem : lw_tbl[816]? = some (.code yX3_windItem cX3_windItem 2 (some .boolean)) := rfl
set_option maxRecDepth 100000 in
theorem pwX3_meaningItem : lw_tbl[821]? = some (.code yX3_meaningItem cX3_meaningItem 4 (some .boolean)) := rfl
set_option maxRecDepth 100000 in
theorem pwX3_forgetItem : lw_tbl[826]? = some (.code yX3_forgetItem cX3_forgetItem 2 (some .boolean)) := rfl
set_option maxRecDepth 100000 in
theorem pwX3_takeNumber : lw_tbl[786]? = some (.code yX3_takeNumber cX3_takeNumber 4 (some .boolean)) := rfl
set_option maxRecDepth 100000 in
theorem pwX3_kindTold : lw_tbl[800]? = some (.code yX3_kindTold cX3_kindTold 2 (some .int)) := rfl
set_option maxRecDepth 100000 in
theorem pwX3_kindName : lw_tbl[803]? = some (.code yX3_kindName cX3_kindName 1 (some (.object "java/lang/String"))) := rfl
set_option maxRecDepth 100000 in
theorem pwX3_isWord : lw_tbl[730]? = some (.code yX3_isWord cX3_isWord 3 (some .boolean)) := rfl
set_option maxRecDepth 100000 in
theorem pwX3_step : lw_tbl[722]? = some (.code yX3_step cX3_step 2 none) := rfl
set_option maxRecDepth 100000 in
theorem pwX3_numberHere : lw_tbl[790]? = some (.code yX3_numberHere cX3_numberHere 3 (some .int)) := rfl
set_option maxRecDepth 100000 in
theorem pwX3_sortOf : lw_tbl[725]? = some (.code yX3_sortOf cX3_sortOf 1 (some .int)) := rfl
set_option maxRecDepth 100000 in
theorem pwX4_init : lw_tbl[101]? = some (.code yX4_init cX4_init 2 none) := rfl
set_option maxRecDepth 100000 in
theorem pwX4_become : lw_tbl[712]? = some (.code yX4_become cX4_become 3 none) := rfl
set_option maxRecDepth 100000 in
theorem pwX4_garments : lw_tbl[894]? = some (.code yX4_garments cX4_garments 3 (some .int)) := rfl
set_option maxRecDepth 100000 in
theorem pwX4_letDaysGo : lw_tbl[453]? = some (.code yX4_letDaysGo cX4_letDaysGo 4 (some .int)) := rfl
set_option maxRecDepth 100000 in
theorem pwX4_hasNumber : lw_tbl[475]? = some (.code yX4_hasNumber cX4_hasNumber 2 (some .boolean)) := rfl
set_option maxRecDepth 100000 in
theorem pwX4_meaningsTold : lw_tbl[501]? = some (.code yX4_meaningsTold cX4_meaningsTold 3 (some .int)) := rfl
set_option maxRecDepth 100000 in
theorem pwX4_readAs : lw_tbl[491]? = some (.code yX4_readAs cX4_readAs 6 (some .int)) := rfl
set_option maxRecDepth 100000 in
theorem pwX4_leastDifference : lw_tbl[505]? = some (.code yX4_leastDifference cX4_leastDifference 4 (some .int)) := rfl
set_option maxRecDepth 100000 in
theorem pwX5_init : lw_tbl[165]? = some (.code yX5_init cX5_init 1 none) := rfl
set_option maxRecDepth 100000 in
theorem pwX5_begin : lw_tbl[374]? = some (.code yX5_begin cX5_begin 2 none) := rfl
set_option maxRecDepth 100000 in
theorem pwX5_hear : lw_tbl[378]? = some (.code yX5_hear cX5_hear 6 none) := rfl
set_option maxRecDepth 100000 in
theorem pwX5_hearGarment : lw_tbl[382]? = some (.code yX5_hearGarment cX5_hearGarment 4 none) := rfl
set_option maxRecDepth 100000 in
theorem pwX6_init : lw_tbl[93]? = some (.code yX6_init cX6_init 2 none) := rfl
set_option maxRecDepth 100000 in
theorem pwX6_hang : lw_tbl[317]? = some (.code yX6_hang cX6_hang 5 (some .int)) := rfl
set_option maxRecDepth 100000 in
theorem pwX6_off : lw_tbl[347]? = some (.code yX6_off cX6_off 5 (some .int)) := rfl
set_option maxRecDepth 100000 in
theorem pwX6_of : lw_tbl[359]? = some (.code yX6_of cX6_of 5 (some .int)) := rfl
set_option maxRecDepth 100000 in
theorem pwX6_set : lw_tbl[396]? = some (.code yX6_set cX6_set 7 (some .int)) := rfl
set_option maxRecDepth 100000 in
theorem pwX6_turn : lw_tbl[400]? = some (.code yX6_turn cX6_turn 6 (some .int)) := rfl
set_option maxRecDepth 100000 in
theorem pwX6_as : lw_tbl[404]? = some (.code yX6_as cX6_as 5 (some .int)) := rfl
set_option maxRecDepth 100000 in
theorem pwX6_swap : lw_tbl[414]? = some (.code yX6_swap cX6_swap 4 (some .int)) := rfl
set_option maxRecDepth 100000 in
theorem pwX6_take : lw_tbl[425]? = some (.code yX6_take cX6_take 4 (some .int)) := rfl
set_option maxRecDepth 100000 in
theorem pwX6_like : lw_tbl[433]? = some (.code yX6_like cX6_like 3 (some .int)) := rfl
set_option maxRecDepth 100000 in
theorem pwX6_wind : lw_tbl[441]? = some (.code yX6_wind cX6_wind 3 (some .int)) := rfl
set_option maxRecDepth 100000 in
theorem pwX6_days : lw_tbl[448]? = some (.code yX6_days cX6_days 2 (some .int)) := rfl
set_option maxRecDepth 100000 in
theorem pwX6_means : lw_tbl[464]? = some (.code yX6_means cX6_means 4 (some .int)) := rfl
set_option maxRecDepth 100000 in
theorem pwX6_forget : lw_tbl[471]? = some (.code yX6_forget cX6_forget 3 (some .int)) := rfl
set_option maxRecDepth 100000 in
theorem pwX6_number : lw_tbl[479]? = some (.code yX6_number cX6_number 2 (some .int)) := rfl
set_option maxRecDepth 100000 in
theorem pwX6_read : lw_tbl[484]? = some (.code yX6_read cX6_read 3 (some .int)) := rfl
set_option maxRecDepth 100000 in
theorem pwX6_apart : lw_tbl[497]? = some (.code yX6_apart cX6_apart 1 (some .int)) := rfl
set_option maxRecDepth 100000 in
theorem pwX6_worth : lw_tbl[512]? = some (.code yX6_worth cX6_worth 2 (some .int)) := rfl
set_option maxRecDepth 100000 in
theorem pwX6_worthIn : lw_tbl[520]? = some (.code yX6_worthIn cX6_worthIn 3 (some .int)) := rfl
set_option maxRecDepth 100000 in
theorem pwX6_says : lw_tbl[524]? = some (.code yX6_says cX6_says 3 (some .int)) := rfl
set_option maxRecDepth 100000 in
theorem pwX6_winds : lw_tbl[532]? = some (.code yX6_winds cX6_winds 4 (some .int)) := rfl
set_option maxRecDepth 100000 in
theorem pwX6_lost : lw_tbl[540]? = some (.code yX6_lost cX6_lost 6 (some .int)) := rfl
set_option maxRecDepth 100000 in
theorem pwX6_fewest : lw_tbl[548]? = some (.code yX6_fewest cX6_fewest 4 (some .int)) := rfl
set_option maxRecDepth 100000 in
theorem pwX6_which : lw_tbl[562]? = some (.code yX6_which cX6_which 4 (some .int)) := rfl
set_option maxRecDepth 100000 in
theorem pwX6_more : lw_tbl[566]? = some (.code yX6_more cX6_more 5 (some .int)) := rfl
set_option maxRecDepth 100000 in
theorem pwX6_orders : lw_tbl[580]? = some (.code yX6_orders cX6_orders 3 (some .int)) := rfl
set_option maxRecDepth 100000 in
theorem pwX6_most : lw_tbl[631]? = some (.code yX6_most cX6_most 2 (some .int)) := rfl
set_option maxRecDepth 100000 in
theorem pwX6_least : lw_tbl[635]? = some (.code yX6_least cX6_least 2 (some .int)) := rfl
set_option maxRecDepth 100000 in
theorem pwX6_order : lw_tbl[639]? = some (.code yX6_order cX6_order 4 (some .int)) := rfl
set_option maxRecDepth 100000 in
theorem pwX6_worths : lw_tbl[649]? = some (.code yX6_worths cX6_worths 2 (some .int)) := rfl
set_option maxRecDepth 100000 in
theorem pwX6_can : lw_tbl[663]? = some (.code yX6_can cX6_can 2 (some .int)) := rfl
set_option maxRecDepth 100000 in
theorem pwX6_join : lw_tbl[675]? = some (.code yX6_join cX6_join 8 (some .int)) := rfl
set_option maxRecDepth 100000 in
theorem pwX6_same : lw_tbl[683]? = some (.code yX6_same cX6_same 3 (some .int)) := rfl
set_option maxRecDepth 100000 in
theorem pwX6_best : lw_tbl[692]? = some (.code yX6_best cX6_best 6 (some .int)) := rfl
set_option maxRecDepth 100000 in
theorem pwX6_feed : lw_tbl[696]? = some (.code yX6_feed cX6_feed 4 (some .int)) := rfl
set_option maxRecDepth 100000 in
theorem pwX6_wipe : lw_tbl[704]? = some (.code yX6_wipe cX6_wipe 2 (some .int)) := rfl
set_option maxRecDepth 100000 in
theorem pwX6_town : lw_tbl[708]? = some (.code yX6_town cX6_town 2 (some .int)) := rfl
set_option maxRecDepth 100000 in
theorem pwX6_sheet : lw_tbl[831]? = some (.code yX6_sheet cX6_sheet 4 (some .int)) := rfl
set_option maxRecDepth 100000 in
theorem pwX6_write : lw_tbl[847]? = some (.code yX6_write cX6_write 9 (some .long)) := rfl
set_option maxRecDepth 100000 in
theorem pwX6_copy : lw_tbl[860]? = some (.code yX6_copy cX6_copy 8 (some .int)) := rfl
set_option maxRecDepth 100000 in
theorem pwX6_lays : lw_tbl[869]? = some (.code yX6_lays cX6_lays 9 (some .int)) := rfl
set_option maxRecDepth 100000 in
theorem pwX6_show : lw_tbl[878]? = some (.code yX6_show cX6_show 7 (some .int)) := rfl
set_option maxRecDepth 100000 in
theorem pwX6_check : lw_tbl[882]? = some (.code yX6_check cX6_check 8 (some .int)) := rfl
set_option maxRecDepth 100000 in
theorem pwX6_image : lw_tbl[886]? = some (.code yX6_image cX6_image 1 (some .int)) := rfl
set_option maxRecDepth 100000 in
theorem pwX6_undo : lw_tbl[890]? = some (.code yX6_undo cX6_undo 1 (some .int)) := rfl
set_option maxRecDepth 100000 in
theorem pwX6_tear : lw_tbl[898]? = some (.code yX6_tear cX6_tear 2 (some .int)) := rfl
set_option maxRecDepth 100000 in
theorem pwX6_count : lw_tbl[902]? = some (.code yX6_count cX6_count 2 (some .int)) := rfl
set_option maxRecDepth 100000 in
theorem pwX6_status : lw_tbl[906]? = some (.code yX6_status cX6_status 4 (some .int)) := rfl
set_option maxRecDepth 100000 in
theorem pwX6_finding : lw_tbl[334]? = some (.code yX6_finding cX6_finding 3 (some .int)) := rfl
set_option maxRecDepth 100000 in
theorem pwX6_isGarment : lw_tbl[351]? = some (.code yX6_isGarment cX6_isGarment 3 (some .boolean)) := rfl
set_option maxRecDepth 100000 in
theorem pwX6_sheetFinding : lw_tbl[851]? = some (.code yX6_sheetFinding cX6_sheetFinding 2 (some .int)) := rfl
set_option maxRecDepth 100000 in
theorem pwX6_sheetAndLineFinding : lw_tbl[873]? = some (.code yX6_sheetAndLineFinding cX6_sheetAndLineFinding 4 (some .int)) := rfl
set_option maxRecDepth 100000 in
theorem pwX6_isWithin : lw_tbl[323]? = some (.code yX6_isWithin cX6_isWithin 3 (some .boolean)) := rfl
set_option maxRecDepth 100000 in
theorem pwX6_isLine : lw_tbl[320]? = some (.code yX6_isLine cX6_isLine 1 (some .boolean)) := rfl
set_option maxRecDepth 100000 in
theorem pwX6_isKind : lw_tbl[326]? = some (.code yX6_isKind cX6_isKind 1 (some .boolean)) := rfl
set_option maxRecDepth 100000 in
theorem pwX6_isSize : lw_tbl[329]? = some (.code yX6_isSize cX6_isSize 1 (some .boolean)) := rfl
set_option maxRecDepth 100000 in
theorem pwX6_isWind : lw_tbl[444]? = some (.code yX6_isWind cX6_isWind 1 (some .boolean)) := rfl
set_option maxRecDepth 100000 in
theorem pwX6_isMeaning : lw_tbl[467]? = some (.code yX6_isMeaning cX6_isMeaning 1 (some .boolean)) := rfl
set_option maxRecDepth 100000 in
theorem pwX6_isWorth : lw_tbl[487]? = some (.code yX6_isWorth cX6_isWorth 1 (some .boolean)) := rfl
set_option maxRecDepth 100000 in
theorem pwX6_isSheet : lw_tbl[834]? = some (.code yX6_isSheet cX6_isSheet 1 (some .boolean)) := rfl
set_option maxRecDepth 100000 in
theorem pwX6_isBits : lw_tbl[837]? = some (.code yX6_isBits cX6_isBits 1 (some .boolean)) := rfl
set_option maxRecDepth 100000 in
theorem pwX6_isGarmentCode : lw_tbl[569]? = some (.code yX6_isGarmentCode cX6_isGarmentCode 2 (some .boolean)) := rfl
set_option maxRecDepth 100000 in
theorem pwX6_isOfKind : lw_tbl[407]? = some (.code yX6_isOfKind cX6_isOfKind 4 (some .boolean)) := rfl
set_option maxRecDepth 100000 in
theorem pwX6_isSeen : lw_tbl[366]? = some (.code yX6_isSeen cX6_isSeen 5 (some .boolean)) := rfl
set_option maxRecDepth 100000 in
theorem pwX6_worthAfter : lw_tbl[386]? = some (.code yX6_worthAfter cX6_worthAfter 4 (some .int)) := rfl
set_option maxRecDepth 100000 in
theorem pwX6_stockingsAfter : lw_tbl[392]? = some (.code yX6_stockingsAfter cX6_stockingsAfter 2 (some .int)) := rfl
set_option maxRecDepth 100000 in
theorem pwX6_held : lw_tbl[389]? = some (.code yX6_held cX6_held 1 (some .int)) := rfl
set_option maxRecDepth 100000 in
theorem pwX6_worthOf : lw_tbl[516]? = some (.code yX6_worthOf cX6_worthOf 3 (some .int)) := rfl
set_option maxRecDepth 100000 in
theorem pwX6_worthBehind : lw_tbl[370]? = some (.code yX6_worthBehind cX6_worthBehind 3 (some .int)) := rfl
set_option maxRecDepth 100000 in
theorem pwX6_worthJoined : lw_tbl[679]? = some (.code yX6_worthJoined cX6_worthJoined 4 (some .int)) := rfl
set_option maxRecDepth 100000 in
theorem pwX6_readNow : lw_tbl[528]? = some (.code yX6_readNow cX6_readNow 2 (some .int)) := rfl
set_option maxRecDepth 100000 in
theorem pwX6_readWithout : lw_tbl[544]? = some (.code yX6_readWithout cX6_readWithout 3 (some .int)) := rfl
set_option maxRecDepth 100000 in
theorem pwX6_readWithOneMore : lw_tbl[575]? = some (.code yX6_readWithOneMore cX6_readWithOneMore 3 (some .int)) := rfl
set_option maxRecDepth 100000 in
theorem pwX6_windsReadAs : lw_tbl[536]? = some (.code yX6_windsReadAs cX6_windsReadAs 5 (some .int)) := rfl
set_option maxRecDepth 100000 in
theorem pwX6_fewestOff : lw_tbl[552]? = some (.code yX6_fewestOff cX6_fewestOff 8 (some .int)) := rfl
set_option maxRecDepth 100000 in
theorem pwX7_init : lw_tbl[911]? = some (.code yX7_init cX7_init 1 none) := rfl
set_option maxRecDepth 100000 in
theorem pwX7_isIn : lw_tbl[990]? = some (.code yX7_isIn cX7_isIn 6 (some .boolean)) := rfl
set_option maxRecDepth 100000 in
theorem pwX7_finds : lw_tbl[996]? = some (.code yX7_finds cX7_finds 2 (some .int)) := rfl
set_option maxRecDepth 100000 in
theorem pwX7_becomes : lw_tbl[1048]? = some (.code yX7_becomes cX7_becomes 4 (some .int)) := rfl
set_option maxRecDepth 100000 in
theorem pwX7_isLine : lw_tbl[983]? = some (.code yX7_isLine cX7_isLine 1 (some .boolean)) := rfl
set_option maxRecDepth 100000 in
theorem pwX7_isPeg : lw_tbl[1012]? = some (.code yX7_isPeg cX7_isPeg 3 (some .boolean)) := rfl
set_option maxRecDepth 100000 in
theorem pwX7_isMeaning : lw_tbl[1097]? = some (.code yX7_isMeaning cX7_isMeaning 1 (some .boolean)) := rfl
set_option maxRecDepth 100000 in
theorem pwX7_placeOf : lw_tbl[1004]? = some (.code yX7_placeOf cX7_placeOf 2 (some .int)) := rfl
set_option maxRecDepth 100000 in
theorem pwX7_copyRow : lw_tbl[1255]? = some (.code yX7_copyRow cX7_copyRow 3 none) := rfl
set_option maxRecDepth 100000 in
theorem pwX7_apartBy : lw_tbl[1067]? = some (.code yX7_apartBy cX7_apartBy 2 (some .int)) := rfl
set_option maxRecDepth 100000 in
theorem pwX7_hangs : lw_tbl[1001]? = some (.code yX7_hangs cX7_hangs 6 none) := rfl
set_option maxRecDepth 100000 in
theorem pwX7_isGarment : lw_tbl[986]? = some (.code yX7_isGarment cX7_isGarment 2 (some .boolean)) := rfl
set_option maxRecDepth 100000 in
theorem pwX7_hang : lw_tbl[980]? = some (.code yX7_hang cX7_hang 4 (some .int)) := rfl
set_option maxRecDepth 100000 in
theorem pwX7_off : lw_tbl[1008]? = some (.code yX7_off cX7_off 5 (some .int)) := rfl
set_option maxRecDepth 100000 in
theorem pwX7_lays : lw_tbl[1021]? = some (.code yX7_lays cX7_lays 3 none) := rfl
set_option maxRecDepth 100000 in
theorem pwX7_isSeen : lw_tbl[1025]? = some (.code yX7_isSeen cX7_isSeen 4 (some .boolean)) := rfl
set_option maxRecDepth 100000 in
theorem pwX7_kept : lw_tbl[1036]? = some (.code yX7_kept cX7_kept 1 (some .int)) := rfl
set_option maxRecDepth 100000 in
theorem pwX7_isStocking : lw_tbl[1039]? = some (.code yX7_isStocking cX7_isStocking 1 (some .boolean)) := rfl
set_option maxRecDepth 100000 in
theorem pwX7_becomesBy : lw_tbl[1033]? = some (.code yX7_becomesBy cX7_becomesBy 5 (some .int)) := rfl
set_option maxRecDepth 100000 in
theorem pwX7_worthOfFirst : lw_tbl[1029]? = some (.code yX7_worthOfFirst cX7_worthOfFirst 6 (some .int)) := rfl
set_option maxRecDepth 100000 in
theorem pwX7_worthBy : lw_tbl[1133]? = some (.code yX7_worthBy cX7_worthBy 3 (some .int)) := rfl
set_option maxRecDepth 100000 in
theorem pwX7_worthAside : lw_tbl[1161]? = some (.code yX7_worthAside cX7_worthAside 1 (some .int)) := rfl
set_option maxRecDepth 100000 in
theorem pwX7_readAs : lw_tbl[1117]? = some (.code yX7_readAs cX7_readAs 5 (some .int)) := rfl
set_option maxRecDepth 100000 in
theorem pwX7_of : lw_tbl[1016]? = some (.code yX7_of cX7_of 4 (some .int)) := rfl
set_option maxRecDepth 100000 in
theorem pwX7_set : lw_tbl[1043]? = some (.code yX7_set cX7_set 5 (some .int)) := rfl
set_option maxRecDepth 100000 in
theorem pwX7_turn : lw_tbl[1052]? = some (.code yX7_turn cX7_turn 4 (some .int)) := rfl
set_option maxRecDepth 100000 in
theorem pwX7_isUnder : lw_tbl[1059]? = some (.code yX7_isUnder cX7_isUnder 2 (some .boolean)) := rfl
set_option maxRecDepth 100000 in
theorem pwX7_as : lw_tbl[1056]? = some (.code yX7_as cX7_as 4 (some .int)) := rfl
set_option maxRecDepth 100000 in
theorem pwX7_swap : lw_tbl[1064]? = some (.code yX7_swap cX7_swap 5 (some .int)) := rfl
set_option maxRecDepth 100000 in
theorem pwX7_take : lw_tbl[1071]? = some (.code yX7_take cX7_take 2 (some .int)) := rfl
set_option maxRecDepth 100000 in
theorem pwX7_hangsAside : lw_tbl[1079]? = some (.code yX7_hangsAside cX7_hangsAside 3 none) := rfl
set_option maxRecDepth 100000 in
theorem pwX7_like : lw_tbl[1075]? = some (.code yX7_like cX7_like 3 (some .int)) := rfl
set_option maxRecDepth 100000 in
theorem pwX7_wind : lw_tbl[1083]? = some (.code yX7_wind cX7_wind 2 (some .int)) := rfl
set_option maxRecDepth 100000 in
theorem pwX7_garments : lw_tbl[1374]? = some (.code yX7_garments cX7_garments 1 (some .int)) := rfl
set_option maxRecDepth 100000 in
theorem pwX7_days : lw_tbl[1088]? = some (.code yX7_days cX7_days 6 (some .int)) := rfl
set_option maxRecDepth 100000 in
theorem pwX7_means : lw_tbl[1094]? = some (.code yX7_means cX7_means 4 (some .int)) := rfl
set_option maxRecDepth 100000 in
theorem pwX7_forget : lw_tbl[1103]? = some (.code yX7_forget cX7_forget 2 (some .int)) := rfl
set_option maxRecDepth 100000 in
theorem pwX7_number : lw_tbl[1107]? = some (.code yX7_number cX7_number 2 (some .int)) := rfl
set_option maxRecDepth 100000 in
theorem pwX7_orNone : lw_tbl[1121]? = some (.code yX7_orNone cX7_orNone 2 (some .int)) := rfl
set_option maxRecDepth 100000 in
theorem pwX7_read : lw_tbl[1112]? = some (.code yX7_read cX7_read 2 (some .int)) := rfl
set_option maxRecDepth 100000 in
theorem pwX7_apart : lw_tbl[1125]? = some (.code yX7_apart cX7_apart 5 (some .int)) := rfl
set_option maxRecDepth 100000 in
theorem pwX7_worth : lw_tbl[1129]? = some (.code yX7_worth cX7_worth 2 (some .int)) := rfl
set_option maxRecDepth 100000 in
theorem pwX7_worthIn : lw_tbl[1137]? = some (.code yX7_worthIn cX7_worthIn 3 (some .int)) := rfl
set_option maxRecDepth 100000 in
theorem pwX7_says : lw_tbl[1141]? = some (.code yX7_says cX7_says 2 (some .int)) := rfl
set_option maxRecDepth 100000 in
theorem pwX7_windsOf : lw_tbl[1149]? = some (.code yX7_windsOf cX7_windsOf 5 (some .int)) := rfl
set_option maxRecDepth 100000 in
theorem pwX7_winds : lw_tbl[1145]? = some (.code yX7_winds cX7_winds 3 (some .int)) := rfl
set_option maxRecDepth 100000 in
theorem pwX7_laysBut : lw_tbl[1157]? = some (.code yX7_laysBut cX7_laysBut 5 none) := rfl
set_option maxRecDepth 100000 in
theorem pwX7_lost : lw_tbl[1153]? = some (.code yX7_lost cX7_lost 5 (some .int)) := rfl
set_option maxRecDepth 100000 in
theorem pwX7_manyIn : lw_tbl[1172]? = some (.code yX7_manyIn cX7_manyIn 3 (some .int)) := rfl
set_option maxRecDepth 100000 in
theorem pwX7_fewestSet : lw_tbl[1169]? = some (.code yX7_fewestSet cX7_fewestSet 6 (some .int)) := rfl
set_option maxRecDepth 100000 in
theorem pwX7_fewest : lw_tbl[1165]? = some (.code yX7_fewest cX7_fewest 4 (some .int)) := rfl
set_option maxRecDepth 100000 in
theorem pwX7_which : lw_tbl[1176]? = some (.code yX7_which cX7_which 3 (some .int)) := rfl
set_option maxRecDepth 100000 in
theorem pwX7_more : lw_tbl[1180]? = some (.code yX7_more cX7_more 5 (some .int)) := rfl
set_option maxRecDepth 100000 in
theorem pwX7_beginsOrders : lw_tbl[1188]? = some (.code yX7_beginsOrders cX7_beginsOrders 3 none) := rfl
set_option maxRecDepth 100000 in
theorem pwX7_hasNext : lw_tbl[1192]? = some (.code yX7_hasNext cX7_hasNext 7 (some .boolean)) := rfl
set_option maxRecDepth 100000 in
theorem pwX7_swapsOrder : lw_tbl[1196]? = some (.code yX7_swapsOrder cX7_swapsOrder 4 none) := rfl
set_option maxRecDepth 100000 in
theorem pwX7_laysOrder : lw_tbl[1200]? = some (.code yX7_laysOrder cX7_laysOrder 4 none) := rfl
set_option maxRecDepth 100000 in
theorem pwX7_orders : lw_tbl[1184]? = some (.code yX7_orders cX7_orders 5 (some .int)) := rfl
set_option maxRecDepth 100000 in
theorem pwX7_furthest : lw_tbl[1208]? = some (.code yX7_furthest cX7_furthest 4 (some .int)) := rfl
set_option maxRecDepth 100000 in
theorem pwX7_most : lw_tbl[1204]? = some (.code yX7_most cX7_most 2 (some .int)) := rfl
set_option maxRecDepth 100000 in
theorem pwX7_least : lw_tbl[1212]? = some (.code yX7_least cX7_least 2 (some .int)) := rfl
set_option maxRecDepth 100000 in
theorem pwX7_notesOrder : lw_tbl[1220]? = some (.code yX7_notesOrder cX7_notesOrder 2 none) := rfl
set_option maxRecDepth 100000 in
theorem pwX7_order : lw_tbl[1216]? = some (.code yX7_order cX7_order 5 (some .int)) := rfl
set_option maxRecDepth 100000 in
theorem pwX7_worths : lw_tbl[1224]? = some (.code yX7_worths cX7_worths 5 (some .int)) := rfl
set_option maxRecDepth 100000 in
theorem pwX7_can : lw_tbl[1228]? = some (.code yX7_can cX7_can 4 (some .int)) := rfl
set_option maxRecDepth 100000 in
theorem pwX7_join : lw_tbl[1232]? = some (.code yX7_join cX7_join 8 (some .int)) := rfl
set_option maxRecDepth 100000 in
theorem pwX7_same : lw_tbl[1236]? = some (.code yX7_same cX7_same 7 (some .int)) := rfl
set_option maxRecDepth 100000 in
theorem pwX7_best : lw_tbl[1240]? = some (.code yX7_best cX7_best 6 (some .int)) := rfl
set_option maxRecDepth 100000 in
theorem pwX7_feed : lw_tbl[1244]? = some (.code yX7_feed cX7_feed 4 (some .int)) := rfl
set_option maxRecDepth 100000 in
theorem pwX7_wipe : lw_tbl[1248]? = some (.code yX7_wipe cX7_wipe 2 (some .int)) := rfl
set_option maxRecDepth 100000 in
theorem pwX7_isLetter : lw_tbl[1266]? = some (.code yX7_isLetter cX7_isLetter 1 (some .boolean)) := rfl
set_option maxRecDepth 100000 in
theorem pwX7_isDigit : lw_tbl[1269]? = some (.code yX7_isDigit cX7_isDigit 1 (some .boolean)) := rfl
set_option maxRecDepth 100000 in
theorem pwX7_byteAt : lw_tbl[1263]? = some (.code yX7_byteAt cX7_byteAt 2 (some .int)) := rfl
set_option maxRecDepth 100000 in
theorem pwX7_nextToken : lw_tbl[1259]? = some (.code yX7_nextToken cX7_nextToken 2 none) := rfl
set_option maxRecDepth 100000 in
theorem pwX7_has3 : lw_tbl[1285]? = some (.code yX7_has3 cX7_has3 5 (some .boolean)) := rfl
set_option maxRecDepth 100000 in
theorem pwX7_isWord : lw_tbl[1281]? = some (.code yX7_isWord cX7_isWord 2 (some .boolean)) := rfl
set_option maxRecDepth 100000 in
theorem pwX7_fails : lw_tbl[1297]? = some (.code yX7_fails cX7_fails 1 (some .boolean)) := rfl
set_option maxRecDepth 100000 in
theorem pwX7_isFour : lw_tbl[1277]? = some (.code yX7_isFour cX7_isFour 5 (some .boolean)) := rfl
set_option maxRecDepth 100000 in
theorem pwX7_isFive : lw_tbl[1309]? = some (.code yX7_isFive cX7_isFive 6 (some .boolean)) := rfl
set_option maxRecDepth 100000 in
theorem pwX7_isSix : lw_tbl[1321]? = some (.code yX7_isSix cX7_isSix 7 (some .boolean)) := rfl
set_option maxRecDepth 100000 in
theorem pwX7_kindHere : lw_tbl[1305]? = some (.code yX7_kindHere cX7_kindHere 1 (some .int)) := rfl
set_option maxRecDepth 100000 in
theorem pwX7_isNumber : lw_tbl[1293]? = some (.code yX7_isNumber cX7_isNumber 3 (some .boolean)) := rfl
set_option maxRecDepth 100000 in
theorem pwX7_garmentHere : lw_tbl[1301]? = some (.code yX7_garmentHere cX7_garmentHere 3 (some .boolean)) := rfl
set_option maxRecDepth 100000 in
theorem pwX7_lineHere : lw_tbl[1289]? = some (.code yX7_lineHere cX7_lineHere 3 (some .boolean)) := rfl
set_option maxRecDepth 100000 in
theorem pwX7_windHere : lw_tbl[1313]? = some (.code yX7_windHere cX7_windHere 1 (some .boolean)) := rfl
set_option maxRecDepth 100000 in
theorem pwX7_meaningHere : lw_tbl[1317]? = some (.code yX7_meaningHere cX7_meaningHere 3 (some .boolean)) := rfl
set_option maxRecDepth 100000 in
theorem pwX7_forgetHere : lw_tbl[1325]? = some (.code yX7_forgetHere cX7_forgetHere 1 (some .boolean)) := rfl
set_option maxRecDepth 100000 in
theorem pwX7_itemHere : lw_tbl[1273]? = some (.code yX7_itemHere cX7_itemHere 1 (some .boolean)) := rfl
set_option maxRecDepth 100000 in
theorem pwX7_town : lw_tbl[1252]? = some (.code yX7_town cX7_town 3 (some .int)) := rfl
set_option maxRecDepth 100000 in
theorem pwX7_isSheet : lw_tbl[1332]? = some (.code yX7_isSheet cX7_isSheet 1 (some .boolean)) := rfl
set_option maxRecDepth 100000 in
theorem pwX7_narrow : lw_tbl[1341]? = some (.code yX7_narrow cX7_narrow 3 (some .long)) := rfl
set_option maxRecDepth 100000 in
theorem pwX7_sheet : lw_tbl[1329]? = some (.code yX7_sheet cX7_sheet 5 (some .int)) := rfl
set_option maxRecDepth 100000 in
theorem pwX7_write : lw_tbl[1337]? = some (.code yX7_write cX7_write 7 (some .long)) := rfl
set_option maxRecDepth 100000 in
theorem pwX7_copy : lw_tbl[1345]? = some (.code yX7_copy cX7_copy 10 (some .int)) := rfl
set_option maxRecDepth 100000 in
theorem pwX7_wants : lw_tbl[1353]? = some (.code yX7_wants cX7_wants 2 (some .int)) := rfl
set_option maxRecDepth 100000 in
theorem pwX7_lays_ : lw_tbl[1349]? = some (.code yX7_lays_ cX7_lays_ 7 (some .int)) := rfl
set_option maxRecDepth 100000 in
theorem pwX7_show : lw_tbl[1358]? = some (.code yX7_show cX7_show 6 (some .int)) := rfl
set_option maxRecDepth 100000 in
theorem pwX7_check : lw_tbl[1362]? = some (.code yX7_check cX7_check 5 (some .int)) := rfl
set_option maxRecDepth 100000 in
theorem pwX7_image : lw_tbl[1366]? = some (.code yX7_image cX7_image 1 (some .int)) := rfl
set_option maxRecDepth 100000 in
theorem pwX7_undo : lw_tbl[1370]? = some (.code yX7_undo cX7_undo 1 (some .int)) := rfl
set_option maxRecDepth 100000 in
theorem pwX7_tear : lw_tbl[1378]? = some (.code yX7_tear cX7_tear 2 (some .int)) := rfl
set_option maxRecDepth 100000 in
theorem pwX7_count : lw_tbl[1382]? = some (.code yX7_count cX7_count 4 (some .int)) := rfl
set_option maxRecDepth 100000 in
theorem pwX7_status : lw_tbl[1386]? = some (.code yX7_status cX7_status 2 (some .int)) := rfl
set_option maxRecDepth 100000 in
theorem pwJ6_bitCount_0f7a4 : lw_tbl[555]? = some (.code yJ6_bitCount_0f7a4 cJ6_bitCount_0f7a4 1 (some .int)) := rfl
set_option maxRecDepth 100000 in
theorem pwJ13_bitCount_95d88 : lw_tbl[656]? = some (.code yJ13_bitCount_95d88 cJ13_bitCount_95d88 2 (some .int)) := rfl
set_option maxRecDepth 100000 in
theorem pwJ0_length_8abf5 : lw_tbl[734]? = some (.code yJ0_length_8abf5 cJ0_length_8abf5 1 (some .int)) := rfl
set_option maxRecDepth 100000 in
theorem pwJ0_charAt_5068e : lw_tbl[744]? = some (.code yJ0_charAt_5068e cJ0_charAt_5068e 2 (some .char)) := rfl
set_option maxRecDepth 100000 in
theorem pwJ0_coder_7d493 : lw_tbl[738]? = some (.code yJ0_coder_7d493 cJ0_coder_7d493 1 (some .byte)) := rfl
set_option maxRecDepth 100000 in
theorem pwJ0_isLatin1_aae02 : lw_tbl[748]? = some (.code yJ0_isLatin1_aae02 cJ0_isLatin1_aae02 1 (some .boolean)) := rfl
set_option maxRecDepth 100000 in
theorem pwJ0_checkIndex_df160 : lw_tbl[754]? = some (.code yJ0_checkIndex_df160 cJ0_checkIndex_df160 2 none) := rfl
set_option maxRecDepth 100000 in
theorem pwJ1_charAt_3b067 : lw_tbl[751]? = some (.code yJ1_charAt_3b067 cJ1_charAt_3b067 2 (some .char)) := rfl
set_option maxRecDepth 100000 in
theorem pwJ7_fill_d0a16 : lw_tbl[588]? = some (.code yJ7_fill_d0a16 cJ7_fill_d0a16 5 none) := rfl
set_option maxRecDepth 100000 in
theorem pwJ7_fill_53178 : lw_tbl[139]? = some (.code yJ7_fill_53178 cJ7_fill_53178 4 none) := rfl
set_option maxRecDepth 100000 in
theorem pwJ3_checkIndex_8e157 : lw_tbl[759]? = some (.code yJ3_checkIndex_8e157 cJ3_checkIndex_8e157 3 (some .int)) := rfl
theorem allW_0 : ∀ k, k < 16 → ∀ my, mT (16 * 0 + k) = some my → lw_tbl[(mP (16 * 0 + k)).1]? = some (.code (mN (16 * 0 + k)).1 (mN (16 * 0 + k)).2 my.2.1 my.2.2.1) := by
  intro k hk my h
  match k, hk with
  | 0, _ => cases h; exact pwX0_init
  | 1, _ => cases h; exact pwX0_walk
  | 2, _ => cases h; exact pwX0_findTwins
  | 3, _ => cases h; exact pwX0_saying
  | 4, _ => cases h; exact pwX0_hangNext
  | 5, _ => cases h; exact pwX0_sayThenHangNext
  | 6, _ => cases h; exact pwX0_mayHang
  | 7, _ => cases h; exact pwX0_isHanging
  | 8, _ => cases h; exact pwX0_arrive
  | 9, _ => cases h; exact pwX0_arrangeNearest
  | 10, _ => cases h; exact pwX0_unlikeWorths
  | 11, _ => cases h; exact pwX0_meaningsMet
  | 12, _ => cases h; exact pwX0_meaningBit
  | 13, _ => cases h; exact pwX1_init
  | 14, _ => cases h; exact pwX1_clear
  | 15, _ => cases h; exact pwX1_add
  | k + 16, hk => omega
theorem allW_1 : ∀ k, k < 16 → ∀ my, mT (16 * 1 + k) = some my → lw_tbl[(mP (16 * 1 + k)).1]? = some (.code (mN (16 * 1 + k)).1 (mN (16 * 1 + k)).2 my.2.1 my.2.2.1) := by
  intro k hk my h
  match k, hk with
  | 0, _ => cases h; exact pwX1_put
  | 1, _ => cases h; exact pwX1_remove
  | 2, _ => cases h; exact pwX1_exchange
  | 3, _ => cases h; exact pwX1_become
  | 4, _ => cases h; exact pwX1_isSeenAt
  | 5, _ => cases h; exact pwX1_pegsLike
  | 6, _ => cases h; exact pwX1_dry
  | 7, _ => cases h; exact pwX2_init
  | 8, _ => cases h; exact pwX2_begin
  | 9, _ => cases h; exact pwX2_put
  | 10, _ => cases h; exact pwX2_hasRange
  | 11, _ => cases h; exact pwX3_init
  | 12, _ => cases h; exact pwX3_add
  | 13, _ => cases h; exact pwX3_tell
  | 14, _ => cases h; exact pwX3_lineItem
  | 15, _ => cases h; exact pwX3_garment
  | k + 16, hk => omega
theorem allW_2 : ∀ k, k < 16 → ∀ my, mT (16 * 2 + k) = some my → lw_tbl[(mP (16 * 2 + k)).1]? = some (.code (mN (16 * 2 + k)).1 (mN (16 * 2 + k)).2 my.2.1 my.2.2.1) := by
  intro k hk my h
  match k, hk with
  | 0, _ => cases h; exact pwX3_windItem
  | 1, _ => cases h; exact pwX3_meaningItem
  | 2, _ => cases h; exact pwX3_forgetItem
  | 3, _ => cases h; exact pwX3_takeNumber
  | 4, _ => cases h; exact pwX3_kindTold
  | 5, _ => cases h; exact pwX3_kindName
  | 6, _ => cases h; exact pwX3_isWord
  | 7, _ => cases h; exact pwX3_step
  | 8, _ => cases h; exact pwX3_numberHere
  | 9, _ => cases h; exact pwX3_sortOf
  | 10, _ => cases h; exact pwX4_init
  | 11, _ => cases h; exact pwX4_become
  | 12, _ => cases h; exact pwX4_garments
  | 13, _ => cases h; exact pwX4_letDaysGo
  | 14, _ => cases h; exact pwX4_hasNumber
  | 15, _ => cases h; exact pwX4_meaningsTold
  | k + 16, hk => omega
theorem allW_3 : ∀ k, k < 16 → ∀ my, mT (16 * 3 + k) = some my → lw_tbl[(mP (16 * 3 + k)).1]? = some (.code (mN (16 * 3 + k)).1 (mN (16 * 3 + k)).2 my.2.1 my.2.2.1) := by
  intro k hk my h
  match k, hk with
  | 0, _ => cases h; exact pwX4_readAs
  | 1, _ => cases h; exact pwX4_leastDifference
  | 2, _ => cases h; exact pwX5_init
  | 3, _ => cases h; exact pwX5_begin
  | 4, _ => cases h; exact pwX5_hear
  | 5, _ => cases h; exact pwX5_hearGarment
  | 6, _ => cases h; exact pwX6_init
  | 7, _ => cases h; exact pwX6_hang
  | 8, _ => cases h; exact pwX6_off
  | 9, _ => cases h; exact pwX6_of
  | 10, _ => cases h; exact pwX6_set
  | 11, _ => cases h; exact pwX6_turn
  | 12, _ => cases h; exact pwX6_as
  | 13, _ => cases h; exact pwX6_swap
  | 14, _ => cases h; exact pwX6_take
  | 15, _ => cases h; exact pwX6_like
  | k + 16, hk => omega
theorem allW_4 : ∀ k, k < 16 → ∀ my, mT (16 * 4 + k) = some my → lw_tbl[(mP (16 * 4 + k)).1]? = some (.code (mN (16 * 4 + k)).1 (mN (16 * 4 + k)).2 my.2.1 my.2.2.1) := by
  intro k hk my h
  match k, hk with
  | 0, _ => cases h; exact pwX6_wind
  | 1, _ => cases h; exact pwX6_days
  | 2, _ => cases h; exact pwX6_means
  | 3, _ => cases h; exact pwX6_forget
  | 4, _ => cases h; exact pwX6_number
  | 5, _ => cases h; exact pwX6_read
  | 6, _ => cases h; exact pwX6_apart
  | 7, _ => cases h; exact pwX6_worth
  | 8, _ => cases h; exact pwX6_worthIn
  | 9, _ => cases h; exact pwX6_says
  | 10, _ => cases h; exact pwX6_winds
  | 11, _ => cases h; exact pwX6_lost
  | 12, _ => cases h; exact pwX6_fewest
  | 13, _ => cases h; exact pwX6_which
  | 14, _ => cases h; exact pwX6_more
  | 15, _ => cases h; exact pwX6_orders
  | k + 16, hk => omega
theorem allW_5 : ∀ k, k < 16 → ∀ my, mT (16 * 5 + k) = some my → lw_tbl[(mP (16 * 5 + k)).1]? = some (.code (mN (16 * 5 + k)).1 (mN (16 * 5 + k)).2 my.2.1 my.2.2.1) := by
  intro k hk my h
  match k, hk with
  | 0, _ => cases h; exact pwX6_most
  | 1, _ => cases h; exact pwX6_least
  | 2, _ => cases h; exact pwX6_order
  | 3, _ => cases h; exact pwX6_worths
  | 4, _ => cases h; exact pwX6_can
  | 5, _ => cases h; exact pwX6_join
  | 6, _ => cases h; exact pwX6_same
  | 7, _ => cases h; exact pwX6_best
  | 8, _ => cases h; exact pwX6_feed
  | 9, _ => cases h; exact pwX6_wipe
  | 10, _ => cases h; exact pwX6_town
  | 11, _ => cases h; exact pwX6_sheet
  | 12, _ => cases h; exact pwX6_write
  | 13, _ => cases h; exact pwX6_copy
  | 14, _ => cases h; exact pwX6_lays
  | 15, _ => cases h; exact pwX6_show
  | k + 16, hk => omega
theorem allW_6 : ∀ k, k < 16 → ∀ my, mT (16 * 6 + k) = some my → lw_tbl[(mP (16 * 6 + k)).1]? = some (.code (mN (16 * 6 + k)).1 (mN (16 * 6 + k)).2 my.2.1 my.2.2.1) := by
  intro k hk my h
  match k, hk with
  | 0, _ => cases h; exact pwX6_check
  | 1, _ => cases h; exact pwX6_image
  | 2, _ => cases h; exact pwX6_undo
  | 3, _ => cases h; exact pwX6_tear
  | 4, _ => cases h; exact pwX6_count
  | 5, _ => cases h; exact pwX6_status
  | 6, _ => cases h; exact pwX6_finding
  | 7, _ => cases h; exact pwX6_isGarment
  | 8, _ => cases h; exact pwX6_sheetFinding
  | 9, _ => cases h; exact pwX6_sheetAndLineFinding
  | 10, _ => cases h; exact pwX6_isWithin
  | 11, _ => cases h; exact pwX6_isLine
  | 12, _ => cases h; exact pwX6_isKind
  | 13, _ => cases h; exact pwX6_isSize
  | 14, _ => cases h; exact pwX6_isWind
  | 15, _ => cases h; exact pwX6_isMeaning
  | k + 16, hk => omega
theorem allW_7 : ∀ k, k < 16 → ∀ my, mT (16 * 7 + k) = some my → lw_tbl[(mP (16 * 7 + k)).1]? = some (.code (mN (16 * 7 + k)).1 (mN (16 * 7 + k)).2 my.2.1 my.2.2.1) := by
  intro k hk my h
  match k, hk with
  | 0, _ => cases h; exact pwX6_isWorth
  | 1, _ => cases h; exact pwX6_isSheet
  | 2, _ => cases h; exact pwX6_isBits
  | 3, _ => cases h; exact pwX6_isGarmentCode
  | 4, _ => cases h; exact pwX6_isOfKind
  | 5, _ => cases h; exact pwX6_isSeen
  | 6, _ => cases h; exact pwX6_worthAfter
  | 7, _ => cases h; exact pwX6_stockingsAfter
  | 8, _ => cases h; exact pwX6_held
  | 9, _ => cases h; exact pwX6_worthOf
  | 10, _ => cases h; exact pwX6_worthBehind
  | 11, _ => cases h; exact pwX6_worthJoined
  | 12, _ => cases h; exact pwX6_readNow
  | 13, _ => cases h; exact pwX6_readWithout
  | 14, _ => cases h; exact pwX6_readWithOneMore
  | 15, _ => cases h; exact pwX6_windsReadAs
  | k + 16, hk => omega
theorem allW_8 : ∀ k, k < 16 → ∀ my, mT (16 * 8 + k) = some my → lw_tbl[(mP (16 * 8 + k)).1]? = some (.code (mN (16 * 8 + k)).1 (mN (16 * 8 + k)).2 my.2.1 my.2.2.1) := by
  intro k hk my h
  match k, hk with
  | 0, _ => cases h; exact pwX6_fewestOff
  | 1, _ => cases h; exact pwX7_init
  | 2, _ => cases h; exact pwX7_isIn
  | 3, _ => cases h; exact pwX7_finds
  | 4, _ => cases h; exact pwX7_becomes
  | 5, _ => cases h; exact pwX7_isLine
  | 6, _ => cases h; exact pwX7_isPeg
  | 7, _ => cases h; exact pwX7_isMeaning
  | 8, _ => cases h; exact pwX7_placeOf
  | 9, _ => cases h; exact pwX7_copyRow
  | 10, _ => cases h; exact pwX7_apartBy
  | 11, _ => cases h; exact pwX7_hangs
  | 12, _ => cases h; exact pwX7_isGarment
  | 13, _ => cases h; exact pwX7_hang
  | 14, _ => cases h; exact pwX7_off
  | 15, _ => cases h; exact pwX7_lays
  | k + 16, hk => omega
theorem allW_9 : ∀ k, k < 16 → ∀ my, mT (16 * 9 + k) = some my → lw_tbl[(mP (16 * 9 + k)).1]? = some (.code (mN (16 * 9 + k)).1 (mN (16 * 9 + k)).2 my.2.1 my.2.2.1) := by
  intro k hk my h
  match k, hk with
  | 0, _ => cases h; exact pwX7_isSeen
  | 1, _ => cases h; exact pwX7_kept
  | 2, _ => cases h; exact pwX7_isStocking
  | 3, _ => cases h; exact pwX7_becomesBy
  | 4, _ => cases h; exact pwX7_worthOfFirst
  | 5, _ => cases h; exact pwX7_worthBy
  | 6, _ => cases h; exact pwX7_worthAside
  | 7, _ => cases h; exact pwX7_readAs
  | 8, _ => cases h; exact pwX7_of
  | 9, _ => cases h; exact pwX7_set
  | 10, _ => cases h; exact pwX7_turn
  | 11, _ => cases h; exact pwX7_isUnder
  | 12, _ => cases h; exact pwX7_as
  | 13, _ => cases h; exact pwX7_swap
  | 14, _ => cases h; exact pwX7_take
  | 15, _ => cases h; exact pwX7_hangsAside
  | k + 16, hk => omega
theorem allW_10 : ∀ k, k < 16 → ∀ my, mT (16 * 10 + k) = some my → lw_tbl[(mP (16 * 10 + k)).1]? = some (.code (mN (16 * 10 + k)).1 (mN (16 * 10 + k)).2 my.2.1 my.2.2.1) := by
  intro k hk my h
  match k, hk with
  | 0, _ => cases h; exact pwX7_like
  | 1, _ => cases h; exact pwX7_wind
  | 2, _ => cases h; exact pwX7_garments
  | 3, _ => cases h; exact pwX7_days
  | 4, _ => cases h; exact pwX7_means
  | 5, _ => cases h; exact pwX7_forget
  | 6, _ => cases h; exact pwX7_number
  | 7, _ => cases h; exact pwX7_orNone
  | 8, _ => cases h; exact pwX7_read
  | 9, _ => cases h; exact pwX7_apart
  | 10, _ => cases h; exact pwX7_worth
  | 11, _ => cases h; exact pwX7_worthIn
  | 12, _ => cases h; exact pwX7_says
  | 13, _ => cases h; exact pwX7_windsOf
  | 14, _ => cases h; exact pwX7_winds
  | 15, _ => cases h; exact pwX7_laysBut
  | k + 16, hk => omega
theorem allW_11 : ∀ k, k < 16 → ∀ my, mT (16 * 11 + k) = some my → lw_tbl[(mP (16 * 11 + k)).1]? = some (.code (mN (16 * 11 + k)).1 (mN (16 * 11 + k)).2 my.2.1 my.2.2.1) := by
  intro k hk my h
  match k, hk with
  | 0, _ => cases h; exact pwX7_lost
  | 1, _ => cases h; exact pwX7_manyIn
  | 2, _ => cases h; exact pwX7_fewestSet
  | 3, _ => cases h; exact pwX7_fewest
  | 4, _ => cases h; exact pwX7_which
  | 5, _ => cases h; exact pwX7_more
  | 6, _ => cases h; exact pwX7_beginsOrders
  | 7, _ => cases h; exact pwX7_hasNext
  | 8, _ => cases h; exact pwX7_swapsOrder
  | 9, _ => cases h; exact pwX7_laysOrder
  | 10, _ => cases h; exact pwX7_orders
  | 11, _ => cases h; exact pwX7_furthest
  | 12, _ => cases h; exact pwX7_most
  | 13, _ => cases h; exact pwX7_least
  | 14, _ => cases h; exact pwX7_notesOrder
  | 15, _ => cases h; exact pwX7_order
  | k + 16, hk => omega
theorem allW_12 : ∀ k, k < 16 → ∀ my, mT (16 * 12 + k) = some my → lw_tbl[(mP (16 * 12 + k)).1]? = some (.code (mN (16 * 12 + k)).1 (mN (16 * 12 + k)).2 my.2.1 my.2.2.1) := by
  intro k hk my h
  match k, hk with
  | 0, _ => cases h; exact pwX7_worths
  | 1, _ => cases h; exact pwX7_can
  | 2, _ => cases h; exact pwX7_join
  | 3, _ => cases h; exact pwX7_same
  | 4, _ => cases h; exact pwX7_best
  | 5, _ => cases h; exact pwX7_feed
  | 6, _ => cases h; exact pwX7_wipe
  | 7, _ => cases h; exact pwX7_isLetter
  | 8, _ => cases h; exact pwX7_isDigit
  | 9, _ => cases h; exact pwX7_byteAt
  | 10, _ => cases h; exact pwX7_nextToken
  | 11, _ => cases h; exact pwX7_has3
  | 12, _ => cases h; exact pwX7_isWord
  | 13, _ => cases h; exact pwX7_fails
  | 14, _ => cases h; exact pwX7_isFour
  | 15, _ => cases h; exact pwX7_isFive
  | k + 16, hk => omega
theorem allW_13 : ∀ k, k < 16 → ∀ my, mT (16 * 13 + k) = some my → lw_tbl[(mP (16 * 13 + k)).1]? = some (.code (mN (16 * 13 + k)).1 (mN (16 * 13 + k)).2 my.2.1 my.2.2.1) := by
  intro k hk my h
  match k, hk with
  | 0, _ => cases h; exact pwX7_isSix
  | 1, _ => cases h; exact pwX7_kindHere
  | 2, _ => cases h; exact pwX7_isNumber
  | 3, _ => cases h; exact pwX7_garmentHere
  | 4, _ => cases h; exact pwX7_lineHere
  | 5, _ => cases h; exact pwX7_windHere
  | 6, _ => cases h; exact pwX7_meaningHere
  | 7, _ => cases h; exact pwX7_forgetHere
  | 8, _ => cases h; exact pwX7_itemHere
  | 9, _ => cases h; exact pwX7_town
  | 10, _ => cases h; exact pwX7_isSheet
  | 11, _ => cases h; exact pwX7_narrow
  | 12, _ => cases h; exact pwX7_sheet
  | 13, _ => cases h; exact pwX7_write
  | 14, _ => cases h; exact pwX7_copy
  | 15, _ => cases h; exact pwX7_wants
  | k + 16, hk => omega
theorem allW_14 : ∀ k, k < 16 → ∀ my, mT (16 * 14 + k) = some my → lw_tbl[(mP (16 * 14 + k)).1]? = some (.code (mN (16 * 14 + k)).1 (mN (16 * 14 + k)).2 my.2.1 my.2.2.1) := by
  intro k hk my h
  match k, hk with
  | 0, _ => cases h; exact pwX7_lays_
  | 1, _ => cases h; exact pwX7_show
  | 2, _ => cases h; exact pwX7_check
  | 3, _ => cases h; exact pwX7_image
  | 4, _ => cases h; exact pwX7_undo
  | 5, _ => cases h; exact pwX7_tear
  | 6, _ => cases h; exact pwX7_count
  | 7, _ => cases h; exact pwX7_status
  | 8, _ => cases h; exact pwJ6_bitCount_0f7a4
  | 9, _ => cases h; exact pwJ13_bitCount_95d88
  | 10, _ => cases h; exact pwJ0_length_8abf5
  | 11, _ => cases h; exact pwJ0_charAt_5068e
  | 12, _ => cases h; exact pwJ0_coder_7d493
  | 13, _ => cases h; exact pwJ0_isLatin1_aae02
  | 14, _ => cases h; exact pwJ0_checkIndex_df160
  | 15, _ => cases h; exact pwJ1_charAt_3b067
  | k + 16, hk => omega
theorem allW_15 : ∀ k, k < 3 → ∀ my, mT (16 * 15 + k) = some my → lw_tbl[(mP (16 * 15 + k)).1]? = some (.code (mN (16 * 15 + k)).1 (mN (16 * 15 + k)).2 my.2.1 my.2.2.1) := by
  intro k hk my h
  match k, hk with
  | 0, _ => cases h; exact pwJ7_fill_d0a16
  | 1, _ => cases h; exact pwJ7_fill_53178
  | 2, _ => cases h; exact pwJ3_checkIndex_8e157
  | k + 3, hk => omega
theorem allW : ∀ i my, mT i = some my → lw_tbl[(mP i).1]? = some (.code (mN i).1 (mN i).2 my.2.1 my.2.2.1) := by
  intro i my h
  have hi : i < 243 := mT_lt h
  obtain ⟨j, k, hk, rfl⟩ : ∃ j k, k < 16 ∧ i = 16 * j + k := ⟨i / 16, i % 16, Nat.mod_lt _ (by omega), by omega⟩
  match j with
  | 0 => exact allW_0 k (by omega) my h
  | 1 => exact allW_1 k (by omega) my h
  | 2 => exact allW_2 k (by omega) my h
  | 3 => exact allW_3 k (by omega) my h
  | 4 => exact allW_4 k (by omega) my h
  | 5 => exact allW_5 k (by omega) my h
  | 6 => exact allW_6 k (by omega) my h
  | 7 => exact allW_7 k (by omega) my h
  | 8 => exact allW_8 k (by omega) my h
  | 9 => exact allW_9 k (by omega) my h
  | 10 => exact allW_10 k (by omega) my h
  | 11 => exact allW_11 k (by omega) my h
  | 12 => exact allW_12 k (by omega) my h
  | 13 => exact allW_13 k (by omega) my h
  | 14 => exact allW_14 k (by omega) my h
  | 15 => exact allW_15 k (by omega) my h
  | j + 16 => omega
theorem okW_0 : (List.range 16).all (fun k => okW (16 * 0 + k)) = true := by decide +kernel
theorem okW_1 : (List.range 16).all (fun k => okW (16 * 1 + k)) = true := by decide +kernel
theorem okW_2 : (List.range 16).all (fun k => okW (16 * 2 + k)) = true := by decide +kernel
theorem okW_3 : (List.range 16).all (fun k => okW (16 * 3 + k)) = true := by decide +kernel
theorem okW_4 : (List.range 16).all (fun k => okW (16 * 4 + k)) = true := by decide +kernel
theorem okW_5 : (List.range 16).all (fun k => okW (16 * 5 + k)) = true := by decide +kernel
theorem okW_6 : (List.range 16).all (fun k => okW (16 * 6 + k)) = true := by decide +kernel
theorem okW_7 : (List.range 16).all (fun k => okW (16 * 7 + k)) = true := by decide +kernel
theorem okW_8 : (List.range 16).all (fun k => okW (16 * 8 + k)) = true := by decide +kernel
theorem okW_9 : (List.range 16).all (fun k => okW (16 * 9 + k)) = true := by decide +kernel
theorem okW_10 : (List.range 16).all (fun k => okW (16 * 10 + k)) = true := by decide +kernel
theorem okW_11 : (List.range 16).all (fun k => okW (16 * 11 + k)) = true := by decide +kernel
theorem okW_12 : (List.range 16).all (fun k => okW (16 * 12 + k)) = true := by decide +kernel
theorem okW_13 : (List.range 16).all (fun k => okW (16 * 13 + k)) = true := by decide +kernel
theorem okW_14 : (List.range 16).all (fun k => okW (16 * 14 + k)) = true := by decide +kernel
theorem okW_15 : (List.range 3).all (fun k => okW (16 * 15 + k)) = true := by decide +kernel
theorem okW_all : ∀ i, i < 243 → okW i = true := by
  intro i hi
  obtain ⟨j, k, hk, rfl⟩ : ∃ j k, k < 16 ∧ i = 16 * j + k := ⟨i / 16, i % 16, Nat.mod_lt _ (by omega), by omega⟩
  match j with
  | 0 => exact List.all_eq_true.mp okW_0 k (List.mem_range.mpr (by omega))
  | 1 => exact List.all_eq_true.mp okW_1 k (List.mem_range.mpr (by omega))
  | 2 => exact List.all_eq_true.mp okW_2 k (List.mem_range.mpr (by omega))
  | 3 => exact List.all_eq_true.mp okW_3 k (List.mem_range.mpr (by omega))
  | 4 => exact List.all_eq_true.mp okW_4 k (List.mem_range.mpr (by omega))
  | 5 => exact List.all_eq_true.mp okW_5 k (List.mem_range.mpr (by omega))
  | 6 => exact List.all_eq_true.mp okW_6 k (List.mem_range.mpr (by omega))
  | 7 => exact List.all_eq_true.mp okW_7 k (List.mem_range.mpr (by omega))
  | 8 => exact List.all_eq_true.mp okW_8 k (List.mem_range.mpr (by omega))
  | 9 => exact List.all_eq_true.mp okW_9 k (List.mem_range.mpr (by omega))
  | 10 => exact List.all_eq_true.mp okW_10 k (List.mem_range.mpr (by omega))
  | 11 => exact List.all_eq_true.mp okW_11 k (List.mem_range.mpr (by omega))
  | 12 => exact List.all_eq_true.mp okW_12 k (List.mem_range.mpr (by omega))
  | 13 => exact List.all_eq_true.mp okW_13 k (List.mem_range.mpr (by omega))
  | 14 => exact List.all_eq_true.mp okW_14 k (List.mem_range.mpr (by omega))
  | 15 => exact List.all_eq_true.mp okW_15 k (List.mem_range.mpr (by omega))
  | j + 16 => omega
theorem all_td {α : Type} {p : α → Bool} {l : List α} (n : Nat) (h1 : (l.take n).all p = true) (h2 : (l.drop n).all p = true) : l.all p = true := by
  rw [← List.take_append_drop n l, List.all_append, h1, h2]
  rfl
def mlk (q : Nat × Nat × Nat × Nat × Nat) : Bool := match q with
  | (o, i, y, k, ps) => if k = 0 then decide (lw_tbl[ps]? = some (.methodLink (oN o) i (mN y).1)) && decide (lw_tbl[(mP y).2.1]? = some (.instanceMethod (mN y).1)) && decide (lw_tbl[(mP y).2.2.1]? = some (.selects (mN y).1.cls (mN y).1 (mN y).1))
    else if k = 1 then decide (lw_tbl[ps]? = some (.methodLink (oN o) i (mN y).1)) && decide (lw_tbl[(mP y).2.1]? = some (.static (mN y).1))
    else if k = 2 then decide (lw_tbl[ps]? = some (.methodLink (oN o) i (mN y).1)) && decide (lw_tbl[(mP y).2.1]? = some (.instanceMethod (mN y).1)) && decide ((mN y).1.name = "<init>") && (match mT y with | some my => decide (my.2.2.1 = none) | none => true)
    else if k = 3 then decide (lw_tbl[(mP y).2.1]? = some (.static (mN y).1))
    else decide (lw_tbl[(mP y).2.1]? = some (.instanceMethod (mN y).1)) && decide ((mN y).1.name = "<init>") && (match mT y with | some my => decide (my.2.2.1 = none) | none => true)
theorem mlk_0 : ((mL.drop 0).take 32).all mlk = true := by decide +kernel
theorem mlk_32 : ((mL.drop 32).take 32).all mlk = true := by decide +kernel
theorem mlk_64 : ((mL.drop 64).take 32).all mlk = true := by decide +kernel
theorem mlk_96 : ((mL.drop 96).take 32).all mlk = true := by decide +kernel
theorem mlk_128 : ((mL.drop 128).take 32).all mlk = true := by decide +kernel
theorem mlk_160 : ((mL.drop 160).take 32).all mlk = true := by decide +kernel
theorem mlk_192 : ((mL.drop 192).take 32).all mlk = true := by decide +kernel
theorem mlk_224 : ((mL.drop 224).take 32).all mlk = true := by decide +kernel
theorem mlk_256 : ((mL.drop 256).take 32).all mlk = true := by decide +kernel
theorem mle_288 : (mL.drop 288).all mlk = true := by decide +kernel
theorem mle_256 : (mL.drop 256).all mlk = true := all_td 32 mlk_256 (by rw [List.drop_drop]; exact mle_288)
theorem mle_224 : (mL.drop 224).all mlk = true := all_td 32 mlk_224 (by rw [List.drop_drop]; exact mle_256)
theorem mle_192 : (mL.drop 192).all mlk = true := all_td 32 mlk_192 (by rw [List.drop_drop]; exact mle_224)
theorem mle_160 : (mL.drop 160).all mlk = true := all_td 32 mlk_160 (by rw [List.drop_drop]; exact mle_192)
theorem mle_128 : (mL.drop 128).all mlk = true := all_td 32 mlk_128 (by rw [List.drop_drop]; exact mle_160)
theorem mle_96 : (mL.drop 96).all mlk = true := all_td 32 mlk_96 (by rw [List.drop_drop]; exact mle_128)
theorem mle_64 : (mL.drop 64).all mlk = true := all_td 32 mlk_64 (by rw [List.drop_drop]; exact mle_96)
theorem mle_32 : (mL.drop 32).all mlk = true := all_td 32 mlk_32 (by rw [List.drop_drop]; exact mle_64)
theorem mle_0 : (mL.drop 0).all mlk = true := all_td 32 mlk_0 (by rw [List.drop_drop]; exact mle_32)
theorem mlk_ok : mL.all mlk = true := mle_0
