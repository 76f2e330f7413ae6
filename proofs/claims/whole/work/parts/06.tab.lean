/-! ===== the methods by their numbers; calls as deep as d ===== -/
abbrev mM : Type := MethodName × ByteArray × Nat × Option FieldType × String × Option Nat × List mB
def mtab : List mM := [
  (yX0_copyFrom, cX0_copyFrom, 2, none, RX0, some 0, md_X0_copyFrom),
  (yX0_hasLayer, cX0_hasLayer, 2, (some .boolean), RX0, some 0, md_X0_hasLayer),
  (yX0_hasBacking, cX0_hasBacking, 2, (some .boolean), RX0, some 0, md_X0_hasBacking),
  (yX0_hasSnapshot, cX0_hasSnapshot, 2, (some .boolean), RX0, some 0, md_X0_hasSnapshot),
  (yX0_addLayer, cX0_addLayer, 3, (some .int), RX0, some 0, md_X0_addLayer),
  (yX0_snapshotSet, cX0_snapshotSet, 3, (some .int), RX0, some 0, md_X0_snapshotSet),
  (yX0_leastMissingSnapshot, cX0_leastMissingSnapshot, 2, (some .int), RX0, some 0, md_X0_leastMissingSnapshot),
  (yX0_layersBelow, cX0_layersBelow, 4, (some .int), RX0, some 0, md_X0_layersBelow),
  (yX0_standsOn, cX0_standsOn, 5, (some .boolean), RX0, some 0, md_X0_standsOn),
  (yX0_tableAt, cX0_tableAt, 5, (some .int), RX0, some 0, md_X0_tableAt),
  (yX0_dataAt, cX0_dataAt, 5, (some .int), RX0, some 0, md_X0_dataAt),
  (yX0_dataOf, cX0_dataOf, 3, (some .int), RX0, some 0, md_X0_dataOf),
  (yX0_ownBlocks, cX0_ownBlocks, 4, (some .int), RX0, some 0, md_X0_ownBlocks),
  (yX0_at, cX0_at, 6, (some .int), RX0, some 0, md_X0_at),
  (yX0_atOld, cX0_atOld, 5, (some .int), RX0, some 0, md_X0_atOld),
  (yX0_sameBlock, cX0_sameBlock, 5, (some .boolean), RX0, some 0, md_X0_sameBlock),
  (yX0_alike, cX0_alike, 4, (some .boolean), RX0, some 0, md_X0_alike),
  (yX0_leastAlike, cX0_leastAlike, 5, (some .int), RX0, some 0, md_X0_leastAlike),
  (yX0_tablesOf, cX0_tablesOf, 7, (some .long), RX0, some 0, md_X0_tablesOf),
  (yX0_dataNamedBy, cX0_dataNamedBy, 7, (some .long), RX0, some 0, md_X0_dataNamedBy),
  (yX0_heldBy, cX0_heldBy, 4, (some .long), RX0, some 0, md_X0_heldBy),
  (yX0_countCells, cX0_countCells, 5, none, RX0, some 0, md_X0_countCells),
  (yX0_countTrue, cX0_countTrue, 3, none, RX0, some 0, md_X0_countTrue),
  (yX0_leakSet, cX0_leakSet, 4, (some .long), RX0, some 0, md_X0_leakSet),
  (yX0_lackSet, cX0_lackSet, 4, (some .long), RX0, some 0, md_X0_lackSet),
  (yX0_freeSet, cX0_freeSet, 4, (some .long), RX0, some 0, md_X0_freeSet),
  (yX0_sharedData, cX0_sharedData, 4, (some .long), RX0, some 0, md_X0_sharedData),
  (yX0_mendCounts, cX0_mendCounts, 3, (some .int), RX0, some 0, md_X0_mendCounts),
  (yX1_append, cX1_append, 2, none, RX1, some 1, md_X1_append),
  (yX1_ahead, cX1_ahead, 1, (some .int), RX1, some 1, md_X1_ahead),
  (yX1_faultPlace, cX1_faultPlace, 1, (some .int), RX1, some 1, md_X1_faultPlace),
  (yX1_takeParting, cX1_takeParting, 1, (some .boolean), RX1, some 1, md_X1_takeParting),
  (yX1_takeDeed, cX1_takeDeed, 3, (some .boolean), RX1, some 1, md_X1_takeDeed),
  (yX1_takeNumber, cX1_takeNumber, 3, (some .boolean), RX1, some 1, md_X1_takeNumber),
  (yX2_set, cX2_set, 5, none, RX2, some 2, md_X2_set),
  (yX2_start, cX2_start, 3, none, RX2, some 2, md_X2_start),
  (yX2_step, cX2_step, 1, (some .boolean), RX2, some 2, md_X2_step),
  (yX2_addToCount, cX2_addToCount, 3, none, RX2, some 2, md_X2_addToCount),
  (yX2_newCluster, cX2_newCluster, 2, (some .int), RX2, some 2, md_X2_newCluster),
  (yX2_go, cX2_go, 3, none, RX2, some 2, md_X2_go),
  (yX2_ownTable, cX2_ownTable, 7, (some .int), RX2, some 2, md_X2_ownTable),
  (yX2_noteTables, cX2_noteTables, 2, none, RX2, some 2, md_X2_noteTables),
  (yX2_releaseNoted, cX2_releaseNoted, 4, none, RX2, some 2, md_X2_releaseNoted),
  (yX2_rewriteAll, cX2_rewriteAll, 4, (some .int), RX2, some 2, md_X2_rewriteAll),
  (yX2_writePlace, cX2_writePlace, 10, none, RX2, some 2, md_X2_writePlace),
  (yX2_takeSnapshot, cX2_takeSnapshot, 4, none, RX2, some 2, md_X2_takeSnapshot),
  (yX2_dropSnapshot, cX2_dropSnapshot, 3, none, RX2, some 2, md_X2_dropSnapshot),
  (yX2_revertTo, cX2_revertTo, 5, none, RX2, some 2, md_X2_revertTo),
  (yX2_giveUpBlock, cX2_giveUpBlock, 5, none, RX2, some 2, md_X2_giveUpBlock),
  (yX2_mergeDown, cX2_mergeDown, 4, none, RX2, some 2, md_X2_mergeDown),
  (yX2_moveOnto, cX2_moveOnto, 7, none, RX2, some 2, md_X2_moveOnto),
  (yX2_foldAlike, cX2_foldAlike, 9, none, RX2, some 2, md_X2_foldAlike),
  (yX3_layer, cX3_layer, 2, (some .int), RX3, some 3, md_X3_layer),
  (yX3_of, cX3_of, 3, (some .int), RX3, some 3, md_X3_of),
  (yX3_read, cX3_read, 3, (some .int), RX3, some 3, md_X3_read),
  (yX3_readOld, cX3_readOld, 3, (some .int), RX3, some 3, md_X3_readOld),
  (yX3_unlike, cX3_unlike, 4, (some .int), RX3, some 3, md_X3_unlike),
  (yX3_sum, cX3_sum, 4, (some .int), RX3, some 3, md_X3_sum),
  (yX3_write, cX3_write, 4, (some .int), RX3, some 3, md_X3_write),
  (yX3_snap, cX3_snap, 2, (some .int), RX3, some 3, md_X3_snap),
  (yX3_drop, cX3_drop, 2, (some .int), RX3, some 3, md_X3_drop),
  (yX3_revert, cX3_revert, 2, (some .int), RX3, some 3, md_X3_revert),
  (yX3_giveUp, cX3_giveUp, 3, (some .int), RX3, some 3, md_X3_giveUp),
  (yX3_merge, cX3_merge, 2, (some .int), RX3, some 3, md_X3_merge),
  (yX3_move, cX3_move, 4, (some .int), RX3, some 3, md_X3_move),
  (yX3_fold, cX3_fold, 1, (some .int), RX3, some 3, md_X3_fold),
  (yX3_tear, cX3_tear, 3, (some .int), RX3, some 3, md_X3_tear),
  (yX3_cluster, cX3_cluster, 3, (some .int), RX3, some 3, md_X3_cluster),
  (yX3_spoil, cX3_spoil, 4, (some .int), RX3, some 3, md_X3_spoil),
  (yX3_all, cX3_all, 2, (some .long), RX3, some 3, md_X3_all),
  (yX3_repair, cX3_repair, 1, (some .int), RX3, some 3, md_X3_repair),
  (yX3_holds, cX3_holds, 2, (some .long), RX3, some 3, md_X3_holds),
  (yX3_alone, cX3_alone, 6, (some .long), RX3, some 3, md_X3_alone),
  (yX3_holders, cX3_holders, 4, (some .int), RX3, some 3, md_X3_holders),
  (yX3_best, cX3_best, 6, (some .int), RX3, some 3, md_X3_best),
  (yX3_twins, cX3_twins, 6, (some .int), RX3, some 3, md_X3_twins),
  (yX3_cost, cX3_cost, 3, (some .int), RX3, some 3, md_X3_cost),
  (yX3_torn, cX3_torn, 6, (some .int), RX3, some 3, md_X3_torn),
  (yX3_leaks, cX3_leaks, 5, (some .int), RX3, some 3, md_X3_leaks),
  (yX3_behind, cX3_behind, 6, (some .int), RX3, some 3, md_X3_behind),
  (yX3_room, cX3_room, 2, (some .int), RX3, some 3, md_X3_room),
  (yX3_feed, cX3_feed, 5, (some .int), RX3, some 3, md_X3_feed),
  (yX3_wipe, cX3_wipe, 2, (some .int), RX3, some 3, md_X3_wipe),
  (yX3_run, cX3_run, 5, (some .int), RX3, some 3, md_X3_run),
  (yX3_keep, cX3_keep, 1, (some .int), RX3, some 3, md_X3_keep),
  (yX3_again, cX3_again, 1, (some .int), RX3, some 3, md_X3_again),
  (yX3_count, cX3_count, 2, (some .int), RX3, some 3, md_X3_count),
  (yX3_refused, cX3_refused, 2, (some .int), RX3, some 3, md_X3_refused),
  (yX3_refuse, cX3_refuse, 3, (some .int), RX3, some 3, md_X3_refuse),
  (yX3_foresee, cX3_foresee, 5, (some .int), RX3, some 3, md_X3_foresee),
  (yX3_settle, cX3_settle, 2, (some .int), RX3, some 3, md_X3_settle),
  (yX3_fits, cX3_fits, 5, (some .boolean), RX3, some 3, md_X3_fits),
  (yX3_isHindered, cX3_isHindered, 3, (some .boolean), RX3, some 3, md_X3_isHindered),
  (yX3_rewritingCost, cX3_rewritingCost, 2, (some .int), RX3, some 3, md_X3_rewritingCost),
  (yX3_freedByDrop, cX3_freedByDrop, 2, (some .int), RX3, some 3, md_X3_freedByDrop),
  (yX3_isTornBehind, cX3_isTornBehind, 1, (some .boolean), RX3, none, md_X3_isTornBehind),
  (yX3_isPlace, cX3_isPlace, 1, (some .boolean), RX3, none, md_X3_isPlace),
  (yX3_isCluster, cX3_isCluster, 1, (some .boolean), RX3, none, md_X3_isCluster),
  (yX3_isIn, cX3_isIn, 3, (some .boolean), RX3, none, md_X3_isIn),
  (yX3_holderOf, cX3_holderOf, 1, (some .int), RX3, none, md_X3_holderOf),
  (yX4_in, cX4_in, 3, (some .boolean), RX4, none, md_X4_in),
  (yX4_refuse, cX4_refuse, 2, (some .int), RX4, some 4, md_X4_refuse),
  (yX4_copies, cX4_copies, 3, none, RX4, none, md_X4_copies),
  (yX4_isLayer, cX4_isLayer, 2, (some .boolean), RX4, some 4, md_X4_isLayer),
  (yX4_isSnap, cX4_isSnap, 2, (some .boolean), RX4, some 4, md_X4_isSnap),
  (yX4_isPlace, cX4_isPlace, 1, (some .boolean), RX4, none, md_X4_isPlace),
  (yX4_isBlock, cX4_isBlock, 1, (some .boolean), RX4, none, md_X4_isBlock),
  (yX4_isCluster, cX4_isCluster, 1, (some .boolean), RX4, none, md_X4_isCluster),
  (yX4_dir, cX4_dir, 2, (some .int), RX4, none, md_X4_dir),
  (yX4_dataOf, cX4_dataOf, 4, (some .int), RX4, some 4, md_X4_dataOf),
  (yX4_readBy, cX4_readBy, 6, (some .int), RX4, some 4, md_X4_readBy),
  (yX4_readOf, cX4_readOf, 3, (some .int), RX4, some 4, md_X4_readOf),
  (yX4_layer, cX4_layer, 2, (some .int), RX4, some 4, md_X4_layer),
  (yX4_read, cX4_read, 3, (some .int), RX4, some 4, md_X4_read),
  (yX4_readOld, cX4_readOld, 3, (some .int), RX4, some 4, md_X4_readOld),
  (yX4_unlike, cX4_unlike, 4, (some .int), RX4, some 4, md_X4_unlike),
  (yX4_sum, cX4_sum, 4, (some .int), RX4, some 4, md_X4_sum),
  (yX4_standsOn, cX4_standsOn, 4, (some .boolean), RX4, some 4, md_X4_standsOn),
  (yX4_isNamedBy, cX4_isNamedBy, 2, (some .boolean), RX4, some 4, md_X4_isNamedBy),
  (yX4_reckons, cX4_reckons, 3, none, RX4, some 4, md_X4_reckons),
  (yX4_isTable, cX4_isTable, 5, (some .boolean), RX4, some 4, md_X4_isTable),
  (yX4_hasLack, cX4_hasLack, 3, (some .boolean), RX4, some 4, md_X4_hasLack),
  (yX4_may, cX4_may, 1, (some .boolean), RX4, some 4, md_X4_may),
  (yX4_sets, cX4_sets, 3, none, RX4, some 4, md_X4_sets),
  (yX4_counts, cX4_counts, 3, none, RX4, some 4, md_X4_counts),
  (yX4_setsFour, cX4_setsFour, 6, none, RX4, some 4, md_X4_setsFour),
  (yX4_copiesCells, cX4_copiesCells, 3, none, RX4, some 4, md_X4_copiesCells),
  (yX4_anew, cX4_anew, 2, (some .int), RX4, some 4, md_X4_anew),
  (yX4_owns, cX4_owns, 7, none, RX4, some 4, md_X4_owns),
  (yX4_releases, cX4_releases, 3, none, RX4, some 4, md_X4_releases),
  (yX4_writes, cX4_writes, 8, none, RX4, some 4, md_X4_writes),
  (yX4_remembers, cX4_remembers, 3, none, RX4, some 4, md_X4_remembers),
  (yX4_releasesHad, cX4_releasesHad, 2, none, RX4, some 4, md_X4_releasesHad),
  (yX4_countsTables, cX4_countsTables, 3, none, RX4, some 4, md_X4_countsTables),
  (yX4_setsDirectory, cX4_setsDirectory, 4, none, RX4, some 4, md_X4_setsDirectory),
  (yX4_snaps, cX4_snaps, 4, none, RX4, some 4, md_X4_snaps),
  (yX4_drops, cX4_drops, 2, none, RX4, some 4, md_X4_drops),
  (yX4_reverts, cX4_reverts, 3, none, RX4, some 4, md_X4_reverts),
  (yX4_givesUp, cX4_givesUp, 4, none, RX4, some 4, md_X4_givesUp),
  (yX4_merges, cX4_merges, 3, none, RX4, some 4, md_X4_merges),
  (yX4_isSame, cX4_isSame, 6, (some .boolean), RX4, some 4, md_X4_isSame),
  (yX4_moves, cX4_moves, 6, none, RX4, some 4, md_X4_moves),
  (yX4_areAlike, cX4_areAlike, 5, (some .boolean), RX4, some 4, md_X4_areAlike),
  (yX4_likeOf, cX4_likeOf, 3, (some .int), RX4, some 4, md_X4_likeOf),
  (yX4_folds, cX4_folds, 5, none, RX4, some 4, md_X4_folds),
  (yX4_performs, cX4_performs, 6, none, RX4, some 4, md_X4_performs),
  (yX4_isTooMuch, cX4_isTooMuch, 5, (some .boolean), RX4, some 4, md_X4_isTooMuch),
  (yX4_deed, cX4_deed, 5, (some .int), RX4, some 4, md_X4_deed),
  (yX4_isByte, cX4_isByte, 1, (some .boolean), RX4, none, md_X4_isByte),
  (yX4_write, cX4_write, 4, (some .int), RX4, some 4, md_X4_write),
  (yX4_snap, cX4_snap, 3, (some .int), RX4, some 4, md_X4_snap),
  (yX4_drop, cX4_drop, 2, (some .int), RX4, some 4, md_X4_drop),
  (yX4_revert, cX4_revert, 2, (some .int), RX4, some 4, md_X4_revert),
  (yX4_giveUp, cX4_giveUp, 3, (some .int), RX4, some 4, md_X4_giveUp),
  (yX4_merge, cX4_merge, 2, (some .int), RX4, some 4, md_X4_merge),
  (yX4_move, cX4_move, 4, (some .int), RX4, some 4, md_X4_move),
  (yX4_fold, cX4_fold, 1, (some .int), RX4, some 4, md_X4_fold),
  (yX4_tear, cX4_tear, 3, (some .int), RX4, some 4, md_X4_tear),
  (yX4_cluster, cX4_cluster, 3, (some .int), RX4, some 4, md_X4_cluster),
  (yX4_spoil, cX4_spoil, 4, (some .int), RX4, some 4, md_X4_spoil),
  (yX4_all, cX4_all, 7, (some .long), RX4, some 4, md_X4_all),
  (yX4_repair, cX4_repair, 3, (some .int), RX4, some 4, md_X4_repair),
  (yX4_directoryOf, cX4_directoryOf, 2, (some .int), RX4, some 4, md_X4_directoryOf),
  (yX4_heldBy, cX4_heldBy, 7, (some .long), RX4, some 4, md_X4_heldBy),
  (yX4_holds, cX4_holds, 2, (some .long), RX4, some 4, md_X4_holds),
  (yX4_alone, cX4_alone, 6, (some .long), RX4, some 4, md_X4_alone),
  (yX4_holders, cX4_holders, 4, (some .int), RX4, some 4, md_X4_holders),
  (yX4_free, cX4_free, 3, (some .int), RX4, some 4, md_X4_free),
  (yX4_best, cX4_best, 7, (some .int), RX4, some 4, md_X4_best),
  (yX4_twins, cX4_twins, 4, (some .int), RX4, some 4, md_X4_twins),
  (yX4_wrong, cX4_wrong, 4, (some .int), RX4, some 4, md_X4_wrong),
  (yX4_cost, cX4_cost, 4, (some .int), RX4, some 4, md_X4_cost),
  (yX4_thought, cX4_thought, 9, (some .int), RX4, some 4, md_X4_thought),
  (yX4_torn, cX4_torn, 6, (some .int), RX4, some 4, md_X4_torn),
  (yX4_leaks, cX4_leaks, 5, (some .int), RX4, some 4, md_X4_leaks),
  (yX4_behind, cX4_behind, 6, (some .int), RX4, some 4, md_X4_behind),
  (yX4_through, cX4_through, 5, (some .int), RX4, some 4, md_X4_through),
  (yX4_room, cX4_room, 2, (some .int), RX4, some 4, md_X4_room),
  (yX4_of, cX4_of, 5, (some .int), RX4, some 4, md_X4_of),
  (yX4_feed, cX4_feed, 5, (some .int), RX4, some 4, md_X4_feed),
  (yX4_wipe, cX4_wipe, 2, (some .int), RX4, some 4, md_X4_wipe),
  (yX4_numbersOf, cX4_numbersOf, 1, (some .int), RX4, none, md_X4_numbersOf),
  (yX4_isDigit, cX4_isDigit, 2, (some .boolean), RX4, some 4, md_X4_isDigit),
  (yX4_isDeed, cX4_isDeed, 4, (some .boolean), RX4, some 4, md_X4_isDeed),
  (yX4_areDeeds, cX4_areDeeds, 1, (some .boolean), RX4, some 4, md_X4_areDeeds),
  (yX4_does, cX4_does, 4, (some .int), RX4, some 4, md_X4_does),
  (yX4_run, cX4_run, 3, (some .int), RX4, some 4, md_X4_run),
  (yX4_keep, cX4_keep, 1, (some .int), RX4, some 4, md_X4_keep),
  (yX4_again, cX4_again, 1, (some .int), RX4, some 4, md_X4_again),
  (yX4_count, cX4_count, 4, (some .int), RX4, some 4, md_X4_count),
  (yX4_refused, cX4_refused, 2, (some .int), RX4, some 4, md_X4_refused),
  (yJ13_bitCount_95d88, cJ13_bitCount_95d88, 2, (some .int), RJ13, none, md_J13_bitCount),
  (yJ7_rangeCheck_23922, cJ7_rangeCheck_23922, 3, none, RJ7, none, md_J7_rangeCheck),
  (yJ7_fill_53178, cJ7_fill_53178, 4, none, RJ7, none, md_J7_fill2),
  (yJ7_fill_fda19, cJ7_fill_fda19, 5, none, RJ7, none, md_J7_fill4)]
def mdf : MethodName := ⟨"", "", ""⟩
def mth (y : Nat) : mM := mtab.getD y (mdf, .mk #[], 0, none, "", none, [])
/-- "wsdrgmf".indexOf -/
def xix (x : Int32) : Int32 := if x = 119 then 0 else if x = 115 then 1 else if x = 100 then 2 else if x = 114 then 3 else if x = 103 then 4 else if x = 109 then 5 else if x = 102 then 6 else -1
def rcv (ci : Option Nat) (as : List mV) : Prop := match ci with
  | none => True
  | some k => match as with
    | .inr (.inr r) :: _ => (obj r).1 = k
    | _ => False
def ent : List mV → mL
  | [] => []
  | .inr (.inl x) :: as => some (.inr (.inl x)) :: none :: ent as
  | v :: as => some v :: ent as
def Kd (sL : Nat) : Nat → mK
  | 0 => fun _ _ _ _ => False
  | d + 1 => fun y as h post => (y = 900 ∧ 3 ≤ d ∧ ∃ x, as = [.inr (.inr (.inr 21)), .inl x] ∧ post (some (.inl (xix x))) h) ∨
    (y < 195 ∧ rcv (mth y).2.2.2.2.2.1 as ∧ (ent as).length ≤ (mth y).2.2.1 ∧ EX (Kd sL d) sL (mth y).2.2.2.2.2.2 post 0 (ent as ++ List.replicate ((mth y).2.2.1 - (ent as).length) none) [] h)
theorem Kd_mono (sL : Nat) : ∀ d, mMono (Kd sL d)
  | 0 => fun _ _ _ _ _ _ h => h
  | d + 1 => fun y as h p q hpq H => by
    rcases H with ⟨h1, h0, x, h2, h3⟩ | ⟨h1, h2, h3, h4⟩
    · exact Or.inl ⟨h1, h0, x, h2, hpq _ _ h3⟩
    · exact Or.inr ⟨h1, h2, h3, EX.mono (Kd_mono sL d) hpq h4⟩
theorem ke_X0_copyFrom {sL d : Nat} {h : mH} {post : mP} {i : Fin 3} {i0 : Fin 3} (H : EX (Kd sL d) sL md_X0_copyFrom post 0 [some (.inr (.inr (.inl (i, 0)))), some (.inr (.inr (.inl (i0, 0))))] [] h) : Kd sL (d + 1) 0 [.inr (.inr (.inl (i, 0))), .inr (.inr (.inl (i0, 0)))] h post := Or.inr ⟨Nat.le_of_ble_eq_true rfl, rfl, Nat.le_of_ble_eq_true rfl, H⟩
theorem ke_X0_hasLayer {sL d : Nat} {h : mH} {post : mP} {i : Fin 3} {a1 : Int32} (H : EX (Kd sL d) sL md_X0_hasLayer post 0 [some (.inr (.inr (.inl (i, 0)))), some (.inl a1)] [] h) : Kd sL (d + 1) 1 [.inr (.inr (.inl (i, 0))), .inl a1] h post := Or.inr ⟨Nat.le_of_ble_eq_true rfl, rfl, Nat.le_of_ble_eq_true rfl, H⟩
theorem ke_X0_hasBacking {sL d : Nat} {h : mH} {post : mP} {i : Fin 3} {a1 : Int32} (H : EX (Kd sL d) sL md_X0_hasBacking post 0 [some (.inr (.inr (.inl (i, 0)))), some (.inl a1)] [] h) : Kd sL (d + 1) 2 [.inr (.inr (.inl (i, 0))), .inl a1] h post := Or.inr ⟨Nat.le_of_ble_eq_true rfl, rfl, Nat.le_of_ble_eq_true rfl, H⟩
theorem ke_X0_hasSnapshot {sL d : Nat} {h : mH} {post : mP} {i : Fin 3} {a1 : Int32} (H : EX (Kd sL d) sL md_X0_hasSnapshot post 0 [some (.inr (.inr (.inl (i, 0)))), some (.inl a1)] [] h) : Kd sL (d + 1) 3 [.inr (.inr (.inl (i, 0))), .inl a1] h post := Or.inr ⟨Nat.le_of_ble_eq_true rfl, rfl, Nat.le_of_ble_eq_true rfl, H⟩
theorem ke_X0_addLayer {sL d : Nat} {h : mH} {post : mP} {i : Fin 3} {a1 : Int32} (H : EX (Kd sL d) sL md_X0_addLayer post 0 [some (.inr (.inr (.inl (i, 0)))), some (.inl a1), none] [] h) : Kd sL (d + 1) 4 [.inr (.inr (.inl (i, 0))), .inl a1] h post := Or.inr ⟨Nat.le_of_ble_eq_true rfl, rfl, Nat.le_of_ble_eq_true rfl, H⟩
theorem ke_X0_snapshotSet {sL d : Nat} {h : mH} {post : mP} {i : Fin 3} (H : EX (Kd sL d) sL md_X0_snapshotSet post 0 [some (.inr (.inr (.inl (i, 0)))), none, none] [] h) : Kd sL (d + 1) 5 [.inr (.inr (.inl (i, 0)))] h post := Or.inr ⟨Nat.le_of_ble_eq_true rfl, rfl, Nat.le_of_ble_eq_true rfl, H⟩
theorem ke_X0_leastMissingSnapshot {sL d : Nat} {h : mH} {post : mP} {i : Fin 3} (H : EX (Kd sL d) sL md_X0_leastMissingSnapshot post 0 [some (.inr (.inr (.inl (i, 0)))), none] [] h) : Kd sL (d + 1) 6 [.inr (.inr (.inl (i, 0)))] h post := Or.inr ⟨Nat.le_of_ble_eq_true rfl, rfl, Nat.le_of_ble_eq_true rfl, H⟩
theorem ke_X0_layersBelow {sL d : Nat} {h : mH} {post : mP} {i : Fin 3} {a1 : Int32} (H : EX (Kd sL d) sL md_X0_layersBelow post 0 [some (.inr (.inr (.inl (i, 0)))), some (.inl a1), none, none] [] h) : Kd sL (d + 1) 7 [.inr (.inr (.inl (i, 0))), .inl a1] h post := Or.inr ⟨Nat.le_of_ble_eq_true rfl, rfl, Nat.le_of_ble_eq_true rfl, H⟩
theorem ke_X0_standsOn {sL d : Nat} {h : mH} {post : mP} {i : Fin 3} {a1 : Int32} {a2 : Int32} (H : EX (Kd sL d) sL md_X0_standsOn post 0 [some (.inr (.inr (.inl (i, 0)))), some (.inl a1), some (.inl a2), none, none] [] h) : Kd sL (d + 1) 8 [.inr (.inr (.inl (i, 0))), .inl a1, .inl a2] h post := Or.inr ⟨Nat.le_of_ble_eq_true rfl, rfl, Nat.le_of_ble_eq_true rfl, H⟩
theorem ke_X0_tableAt {sL d : Nat} {h : mH} {post : mP} {i : Fin 3} {a1 : Int32} {a2 : Int32} (H : EX (Kd sL d) sL md_X0_tableAt post 0 [some (.inr (.inr (.inl (i, 0)))), some (.inl a1), some (.inl a2), none, none] [] h) : Kd sL (d + 1) 9 [.inr (.inr (.inl (i, 0))), .inl a1, .inl a2] h post := Or.inr ⟨Nat.le_of_ble_eq_true rfl, rfl, Nat.le_of_ble_eq_true rfl, H⟩
theorem ke_X0_dataAt {sL d : Nat} {h : mH} {post : mP} {i : Fin 3} {a1 : Int32} {a2 : Int32} (H : EX (Kd sL d) sL md_X0_dataAt post 0 [some (.inr (.inr (.inl (i, 0)))), some (.inl a1), some (.inl a2), none, none] [] h) : Kd sL (d + 1) 10 [.inr (.inr (.inl (i, 0))), .inl a1, .inl a2] h post := Or.inr ⟨Nat.le_of_ble_eq_true rfl, rfl, Nat.le_of_ble_eq_true rfl, H⟩
theorem ke_X0_dataOf {sL d : Nat} {h : mH} {post : mP} {i : Fin 3} {a1 : Int32} {a2 : Int32} (H : EX (Kd sL d) sL md_X0_dataOf post 0 [some (.inr (.inr (.inl (i, 0)))), some (.inl a1), some (.inl a2)] [] h) : Kd sL (d + 1) 11 [.inr (.inr (.inl (i, 0))), .inl a1, .inl a2] h post := Or.inr ⟨Nat.le_of_ble_eq_true rfl, rfl, Nat.le_of_ble_eq_true rfl, H⟩
theorem ke_X0_ownBlocks {sL d : Nat} {h : mH} {post : mP} {i : Fin 3} {a1 : Int32} (H : EX (Kd sL d) sL md_X0_ownBlocks post 0 [some (.inr (.inr (.inl (i, 0)))), some (.inl a1), none, none] [] h) : Kd sL (d + 1) 12 [.inr (.inr (.inl (i, 0))), .inl a1] h post := Or.inr ⟨Nat.le_of_ble_eq_true rfl, rfl, Nat.le_of_ble_eq_true rfl, H⟩
theorem ke_X0_at {sL d : Nat} {h : mH} {post : mP} {i : Fin 3} {a1 : Int32} {a2 : Int32} (H : EX (Kd sL d) sL md_X0_at post 0 [some (.inr (.inr (.inl (i, 0)))), some (.inl a1), some (.inl a2), none, none, none] [] h) : Kd sL (d + 1) 13 [.inr (.inr (.inl (i, 0))), .inl a1, .inl a2] h post := Or.inr ⟨Nat.le_of_ble_eq_true rfl, rfl, Nat.le_of_ble_eq_true rfl, H⟩
theorem ke_X0_atOld {sL d : Nat} {h : mH} {post : mP} {i : Fin 3} {a1 : Int32} {a2 : Int32} (H : EX (Kd sL d) sL md_X0_atOld post 0 [some (.inr (.inr (.inl (i, 0)))), some (.inl a1), some (.inl a2), none, none] [] h) : Kd sL (d + 1) 14 [.inr (.inr (.inl (i, 0))), .inl a1, .inl a2] h post := Or.inr ⟨Nat.le_of_ble_eq_true rfl, rfl, Nat.le_of_ble_eq_true rfl, H⟩
theorem ke_X0_sameBlock {sL d : Nat} {h : mH} {post : mP} {i : Fin 3} {a1 : Int32} {a2 : Int32} {a3 : Int32} (H : EX (Kd sL d) sL md_X0_sameBlock post 0 [some (.inr (.inr (.inl (i, 0)))), some (.inl a1), some (.inl a2), some (.inl a3), none] [] h) : Kd sL (d + 1) 15 [.inr (.inr (.inl (i, 0))), .inl a1, .inl a2, .inl a3] h post := Or.inr ⟨Nat.le_of_ble_eq_true rfl, rfl, Nat.le_of_ble_eq_true rfl, H⟩
theorem ke_X0_alike {sL d : Nat} {h : mH} {post : mP} {i : Fin 3} {a1 : Int32} {a2 : Int32} (H : EX (Kd sL d) sL md_X0_alike post 0 [some (.inr (.inr (.inl (i, 0)))), some (.inl a1), some (.inl a2), none] [] h) : Kd sL (d + 1) 16 [.inr (.inr (.inl (i, 0))), .inl a1, .inl a2] h post := Or.inr ⟨Nat.le_of_ble_eq_true rfl, rfl, Nat.le_of_ble_eq_true rfl, H⟩
theorem ke_X0_leastAlike {sL d : Nat} {h : mH} {post : mP} {i : Fin 3} {a1 : Int64} {a2 : Int32} (H : EX (Kd sL d) sL md_X0_leastAlike post 0 [some (.inr (.inr (.inl (i, 0)))), some (.inr (.inl a1)), none, some (.inl a2), none] [] h) : Kd sL (d + 1) 17 [.inr (.inr (.inl (i, 0))), .inr (.inl a1), .inl a2] h post := Or.inr ⟨Nat.le_of_ble_eq_true rfl, rfl, Nat.le_of_ble_eq_true rfl, H⟩
theorem ke_X0_tablesOf {sL d : Nat} {h : mH} {post : mP} {i : Fin 3} {a1 : Int32} {a2 : Int32} (H : EX (Kd sL d) sL md_X0_tablesOf post 0 [some (.inr (.inr (.inl (i, 0)))), some (.inl a1), some (.inl a2), none, none, none, none] [] h) : Kd sL (d + 1) 18 [.inr (.inr (.inl (i, 0))), .inl a1, .inl a2] h post := Or.inr ⟨Nat.le_of_ble_eq_true rfl, rfl, Nat.le_of_ble_eq_true rfl, H⟩
theorem ke_X0_dataNamedBy {sL d : Nat} {h : mH} {post : mP} {i : Fin 3} {a1 : Int64} (H : EX (Kd sL d) sL md_X0_dataNamedBy post 0 [some (.inr (.inr (.inl (i, 0)))), some (.inr (.inl a1)), none, none, none, none, none] [] h) : Kd sL (d + 1) 19 [.inr (.inr (.inl (i, 0))), .inr (.inl a1)] h post := Or.inr ⟨Nat.le_of_ble_eq_true rfl, rfl, Nat.le_of_ble_eq_true rfl, H⟩
theorem ke_X0_heldBy {sL d : Nat} {h : mH} {post : mP} {i : Fin 3} {a1 : Int32} (H : EX (Kd sL d) sL md_X0_heldBy post 0 [some (.inr (.inr (.inl (i, 0)))), some (.inl a1), none, none] [] h) : Kd sL (d + 1) 20 [.inr (.inr (.inl (i, 0))), .inl a1] h post := Or.inr ⟨Nat.le_of_ble_eq_true rfl, rfl, Nat.le_of_ble_eq_true rfl, H⟩
theorem ke_X0_countCells {sL d : Nat} {h : mH} {post : mP} {i : Fin 3} (H : EX (Kd sL d) sL md_X0_countCells post 0 [some (.inr (.inr (.inl (i, 0)))), none, none, none, none] [] h) : Kd sL (d + 1) 21 [.inr (.inr (.inl (i, 0)))] h post := Or.inr ⟨Nat.le_of_ble_eq_true rfl, rfl, Nat.le_of_ble_eq_true rfl, H⟩
theorem ke_X0_countTrue {sL d : Nat} {h : mH} {post : mP} {i : Fin 3} (H : EX (Kd sL d) sL md_X0_countTrue post 0 [some (.inr (.inr (.inl (i, 0)))), none, none] [] h) : Kd sL (d + 1) 22 [.inr (.inr (.inl (i, 0)))] h post := Or.inr ⟨Nat.le_of_ble_eq_true rfl, rfl, Nat.le_of_ble_eq_true rfl, H⟩
theorem ke_X0_leakSet {sL d : Nat} {h : mH} {post : mP} {i : Fin 3} (H : EX (Kd sL d) sL md_X0_leakSet post 0 [some (.inr (.inr (.inl (i, 0)))), none, none, none] [] h) : Kd sL (d + 1) 23 [.inr (.inr (.inl (i, 0)))] h post := Or.inr ⟨Nat.le_of_ble_eq_true rfl, rfl, Nat.le_of_ble_eq_true rfl, H⟩
theorem ke_X0_lackSet {sL d : Nat} {h : mH} {post : mP} {i : Fin 3} (H : EX (Kd sL d) sL md_X0_lackSet post 0 [some (.inr (.inr (.inl (i, 0)))), none, none, none] [] h) : Kd sL (d + 1) 24 [.inr (.inr (.inl (i, 0)))] h post := Or.inr ⟨Nat.le_of_ble_eq_true rfl, rfl, Nat.le_of_ble_eq_true rfl, H⟩
theorem ke_X0_freeSet {sL d : Nat} {h : mH} {post : mP} {i : Fin 3} (H : EX (Kd sL d) sL md_X0_freeSet post 0 [some (.inr (.inr (.inl (i, 0)))), none, none, none] [] h) : Kd sL (d + 1) 25 [.inr (.inr (.inl (i, 0)))] h post := Or.inr ⟨Nat.le_of_ble_eq_true rfl, rfl, Nat.le_of_ble_eq_true rfl, H⟩
theorem ke_X0_sharedData {sL d : Nat} {h : mH} {post : mP} {i : Fin 3} (H : EX (Kd sL d) sL md_X0_sharedData post 0 [some (.inr (.inr (.inl (i, 0)))), none, none, none] [] h) : Kd sL (d + 1) 26 [.inr (.inr (.inl (i, 0)))] h post := Or.inr ⟨Nat.le_of_ble_eq_true rfl, rfl, Nat.le_of_ble_eq_true rfl, H⟩
theorem ke_X0_mendCounts {sL d : Nat} {h : mH} {post : mP} {i : Fin 3} (H : EX (Kd sL d) sL md_X0_mendCounts post 0 [some (.inr (.inr (.inl (i, 0)))), none, none] [] h) : Kd sL (d + 1) 27 [.inr (.inr (.inl (i, 0)))] h post := Or.inr ⟨Nat.le_of_ble_eq_true rfl, rfl, Nat.le_of_ble_eq_true rfl, H⟩
theorem ke_X1_append {sL d : Nat} {h : mH} {post : mP} {a1 : Int32} (H : EX (Kd sL d) sL md_X1_append post 0 [some (.inr (.inr (.inr 4))), some (.inl a1)] [] h) : Kd sL (d + 1) 28 [.inr (.inr (.inr 4)), .inl a1] h post := Or.inr ⟨Nat.le_of_ble_eq_true rfl, rfl, Nat.le_of_ble_eq_true rfl, H⟩
theorem ke_X1_ahead {sL d : Nat} {h : mH} {post : mP}  (H : EX (Kd sL d) sL md_X1_ahead post 0 [some (.inr (.inr (.inr 4)))] [] h) : Kd sL (d + 1) 29 [.inr (.inr (.inr 4))] h post := Or.inr ⟨Nat.le_of_ble_eq_true rfl, rfl, Nat.le_of_ble_eq_true rfl, H⟩
theorem ke_X1_faultPlace {sL d : Nat} {h : mH} {post : mP}  (H : EX (Kd sL d) sL md_X1_faultPlace post 0 [some (.inr (.inr (.inr 4)))] [] h) : Kd sL (d + 1) 30 [.inr (.inr (.inr 4))] h post := Or.inr ⟨Nat.le_of_ble_eq_true rfl, rfl, Nat.le_of_ble_eq_true rfl, H⟩
theorem ke_X1_takeParting {sL d : Nat} {h : mH} {post : mP}  (H : EX (Kd sL d) sL md_X1_takeParting post 0 [some (.inr (.inr (.inr 4)))] [] h) : Kd sL (d + 1) 31 [.inr (.inr (.inr 4))] h post := Or.inr ⟨Nat.le_of_ble_eq_true rfl, rfl, Nat.le_of_ble_eq_true rfl, H⟩
theorem ke_X1_takeDeed {sL d : Nat} {h : mH} {post : mP}  (H : EX (Kd sL d) sL md_X1_takeDeed post 0 [some (.inr (.inr (.inr 4))), none, none] [] h) : Kd sL (d + 1) 32 [.inr (.inr (.inr 4))] h post := Or.inr ⟨Nat.le_of_ble_eq_true rfl, rfl, Nat.le_of_ble_eq_true rfl, H⟩
theorem ke_X1_takeNumber {sL d : Nat} {h : mH} {post : mP} {a1 : Int32} (H : EX (Kd sL d) sL md_X1_takeNumber post 0 [some (.inr (.inr (.inr 4))), some (.inl a1), none] [] h) : Kd sL (d + 1) 33 [.inr (.inr (.inr 4)), .inl a1] h post := Or.inr ⟨Nat.le_of_ble_eq_true rfl, rfl, Nat.le_of_ble_eq_true rfl, H⟩
theorem ke_X2_set {sL d : Nat} {h : mH} {post : mP} {a1 : Int32} {a2 : Int32} {a3 : Int32} {a4 : Int32} (H : EX (Kd sL d) sL md_X2_set post 0 [some (.inr (.inr (.inr 2))), some (.inl a1), some (.inl a2), some (.inl a3), some (.inl a4)] [] h) : Kd sL (d + 1) 34 [.inr (.inr (.inr 2)), .inl a1, .inl a2, .inl a3, .inl a4] h post := Or.inr ⟨Nat.le_of_ble_eq_true rfl, rfl, Nat.le_of_ble_eq_true rfl, H⟩
theorem ke_X2_start {sL d : Nat} {h : mH} {post : mP} {i0 : Fin 3} {a2 : Int32} (H : EX (Kd sL d) sL md_X2_start post 0 [some (.inr (.inr (.inr 2))), some (.inr (.inr (.inl (i0, 0)))), some (.inl a2)] [] h) : Kd sL (d + 1) 35 [.inr (.inr (.inr 2)), .inr (.inr (.inl (i0, 0))), .inl a2] h post := Or.inr ⟨Nat.le_of_ble_eq_true rfl, rfl, Nat.le_of_ble_eq_true rfl, H⟩
theorem ke_X2_step {sL d : Nat} {h : mH} {post : mP}  (H : EX (Kd sL d) sL md_X2_step post 0 [some (.inr (.inr (.inr 2)))] [] h) : Kd sL (d + 1) 36 [.inr (.inr (.inr 2))] h post := Or.inr ⟨Nat.le_of_ble_eq_true rfl, rfl, Nat.le_of_ble_eq_true rfl, H⟩
theorem ke_X2_addToCount {sL d : Nat} {h : mH} {post : mP} {a1 : Int32} {a2 : Int32} (H : EX (Kd sL d) sL md_X2_addToCount post 0 [some (.inr (.inr (.inr 2))), some (.inl a1), some (.inl a2)] [] h) : Kd sL (d + 1) 37 [.inr (.inr (.inr 2)), .inl a1, .inl a2] h post := Or.inr ⟨Nat.le_of_ble_eq_true rfl, rfl, Nat.le_of_ble_eq_true rfl, H⟩
theorem ke_X2_newCluster {sL d : Nat} {h : mH} {post : mP}  (H : EX (Kd sL d) sL md_X2_newCluster post 0 [some (.inr (.inr (.inr 2))), none] [] h) : Kd sL (d + 1) 38 [.inr (.inr (.inr 2))] h post := Or.inr ⟨Nat.le_of_ble_eq_true rfl, rfl, Nat.le_of_ble_eq_true rfl, H⟩
theorem ke_X2_go {sL d : Nat} {h : mH} {post : mP} {i0 : Fin 3} {a2 : Int32} (H : EX (Kd sL d) sL md_X2_go post 0 [some (.inr (.inr (.inr 2))), some (.inr (.inr (.inl (i0, 0)))), some (.inl a2)] [] h) : Kd sL (d + 1) 39 [.inr (.inr (.inr 2)), .inr (.inr (.inl (i0, 0))), .inl a2] h post := Or.inr ⟨Nat.le_of_ble_eq_true rfl, rfl, Nat.le_of_ble_eq_true rfl, H⟩
theorem ke_X2_ownTable {sL d : Nat} {h : mH} {post : mP} {a1 : Int32} {a2 : Int32} (H : EX (Kd sL d) sL md_X2_ownTable post 0 [some (.inr (.inr (.inr 2))), some (.inl a1), some (.inl a2), none, none, none, none] [] h) : Kd sL (d + 1) 40 [.inr (.inr (.inr 2)), .inl a1, .inl a2] h post := Or.inr ⟨Nat.le_of_ble_eq_true rfl, rfl, Nat.le_of_ble_eq_true rfl, H⟩
theorem ke_X2_noteTables {sL d : Nat} {h : mH} {post : mP} {a1 : Int32} (H : EX (Kd sL d) sL md_X2_noteTables post 0 [some (.inr (.inr (.inr 2))), some (.inl a1)] [] h) : Kd sL (d + 1) 41 [.inr (.inr (.inr 2)), .inl a1] h post := Or.inr ⟨Nat.le_of_ble_eq_true rfl, rfl, Nat.le_of_ble_eq_true rfl, H⟩
theorem ke_X2_releaseNoted {sL d : Nat} {h : mH} {post : mP}  (H : EX (Kd sL d) sL md_X2_releaseNoted post 0 [some (.inr (.inr (.inr 2))), none, none, none] [] h) : Kd sL (d + 1) 42 [.inr (.inr (.inr 2))] h post := Or.inr ⟨Nat.le_of_ble_eq_true rfl, rfl, Nat.le_of_ble_eq_true rfl, H⟩
theorem ke_X2_rewriteAll {sL d : Nat} {h : mH} {post : mP} {i0 : Fin 3} {a2 : Int32} (H : EX (Kd sL d) sL md_X2_rewriteAll post 0 [some (.inr (.inr (.inr 2))), some (.inr (.inr (.inl (i0, 0)))), some (.inl a2), none] [] h) : Kd sL (d + 1) 43 [.inr (.inr (.inr 2)), .inr (.inr (.inl (i0, 0))), .inl a2] h post := Or.inr ⟨Nat.le_of_ble_eq_true rfl, rfl, Nat.le_of_ble_eq_true rfl, H⟩
theorem ke_X2_writePlace {sL d : Nat} {h : mH} {post : mP} {a1 : Int32} {a2 : Int32} {a3 : Int32} (H : EX (Kd sL d) sL md_X2_writePlace post 0 [some (.inr (.inr (.inr 2))), some (.inl a1), some (.inl a2), some (.inl a3), none, none, none, none, none, none] [] h) : Kd sL (d + 1) 44 [.inr (.inr (.inr 2)), .inl a1, .inl a2, .inl a3] h post := Or.inr ⟨Nat.le_of_ble_eq_true rfl, rfl, Nat.le_of_ble_eq_true rfl, H⟩
theorem ke_X2_takeSnapshot {sL d : Nat} {h : mH} {post : mP} {a1 : Int32} {a2 : Int32} (H : EX (Kd sL d) sL md_X2_takeSnapshot post 0 [some (.inr (.inr (.inr 2))), some (.inl a1), some (.inl a2), none] [] h) : Kd sL (d + 1) 45 [.inr (.inr (.inr 2)), .inl a1, .inl a2] h post := Or.inr ⟨Nat.le_of_ble_eq_true rfl, rfl, Nat.le_of_ble_eq_true rfl, H⟩
theorem ke_X2_dropSnapshot {sL d : Nat} {h : mH} {post : mP} {a1 : Int32} (H : EX (Kd sL d) sL md_X2_dropSnapshot post 0 [some (.inr (.inr (.inr 2))), some (.inl a1), none] [] h) : Kd sL (d + 1) 46 [.inr (.inr (.inr 2)), .inl a1] h post := Or.inr ⟨Nat.le_of_ble_eq_true rfl, rfl, Nat.le_of_ble_eq_true rfl, H⟩
theorem ke_X2_revertTo {sL d : Nat} {h : mH} {post : mP} {a1 : Int32} (H : EX (Kd sL d) sL md_X2_revertTo post 0 [some (.inr (.inr (.inr 2))), some (.inl a1), none, none, none] [] h) : Kd sL (d + 1) 47 [.inr (.inr (.inr 2)), .inl a1] h post := Or.inr ⟨Nat.le_of_ble_eq_true rfl, rfl, Nat.le_of_ble_eq_true rfl, H⟩
theorem ke_X2_giveUpBlock {sL d : Nat} {h : mH} {post : mP} {a1 : Int32} {a2 : Int32} (H : EX (Kd sL d) sL md_X2_giveUpBlock post 0 [some (.inr (.inr (.inr 2))), some (.inl a1), some (.inl a2), none, none] [] h) : Kd sL (d + 1) 48 [.inr (.inr (.inr 2)), .inl a1, .inl a2] h post := Or.inr ⟨Nat.le_of_ble_eq_true rfl, rfl, Nat.le_of_ble_eq_true rfl, H⟩
theorem ke_X2_mergeDown {sL d : Nat} {h : mH} {post : mP} {a1 : Int32} (H : EX (Kd sL d) sL md_X2_mergeDown post 0 [some (.inr (.inr (.inr 2))), some (.inl a1), none, none] [] h) : Kd sL (d + 1) 49 [.inr (.inr (.inr 2)), .inl a1] h post := Or.inr ⟨Nat.le_of_ble_eq_true rfl, rfl, Nat.le_of_ble_eq_true rfl, H⟩
theorem ke_X2_moveOnto {sL d : Nat} {h : mH} {post : mP} {a1 : Int32} {a2 : Int32} {a3 : Int32} (H : EX (Kd sL d) sL md_X2_moveOnto post 0 [some (.inr (.inr (.inr 2))), some (.inl a1), some (.inl a2), some (.inl a3), none, none, none] [] h) : Kd sL (d + 1) 50 [.inr (.inr (.inr 2)), .inl a1, .inl a2, .inl a3] h post := Or.inr ⟨Nat.le_of_ble_eq_true rfl, rfl, Nat.le_of_ble_eq_true rfl, H⟩
theorem ke_X2_foldAlike {sL d : Nat} {h : mH} {post : mP}  (H : EX (Kd sL d) sL md_X2_foldAlike post 0 [some (.inr (.inr (.inr 2))), none, none, none, none, none, none, none, none] [] h) : Kd sL (d + 1) 51 [.inr (.inr (.inr 2))] h post := Or.inr ⟨Nat.le_of_ble_eq_true rfl, rfl, Nat.le_of_ble_eq_true rfl, H⟩
theorem ke_X3_layer {sL d : Nat} {h : mH} {post : mP} {a1 : Int32} (H : EX (Kd sL d) sL md_X3_layer post 0 [some (.inr (.inr (.inr 0))), some (.inl a1)] [] h) : Kd sL (d + 1) 52 [.inr (.inr (.inr 0)), .inl a1] h post := Or.inr ⟨Nat.le_of_ble_eq_true rfl, rfl, Nat.le_of_ble_eq_true rfl, H⟩
theorem ke_X3_of {sL d : Nat} {h : mH} {post : mP} {a1 : Int32} {a2 : Int32} (H : EX (Kd sL d) sL md_X3_of post 0 [some (.inr (.inr (.inr 0))), some (.inl a1), some (.inl a2)] [] h) : Kd sL (d + 1) 53 [.inr (.inr (.inr 0)), .inl a1, .inl a2] h post := Or.inr ⟨Nat.le_of_ble_eq_true rfl, rfl, Nat.le_of_ble_eq_true rfl, H⟩
theorem ke_X3_read {sL d : Nat} {h : mH} {post : mP} {a1 : Int32} {a2 : Int32} (H : EX (Kd sL d) sL md_X3_read post 0 [some (.inr (.inr (.inr 0))), some (.inl a1), some (.inl a2)] [] h) : Kd sL (d + 1) 54 [.inr (.inr (.inr 0)), .inl a1, .inl a2] h post := Or.inr ⟨Nat.le_of_ble_eq_true rfl, rfl, Nat.le_of_ble_eq_true rfl, H⟩
theorem ke_X3_readOld {sL d : Nat} {h : mH} {post : mP} {a1 : Int32} {a2 : Int32} (H : EX (Kd sL d) sL md_X3_readOld post 0 [some (.inr (.inr (.inr 0))), some (.inl a1), some (.inl a2)] [] h) : Kd sL (d + 1) 55 [.inr (.inr (.inr 0)), .inl a1, .inl a2] h post := Or.inr ⟨Nat.le_of_ble_eq_true rfl, rfl, Nat.le_of_ble_eq_true rfl, H⟩
theorem ke_X3_unlike {sL d : Nat} {h : mH} {post : mP} {a1 : Int32} {a2 : Int32} (H : EX (Kd sL d) sL md_X3_unlike post 0 [some (.inr (.inr (.inr 0))), some (.inl a1), some (.inl a2), none] [] h) : Kd sL (d + 1) 56 [.inr (.inr (.inr 0)), .inl a1, .inl a2] h post := Or.inr ⟨Nat.le_of_ble_eq_true rfl, rfl, Nat.le_of_ble_eq_true rfl, H⟩
theorem ke_X3_sum {sL d : Nat} {h : mH} {post : mP} {a1 : Int32} (H : EX (Kd sL d) sL md_X3_sum post 0 [some (.inr (.inr (.inr 0))), some (.inl a1), none, none] [] h) : Kd sL (d + 1) 57 [.inr (.inr (.inr 0)), .inl a1] h post := Or.inr ⟨Nat.le_of_ble_eq_true rfl, rfl, Nat.le_of_ble_eq_true rfl, H⟩
theorem ke_X3_write {sL d : Nat} {h : mH} {post : mP} {a1 : Int32} {a2 : Int32} {a3 : Int32} (H : EX (Kd sL d) sL md_X3_write post 0 [some (.inr (.inr (.inr 0))), some (.inl a1), some (.inl a2), some (.inl a3)] [] h) : Kd sL (d + 1) 58 [.inr (.inr (.inr 0)), .inl a1, .inl a2, .inl a3] h post := Or.inr ⟨Nat.le_of_ble_eq_true rfl, rfl, Nat.le_of_ble_eq_true rfl, H⟩
theorem ke_X3_snap {sL d : Nat} {h : mH} {post : mP} {a1 : Int32} (H : EX (Kd sL d) sL md_X3_snap post 0 [some (.inr (.inr (.inr 0))), some (.inl a1)] [] h) : Kd sL (d + 1) 59 [.inr (.inr (.inr 0)), .inl a1] h post := Or.inr ⟨Nat.le_of_ble_eq_true rfl, rfl, Nat.le_of_ble_eq_true rfl, H⟩
theorem ke_X3_drop {sL d : Nat} {h : mH} {post : mP} {a1 : Int32} (H : EX (Kd sL d) sL md_X3_drop post 0 [some (.inr (.inr (.inr 0))), some (.inl a1)] [] h) : Kd sL (d + 1) 60 [.inr (.inr (.inr 0)), .inl a1] h post := Or.inr ⟨Nat.le_of_ble_eq_true rfl, rfl, Nat.le_of_ble_eq_true rfl, H⟩
theorem ke_X3_revert {sL d : Nat} {h : mH} {post : mP} {a1 : Int32} (H : EX (Kd sL d) sL md_X3_revert post 0 [some (.inr (.inr (.inr 0))), some (.inl a1)] [] h) : Kd sL (d + 1) 61 [.inr (.inr (.inr 0)), .inl a1] h post := Or.inr ⟨Nat.le_of_ble_eq_true rfl, rfl, Nat.le_of_ble_eq_true rfl, H⟩
theorem ke_X3_giveUp {sL d : Nat} {h : mH} {post : mP} {a1 : Int32} {a2 : Int32} (H : EX (Kd sL d) sL md_X3_giveUp post 0 [some (.inr (.inr (.inr 0))), some (.inl a1), some (.inl a2)] [] h) : Kd sL (d + 1) 62 [.inr (.inr (.inr 0)), .inl a1, .inl a2] h post := Or.inr ⟨Nat.le_of_ble_eq_true rfl, rfl, Nat.le_of_ble_eq_true rfl, H⟩
theorem ke_X3_merge {sL d : Nat} {h : mH} {post : mP} {a1 : Int32} (H : EX (Kd sL d) sL md_X3_merge post 0 [some (.inr (.inr (.inr 0))), some (.inl a1)] [] h) : Kd sL (d + 1) 63 [.inr (.inr (.inr 0)), .inl a1] h post := Or.inr ⟨Nat.le_of_ble_eq_true rfl, rfl, Nat.le_of_ble_eq_true rfl, H⟩
theorem ke_X3_move {sL d : Nat} {h : mH} {post : mP} {a1 : Int32} {a2 : Int32} {a3 : Int32} (H : EX (Kd sL d) sL md_X3_move post 0 [some (.inr (.inr (.inr 0))), some (.inl a1), some (.inl a2), some (.inl a3)] [] h) : Kd sL (d + 1) 64 [.inr (.inr (.inr 0)), .inl a1, .inl a2, .inl a3] h post := Or.inr ⟨Nat.le_of_ble_eq_true rfl, rfl, Nat.le_of_ble_eq_true rfl, H⟩
theorem ke_X3_fold {sL d : Nat} {h : mH} {post : mP}  (H : EX (Kd sL d) sL md_X3_fold post 0 [some (.inr (.inr (.inr 0)))] [] h) : Kd sL (d + 1) 65 [.inr (.inr (.inr 0))] h post := Or.inr ⟨Nat.le_of_ble_eq_true rfl, rfl, Nat.le_of_ble_eq_true rfl, H⟩
theorem ke_X3_tear {sL d : Nat} {h : mH} {post : mP} {a1 : Int32} (H : EX (Kd sL d) sL md_X3_tear post 0 [some (.inr (.inr (.inr 0))), some (.inl a1), none] [] h) : Kd sL (d + 1) 66 [.inr (.inr (.inr 0)), .inl a1] h post := Or.inr ⟨Nat.le_of_ble_eq_true rfl, rfl, Nat.le_of_ble_eq_true rfl, H⟩
theorem ke_X3_cluster {sL d : Nat} {h : mH} {post : mP} {a1 : Int32} {a2 : Int32} (H : EX (Kd sL d) sL md_X3_cluster post 0 [some (.inr (.inr (.inr 0))), some (.inl a1), some (.inl a2)] [] h) : Kd sL (d + 1) 67 [.inr (.inr (.inr 0)), .inl a1, .inl a2] h post := Or.inr ⟨Nat.le_of_ble_eq_true rfl, rfl, Nat.le_of_ble_eq_true rfl, H⟩
theorem ke_X3_spoil {sL d : Nat} {h : mH} {post : mP} {a1 : Int32} {a2 : Int32} (H : EX (Kd sL d) sL md_X3_spoil post 0 [some (.inr (.inr (.inr 0))), some (.inl a1), some (.inl a2), none] [] h) : Kd sL (d + 1) 68 [.inr (.inr (.inr 0)), .inl a1, .inl a2] h post := Or.inr ⟨Nat.le_of_ble_eq_true rfl, rfl, Nat.le_of_ble_eq_true rfl, H⟩
theorem ke_X3_all {sL d : Nat} {h : mH} {post : mP} {a1 : Int32} (H : EX (Kd sL d) sL md_X3_all post 0 [some (.inr (.inr (.inr 0))), some (.inl a1)] [] h) : Kd sL (d + 1) 69 [.inr (.inr (.inr 0)), .inl a1] h post := Or.inr ⟨Nat.le_of_ble_eq_true rfl, rfl, Nat.le_of_ble_eq_true rfl, H⟩
theorem ke_X3_repair {sL d : Nat} {h : mH} {post : mP}  (H : EX (Kd sL d) sL md_X3_repair post 0 [some (.inr (.inr (.inr 0)))] [] h) : Kd sL (d + 1) 70 [.inr (.inr (.inr 0))] h post := Or.inr ⟨Nat.le_of_ble_eq_true rfl, rfl, Nat.le_of_ble_eq_true rfl, H⟩
theorem ke_X3_holds {sL d : Nat} {h : mH} {post : mP} {a1 : Int32} (H : EX (Kd sL d) sL md_X3_holds post 0 [some (.inr (.inr (.inr 0))), some (.inl a1)] [] h) : Kd sL (d + 1) 71 [.inr (.inr (.inr 0)), .inl a1] h post := Or.inr ⟨Nat.le_of_ble_eq_true rfl, rfl, Nat.le_of_ble_eq_true rfl, H⟩
theorem ke_X3_alone {sL d : Nat} {h : mH} {post : mP} {a1 : Int32} (H : EX (Kd sL d) sL md_X3_alone post 0 [some (.inr (.inr (.inr 0))), some (.inl a1), none, none, none, none] [] h) : Kd sL (d + 1) 72 [.inr (.inr (.inr 0)), .inl a1] h post := Or.inr ⟨Nat.le_of_ble_eq_true rfl, rfl, Nat.le_of_ble_eq_true rfl, H⟩
theorem ke_X3_holders {sL d : Nat} {h : mH} {post : mP} {a1 : Int32} (H : EX (Kd sL d) sL md_X3_holders post 0 [some (.inr (.inr (.inr 0))), some (.inl a1), none, none] [] h) : Kd sL (d + 1) 73 [.inr (.inr (.inr 0)), .inl a1] h post := Or.inr ⟨Nat.le_of_ble_eq_true rfl, rfl, Nat.le_of_ble_eq_true rfl, H⟩
theorem ke_X3_best {sL d : Nat} {h : mH} {post : mP} {a1 : Int32} (H : EX (Kd sL d) sL md_X3_best post 0 [some (.inr (.inr (.inr 0))), some (.inl a1), none, none, none, none] [] h) : Kd sL (d + 1) 74 [.inr (.inr (.inr 0)), .inl a1] h post := Or.inr ⟨Nat.le_of_ble_eq_true rfl, rfl, Nat.le_of_ble_eq_true rfl, H⟩
theorem ke_X3_twins {sL d : Nat} {h : mH} {post : mP}  (H : EX (Kd sL d) sL md_X3_twins post 0 [some (.inr (.inr (.inr 0))), none, none, none, none, none] [] h) : Kd sL (d + 1) 75 [.inr (.inr (.inr 0))] h post := Or.inr ⟨Nat.le_of_ble_eq_true rfl, rfl, Nat.le_of_ble_eq_true rfl, H⟩
theorem ke_X3_cost {sL d : Nat} {h : mH} {post : mP} {a1 : Int32} {a2 : Int32} (H : EX (Kd sL d) sL md_X3_cost post 0 [some (.inr (.inr (.inr 0))), some (.inl a1), some (.inl a2)] [] h) : Kd sL (d + 1) 76 [.inr (.inr (.inr 0)), .inl a1, .inl a2] h post := Or.inr ⟨Nat.le_of_ble_eq_true rfl, rfl, Nat.le_of_ble_eq_true rfl, H⟩
theorem ke_X3_torn {sL d : Nat} {h : mH} {post : mP} {a1 : Int32} {a2 : Int32} {a3 : Int32} {a4 : Int32} (H : EX (Kd sL d) sL md_X3_torn post 0 [some (.inr (.inr (.inr 0))), some (.inl a1), some (.inl a2), some (.inl a3), some (.inl a4), none] [] h) : Kd sL (d + 1) 77 [.inr (.inr (.inr 0)), .inl a1, .inl a2, .inl a3, .inl a4] h post := Or.inr ⟨Nat.le_of_ble_eq_true rfl, rfl, Nat.le_of_ble_eq_true rfl, H⟩
theorem ke_X3_leaks {sL d : Nat} {h : mH} {post : mP} {a1 : Int32} {a2 : Int32} {a3 : Int32} (H : EX (Kd sL d) sL md_X3_leaks post 0 [some (.inr (.inr (.inr 0))), some (.inl a1), some (.inl a2), some (.inl a3), none] [] h) : Kd sL (d + 1) 78 [.inr (.inr (.inr 0)), .inl a1, .inl a2, .inl a3] h post := Or.inr ⟨Nat.le_of_ble_eq_true rfl, rfl, Nat.le_of_ble_eq_true rfl, H⟩
theorem ke_X3_behind {sL d : Nat} {h : mH} {post : mP} {a1 : Int32} {a2 : Int32} {a3 : Int32} (H : EX (Kd sL d) sL md_X3_behind post 0 [some (.inr (.inr (.inr 0))), some (.inl a1), some (.inl a2), some (.inl a3), none, none] [] h) : Kd sL (d + 1) 79 [.inr (.inr (.inr 0)), .inl a1, .inl a2, .inl a3] h post := Or.inr ⟨Nat.le_of_ble_eq_true rfl, rfl, Nat.le_of_ble_eq_true rfl, H⟩
theorem ke_X3_room {sL d : Nat} {h : mH} {post : mP} {a1 : Int32} (H : EX (Kd sL d) sL md_X3_room post 0 [some (.inr (.inr (.inr 0))), some (.inl a1)] [] h) : Kd sL (d + 1) 80 [.inr (.inr (.inr 0)), .inl a1] h post := Or.inr ⟨Nat.le_of_ble_eq_true rfl, rfl, Nat.le_of_ble_eq_true rfl, H⟩
theorem ke_X3_feed {sL d : Nat} {h : mH} {post : mP} {a1 : Int64} {a2 : Int32} (H : EX (Kd sL d) sL md_X3_feed post 0 [some (.inr (.inr (.inr 0))), some (.inr (.inl a1)), none, some (.inl a2), none] [] h) : Kd sL (d + 1) 81 [.inr (.inr (.inr 0)), .inr (.inl a1), .inl a2] h post := Or.inr ⟨Nat.le_of_ble_eq_true rfl, rfl, Nat.le_of_ble_eq_true rfl, H⟩
theorem ke_X3_wipe {sL d : Nat} {h : mH} {post : mP}  (H : EX (Kd sL d) sL md_X3_wipe post 0 [some (.inr (.inr (.inr 0))), none] [] h) : Kd sL (d + 1) 82 [.inr (.inr (.inr 0))] h post := Or.inr ⟨Nat.le_of_ble_eq_true rfl, rfl, Nat.le_of_ble_eq_true rfl, H⟩
theorem ke_X3_run {sL d : Nat} {h : mH} {post : mP}  (H : EX (Kd sL d) sL md_X3_run post 0 [some (.inr (.inr (.inr 0))), none, none, none, none] [] h) : Kd sL (d + 1) 83 [.inr (.inr (.inr 0))] h post := Or.inr ⟨Nat.le_of_ble_eq_true rfl, rfl, Nat.le_of_ble_eq_true rfl, H⟩
theorem ke_X3_keep {sL d : Nat} {h : mH} {post : mP}  (H : EX (Kd sL d) sL md_X3_keep post 0 [some (.inr (.inr (.inr 0)))] [] h) : Kd sL (d + 1) 84 [.inr (.inr (.inr 0))] h post := Or.inr ⟨Nat.le_of_ble_eq_true rfl, rfl, Nat.le_of_ble_eq_true rfl, H⟩
theorem ke_X3_again {sL d : Nat} {h : mH} {post : mP}  (H : EX (Kd sL d) sL md_X3_again post 0 [some (.inr (.inr (.inr 0)))] [] h) : Kd sL (d + 1) 85 [.inr (.inr (.inr 0))] h post := Or.inr ⟨Nat.le_of_ble_eq_true rfl, rfl, Nat.le_of_ble_eq_true rfl, H⟩
theorem ke_X3_count {sL d : Nat} {h : mH} {post : mP} {a1 : Int32} (H : EX (Kd sL d) sL md_X3_count post 0 [some (.inr (.inr (.inr 0))), some (.inl a1)] [] h) : Kd sL (d + 1) 86 [.inr (.inr (.inr 0)), .inl a1] h post := Or.inr ⟨Nat.le_of_ble_eq_true rfl, rfl, Nat.le_of_ble_eq_true rfl, H⟩
theorem ke_X3_refused {sL d : Nat} {h : mH} {post : mP} {a1 : Int32} (H : EX (Kd sL d) sL md_X3_refused post 0 [some (.inr (.inr (.inr 0))), some (.inl a1)] [] h) : Kd sL (d + 1) 87 [.inr (.inr (.inr 0)), .inl a1] h post := Or.inr ⟨Nat.le_of_ble_eq_true rfl, rfl, Nat.le_of_ble_eq_true rfl, H⟩
theorem ke_X3_refuse {sL d : Nat} {h : mH} {post : mP} {a1 : Int32} (H : EX (Kd sL d) sL md_X3_refuse post 0 [some (.inr (.inr (.inr 0))), some (.inl a1), none] [] h) : Kd sL (d + 1) 88 [.inr (.inr (.inr 0)), .inl a1] h post := Or.inr ⟨Nat.le_of_ble_eq_true rfl, rfl, Nat.le_of_ble_eq_true rfl, H⟩
theorem ke_X3_foresee {sL d : Nat} {h : mH} {post : mP} {a1 : Int32} {a2 : Int32} {a3 : Int32} {a4 : Int32} (H : EX (Kd sL d) sL md_X3_foresee post 0 [some (.inr (.inr (.inr 0))), some (.inl a1), some (.inl a2), some (.inl a3), some (.inl a4)] [] h) : Kd sL (d + 1) 89 [.inr (.inr (.inr 0)), .inl a1, .inl a2, .inl a3, .inl a4] h post := Or.inr ⟨Nat.le_of_ble_eq_true rfl, rfl, Nat.le_of_ble_eq_true rfl, H⟩
theorem ke_X3_settle {sL d : Nat} {h : mH} {post : mP} {a1 : Int32} (H : EX (Kd sL d) sL md_X3_settle post 0 [some (.inr (.inr (.inr 0))), some (.inl a1)] [] h) : Kd sL (d + 1) 90 [.inr (.inr (.inr 0)), .inl a1] h post := Or.inr ⟨Nat.le_of_ble_eq_true rfl, rfl, Nat.le_of_ble_eq_true rfl, H⟩
theorem ke_X3_fits {sL d : Nat} {h : mH} {post : mP} {a1 : Int32} {a2 : Int32} {a3 : Int32} {a4 : Int32} (H : EX (Kd sL d) sL md_X3_fits post 0 [some (.inr (.inr (.inr 0))), some (.inl a1), some (.inl a2), some (.inl a3), some (.inl a4)] [] h) : Kd sL (d + 1) 91 [.inr (.inr (.inr 0)), .inl a1, .inl a2, .inl a3, .inl a4] h post := Or.inr ⟨Nat.le_of_ble_eq_true rfl, rfl, Nat.le_of_ble_eq_true rfl, H⟩
theorem ke_X3_isHindered {sL d : Nat} {h : mH} {post : mP} {a1 : Int32} {a2 : Int32} (H : EX (Kd sL d) sL md_X3_isHindered post 0 [some (.inr (.inr (.inr 0))), some (.inl a1), some (.inl a2)] [] h) : Kd sL (d + 1) 92 [.inr (.inr (.inr 0)), .inl a1, .inl a2] h post := Or.inr ⟨Nat.le_of_ble_eq_true rfl, rfl, Nat.le_of_ble_eq_true rfl, H⟩
theorem ke_X3_rewritingCost {sL d : Nat} {h : mH} {post : mP} {a1 : Int32} (H : EX (Kd sL d) sL md_X3_rewritingCost post 0 [some (.inr (.inr (.inr 0))), some (.inl a1)] [] h) : Kd sL (d + 1) 93 [.inr (.inr (.inr 0)), .inl a1] h post := Or.inr ⟨Nat.le_of_ble_eq_true rfl, rfl, Nat.le_of_ble_eq_true rfl, H⟩
theorem ke_X3_freedByDrop {sL d : Nat} {h : mH} {post : mP} {a1 : Int32} (H : EX (Kd sL d) sL md_X3_freedByDrop post 0 [some (.inr (.inr (.inr 0))), some (.inl a1)] [] h) : Kd sL (d + 1) 94 [.inr (.inr (.inr 0)), .inl a1] h post := Or.inr ⟨Nat.le_of_ble_eq_true rfl, rfl, Nat.le_of_ble_eq_true rfl, H⟩
theorem ke_X3_isTornBehind {sL d : Nat} {h : mH} {post : mP} {a1 : Int32} (H : EX (Kd sL d) sL md_X3_isTornBehind post 0 [some (.inl a1)] [] h) : Kd sL (d + 1) 95 [.inl a1] h post := Or.inr ⟨Nat.le_of_ble_eq_true rfl, trivial, Nat.le_of_ble_eq_true rfl, H⟩
theorem ke_X3_isPlace {sL d : Nat} {h : mH} {post : mP} {a1 : Int32} (H : EX (Kd sL d) sL md_X3_isPlace post 0 [some (.inl a1)] [] h) : Kd sL (d + 1) 96 [.inl a1] h post := Or.inr ⟨Nat.le_of_ble_eq_true rfl, trivial, Nat.le_of_ble_eq_true rfl, H⟩
theorem ke_X3_isCluster {sL d : Nat} {h : mH} {post : mP} {a1 : Int32} (H : EX (Kd sL d) sL md_X3_isCluster post 0 [some (.inl a1)] [] h) : Kd sL (d + 1) 97 [.inl a1] h post := Or.inr ⟨Nat.le_of_ble_eq_true rfl, trivial, Nat.le_of_ble_eq_true rfl, H⟩
theorem ke_X3_isIn {sL d : Nat} {h : mH} {post : mP} {a1 : Int64} {a2 : Int32} (H : EX (Kd sL d) sL md_X3_isIn post 0 [some (.inr (.inl a1)), none, some (.inl a2)] [] h) : Kd sL (d + 1) 98 [.inr (.inl a1), .inl a2] h post := Or.inr ⟨Nat.le_of_ble_eq_true rfl, trivial, Nat.le_of_ble_eq_true rfl, H⟩
theorem ke_X3_holderOf {sL d : Nat} {h : mH} {post : mP} {a1 : Int32} (H : EX (Kd sL d) sL md_X3_holderOf post 0 [some (.inl a1)] [] h) : Kd sL (d + 1) 99 [.inl a1] h post := Or.inr ⟨Nat.le_of_ble_eq_true rfl, trivial, Nat.le_of_ble_eq_true rfl, H⟩
theorem ke_X4_in {sL d : Nat} {h : mH} {post : mP} {a1 : Int32} {a2 : Int32} {a3 : Int32} (H : EX (Kd sL d) sL md_X4_in post 0 [some (.inl a1), some (.inl a2), some (.inl a3)] [] h) : Kd sL (d + 1) 100 [.inl a1, .inl a2, .inl a3] h post := Or.inr ⟨Nat.le_of_ble_eq_true rfl, trivial, Nat.le_of_ble_eq_true rfl, H⟩
theorem ke_X4_refuse {sL d : Nat} {h : mH} {post : mP} {a1 : Int32} (H : EX (Kd sL d) sL md_X4_refuse post 0 [some (.inr (.inr (.inr 7))), some (.inl a1)] [] h) : Kd sL (d + 1) 101 [.inr (.inr (.inr 7)), .inl a1] h post := Or.inr ⟨Nat.le_of_ble_eq_true rfl, rfl, Nat.le_of_ble_eq_true rfl, H⟩
theorem ke_X4_copies {sL d : Nat} {h : mH} {post : mP} {a1 : mRef} {a2 : mRef} (H : EX (Kd sL d) sL md_X4_copies post 0 [some (.inr (.inr a1)), some (.inr (.inr a2)), none] [] h) : Kd sL (d + 1) 102 [.inr (.inr a1), .inr (.inr a2)] h post := Or.inr ⟨Nat.le_of_ble_eq_true rfl, trivial, Nat.le_of_ble_eq_true rfl, H⟩
theorem ke_X4_isLayer {sL d : Nat} {h : mH} {post : mP} {a1 : Int32} (H : EX (Kd sL d) sL md_X4_isLayer post 0 [some (.inr (.inr (.inr 7))), some (.inl a1)] [] h) : Kd sL (d + 1) 103 [.inr (.inr (.inr 7)), .inl a1] h post := Or.inr ⟨Nat.le_of_ble_eq_true rfl, rfl, Nat.le_of_ble_eq_true rfl, H⟩
theorem ke_X4_isSnap {sL d : Nat} {h : mH} {post : mP} {a1 : Int32} (H : EX (Kd sL d) sL md_X4_isSnap post 0 [some (.inr (.inr (.inr 7))), some (.inl a1)] [] h) : Kd sL (d + 1) 104 [.inr (.inr (.inr 7)), .inl a1] h post := Or.inr ⟨Nat.le_of_ble_eq_true rfl, rfl, Nat.le_of_ble_eq_true rfl, H⟩
theorem ke_X4_isPlace {sL d : Nat} {h : mH} {post : mP} {a1 : Int32} (H : EX (Kd sL d) sL md_X4_isPlace post 0 [some (.inl a1)] [] h) : Kd sL (d + 1) 105 [.inl a1] h post := Or.inr ⟨Nat.le_of_ble_eq_true rfl, trivial, Nat.le_of_ble_eq_true rfl, H⟩
theorem ke_X4_isBlock {sL d : Nat} {h : mH} {post : mP} {a1 : Int32} (H : EX (Kd sL d) sL md_X4_isBlock post 0 [some (.inl a1)] [] h) : Kd sL (d + 1) 106 [.inl a1] h post := Or.inr ⟨Nat.le_of_ble_eq_true rfl, trivial, Nat.le_of_ble_eq_true rfl, H⟩
theorem ke_X4_isCluster {sL d : Nat} {h : mH} {post : mP} {a1 : Int32} (H : EX (Kd sL d) sL md_X4_isCluster post 0 [some (.inl a1)] [] h) : Kd sL (d + 1) 107 [.inl a1] h post := Or.inr ⟨Nat.le_of_ble_eq_true rfl, trivial, Nat.le_of_ble_eq_true rfl, H⟩
theorem ke_X4_dir {sL d : Nat} {h : mH} {post : mP} {a1 : Int32} {a2 : Int32} (H : EX (Kd sL d) sL md_X4_dir post 0 [some (.inl a1), some (.inl a2)] [] h) : Kd sL (d + 1) 108 [.inl a1, .inl a2] h post := Or.inr ⟨Nat.le_of_ble_eq_true rfl, trivial, Nat.le_of_ble_eq_true rfl, H⟩
theorem ke_X4_dataOf {sL d : Nat} {h : mH} {post : mP} {a1 : Int32} {a2 : Int32} (H : EX (Kd sL d) sL md_X4_dataOf post 0 [some (.inr (.inr (.inr 7))), some (.inl a1), some (.inl a2), none] [] h) : Kd sL (d + 1) 109 [.inr (.inr (.inr 7)), .inl a1, .inl a2] h post := Or.inr ⟨Nat.le_of_ble_eq_true rfl, rfl, Nat.le_of_ble_eq_true rfl, H⟩
theorem ke_X4_readBy {sL d : Nat} {h : mH} {post : mP} {a1 : Int32} {a2 : Int32} {a3 : Int32} (H : EX (Kd sL d) sL md_X4_readBy post 0 [some (.inr (.inr (.inr 7))), some (.inl a1), some (.inl a2), some (.inl a3), none, none] [] h) : Kd sL (d + 1) 110 [.inr (.inr (.inr 7)), .inl a1, .inl a2, .inl a3] h post := Or.inr ⟨Nat.le_of_ble_eq_true rfl, rfl, Nat.le_of_ble_eq_true rfl, H⟩
theorem ke_X4_readOf {sL d : Nat} {h : mH} {post : mP} {a1 : Int32} {a2 : Int32} (H : EX (Kd sL d) sL md_X4_readOf post 0 [some (.inr (.inr (.inr 7))), some (.inl a1), some (.inl a2)] [] h) : Kd sL (d + 1) 111 [.inr (.inr (.inr 7)), .inl a1, .inl a2] h post := Or.inr ⟨Nat.le_of_ble_eq_true rfl, rfl, Nat.le_of_ble_eq_true rfl, H⟩
theorem ke_X4_layer {sL d : Nat} {h : mH} {post : mP} {a1 : Int32} (H : EX (Kd sL d) sL md_X4_layer post 0 [some (.inr (.inr (.inr 7))), some (.inl a1)] [] h) : Kd sL (d + 1) 112 [.inr (.inr (.inr 7)), .inl a1] h post := Or.inr ⟨Nat.le_of_ble_eq_true rfl, rfl, Nat.le_of_ble_eq_true rfl, H⟩
theorem ke_X4_read {sL d : Nat} {h : mH} {post : mP} {a1 : Int32} {a2 : Int32} (H : EX (Kd sL d) sL md_X4_read post 0 [some (.inr (.inr (.inr 7))), some (.inl a1), some (.inl a2)] [] h) : Kd sL (d + 1) 113 [.inr (.inr (.inr 7)), .inl a1, .inl a2] h post := Or.inr ⟨Nat.le_of_ble_eq_true rfl, rfl, Nat.le_of_ble_eq_true rfl, H⟩
theorem ke_X4_readOld {sL d : Nat} {h : mH} {post : mP} {a1 : Int32} {a2 : Int32} (H : EX (Kd sL d) sL md_X4_readOld post 0 [some (.inr (.inr (.inr 7))), some (.inl a1), some (.inl a2)] [] h) : Kd sL (d + 1) 114 [.inr (.inr (.inr 7)), .inl a1, .inl a2] h post := Or.inr ⟨Nat.le_of_ble_eq_true rfl, rfl, Nat.le_of_ble_eq_true rfl, H⟩
theorem ke_X4_unlike {sL d : Nat} {h : mH} {post : mP} {a1 : Int32} {a2 : Int32} (H : EX (Kd sL d) sL md_X4_unlike post 0 [some (.inr (.inr (.inr 7))), some (.inl a1), some (.inl a2), none] [] h) : Kd sL (d + 1) 115 [.inr (.inr (.inr 7)), .inl a1, .inl a2] h post := Or.inr ⟨Nat.le_of_ble_eq_true rfl, rfl, Nat.le_of_ble_eq_true rfl, H⟩
theorem ke_X4_sum {sL d : Nat} {h : mH} {post : mP} {a1 : Int32} (H : EX (Kd sL d) sL md_X4_sum post 0 [some (.inr (.inr (.inr 7))), some (.inl a1), none, none] [] h) : Kd sL (d + 1) 116 [.inr (.inr (.inr 7)), .inl a1] h post := Or.inr ⟨Nat.le_of_ble_eq_true rfl, rfl, Nat.le_of_ble_eq_true rfl, H⟩
theorem ke_X4_standsOn {sL d : Nat} {h : mH} {post : mP} {a1 : Int32} {a2 : Int32} (H : EX (Kd sL d) sL md_X4_standsOn post 0 [some (.inr (.inr (.inr 7))), some (.inl a1), some (.inl a2), none] [] h) : Kd sL (d + 1) 117 [.inr (.inr (.inr 7)), .inl a1, .inl a2] h post := Or.inr ⟨Nat.le_of_ble_eq_true rfl, rfl, Nat.le_of_ble_eq_true rfl, H⟩
theorem ke_X4_isNamedBy {sL d : Nat} {h : mH} {post : mP} {a1 : Int32} (H : EX (Kd sL d) sL md_X4_isNamedBy post 0 [some (.inr (.inr (.inr 7))), some (.inl a1)] [] h) : Kd sL (d + 1) 118 [.inr (.inr (.inr 7)), .inl a1] h post := Or.inr ⟨Nat.le_of_ble_eq_true rfl, rfl, Nat.le_of_ble_eq_true rfl, H⟩
theorem ke_X4_reckons {sL d : Nat} {h : mH} {post : mP}  (H : EX (Kd sL d) sL md_X4_reckons post 0 [some (.inr (.inr (.inr 7))), none, none] [] h) : Kd sL (d + 1) 119 [.inr (.inr (.inr 7))] h post := Or.inr ⟨Nat.le_of_ble_eq_true rfl, rfl, Nat.le_of_ble_eq_true rfl, H⟩
theorem ke_X4_isTable {sL d : Nat} {h : mH} {post : mP} {a1 : Int32} (H : EX (Kd sL d) sL md_X4_isTable post 0 [some (.inr (.inr (.inr 7))), some (.inl a1), none, none, none] [] h) : Kd sL (d + 1) 120 [.inr (.inr (.inr 7)), .inl a1] h post := Or.inr ⟨Nat.le_of_ble_eq_true rfl, rfl, Nat.le_of_ble_eq_true rfl, H⟩
theorem ke_X4_hasLack {sL d : Nat} {h : mH} {post : mP}  (H : EX (Kd sL d) sL md_X4_hasLack post 0 [some (.inr (.inr (.inr 7))), none, none] [] h) : Kd sL (d + 1) 121 [.inr (.inr (.inr 7))] h post := Or.inr ⟨Nat.le_of_ble_eq_true rfl, rfl, Nat.le_of_ble_eq_true rfl, H⟩
theorem ke_X4_may {sL d : Nat} {h : mH} {post : mP}  (H : EX (Kd sL d) sL md_X4_may post 0 [some (.inr (.inr (.inr 7)))] [] h) : Kd sL (d + 1) 122 [.inr (.inr (.inr 7))] h post := Or.inr ⟨Nat.le_of_ble_eq_true rfl, rfl, Nat.le_of_ble_eq_true rfl, H⟩
theorem ke_X4_sets {sL d : Nat} {h : mH} {post : mP} {a1 : Int32} {a2 : Int32} (H : EX (Kd sL d) sL md_X4_sets post 0 [some (.inr (.inr (.inr 7))), some (.inl a1), some (.inl a2)] [] h) : Kd sL (d + 1) 123 [.inr (.inr (.inr 7)), .inl a1, .inl a2] h post := Or.inr ⟨Nat.le_of_ble_eq_true rfl, rfl, Nat.le_of_ble_eq_true rfl, H⟩
theorem ke_X4_counts {sL d : Nat} {h : mH} {post : mP} {a1 : Int32} {a2 : Int32} (H : EX (Kd sL d) sL md_X4_counts post 0 [some (.inr (.inr (.inr 7))), some (.inl a1), some (.inl a2)] [] h) : Kd sL (d + 1) 124 [.inr (.inr (.inr 7)), .inl a1, .inl a2] h post := Or.inr ⟨Nat.le_of_ble_eq_true rfl, rfl, Nat.le_of_ble_eq_true rfl, H⟩
theorem ke_X4_setsFour {sL d : Nat} {h : mH} {post : mP} {a1 : Int32} {a2 : Int32} {a3 : Int32} {a4 : Int32} {a5 : Int32} (H : EX (Kd sL d) sL md_X4_setsFour post 0 [some (.inr (.inr (.inr 7))), some (.inl a1), some (.inl a2), some (.inl a3), some (.inl a4), some (.inl a5)] [] h) : Kd sL (d + 1) 125 [.inr (.inr (.inr 7)), .inl a1, .inl a2, .inl a3, .inl a4, .inl a5] h post := Or.inr ⟨Nat.le_of_ble_eq_true rfl, rfl, Nat.le_of_ble_eq_true rfl, H⟩
theorem ke_X4_copiesCells {sL d : Nat} {h : mH} {post : mP} {a1 : Int32} {a2 : Int32} (H : EX (Kd sL d) sL md_X4_copiesCells post 0 [some (.inr (.inr (.inr 7))), some (.inl a1), some (.inl a2)] [] h) : Kd sL (d + 1) 126 [.inr (.inr (.inr 7)), .inl a1, .inl a2] h post := Or.inr ⟨Nat.le_of_ble_eq_true rfl, rfl, Nat.le_of_ble_eq_true rfl, H⟩
theorem ke_X4_anew {sL d : Nat} {h : mH} {post : mP}  (H : EX (Kd sL d) sL md_X4_anew post 0 [some (.inr (.inr (.inr 7))), none] [] h) : Kd sL (d + 1) 127 [.inr (.inr (.inr 7))] h post := Or.inr ⟨Nat.le_of_ble_eq_true rfl, rfl, Nat.le_of_ble_eq_true rfl, H⟩
theorem ke_X4_owns {sL d : Nat} {h : mH} {post : mP} {a1 : Int32} {a2 : Int32} (H : EX (Kd sL d) sL md_X4_owns post 0 [some (.inr (.inr (.inr 7))), some (.inl a1), some (.inl a2), none, none, none, none] [] h) : Kd sL (d + 1) 128 [.inr (.inr (.inr 7)), .inl a1, .inl a2] h post := Or.inr ⟨Nat.le_of_ble_eq_true rfl, rfl, Nat.le_of_ble_eq_true rfl, H⟩
theorem ke_X4_releases {sL d : Nat} {h : mH} {post : mP} {a1 : Int32} (H : EX (Kd sL d) sL md_X4_releases post 0 [some (.inr (.inr (.inr 7))), some (.inl a1), none] [] h) : Kd sL (d + 1) 129 [.inr (.inr (.inr 7)), .inl a1] h post := Or.inr ⟨Nat.le_of_ble_eq_true rfl, rfl, Nat.le_of_ble_eq_true rfl, H⟩
theorem ke_X4_writes {sL d : Nat} {h : mH} {post : mP} {a1 : Int32} {a2 : Int32} {a3 : Int32} (H : EX (Kd sL d) sL md_X4_writes post 0 [some (.inr (.inr (.inr 7))), some (.inl a1), some (.inl a2), some (.inl a3), none, none, none, none] [] h) : Kd sL (d + 1) 130 [.inr (.inr (.inr 7)), .inl a1, .inl a2, .inl a3] h post := Or.inr ⟨Nat.le_of_ble_eq_true rfl, rfl, Nat.le_of_ble_eq_true rfl, H⟩
theorem ke_X4_remembers {sL d : Nat} {h : mH} {post : mP} {a1 : Int32} (H : EX (Kd sL d) sL md_X4_remembers post 0 [some (.inr (.inr (.inr 7))), some (.inl a1), none] [] h) : Kd sL (d + 1) 131 [.inr (.inr (.inr 7)), .inl a1] h post := Or.inr ⟨Nat.le_of_ble_eq_true rfl, rfl, Nat.le_of_ble_eq_true rfl, H⟩
theorem ke_X4_releasesHad {sL d : Nat} {h : mH} {post : mP}  (H : EX (Kd sL d) sL md_X4_releasesHad post 0 [some (.inr (.inr (.inr 7))), none] [] h) : Kd sL (d + 1) 132 [.inr (.inr (.inr 7))] h post := Or.inr ⟨Nat.le_of_ble_eq_true rfl, rfl, Nat.le_of_ble_eq_true rfl, H⟩
theorem ke_X4_countsTables {sL d : Nat} {h : mH} {post : mP} {a1 : Int32} (H : EX (Kd sL d) sL md_X4_countsTables post 0 [some (.inr (.inr (.inr 7))), some (.inl a1), none] [] h) : Kd sL (d + 1) 133 [.inr (.inr (.inr 7)), .inl a1] h post := Or.inr ⟨Nat.le_of_ble_eq_true rfl, rfl, Nat.le_of_ble_eq_true rfl, H⟩
theorem ke_X4_setsDirectory {sL d : Nat} {h : mH} {post : mP} {a1 : Int32} {a2 : Int32} (H : EX (Kd sL d) sL md_X4_setsDirectory post 0 [some (.inr (.inr (.inr 7))), some (.inl a1), some (.inl a2), none] [] h) : Kd sL (d + 1) 134 [.inr (.inr (.inr 7)), .inl a1, .inl a2] h post := Or.inr ⟨Nat.le_of_ble_eq_true rfl, rfl, Nat.le_of_ble_eq_true rfl, H⟩
theorem ke_X4_snaps {sL d : Nat} {h : mH} {post : mP} {a1 : Int32} {a2 : Int32} (H : EX (Kd sL d) sL md_X4_snaps post 0 [some (.inr (.inr (.inr 7))), some (.inl a1), some (.inl a2), none] [] h) : Kd sL (d + 1) 135 [.inr (.inr (.inr 7)), .inl a1, .inl a2] h post := Or.inr ⟨Nat.le_of_ble_eq_true rfl, rfl, Nat.le_of_ble_eq_true rfl, H⟩
theorem ke_X4_drops {sL d : Nat} {h : mH} {post : mP} {a1 : Int32} (H : EX (Kd sL d) sL md_X4_drops post 0 [some (.inr (.inr (.inr 7))), some (.inl a1)] [] h) : Kd sL (d + 1) 136 [.inr (.inr (.inr 7)), .inl a1] h post := Or.inr ⟨Nat.le_of_ble_eq_true rfl, rfl, Nat.le_of_ble_eq_true rfl, H⟩
theorem ke_X4_reverts {sL d : Nat} {h : mH} {post : mP} {a1 : Int32} (H : EX (Kd sL d) sL md_X4_reverts post 0 [some (.inr (.inr (.inr 7))), some (.inl a1), none] [] h) : Kd sL (d + 1) 137 [.inr (.inr (.inr 7)), .inl a1] h post := Or.inr ⟨Nat.le_of_ble_eq_true rfl, rfl, Nat.le_of_ble_eq_true rfl, H⟩
theorem ke_X4_givesUp {sL d : Nat} {h : mH} {post : mP} {a1 : Int32} {a2 : Int32} (H : EX (Kd sL d) sL md_X4_givesUp post 0 [some (.inr (.inr (.inr 7))), some (.inl a1), some (.inl a2), none] [] h) : Kd sL (d + 1) 138 [.inr (.inr (.inr 7)), .inl a1, .inl a2] h post := Or.inr ⟨Nat.le_of_ble_eq_true rfl, rfl, Nat.le_of_ble_eq_true rfl, H⟩
theorem ke_X4_merges {sL d : Nat} {h : mH} {post : mP} {a1 : Int32} (H : EX (Kd sL d) sL md_X4_merges post 0 [some (.inr (.inr (.inr 7))), some (.inl a1), none] [] h) : Kd sL (d + 1) 139 [.inr (.inr (.inr 7)), .inl a1] h post := Or.inr ⟨Nat.le_of_ble_eq_true rfl, rfl, Nat.le_of_ble_eq_true rfl, H⟩
theorem ke_X4_isSame {sL d : Nat} {h : mH} {post : mP} {a1 : Int32} {a2 : Int32} {a3 : Int32} (H : EX (Kd sL d) sL md_X4_isSame post 0 [some (.inr (.inr (.inr 7))), some (.inl a1), some (.inl a2), some (.inl a3), none, none] [] h) : Kd sL (d + 1) 140 [.inr (.inr (.inr 7)), .inl a1, .inl a2, .inl a3] h post := Or.inr ⟨Nat.le_of_ble_eq_true rfl, rfl, Nat.le_of_ble_eq_true rfl, H⟩
theorem ke_X4_moves {sL d : Nat} {h : mH} {post : mP} {a1 : Int32} {a2 : Int32} {a3 : Int32} (H : EX (Kd sL d) sL md_X4_moves post 0 [some (.inr (.inr (.inr 7))), some (.inl a1), some (.inl a2), some (.inl a3), none, none] [] h) : Kd sL (d + 1) 141 [.inr (.inr (.inr 7)), .inl a1, .inl a2, .inl a3] h post := Or.inr ⟨Nat.le_of_ble_eq_true rfl, rfl, Nat.le_of_ble_eq_true rfl, H⟩
theorem ke_X4_areAlike {sL d : Nat} {h : mH} {post : mP} {a1 : Int32} {a2 : Int32} (H : EX (Kd sL d) sL md_X4_areAlike post 0 [some (.inr (.inr (.inr 7))), some (.inl a1), some (.inl a2), none, none] [] h) : Kd sL (d + 1) 142 [.inr (.inr (.inr 7)), .inl a1, .inl a2] h post := Or.inr ⟨Nat.le_of_ble_eq_true rfl, rfl, Nat.le_of_ble_eq_true rfl, H⟩
theorem ke_X4_likeOf {sL d : Nat} {h : mH} {post : mP} {a1 : Int32} (H : EX (Kd sL d) sL md_X4_likeOf post 0 [some (.inr (.inr (.inr 7))), some (.inl a1), none] [] h) : Kd sL (d + 1) 143 [.inr (.inr (.inr 7)), .inl a1] h post := Or.inr ⟨Nat.le_of_ble_eq_true rfl, rfl, Nat.le_of_ble_eq_true rfl, H⟩
theorem ke_X4_folds {sL d : Nat} {h : mH} {post : mP}  (H : EX (Kd sL d) sL md_X4_folds post 0 [some (.inr (.inr (.inr 7))), none, none, none, none] [] h) : Kd sL (d + 1) 144 [.inr (.inr (.inr 7))] h post := Or.inr ⟨Nat.le_of_ble_eq_true rfl, rfl, Nat.le_of_ble_eq_true rfl, H⟩
theorem ke_X4_performs {sL d : Nat} {h : mH} {post : mP} {a1 : Int32} {a2 : Int32} {a3 : Int32} {a4 : Int32} {a5 : Int32} (H : EX (Kd sL d) sL md_X4_performs post 0 [some (.inr (.inr (.inr 7))), some (.inl a1), some (.inl a2), some (.inl a3), some (.inl a4), some (.inl a5)] [] h) : Kd sL (d + 1) 145 [.inr (.inr (.inr 7)), .inl a1, .inl a2, .inl a3, .inl a4, .inl a5] h post := Or.inr ⟨Nat.le_of_ble_eq_true rfl, rfl, Nat.le_of_ble_eq_true rfl, H⟩
theorem ke_X4_isTooMuch {sL d : Nat} {h : mH} {post : mP} {a1 : Int32} {a2 : Int32} {a3 : Int32} {a4 : Int32} (H : EX (Kd sL d) sL md_X4_isTooMuch post 0 [some (.inr (.inr (.inr 7))), some (.inl a1), some (.inl a2), some (.inl a3), some (.inl a4)] [] h) : Kd sL (d + 1) 146 [.inr (.inr (.inr 7)), .inl a1, .inl a2, .inl a3, .inl a4] h post := Or.inr ⟨Nat.le_of_ble_eq_true rfl, rfl, Nat.le_of_ble_eq_true rfl, H⟩
theorem ke_X4_deed {sL d : Nat} {h : mH} {post : mP} {a1 : Int32} {a2 : Int32} {a3 : Int32} {a4 : Int32} (H : EX (Kd sL d) sL md_X4_deed post 0 [some (.inr (.inr (.inr 7))), some (.inl a1), some (.inl a2), some (.inl a3), some (.inl a4)] [] h) : Kd sL (d + 1) 147 [.inr (.inr (.inr 7)), .inl a1, .inl a2, .inl a3, .inl a4] h post := Or.inr ⟨Nat.le_of_ble_eq_true rfl, rfl, Nat.le_of_ble_eq_true rfl, H⟩
theorem ke_X4_isByte {sL d : Nat} {h : mH} {post : mP} {a1 : Int32} (H : EX (Kd sL d) sL md_X4_isByte post 0 [some (.inl a1)] [] h) : Kd sL (d + 1) 148 [.inl a1] h post := Or.inr ⟨Nat.le_of_ble_eq_true rfl, trivial, Nat.le_of_ble_eq_true rfl, H⟩
theorem ke_X4_write {sL d : Nat} {h : mH} {post : mP} {a1 : Int32} {a2 : Int32} {a3 : Int32} (H : EX (Kd sL d) sL md_X4_write post 0 [some (.inr (.inr (.inr 7))), some (.inl a1), some (.inl a2), some (.inl a3)] [] h) : Kd sL (d + 1) 149 [.inr (.inr (.inr 7)), .inl a1, .inl a2, .inl a3] h post := Or.inr ⟨Nat.le_of_ble_eq_true rfl, rfl, Nat.le_of_ble_eq_true rfl, H⟩
theorem ke_X4_snap {sL d : Nat} {h : mH} {post : mP} {a1 : Int32} (H : EX (Kd sL d) sL md_X4_snap post 0 [some (.inr (.inr (.inr 7))), some (.inl a1), none] [] h) : Kd sL (d + 1) 150 [.inr (.inr (.inr 7)), .inl a1] h post := Or.inr ⟨Nat.le_of_ble_eq_true rfl, rfl, Nat.le_of_ble_eq_true rfl, H⟩
theorem ke_X4_drop {sL d : Nat} {h : mH} {post : mP} {a1 : Int32} (H : EX (Kd sL d) sL md_X4_drop post 0 [some (.inr (.inr (.inr 7))), some (.inl a1)] [] h) : Kd sL (d + 1) 151 [.inr (.inr (.inr 7)), .inl a1] h post := Or.inr ⟨Nat.le_of_ble_eq_true rfl, rfl, Nat.le_of_ble_eq_true rfl, H⟩
theorem ke_X4_revert {sL d : Nat} {h : mH} {post : mP} {a1 : Int32} (H : EX (Kd sL d) sL md_X4_revert post 0 [some (.inr (.inr (.inr 7))), some (.inl a1)] [] h) : Kd sL (d + 1) 152 [.inr (.inr (.inr 7)), .inl a1] h post := Or.inr ⟨Nat.le_of_ble_eq_true rfl, rfl, Nat.le_of_ble_eq_true rfl, H⟩
theorem ke_X4_giveUp {sL d : Nat} {h : mH} {post : mP} {a1 : Int32} {a2 : Int32} (H : EX (Kd sL d) sL md_X4_giveUp post 0 [some (.inr (.inr (.inr 7))), some (.inl a1), some (.inl a2)] [] h) : Kd sL (d + 1) 153 [.inr (.inr (.inr 7)), .inl a1, .inl a2] h post := Or.inr ⟨Nat.le_of_ble_eq_true rfl, rfl, Nat.le_of_ble_eq_true rfl, H⟩
theorem ke_X4_merge {sL d : Nat} {h : mH} {post : mP} {a1 : Int32} (H : EX (Kd sL d) sL md_X4_merge post 0 [some (.inr (.inr (.inr 7))), some (.inl a1)] [] h) : Kd sL (d + 1) 154 [.inr (.inr (.inr 7)), .inl a1] h post := Or.inr ⟨Nat.le_of_ble_eq_true rfl, rfl, Nat.le_of_ble_eq_true rfl, H⟩
theorem ke_X4_move {sL d : Nat} {h : mH} {post : mP} {a1 : Int32} {a2 : Int32} {a3 : Int32} (H : EX (Kd sL d) sL md_X4_move post 0 [some (.inr (.inr (.inr 7))), some (.inl a1), some (.inl a2), some (.inl a3)] [] h) : Kd sL (d + 1) 155 [.inr (.inr (.inr 7)), .inl a1, .inl a2, .inl a3] h post := Or.inr ⟨Nat.le_of_ble_eq_true rfl, rfl, Nat.le_of_ble_eq_true rfl, H⟩
theorem ke_X4_fold {sL d : Nat} {h : mH} {post : mP}  (H : EX (Kd sL d) sL md_X4_fold post 0 [some (.inr (.inr (.inr 7)))] [] h) : Kd sL (d + 1) 156 [.inr (.inr (.inr 7))] h post := Or.inr ⟨Nat.le_of_ble_eq_true rfl, rfl, Nat.le_of_ble_eq_true rfl, H⟩
theorem ke_X4_tear {sL d : Nat} {h : mH} {post : mP} {a1 : Int32} (H : EX (Kd sL d) sL md_X4_tear post 0 [some (.inr (.inr (.inr 7))), some (.inl a1), none] [] h) : Kd sL (d + 1) 157 [.inr (.inr (.inr 7)), .inl a1] h post := Or.inr ⟨Nat.le_of_ble_eq_true rfl, rfl, Nat.le_of_ble_eq_true rfl, H⟩
theorem ke_X4_cluster {sL d : Nat} {h : mH} {post : mP} {a1 : Int32} {a2 : Int32} (H : EX (Kd sL d) sL md_X4_cluster post 0 [some (.inr (.inr (.inr 7))), some (.inl a1), some (.inl a2)] [] h) : Kd sL (d + 1) 158 [.inr (.inr (.inr 7)), .inl a1, .inl a2] h post := Or.inr ⟨Nat.le_of_ble_eq_true rfl, rfl, Nat.le_of_ble_eq_true rfl, H⟩
theorem ke_X4_spoil {sL d : Nat} {h : mH} {post : mP} {a1 : Int32} {a2 : Int32} (H : EX (Kd sL d) sL md_X4_spoil post 0 [some (.inr (.inr (.inr 7))), some (.inl a1), some (.inl a2), none] [] h) : Kd sL (d + 1) 159 [.inr (.inr (.inr 7)), .inl a1, .inl a2] h post := Or.inr ⟨Nat.le_of_ble_eq_true rfl, rfl, Nat.le_of_ble_eq_true rfl, H⟩
theorem ke_X4_all {sL d : Nat} {h : mH} {post : mP} {a1 : Int32} (H : EX (Kd sL d) sL md_X4_all post 0 [some (.inr (.inr (.inr 7))), some (.inl a1), none, none, none, none, none] [] h) : Kd sL (d + 1) 160 [.inr (.inr (.inr 7)), .inl a1] h post := Or.inr ⟨Nat.le_of_ble_eq_true rfl, rfl, Nat.le_of_ble_eq_true rfl, H⟩
theorem ke_X4_repair {sL d : Nat} {h : mH} {post : mP}  (H : EX (Kd sL d) sL md_X4_repair post 0 [some (.inr (.inr (.inr 7))), none, none] [] h) : Kd sL (d + 1) 161 [.inr (.inr (.inr 7))] h post := Or.inr ⟨Nat.le_of_ble_eq_true rfl, rfl, Nat.le_of_ble_eq_true rfl, H⟩
theorem ke_X4_directoryOf {sL d : Nat} {h : mH} {post : mP} {a1 : Int32} (H : EX (Kd sL d) sL md_X4_directoryOf post 0 [some (.inr (.inr (.inr 7))), some (.inl a1)] [] h) : Kd sL (d + 1) 162 [.inr (.inr (.inr 7)), .inl a1] h post := Or.inr ⟨Nat.le_of_ble_eq_true rfl, rfl, Nat.le_of_ble_eq_true rfl, H⟩
theorem ke_X4_heldBy {sL d : Nat} {h : mH} {post : mP} {a1 : Int32} (H : EX (Kd sL d) sL md_X4_heldBy post 0 [some (.inr (.inr (.inr 7))), some (.inl a1), none, none, none, none, none] [] h) : Kd sL (d + 1) 163 [.inr (.inr (.inr 7)), .inl a1] h post := Or.inr ⟨Nat.le_of_ble_eq_true rfl, rfl, Nat.le_of_ble_eq_true rfl, H⟩
theorem ke_X4_holds {sL d : Nat} {h : mH} {post : mP} {a1 : Int32} (H : EX (Kd sL d) sL md_X4_holds post 0 [some (.inr (.inr (.inr 7))), some (.inl a1)] [] h) : Kd sL (d + 1) 164 [.inr (.inr (.inr 7)), .inl a1] h post := Or.inr ⟨Nat.le_of_ble_eq_true rfl, rfl, Nat.le_of_ble_eq_true rfl, H⟩
theorem ke_X4_alone {sL d : Nat} {h : mH} {post : mP} {a1 : Int32} (H : EX (Kd sL d) sL md_X4_alone post 0 [some (.inr (.inr (.inr 7))), some (.inl a1), none, none, none, none] [] h) : Kd sL (d + 1) 165 [.inr (.inr (.inr 7)), .inl a1] h post := Or.inr ⟨Nat.le_of_ble_eq_true rfl, rfl, Nat.le_of_ble_eq_true rfl, H⟩
theorem ke_X4_holders {sL d : Nat} {h : mH} {post : mP} {a1 : Int32} (H : EX (Kd sL d) sL md_X4_holders post 0 [some (.inr (.inr (.inr 7))), some (.inl a1), none, none] [] h) : Kd sL (d + 1) 166 [.inr (.inr (.inr 7)), .inl a1] h post := Or.inr ⟨Nat.le_of_ble_eq_true rfl, rfl, Nat.le_of_ble_eq_true rfl, H⟩
theorem ke_X4_free {sL d : Nat} {h : mH} {post : mP}  (H : EX (Kd sL d) sL md_X4_free post 0 [some (.inr (.inr (.inr 7))), none, none] [] h) : Kd sL (d + 1) 167 [.inr (.inr (.inr 7))] h post := Or.inr ⟨Nat.le_of_ble_eq_true rfl, rfl, Nat.le_of_ble_eq_true rfl, H⟩
theorem ke_X4_best {sL d : Nat} {h : mH} {post : mP} {a1 : Int32} (H : EX (Kd sL d) sL md_X4_best post 0 [some (.inr (.inr (.inr 7))), some (.inl a1), none, none, none, none, none] [] h) : Kd sL (d + 1) 168 [.inr (.inr (.inr 7)), .inl a1] h post := Or.inr ⟨Nat.le_of_ble_eq_true rfl, rfl, Nat.le_of_ble_eq_true rfl, H⟩
theorem ke_X4_twins {sL d : Nat} {h : mH} {post : mP}  (H : EX (Kd sL d) sL md_X4_twins post 0 [some (.inr (.inr (.inr 7))), none, none, none] [] h) : Kd sL (d + 1) 169 [.inr (.inr (.inr 7))] h post := Or.inr ⟨Nat.le_of_ble_eq_true rfl, rfl, Nat.le_of_ble_eq_true rfl, H⟩
theorem ke_X4_wrong {sL d : Nat} {h : mH} {post : mP} {a1 : Int32} {a2 : Int32} {a3 : Int32} (H : EX (Kd sL d) sL md_X4_wrong post 0 [some (.inr (.inr (.inr 7))), some (.inl a1), some (.inl a2), some (.inl a3)] [] h) : Kd sL (d + 1) 170 [.inr (.inr (.inr 7)), .inl a1, .inl a2, .inl a3] h post := Or.inr ⟨Nat.le_of_ble_eq_true rfl, rfl, Nat.le_of_ble_eq_true rfl, H⟩
theorem ke_X4_cost {sL d : Nat} {h : mH} {post : mP} {a1 : Int32} {a2 : Int32} (H : EX (Kd sL d) sL md_X4_cost post 0 [some (.inr (.inr (.inr 7))), some (.inl a1), some (.inl a2), none] [] h) : Kd sL (d + 1) 171 [.inr (.inr (.inr 7)), .inl a1, .inl a2] h post := Or.inr ⟨Nat.le_of_ble_eq_true rfl, rfl, Nat.le_of_ble_eq_true rfl, H⟩
theorem ke_X4_thought {sL d : Nat} {h : mH} {post : mP} {a1 : Int32} {a2 : Int32} {a3 : Int32} {a4 : Int32} {a5 : Int32} (H : EX (Kd sL d) sL md_X4_thought post 0 [some (.inr (.inr (.inr 7))), some (.inl a1), some (.inl a2), some (.inl a3), some (.inl a4), some (.inl a5), none, none, none] [] h) : Kd sL (d + 1) 172 [.inr (.inr (.inr 7)), .inl a1, .inl a2, .inl a3, .inl a4, .inl a5] h post := Or.inr ⟨Nat.le_of_ble_eq_true rfl, rfl, Nat.le_of_ble_eq_true rfl, H⟩
theorem ke_X4_torn {sL d : Nat} {h : mH} {post : mP} {a1 : Int32} {a2 : Int32} {a3 : Int32} {a4 : Int32} (H : EX (Kd sL d) sL md_X4_torn post 0 [some (.inr (.inr (.inr 7))), some (.inl a1), some (.inl a2), some (.inl a3), some (.inl a4), none] [] h) : Kd sL (d + 1) 173 [.inr (.inr (.inr 7)), .inl a1, .inl a2, .inl a3, .inl a4] h post := Or.inr ⟨Nat.le_of_ble_eq_true rfl, rfl, Nat.le_of_ble_eq_true rfl, H⟩
theorem ke_X4_leaks {sL d : Nat} {h : mH} {post : mP} {a1 : Int32} {a2 : Int32} {a3 : Int32} (H : EX (Kd sL d) sL md_X4_leaks post 0 [some (.inr (.inr (.inr 7))), some (.inl a1), some (.inl a2), some (.inl a3), none] [] h) : Kd sL (d + 1) 174 [.inr (.inr (.inr 7)), .inl a1, .inl a2, .inl a3] h post := Or.inr ⟨Nat.le_of_ble_eq_true rfl, rfl, Nat.le_of_ble_eq_true rfl, H⟩
theorem ke_X4_behind {sL d : Nat} {h : mH} {post : mP} {a1 : Int32} {a2 : Int32} {a3 : Int32} (H : EX (Kd sL d) sL md_X4_behind post 0 [some (.inr (.inr (.inr 7))), some (.inl a1), some (.inl a2), some (.inl a3), none, none] [] h) : Kd sL (d + 1) 175 [.inr (.inr (.inr 7)), .inl a1, .inl a2, .inl a3] h post := Or.inr ⟨Nat.le_of_ble_eq_true rfl, rfl, Nat.le_of_ble_eq_true rfl, H⟩
theorem ke_X4_through {sL d : Nat} {h : mH} {post : mP} {a1 : Int32} {a2 : Int32} (H : EX (Kd sL d) sL md_X4_through post 0 [some (.inr (.inr (.inr 7))), some (.inl a1), some (.inl a2), none, none] [] h) : Kd sL (d + 1) 176 [.inr (.inr (.inr 7)), .inl a1, .inl a2] h post := Or.inr ⟨Nat.le_of_ble_eq_true rfl, rfl, Nat.le_of_ble_eq_true rfl, H⟩
theorem ke_X4_room {sL d : Nat} {h : mH} {post : mP} {a1 : Int32} (H : EX (Kd sL d) sL md_X4_room post 0 [some (.inr (.inr (.inr 7))), some (.inl a1)] [] h) : Kd sL (d + 1) 177 [.inr (.inr (.inr 7)), .inl a1] h post := Or.inr ⟨Nat.le_of_ble_eq_true rfl, rfl, Nat.le_of_ble_eq_true rfl, H⟩
theorem ke_X4_of {sL d : Nat} {h : mH} {post : mP} {a1 : Int32} {a2 : Int32} (H : EX (Kd sL d) sL md_X4_of post 0 [some (.inr (.inr (.inr 7))), some (.inl a1), some (.inl a2), none, none] [] h) : Kd sL (d + 1) 178 [.inr (.inr (.inr 7)), .inl a1, .inl a2] h post := Or.inr ⟨Nat.le_of_ble_eq_true rfl, rfl, Nat.le_of_ble_eq_true rfl, H⟩
theorem ke_X4_feed {sL d : Nat} {h : mH} {post : mP} {a1 : Int64} {a2 : Int32} (H : EX (Kd sL d) sL md_X4_feed post 0 [some (.inr (.inr (.inr 7))), some (.inr (.inl a1)), none, some (.inl a2), none] [] h) : Kd sL (d + 1) 179 [.inr (.inr (.inr 7)), .inr (.inl a1), .inl a2] h post := Or.inr ⟨Nat.le_of_ble_eq_true rfl, rfl, Nat.le_of_ble_eq_true rfl, H⟩
theorem ke_X4_wipe {sL d : Nat} {h : mH} {post : mP}  (H : EX (Kd sL d) sL md_X4_wipe post 0 [some (.inr (.inr (.inr 7))), none] [] h) : Kd sL (d + 1) 180 [.inr (.inr (.inr 7))] h post := Or.inr ⟨Nat.le_of_ble_eq_true rfl, rfl, Nat.le_of_ble_eq_true rfl, H⟩
theorem ke_X4_numbersOf {sL d : Nat} {h : mH} {post : mP} {a1 : Int32} (H : EX (Kd sL d) sL md_X4_numbersOf post 0 [some (.inl a1)] [] h) : Kd sL (d + 1) 181 [.inl a1] h post := Or.inr ⟨Nat.le_of_ble_eq_true rfl, trivial, Nat.le_of_ble_eq_true rfl, H⟩
theorem ke_X4_isDigit {sL d : Nat} {h : mH} {post : mP} {a1 : Int32} (H : EX (Kd sL d) sL md_X4_isDigit post 0 [some (.inr (.inr (.inr 7))), some (.inl a1)] [] h) : Kd sL (d + 1) 182 [.inr (.inr (.inr 7)), .inl a1] h post := Or.inr ⟨Nat.le_of_ble_eq_true rfl, rfl, Nat.le_of_ble_eq_true rfl, H⟩
theorem ke_X4_isDeed {sL d : Nat} {h : mH} {post : mP}  (H : EX (Kd sL d) sL md_X4_isDeed post 0 [some (.inr (.inr (.inr 7))), none, none, none] [] h) : Kd sL (d + 1) 183 [.inr (.inr (.inr 7))] h post := Or.inr ⟨Nat.le_of_ble_eq_true rfl, rfl, Nat.le_of_ble_eq_true rfl, H⟩
theorem ke_X4_areDeeds {sL d : Nat} {h : mH} {post : mP}  (H : EX (Kd sL d) sL md_X4_areDeeds post 0 [some (.inr (.inr (.inr 7)))] [] h) : Kd sL (d + 1) 184 [.inr (.inr (.inr 7))] h post := Or.inr ⟨Nat.le_of_ble_eq_true rfl, rfl, Nat.le_of_ble_eq_true rfl, H⟩
theorem ke_X4_does {sL d : Nat} {h : mH} {post : mP} {a1 : Int32} (H : EX (Kd sL d) sL md_X4_does post 0 [some (.inr (.inr (.inr 7))), some (.inl a1), none, none] [] h) : Kd sL (d + 1) 185 [.inr (.inr (.inr 7)), .inl a1] h post := Or.inr ⟨Nat.le_of_ble_eq_true rfl, rfl, Nat.le_of_ble_eq_true rfl, H⟩
theorem ke_X4_run {sL d : Nat} {h : mH} {post : mP}  (H : EX (Kd sL d) sL md_X4_run post 0 [some (.inr (.inr (.inr 7))), none, none] [] h) : Kd sL (d + 1) 186 [.inr (.inr (.inr 7))] h post := Or.inr ⟨Nat.le_of_ble_eq_true rfl, rfl, Nat.le_of_ble_eq_true rfl, H⟩
theorem ke_X4_keep {sL d : Nat} {h : mH} {post : mP}  (H : EX (Kd sL d) sL md_X4_keep post 0 [some (.inr (.inr (.inr 7)))] [] h) : Kd sL (d + 1) 187 [.inr (.inr (.inr 7))] h post := Or.inr ⟨Nat.le_of_ble_eq_true rfl, rfl, Nat.le_of_ble_eq_true rfl, H⟩
theorem ke_X4_again {sL d : Nat} {h : mH} {post : mP}  (H : EX (Kd sL d) sL md_X4_again post 0 [some (.inr (.inr (.inr 7)))] [] h) : Kd sL (d + 1) 188 [.inr (.inr (.inr 7))] h post := Or.inr ⟨Nat.le_of_ble_eq_true rfl, rfl, Nat.le_of_ble_eq_true rfl, H⟩
theorem ke_X4_count {sL d : Nat} {h : mH} {post : mP} {a1 : Int32} (H : EX (Kd sL d) sL md_X4_count post 0 [some (.inr (.inr (.inr 7))), some (.inl a1), none, none] [] h) : Kd sL (d + 1) 189 [.inr (.inr (.inr 7)), .inl a1] h post := Or.inr ⟨Nat.le_of_ble_eq_true rfl, rfl, Nat.le_of_ble_eq_true rfl, H⟩
theorem ke_X4_refused {sL d : Nat} {h : mH} {post : mP} {a1 : Int32} (H : EX (Kd sL d) sL md_X4_refused post 0 [some (.inr (.inr (.inr 7))), some (.inl a1)] [] h) : Kd sL (d + 1) 190 [.inr (.inr (.inr 7)), .inl a1] h post := Or.inr ⟨Nat.le_of_ble_eq_true rfl, rfl, Nat.le_of_ble_eq_true rfl, H⟩
theorem ke_J13_bitCount {sL d : Nat} {h : mH} {post : mP} {a1 : Int64} (H : EX (Kd sL d) sL md_J13_bitCount post 0 [some (.inr (.inl a1)), none] [] h) : Kd sL (d + 1) 191 [.inr (.inl a1)] h post := Or.inr ⟨Nat.le_of_ble_eq_true rfl, trivial, Nat.le_of_ble_eq_true rfl, H⟩
theorem ke_J7_rangeCheck {sL d : Nat} {h : mH} {post : mP} {a1 : Int32} {a2 : Int32} {a3 : Int32} (H : EX (Kd sL d) sL md_J7_rangeCheck post 0 [some (.inl a1), some (.inl a2), some (.inl a3)] [] h) : Kd sL (d + 1) 192 [.inl a1, .inl a2, .inl a3] h post := Or.inr ⟨Nat.le_of_ble_eq_true rfl, trivial, Nat.le_of_ble_eq_true rfl, H⟩
theorem ke_J7_fill2 {sL d : Nat} {h : mH} {post : mP} {a1 : mRef} {a2 : Int32} (H : EX (Kd sL d) sL md_J7_fill2 post 0 [some (.inr (.inr a1)), some (.inl a2), none, none] [] h) : Kd sL (d + 1) 193 [.inr (.inr a1), .inl a2] h post := Or.inr ⟨Nat.le_of_ble_eq_true rfl, trivial, Nat.le_of_ble_eq_true rfl, H⟩
theorem ke_J7_fill4 {sL d : Nat} {h : mH} {post : mP} {a1 : mRef} {a2 : Int32} {a3 : Int32} {a4 : Int32} (H : EX (Kd sL d) sL md_J7_fill4 post 0 [some (.inr (.inr a1)), some (.inl a2), some (.inl a3), some (.inl a4), none] [] h) : Kd sL (d + 1) 194 [.inr (.inr a1), .inl a2, .inl a3, .inl a4] h post := Or.inr ⟨Nat.le_of_ble_eq_true rfl, trivial, Nat.le_of_ble_eq_true rfl, H⟩
