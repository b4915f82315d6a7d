/-! the methods by their numbers: printed by wip/whole/gen_meth.py -/
def mT_0 : List (MethodName × ByteArray × Nat × Option FieldType) := [(yX8_init, cX8_init, 1, none), (yX8_strikes, cX8_strikes, 2, (some .int)), (yX8_lifts, cX8_lifts, 2, (some .int)), (yX8_moves, cX8_moves, 3, (some .int)), (yX8_draws, cX8_draws, 3, (some .int)), (yX8_shifts, cX8_shifts, 2, (some .int)), (yX8_sets, cX8_sets, 4, (some .int)), (yX8_time, cX8_time, 2, (some .int)), (yX8_cost, cX8_cost, 1, (some .int)), (yX8_bar, cX8_bar, 3, (some .int)), (yX8_written, cX8_written, 3, (some .int)), (yX8_shown, cX8_shown, 3, (some .int)), (yX8_count, cX8_count, 2, (some .int)), (yX8_bent, cX8_bent, 2, (some .int)), (yX8_forced, cX8_forced, 2, (some .int)), (yX8_without, cX8_without, 2, (some .int)), (yX8_exact, cX8_exact, 2, (some .int)), (yX8_type, cX8_type, 2, (some .int)), (yX8_clear, cX8_clear, 2, (some .int)), (yX8_plays, cX8_plays, 2, (some .int)), (yX8_back, cX8_back, 1, (some .int)), (yX8_told, cX8_told, 2, (some .int)), (yX8_digest, cX8_digest, 6, (some .long)), (yX8_isTime, cX8_isTime, 1, (some .boolean)), (yX8_isStroke, cX8_isStroke, 2, (some .boolean)), (yX8_isBar, cX8_isBar, 2, (some .boolean)), (yX8_refuse, cX8_refuse, 2, (some .int)), (yX8_beginChange, cX8_beginChange, 1, none), (yX8_tell, cX8_tell, 2, (some .int)), (yX8_bestWriting, cX8_bestWriting, 1, (some (.object "PlayedWritten$Writing")))]
def mT_1 : List (MethodName × ByteArray × Nat × Option FieldType) := [(yX8_takeOut, cX8_takeOut, 4, (some .int)), (yX8_partCount, cX8_partCount, 1, (some .int)), (yX8_partFrom, cX8_partFrom, 4, (some .int)), (yX8_partSize, cX8_partSize, 3, (some .int)), (yX8_errorOf, cX8_errorOf, 4, (some .int)), (yX9_init, cX9_init, 5, none), (yX9_in, cX9_in, 3, (some .boolean)), (yX9_refuses, cX9_refuses, 2, (some .int)), (yX9_leaves, cX9_leaves, 2, none), (yX9_puts, cX9_puts, 3, (some .int)), (yX9_drops, cX9_drops, 3, none), (yX9_isStroke, cX9_isStroke, 2, (some .boolean)), (yX9_strikes, cX9_strikes, 2, (some .int)), (yX9_lifts, cX9_lifts, 2, (some .int)), (yX9_moves, cX9_moves, 3, (some .int)), (yX9_draws, cX9_draws, 8, (some .int)), (yX9_shifts, cX9_shifts, 5, (some .int)), (yX9_leastOf, cX9_leastOf, 1, (some .int)), (yX9_mostOf, cX9_mostOf, 1, (some .int)), (yX9_sets, cX9_sets, 4, (some .int)), (yX9_time, cX9_time, 2, (some .int)), (yX9_firstSpan, cX9_firstSpan, 1, (some .int)), (yX9_errorOf, cX9_errorOf, 6, (some .int)), (yX9_isGrace, cX9_isGrace, 2, (some .boolean)), (yX9_laysLeaf, cX9_laysLeaf, 8, none), (yX9_ofTwo, cX9_ofTwo, 7, (some .int)), (yX9_ofThree, cX9_ofThree, 7, (some .int)), (yX9_divided, cX9_divided, 7, (some .int)), (yX9_may, cX9_may, 3, (some .boolean)), (yX9_dividedBest, cX9_dividedBest, 7, (some .int))]
def mT_2 : List (MethodName × ByteArray × Nat × Option FieldType) := [(yX9_laysSpan, cX9_laysSpan, 10, none), (yX9_laysBar, cX9_laysBar, 5, none), (yX9_ticksBy, cX9_ticksBy, 2, (some .int)), (yX9_far, cX9_far, 3, (some .int)), (yX9_isAhead, cX9_isAhead, 2, (some .boolean)), (yX9_meets, cX9_meets, 3, none), (yX9_copies, cX9_copies, 3, none), (yX9_deals, cX9_deals, 5, none), (yX9_triesThird, cX9_triesThird, 4, none), (yX9_triesSecond, cX9_triesSecond, 4, none), (yX9_seeks, cX9_seeks, 7, (some .int)), (yX9_piles, cX9_piles, 5, none), (yX9_shows, cX9_shows, 3, none), (yX9_wayOf, cX9_wayOf, 7, (some .int)), (yX9_leaf, cX9_leaf, 9, none), (yX9_parts, cX9_parts, 12, none), (yX9_writesBar, cX9_writesBar, 9, none), (yX9_lays, cX9_lays, 3, none), (yX9_cost, cX9_cost, 1, (some .int)), (yX9_isBar, cX9_isBar, 2, (some .boolean)), (yX9_bar, cX9_bar, 3, (some .int)), (yX9_written, cX9_written, 3, (some .int)), (yX9_shown, cX9_shown, 3, (some .int)), (yX9_count, cX9_count, 2, (some .int)), (yX9_bent, cX9_bent, 2, (some .int)), (yX9_forced, cX9_forced, 2, (some .int)), (yX9_without, cX9_without, 2, (some .int)), (yX9_exact, cX9_exact, 2, (some .int)), (yX9_type, cX9_type, 2, (some .int)), (yX9_clear, cX9_clear, 2, (some .int))]
def mT_3 : List (MethodName × ByteArray × Nat × Option FieldType) := [(yX9_wayBy, cX9_wayBy, 1, (some .int)), (yX9_tells, cX9_tells, 4, none), (yX9_faultOf, cX9_faultOf, 7, (some .int)), (yX9_plays, cX9_plays, 3, (some .int)), (yX9_back, cX9_back, 2, (some .int)), (yX9_toldOf, cX9_toldOf, 2, (some .int)), (yX9_told, cX9_told, 2, (some .int)), (yX9_digest, cX9_digest, 4, (some .long)), (yX0_init, cX0_init, 1, none), (yX0_keep, cX0_keep, 2, none), (yX0_restore, cX0_restore, 2, none), (yX1_init, cX1_init, 1, none), (yX1_insert, cX1_insert, 3, (some .int)), (yX1_remove, cX1_remove, 2, none), (yX1_draw, cX1_draw, 9, (some .int)), (yX1_shift, cX1_shift, 5, (some .int)), (yX1_play, cX1_play, 4, none), (yX1_saveTo, cX1_saveTo, 3, none), (yX1_loadFrom, cX1_loadFrom, 3, none), (yX2_init, cX2_init, 1, none), (yX2_leastCost, cX2_leastCost, 4, (some .int)), (yX2_writeBars, cX2_writeBars, 8, none), (yX2_reach, cX2_reach, 1, (some .int)), (yX2_beginOf, cX2_beginOf, 3, (some .int)), (yX2_ticksOf, cX2_ticksOf, 2, (some .int)), (yX2_weighBehind, cX2_weighBehind, 5, none), (yX2_weighBar, cX2_weighBar, 10, none), (yX2_onwardAt, cX2_onwardAt, 3, (some .int)), (yX2_leastFrom, cX2_leastFrom, 7, (some .int)), (yX2_costWith, cX2_costWith, 7, (some .int))]
def mT_4 : List (MethodName × ByteArray × Nat × Option FieldType) := [(yX2_shortestBest, cX2_shortestBest, 7, (some .int)), (yX2_fewestBest, cX2_fewestBest, 8, (some .int)), (yX2_writeSpan, cX2_writeSpan, 9, none), (yX3_init, cX3_init, 1, none), (yX3_add, cX3_add, 2, none), (yX3_read, cX3_read, 2, (some .int)), (yX3_take, cX3_take, 2, (some .boolean)), (yX3_takeClosing, cX3_takeClosing, 2, (some .boolean)), (yX3_takeFigure, cX3_takeFigure, 4, (some .boolean)), (yX3_takeOpening, cX3_takeOpening, 5, (some .boolean)), (yX3_endSpan, cX3_endSpan, 1, none), (yX3_spanFrom, cX3_spanFrom, 2, (some .int)), (yX3_spanSize, cX3_spanSize, 2, (some .int)), (yX4_init, cX4_init, 5, none), (yX4_divide, cX4_divide, 7, none), (yX4_findStart, cX4_findStart, 3, (some .int)), (yX4_findSpan, cX4_findSpan, 5, (some .int)), (yX5_init, cX5_init, 1, none), (yX5_measure, cX5_measure, 4, none), (yX5_barTable, cX5_barTable, 1, (some .int)), (yX5_cell, cX5_cell, 4, (some .int)), (yX5_isLeafTable, cX5_isLeafTable, 2, (some .boolean)), (yX5_place, cX5_place, 2, (some .int)), (yX5_kidTable, cX5_kidTable, 4, (some .int)), (yX5_prices, cX5_prices, 2, (some (.array .int))), (yX5_measureLeaf, cX5_measureLeaf, 9, none), (yX5_measureSpan, cX5_measureSpan, 11, none), (yX5_joinAheadOfLastThird, cX5_joinAheadOfLastThird, 10, none), (yX5_joint, cX5_joint, 10, (some .int)), (yX5_decide, cX5_decide, 7, none)]
def mT_5 : List (MethodName × ByteArray × Nat × Option FieldType) := [(yX5_cutInTwo, cX5_cutInTwo, 9, (some .boolean)), (yX5_cutInThree, cX5_cutInThree, 10, none), (yX6_init, cX6_init, 1, none), (yX6_take, cX6_take, 3, none), (yX6_force, cX6_force, 3, none), (yX6_leaveOut, cX6_leaveOut, 2, none), (yX6_priceGraces, cX6_priceGraces, 2, none), (yX6_clashes, cX6_clashes, 2, (some .boolean)), (yX7_init, cX7_init, 1, none), (yX7_barFact, cX7_barFact, 3, (some .int)), (yX7_strokeFact, cX7_strokeFact, 3, (some .int)), (yX7_tally, cX7_tally, 2, (some .int)), (yX7_sign, cX7_sign, 3, (some .int)), (yX7_open, cX7_open, 3, none), (yX7_beginBar, cX7_beginBar, 7, none), (yX7_change, cX7_change, 2, none), (yX7_divide, cX7_divide, 2, none), (yX7_close, cX7_close, 2, none), (yX7_leaf, cX7_leaf, 8, none), (yX7_note, cX7_note, 10, none), (yX7_put, cX7_put, 2, none), (yL_law, cL_law, 4, (some .boolean))]
def mT : List (MethodName × ByteArray × Nat × Option FieldType) := mT_0 ++ mT_1 ++ mT_2 ++ mT_3 ++ mT_4 ++ mT_5
def mG (y : Nat) : MethodName × ByteArray × Nat × Option FieldType := mT.getD y (yL_law, cL_law, 0, none)
abbrev mN (y : Nat) : MethodName := (mG y).1
abbrev mC (y : Nat) : ByteArray := (mG y).2.1
abbrev mL (y : Nat) : Nat := (mG y).2.2.1
abbrev mR (y : Nat) : Option FieldType := (mG y).2.2.2
theorem mG_0 : mG 0 = (yX8_init, cX8_init, 1, none) := rfl
theorem mG_1 : mG 1 = (yX8_strikes, cX8_strikes, 2, (some .int)) := rfl
theorem mG_2 : mG 2 = (yX8_lifts, cX8_lifts, 2, (some .int)) := rfl
theorem mG_3 : mG 3 = (yX8_moves, cX8_moves, 3, (some .int)) := rfl
theorem mG_4 : mG 4 = (yX8_draws, cX8_draws, 3, (some .int)) := rfl
theorem mG_5 : mG 5 = (yX8_shifts, cX8_shifts, 2, (some .int)) := rfl
theorem mG_6 : mG 6 = (yX8_sets, cX8_sets, 4, (some .int)) := rfl
theorem mG_7 : mG 7 = (yX8_time, cX8_time, 2, (some .int)) := rfl
theorem mG_8 : mG 8 = (yX8_cost, cX8_cost, 1, (some .int)) := rfl
theorem mG_9 : mG 9 = (yX8_bar, cX8_bar, 3, (some .int)) := rfl
theorem mG_10 : mG 10 = (yX8_written, cX8_written, 3, (some .int)) := rfl
theorem mG_11 : mG 11 = (yX8_shown, cX8_shown, 3, (some .int)) := rfl
theorem mG_12 : mG 12 = (yX8_count, cX8_count, 2, (some .int)) := rfl
theorem mG_13 : mG 13 = (yX8_bent, cX8_bent, 2, (some .int)) := rfl
theorem mG_14 : mG 14 = (yX8_forced, cX8_forced, 2, (some .int)) := rfl
theorem mG_15 : mG 15 = (yX8_without, cX8_without, 2, (some .int)) := rfl
theorem mG_16 : mG 16 = (yX8_exact, cX8_exact, 2, (some .int)) := rfl
theorem mG_17 : mG 17 = (yX8_type, cX8_type, 2, (some .int)) := rfl
theorem mG_18 : mG 18 = (yX8_clear, cX8_clear, 2, (some .int)) := rfl
theorem mG_19 : mG 19 = (yX8_plays, cX8_plays, 2, (some .int)) := rfl
theorem mG_20 : mG 20 = (yX8_back, cX8_back, 1, (some .int)) := rfl
theorem mG_21 : mG 21 = (yX8_told, cX8_told, 2, (some .int)) := rfl
theorem mG_22 : mG 22 = (yX8_digest, cX8_digest, 6, (some .long)) := rfl
theorem mG_23 : mG 23 = (yX8_isTime, cX8_isTime, 1, (some .boolean)) := rfl
theorem mG_24 : mG 24 = (yX8_isStroke, cX8_isStroke, 2, (some .boolean)) := rfl
theorem mG_25 : mG 25 = (yX8_isBar, cX8_isBar, 2, (some .boolean)) := rfl
theorem mG_26 : mG 26 = (yX8_refuse, cX8_refuse, 2, (some .int)) := rfl
theorem mG_27 : mG 27 = (yX8_beginChange, cX8_beginChange, 1, none) := rfl
theorem mG_28 : mG 28 = (yX8_tell, cX8_tell, 2, (some .int)) := rfl
theorem mG_29 : mG 29 = (yX8_bestWriting, cX8_bestWriting, 1, (some (.object "PlayedWritten$Writing"))) := rfl
theorem mG_30 : mG 30 = (yX8_takeOut, cX8_takeOut, 4, (some .int)) := rfl
theorem mG_31 : mG 31 = (yX8_partCount, cX8_partCount, 1, (some .int)) := rfl
theorem mG_32 : mG 32 = (yX8_partFrom, cX8_partFrom, 4, (some .int)) := rfl
theorem mG_33 : mG 33 = (yX8_partSize, cX8_partSize, 3, (some .int)) := rfl
theorem mG_34 : mG 34 = (yX8_errorOf, cX8_errorOf, 4, (some .int)) := rfl
theorem mG_35 : mG 35 = (yX9_init, cX9_init, 5, none) := rfl
theorem mG_36 : mG 36 = (yX9_in, cX9_in, 3, (some .boolean)) := rfl
theorem mG_37 : mG 37 = (yX9_refuses, cX9_refuses, 2, (some .int)) := rfl
theorem mG_38 : mG 38 = (yX9_leaves, cX9_leaves, 2, none) := rfl
theorem mG_39 : mG 39 = (yX9_puts, cX9_puts, 3, (some .int)) := rfl
theorem mG_40 : mG 40 = (yX9_drops, cX9_drops, 3, none) := rfl
theorem mG_41 : mG 41 = (yX9_isStroke, cX9_isStroke, 2, (some .boolean)) := rfl
theorem mG_42 : mG 42 = (yX9_strikes, cX9_strikes, 2, (some .int)) := rfl
theorem mG_43 : mG 43 = (yX9_lifts, cX9_lifts, 2, (some .int)) := rfl
theorem mG_44 : mG 44 = (yX9_moves, cX9_moves, 3, (some .int)) := rfl
theorem mG_45 : mG 45 = (yX9_draws, cX9_draws, 8, (some .int)) := rfl
theorem mG_46 : mG 46 = (yX9_shifts, cX9_shifts, 5, (some .int)) := rfl
theorem mG_47 : mG 47 = (yX9_leastOf, cX9_leastOf, 1, (some .int)) := rfl
theorem mG_48 : mG 48 = (yX9_mostOf, cX9_mostOf, 1, (some .int)) := rfl
theorem mG_49 : mG 49 = (yX9_sets, cX9_sets, 4, (some .int)) := rfl
theorem mG_50 : mG 50 = (yX9_time, cX9_time, 2, (some .int)) := rfl
theorem mG_51 : mG 51 = (yX9_firstSpan, cX9_firstSpan, 1, (some .int)) := rfl
theorem mG_52 : mG 52 = (yX9_errorOf, cX9_errorOf, 6, (some .int)) := rfl
theorem mG_53 : mG 53 = (yX9_isGrace, cX9_isGrace, 2, (some .boolean)) := rfl
theorem mG_54 : mG 54 = (yX9_laysLeaf, cX9_laysLeaf, 8, none) := rfl
theorem mG_55 : mG 55 = (yX9_ofTwo, cX9_ofTwo, 7, (some .int)) := rfl
theorem mG_56 : mG 56 = (yX9_ofThree, cX9_ofThree, 7, (some .int)) := rfl
theorem mG_57 : mG 57 = (yX9_divided, cX9_divided, 7, (some .int)) := rfl
theorem mG_58 : mG 58 = (yX9_may, cX9_may, 3, (some .boolean)) := rfl
theorem mG_59 : mG 59 = (yX9_dividedBest, cX9_dividedBest, 7, (some .int)) := rfl
theorem mG_60 : mG 60 = (yX9_laysSpan, cX9_laysSpan, 10, none) := rfl
theorem mG_61 : mG 61 = (yX9_laysBar, cX9_laysBar, 5, none) := rfl
theorem mG_62 : mG 62 = (yX9_ticksBy, cX9_ticksBy, 2, (some .int)) := rfl
theorem mG_63 : mG 63 = (yX9_far, cX9_far, 3, (some .int)) := rfl
theorem mG_64 : mG 64 = (yX9_isAhead, cX9_isAhead, 2, (some .boolean)) := rfl
theorem mG_65 : mG 65 = (yX9_meets, cX9_meets, 3, none) := rfl
theorem mG_66 : mG 66 = (yX9_copies, cX9_copies, 3, none) := rfl
theorem mG_67 : mG 67 = (yX9_deals, cX9_deals, 5, none) := rfl
theorem mG_68 : mG 68 = (yX9_triesThird, cX9_triesThird, 4, none) := rfl
theorem mG_69 : mG 69 = (yX9_triesSecond, cX9_triesSecond, 4, none) := rfl
theorem mG_70 : mG 70 = (yX9_seeks, cX9_seeks, 7, (some .int)) := rfl
theorem mG_71 : mG 71 = (yX9_piles, cX9_piles, 5, none) := rfl
theorem mG_72 : mG 72 = (yX9_shows, cX9_shows, 3, none) := rfl
theorem mG_73 : mG 73 = (yX9_wayOf, cX9_wayOf, 7, (some .int)) := rfl
theorem mG_74 : mG 74 = (yX9_leaf, cX9_leaf, 9, none) := rfl
theorem mG_75 : mG 75 = (yX9_parts, cX9_parts, 12, none) := rfl
theorem mG_76 : mG 76 = (yX9_writesBar, cX9_writesBar, 9, none) := rfl
theorem mG_77 : mG 77 = (yX9_lays, cX9_lays, 3, none) := rfl
theorem mG_78 : mG 78 = (yX9_cost, cX9_cost, 1, (some .int)) := rfl
theorem mG_79 : mG 79 = (yX9_isBar, cX9_isBar, 2, (some .boolean)) := rfl
theorem mG_80 : mG 80 = (yX9_bar, cX9_bar, 3, (some .int)) := rfl
theorem mG_81 : mG 81 = (yX9_written, cX9_written, 3, (some .int)) := rfl
theorem mG_82 : mG 82 = (yX9_shown, cX9_shown, 3, (some .int)) := rfl
theorem mG_83 : mG 83 = (yX9_count, cX9_count, 2, (some .int)) := rfl
theorem mG_84 : mG 84 = (yX9_bent, cX9_bent, 2, (some .int)) := rfl
theorem mG_85 : mG 85 = (yX9_forced, cX9_forced, 2, (some .int)) := rfl
theorem mG_86 : mG 86 = (yX9_without, cX9_without, 2, (some .int)) := rfl
theorem mG_87 : mG 87 = (yX9_exact, cX9_exact, 2, (some .int)) := rfl
theorem mG_88 : mG 88 = (yX9_type, cX9_type, 2, (some .int)) := rfl
theorem mG_89 : mG 89 = (yX9_clear, cX9_clear, 2, (some .int)) := rfl
theorem mG_90 : mG 90 = (yX9_wayBy, cX9_wayBy, 1, (some .int)) := rfl
theorem mG_91 : mG 91 = (yX9_tells, cX9_tells, 4, none) := rfl
theorem mG_92 : mG 92 = (yX9_faultOf, cX9_faultOf, 7, (some .int)) := rfl
theorem mG_93 : mG 93 = (yX9_plays, cX9_plays, 3, (some .int)) := rfl
theorem mG_94 : mG 94 = (yX9_back, cX9_back, 2, (some .int)) := rfl
theorem mG_95 : mG 95 = (yX9_toldOf, cX9_toldOf, 2, (some .int)) := rfl
theorem mG_96 : mG 96 = (yX9_told, cX9_told, 2, (some .int)) := rfl
theorem mG_97 : mG 97 = (yX9_digest, cX9_digest, 4, (some .long)) := rfl
theorem mG_98 : mG 98 = (yX0_init, cX0_init, 1, none) := rfl
theorem mG_99 : mG 99 = (yX0_keep, cX0_keep, 2, none) := rfl
theorem mG_100 : mG 100 = (yX0_restore, cX0_restore, 2, none) := rfl
theorem mG_101 : mG 101 = (yX1_init, cX1_init, 1, none) := rfl
theorem mG_102 : mG 102 = (yX1_insert, cX1_insert, 3, (some .int)) := rfl
theorem mG_103 : mG 103 = (yX1_remove, cX1_remove, 2, none) := rfl
theorem mG_104 : mG 104 = (yX1_draw, cX1_draw, 9, (some .int)) := rfl
theorem mG_105 : mG 105 = (yX1_shift, cX1_shift, 5, (some .int)) := rfl
theorem mG_106 : mG 106 = (yX1_play, cX1_play, 4, none) := rfl
theorem mG_107 : mG 107 = (yX1_saveTo, cX1_saveTo, 3, none) := rfl
theorem mG_108 : mG 108 = (yX1_loadFrom, cX1_loadFrom, 3, none) := rfl
theorem mG_109 : mG 109 = (yX2_init, cX2_init, 1, none) := rfl
theorem mG_110 : mG 110 = (yX2_leastCost, cX2_leastCost, 4, (some .int)) := rfl
theorem mG_111 : mG 111 = (yX2_writeBars, cX2_writeBars, 8, none) := rfl
theorem mG_112 : mG 112 = (yX2_reach, cX2_reach, 1, (some .int)) := rfl
theorem mG_113 : mG 113 = (yX2_beginOf, cX2_beginOf, 3, (some .int)) := rfl
theorem mG_114 : mG 114 = (yX2_ticksOf, cX2_ticksOf, 2, (some .int)) := rfl
theorem mG_115 : mG 115 = (yX2_weighBehind, cX2_weighBehind, 5, none) := rfl
theorem mG_116 : mG 116 = (yX2_weighBar, cX2_weighBar, 10, none) := rfl
theorem mG_117 : mG 117 = (yX2_onwardAt, cX2_onwardAt, 3, (some .int)) := rfl
theorem mG_118 : mG 118 = (yX2_leastFrom, cX2_leastFrom, 7, (some .int)) := rfl
theorem mG_119 : mG 119 = (yX2_costWith, cX2_costWith, 7, (some .int)) := rfl
theorem mG_120 : mG 120 = (yX2_shortestBest, cX2_shortestBest, 7, (some .int)) := rfl
theorem mG_121 : mG 121 = (yX2_fewestBest, cX2_fewestBest, 8, (some .int)) := rfl
theorem mG_122 : mG 122 = (yX2_writeSpan, cX2_writeSpan, 9, none) := rfl
theorem mG_123 : mG 123 = (yX3_init, cX3_init, 1, none) := rfl
theorem mG_124 : mG 124 = (yX3_add, cX3_add, 2, none) := rfl
theorem mG_125 : mG 125 = (yX3_read, cX3_read, 2, (some .int)) := rfl
theorem mG_126 : mG 126 = (yX3_take, cX3_take, 2, (some .boolean)) := rfl
theorem mG_127 : mG 127 = (yX3_takeClosing, cX3_takeClosing, 2, (some .boolean)) := rfl
theorem mG_128 : mG 128 = (yX3_takeFigure, cX3_takeFigure, 4, (some .boolean)) := rfl
theorem mG_129 : mG 129 = (yX3_takeOpening, cX3_takeOpening, 5, (some .boolean)) := rfl
theorem mG_130 : mG 130 = (yX3_endSpan, cX3_endSpan, 1, none) := rfl
theorem mG_131 : mG 131 = (yX3_spanFrom, cX3_spanFrom, 2, (some .int)) := rfl
theorem mG_132 : mG 132 = (yX3_spanSize, cX3_spanSize, 2, (some .int)) := rfl
theorem mG_133 : mG 133 = (yX4_init, cX4_init, 5, none) := rfl
theorem mG_134 : mG 134 = (yX4_divide, cX4_divide, 7, none) := rfl
theorem mG_135 : mG 135 = (yX4_findStart, cX4_findStart, 3, (some .int)) := rfl
theorem mG_136 : mG 136 = (yX4_findSpan, cX4_findSpan, 5, (some .int)) := rfl
theorem mG_137 : mG 137 = (yX5_init, cX5_init, 1, none) := rfl
theorem mG_138 : mG 138 = (yX5_measure, cX5_measure, 4, none) := rfl
theorem mG_139 : mG 139 = (yX5_barTable, cX5_barTable, 1, (some .int)) := rfl
theorem mG_140 : mG 140 = (yX5_cell, cX5_cell, 4, (some .int)) := rfl
theorem mG_141 : mG 141 = (yX5_isLeafTable, cX5_isLeafTable, 2, (some .boolean)) := rfl
theorem mG_142 : mG 142 = (yX5_place, cX5_place, 2, (some .int)) := rfl
theorem mG_143 : mG 143 = (yX5_kidTable, cX5_kidTable, 4, (some .int)) := rfl
theorem mG_144 : mG 144 = (yX5_prices, cX5_prices, 2, (some (.array .int))) := rfl
theorem mG_145 : mG 145 = (yX5_measureLeaf, cX5_measureLeaf, 9, none) := rfl
theorem mG_146 : mG 146 = (yX5_measureSpan, cX5_measureSpan, 11, none) := rfl
theorem mG_147 : mG 147 = (yX5_joinAheadOfLastThird, cX5_joinAheadOfLastThird, 10, none) := rfl
theorem mG_148 : mG 148 = (yX5_joint, cX5_joint, 10, (some .int)) := rfl
theorem mG_149 : mG 149 = (yX5_decide, cX5_decide, 7, none) := rfl
theorem mG_150 : mG 150 = (yX5_cutInTwo, cX5_cutInTwo, 9, (some .boolean)) := rfl
theorem mG_151 : mG 151 = (yX5_cutInThree, cX5_cutInThree, 10, none) := rfl
theorem mG_152 : mG 152 = (yX6_init, cX6_init, 1, none) := rfl
theorem mG_153 : mG 153 = (yX6_take, cX6_take, 3, none) := rfl
theorem mG_154 : mG 154 = (yX6_force, cX6_force, 3, none) := rfl
theorem mG_155 : mG 155 = (yX6_leaveOut, cX6_leaveOut, 2, none) := rfl
theorem mG_156 : mG 156 = (yX6_priceGraces, cX6_priceGraces, 2, none) := rfl
theorem mG_157 : mG 157 = (yX6_clashes, cX6_clashes, 2, (some .boolean)) := rfl
theorem mG_158 : mG 158 = (yX7_init, cX7_init, 1, none) := rfl
theorem mG_159 : mG 159 = (yX7_barFact, cX7_barFact, 3, (some .int)) := rfl
theorem mG_160 : mG 160 = (yX7_strokeFact, cX7_strokeFact, 3, (some .int)) := rfl
theorem mG_161 : mG 161 = (yX7_tally, cX7_tally, 2, (some .int)) := rfl
theorem mG_162 : mG 162 = (yX7_sign, cX7_sign, 3, (some .int)) := rfl
theorem mG_163 : mG 163 = (yX7_open, cX7_open, 3, none) := rfl
theorem mG_164 : mG 164 = (yX7_beginBar, cX7_beginBar, 7, none) := rfl
theorem mG_165 : mG 165 = (yX7_change, cX7_change, 2, none) := rfl
theorem mG_166 : mG 166 = (yX7_divide, cX7_divide, 2, none) := rfl
theorem mG_167 : mG 167 = (yX7_close, cX7_close, 2, none) := rfl
theorem mG_168 : mG 168 = (yX7_leaf, cX7_leaf, 8, none) := rfl
theorem mG_169 : mG 169 = (yX7_note, cX7_note, 10, none) := rfl
theorem mG_170 : mG 170 = (yX7_put, cX7_put, 2, none) := rfl
theorem mG_171 : mG 171 = (yL_law, cL_law, 4, (some .boolean)) := rfl
def clsN (y : Nat) : Option Nat := ([some 8, some 8, some 8, some 8, some 8, some 8, some 8, some 8, some 8, some 8, some 8, some 8, some 8, some 8, some 8, some 8, some 8, some 8, some 8, some 8, some 8, some 8, some 8, some 8, some 8, some 8, some 8, some 8, some 8, some 8, some 8, some 8, some 8, some 8, some 8, some 9, some 9, some 9, some 9, some 9, some 9, some 9, some 9, some 9, some 9, some 9, some 9, some 9, some 9, some 9, some 9, some 9, some 9, some 9, some 9, some 9, some 9, some 9, some 9, some 9, some 9, some 9, some 9, some 9, some 9, some 9, some 9, some 9, some 9, some 9, some 9, some 9, some 9, some 9, some 9, some 9, some 9, some 9, some 9, some 9, some 9, some 9, some 9, some 9, some 9, some 9, some 9, some 9, some 9, some 9, some 9, some 9, some 9, some 9, some 9, some 9, some 9, some 9, some 0, some 0, some 0, some 1, some 1, some 1, some 1, some 1, some 1, some 1, some 1, some 2, some 2, some 2, some 2, some 2, some 2, some 2, some 2, some 2, some 2, some 2, some 2, some 2, some 2, some 3, some 3, some 3, some 3, some 3, some 3, some 3, some 3, some 3, some 3, some 4, some 4, some 4, some 4, some 5, some 5, some 5, some 5, some 5, some 5, some 5, some 5, some 5, some 5, some 5, some 5, some 5, some 5, some 5, some 6, some 6, some 6, some 6, some 6, some 6, some 7, some 7, some 7, some 7, some 7, some 7, some 7, some 7, some 7, some 7, some 7, some 7, some 7, none] : List (Option Nat)).getD y none
def bu (y : Nat) : Nat × Nat := match y with
  | 0 => (40, 8264)
  | 35 => (31, 34519)
  | 98 => (1, 152)
  | 101 => (2, 18)
  | 109 => (19, 7698)
  | 123 => (7, 88)
  | 133 => (8, 579)
  | 137 => (16, 7276)
  | 152 => (4, 24)
  | 158 => (5, 277)
  | _ => (0, 0)
