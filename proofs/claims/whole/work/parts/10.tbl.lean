def zP0 : List Pgm := [P_JM_max0, P_JM_min0, P_JM_abs, P_JM_max1, P_JM_min1, P_JI_bitCount, P_JA_fill0, P_JA_fill1, P_Bk_init, P_Bk_detail, P_Bs_init, P_Bs_isFull, P_Bs_addLook, P_Bs_addStay, P_Bs_addEntry, P_Bs_isEntry]
def zP1 : List Pgm := [P_Bs_lookAhead, P_Bs_lookBehind, P_Bs_lostAt, P_Bs_lostCoins, P_Co_init, P_Co_takes, P_Co_isShut, P_Co_setShut, P_Co_hadCode, P_Co_keepCode, P_Jb_init, P_Jb_isReady, P_Jb_lateness, P_Jb_detail, P_La_init, P_La_sendOut]
def zP2 : List Pgm := [P_La_takeBack, P_La_detail, P_La_fewestSets, P_La_guestsIn, P_Mv_init, P_Mv_clear, P_Mv_addCottage, P_Mv_addBooking, P_Mv_find, P_Mv_place, P_Mv_keepIfBetter, P_Mv_goalOf, P_Mv_carryOut, P_Pl_init, P_Pl_forget, P_Pl_possible]
def zP3 : List Pgm := [P_Pl_costPart, P_Pl_copyRow, P_Pl_digit, P_Pl_shiftOf, P_Pl_gather, P_Pl_teamWith, P_Pl_find, P_Pl_start, P_Pl_costAtHand, P_Pl_indexOf, P_Pl_costInHaste, P_Pl_takeSoonest, P_Pl_lengthen, P_Pl_putBehind, P_Pl_isIdle, P_Pl_keepRow]
def zP4 : List Pgm := [P_Pl_share, P_Pl_shareOthers, P_Pl_isLikelier, P_Ro_init, P_Ro_tell, P_Ro_minutes, P_Te_init, P_Te_startDay, P_Te_rests, P_Te_rowAt, P_Te_hasInRow, P_Te_detail, P_Te_freeAt, P_Te_passMinute, P_Te_step, P_Te_jobAmong]
def zP5 : List Pgm := [P_Te_begin, P_Te_go, P_Tx_init, P_Tx_bytesOf, P_Tx_addBytes, P_Tx_isDigit, P_Tx_isLetter, P_Tx_isPlusOrMinus, P_Tx_isTimesOrBy, P_Tx_isComparison, P_Tx_firstFault, P_Tx_goesOnWith, P_Tx_beginsAtom, P_Tx_followsAtom, P_Tx_partBehind, P_Tx_coinsFor]
def zP6 : List Pgm := [P_Tx_compares, P_Tx_sign, P_Tx_takeSign, P_Tx_sumFor, P_Tx_productFor, P_Tx_atomFor, P_Tx_number, P_Tx_letterFor, P_Tx_divided, P_Tx_bounded, P_Wa_init, P_Wa_hasAllTerms, P_Wa_keepTape, P_Wa_termsFor, P_Wa_coinsBy, P_Wa_dropDrafts]
def zP7 : List Pgm := [P_Wa_draft, P_Wa_enterDrafts, P_Wa_lineDetail, P_CY_init, P_CY_cottage, P_CY_rent, P_CY_book, P_CY_cancel, P_CY_shut, P_CY_moves, P_CY_moved, P_CY_move, P_CY_booked, P_CY_taken, P_CY_team, P_CY_way]
def zP8 : List Pgm := [P_CY_rest, P_CY_openDay, P_CY_closeDay, P_CY_late, P_CY_state, P_CY_best, P_CY_plan, P_CY_row, P_CY_tick, P_CY_about, P_CY_job, P_CY_linen, P_CY_sets, P_CY_fewest, P_CY_feed, P_CY_end]
def zP9 : List Pgm := [P_CY_fault, P_CY_terms, P_CY_force, P_CY_pay, P_CY_line, P_CY_look, P_CY_worth, P_CY_lost, P_CY_kept, P_CY_complain, P_CY_blamed, P_CY_draw, P_CY_code, P_CY_door, P_CY_count, P_CY_within]
def zP10 : List Pgm := [P_CY_isWeek, P_CY_isToCome, P_CY_cottageAt, P_CY_bookingAt, P_CY_begunAt, P_CY_teamAt, P_CY_stayOf, P_CY_jobOf, P_CY_jobToBegin, P_CY_isLet, P_CY_findMoves, P_CY_beginStays, P_CY_makeJobs, P_CY_guestsWhoCome, P_CY_giveCodes, P_CY_nextCode]
def zP11 : List Pgm := [P_CY_findPlan, P_CY_draftLines, P_CY_teamToBlame, P_CY_readyJobs, P_CY_weightOf, P_CY_drawOne, P_CY_bookingsInForce, P_CY_jobsLeftOut, P_CY_lateMinutes, P_Mo_init, P_Mo_thrown, P_Mo_isIn, P_Mo_isCottage, P_Mo_isBooking, P_Mo_isAhead, P_Mo_cottage]
def zP12 : List Pgm := [P_Mo_rent, P_Mo_inForce, P_Mo_book, P_Mo_cancel, P_Mo_shut, P_Mo_tryMoves, P_Mo_findMoves, P_Mo_moves, P_Mo_moved, P_Mo_move, P_Mo_booked, P_Mo_taken, P_Mo_team, P_Mo_way, P_Mo_rest, P_Mo_job0]
def zP13 : List Pgm := [P_Mo_stay, P_Mo_openDay, P_Mo_isOpenJob, P_Mo_late, P_Mo_state, P_Mo_minutesTo, P_Mo_wayOf, P_Mo_setsBehind, P_Mo_inRow, P_Mo_isWorse, P_Mo_tryRows, P_Mo_startTime, P_Mo_findPlan, P_Mo_best, P_Mo_plan, P_Mo_isTeam]
def zP14 : List Pgm := [P_Mo_row, P_Mo_goesOn, P_Mo_tick, P_Mo_about, P_Mo_isJobOf, P_Mo_lateOf, P_Mo_job1, P_Mo_linen, P_Mo_sets, P_Mo_isEnough, P_Mo_fewest, P_Mo_closeDay, P_Mo_line, P_Mo_bytesIn, P_Mo_put, P_Mo_feed]
def zP15 : List Pgm := [P_Mo_end, P_Mo_look0, P_Mo_stop, P_Mo_bound, P_Mo_isDigit, P_Mo_letter, P_Mo_atom, P_Mo_product, P_Mo_sums, P_Mo_isSign, P_Mo_holds, P_Mo_clause, P_Mo_goThrough, P_Mo_fault, P_Mo_terms, P_Mo_termsFor]
def zP16 : List Pgm := [P_Mo_force, P_Mo_payBy, P_Mo_payFor, P_Mo_pay, P_Mo_enter, P_Mo_look1, P_Mo_worth, P_Mo_beside, P_Mo_lostOf, P_Mo_isStay, P_Mo_lost, P_Mo_kept, P_Mo_complain, P_Mo_blamed, P_Mo_weight, P_Mo_draw]
def zP17 : List Pgm := [P_Mo_drawCode, P_Mo_code, P_Mo_door, P_Mo_count, P_Lw_about, P_Lw_law]
def zPP : List (List Pgm) := [zP0, zP1, zP2, zP3, zP4, zP5, zP6, zP7, zP8, zP9, zP10, zP11, zP12, zP13, zP14, zP15, zP16, zP17]
def nilP : Pgm := ("", ⟨"", "", ""⟩, ⟨#[]⟩, 0, none, 0, 0, 99, 0, [])
def tbl (k : Nat) : Pgm := (zPP.getD (k / 16) []).getD (k % 16) nilP
def iniP (P : Pgm) : Bool := decide ((pY P).name = "<init>")
def okP (P : Pgm) : Prop := ∀ ch ∈ pCd P, ch.all (okI (pOwn P) (iniP P) (pB P)) = true
theorem okP_JM_max0 : okP P_JM_max0 := List.forall_mem_cons.mpr ⟨ok_JM_max0_0, fun _ h => absurd h List.not_mem_nil⟩
theorem okP_JM_min0 : okP P_JM_min0 := List.forall_mem_cons.mpr ⟨ok_JM_min0_0, fun _ h => absurd h List.not_mem_nil⟩
theorem okP_JM_abs : okP P_JM_abs := List.forall_mem_cons.mpr ⟨ok_JM_abs_0, fun _ h => absurd h List.not_mem_nil⟩
theorem okP_JM_max1 : okP P_JM_max1 := List.forall_mem_cons.mpr ⟨ok_JM_max1_0, fun _ h => absurd h List.not_mem_nil⟩
theorem okP_JM_min1 : okP P_JM_min1 := List.forall_mem_cons.mpr ⟨ok_JM_min1_0, fun _ h => absurd h List.not_mem_nil⟩
theorem okP_JI_bitCount : okP P_JI_bitCount := List.forall_mem_cons.mpr ⟨ok_JI_bitCount_0, fun _ h => absurd h List.not_mem_nil⟩
theorem okP_JA_fill0 : okP P_JA_fill0 := List.forall_mem_cons.mpr ⟨ok_JA_fill0_0, fun _ h => absurd h List.not_mem_nil⟩
theorem okP_JA_fill1 : okP P_JA_fill1 := List.forall_mem_cons.mpr ⟨ok_JA_fill1_0, fun _ h => absurd h List.not_mem_nil⟩
theorem okP_Bk_init : okP P_Bk_init := List.forall_mem_cons.mpr ⟨ok_Bk_init_0, fun _ h => absurd h List.not_mem_nil⟩
theorem okP_Bk_detail : okP P_Bk_detail := List.forall_mem_cons.mpr ⟨ok_Bk_detail_0, List.forall_mem_cons.mpr ⟨ok_Bk_detail_1, List.forall_mem_cons.mpr ⟨ok_Bk_detail_2, fun _ h => absurd h List.not_mem_nil⟩⟩⟩
theorem okP_Bs_init : okP P_Bs_init := List.forall_mem_cons.mpr ⟨ok_Bs_init_0, fun _ h => absurd h List.not_mem_nil⟩
theorem okP_Bs_isFull : okP P_Bs_isFull := List.forall_mem_cons.mpr ⟨ok_Bs_isFull_0, fun _ h => absurd h List.not_mem_nil⟩
theorem okP_Bs_addLook : okP P_Bs_addLook := List.forall_mem_cons.mpr ⟨ok_Bs_addLook_0, List.forall_mem_cons.mpr ⟨ok_Bs_addLook_1, fun _ h => absurd h List.not_mem_nil⟩⟩
theorem okP_Bs_addStay : okP P_Bs_addStay := List.forall_mem_cons.mpr ⟨ok_Bs_addStay_0, fun _ h => absurd h List.not_mem_nil⟩
theorem okP_Bs_addEntry : okP P_Bs_addEntry := List.forall_mem_cons.mpr ⟨ok_Bs_addEntry_0, fun _ h => absurd h List.not_mem_nil⟩
theorem okP_Bs_isEntry : okP P_Bs_isEntry := List.forall_mem_cons.mpr ⟨ok_Bs_isEntry_0, fun _ h => absurd h List.not_mem_nil⟩
theorem okP_Bs_lookAhead : okP P_Bs_lookAhead := List.forall_mem_cons.mpr ⟨ok_Bs_lookAhead_0, fun _ h => absurd h List.not_mem_nil⟩
theorem okP_Bs_lookBehind : okP P_Bs_lookBehind := List.forall_mem_cons.mpr ⟨ok_Bs_lookBehind_0, fun _ h => absurd h List.not_mem_nil⟩
theorem okP_Bs_lostAt : okP P_Bs_lostAt := List.forall_mem_cons.mpr ⟨ok_Bs_lostAt_0, fun _ h => absurd h List.not_mem_nil⟩
theorem okP_Bs_lostCoins : okP P_Bs_lostCoins := List.forall_mem_cons.mpr ⟨ok_Bs_lostCoins_0, fun _ h => absurd h List.not_mem_nil⟩
theorem okP_Co_init : okP P_Co_init := List.forall_mem_cons.mpr ⟨ok_Co_init_0, fun _ h => absurd h List.not_mem_nil⟩
theorem okP_Co_takes : okP P_Co_takes := List.forall_mem_cons.mpr ⟨ok_Co_takes_0, fun _ h => absurd h List.not_mem_nil⟩
theorem okP_Co_isShut : okP P_Co_isShut := List.forall_mem_cons.mpr ⟨ok_Co_isShut_0, fun _ h => absurd h List.not_mem_nil⟩
theorem okP_Co_setShut : okP P_Co_setShut := List.forall_mem_cons.mpr ⟨ok_Co_setShut_0, fun _ h => absurd h List.not_mem_nil⟩
theorem okP_Co_hadCode : okP P_Co_hadCode := List.forall_mem_cons.mpr ⟨ok_Co_hadCode_0, fun _ h => absurd h List.not_mem_nil⟩
theorem okP_Co_keepCode : okP P_Co_keepCode := List.forall_mem_cons.mpr ⟨ok_Co_keepCode_0, fun _ h => absurd h List.not_mem_nil⟩
theorem okP_Jb_init : okP P_Jb_init := List.forall_mem_cons.mpr ⟨ok_Jb_init_0, List.forall_mem_cons.mpr ⟨ok_Jb_init_1, fun _ h => absurd h List.not_mem_nil⟩⟩
theorem okP_Jb_isReady : okP P_Jb_isReady := List.forall_mem_cons.mpr ⟨ok_Jb_isReady_0, fun _ h => absurd h List.not_mem_nil⟩
theorem okP_Jb_lateness : okP P_Jb_lateness := List.forall_mem_cons.mpr ⟨ok_Jb_lateness_0, fun _ h => absurd h List.not_mem_nil⟩
theorem okP_Jb_detail : okP P_Jb_detail := List.forall_mem_cons.mpr ⟨ok_Jb_detail_0, List.forall_mem_cons.mpr ⟨ok_Jb_detail_1, fun _ h => absurd h List.not_mem_nil⟩⟩
theorem okP_La_init : okP P_La_init := List.forall_mem_cons.mpr ⟨ok_La_init_0, fun _ h => absurd h List.not_mem_nil⟩
theorem okP_La_sendOut : okP P_La_sendOut := List.forall_mem_cons.mpr ⟨ok_La_sendOut_0, List.forall_mem_cons.mpr ⟨ok_La_sendOut_1, fun _ h => absurd h List.not_mem_nil⟩⟩
theorem okP_La_takeBack : okP P_La_takeBack := List.forall_mem_cons.mpr ⟨ok_La_takeBack_0, fun _ h => absurd h List.not_mem_nil⟩
theorem okP_La_detail : okP P_La_detail := List.forall_mem_cons.mpr ⟨ok_La_detail_0, List.forall_mem_cons.mpr ⟨ok_La_detail_1, fun _ h => absurd h List.not_mem_nil⟩⟩
theorem okP_La_fewestSets : okP P_La_fewestSets := List.forall_mem_cons.mpr ⟨ok_La_fewestSets_0, List.forall_mem_cons.mpr ⟨ok_La_fewestSets_1, fun _ h => absurd h List.not_mem_nil⟩⟩
theorem okP_La_guestsIn : okP P_La_guestsIn := List.forall_mem_cons.mpr ⟨ok_La_guestsIn_0, fun _ h => absurd h List.not_mem_nil⟩
theorem okP_Mv_init : okP P_Mv_init := List.forall_mem_cons.mpr ⟨ok_Mv_init_0, fun _ h => absurd h List.not_mem_nil⟩
theorem okP_Mv_clear : okP P_Mv_clear := List.forall_mem_cons.mpr ⟨ok_Mv_clear_0, fun _ h => absurd h List.not_mem_nil⟩
theorem okP_Mv_addCottage : okP P_Mv_addCottage := List.forall_mem_cons.mpr ⟨ok_Mv_addCottage_0, fun _ h => absurd h List.not_mem_nil⟩
theorem okP_Mv_addBooking : okP P_Mv_addBooking := List.forall_mem_cons.mpr ⟨ok_Mv_addBooking_0, fun _ h => absurd h List.not_mem_nil⟩
theorem okP_Mv_find : okP P_Mv_find := List.forall_mem_cons.mpr ⟨ok_Mv_find_0, fun _ h => absurd h List.not_mem_nil⟩
theorem okP_Mv_place : okP P_Mv_place := List.forall_mem_cons.mpr ⟨ok_Mv_place_0, List.forall_mem_cons.mpr ⟨ok_Mv_place_1, List.forall_mem_cons.mpr ⟨ok_Mv_place_2, fun _ h => absurd h List.not_mem_nil⟩⟩⟩
theorem okP_Mv_keepIfBetter : okP P_Mv_keepIfBetter := List.forall_mem_cons.mpr ⟨ok_Mv_keepIfBetter_0, fun _ h => absurd h List.not_mem_nil⟩
theorem okP_Mv_goalOf : okP P_Mv_goalOf := List.forall_mem_cons.mpr ⟨ok_Mv_goalOf_0, fun _ h => absurd h List.not_mem_nil⟩
theorem okP_Mv_carryOut : okP P_Mv_carryOut := List.forall_mem_cons.mpr ⟨ok_Mv_carryOut_0, fun _ h => absurd h List.not_mem_nil⟩
theorem okP_Pl_init : okP P_Pl_init := List.forall_mem_cons.mpr ⟨ok_Pl_init_0, List.forall_mem_cons.mpr ⟨ok_Pl_init_1, List.forall_mem_cons.mpr ⟨ok_Pl_init_2, fun _ h => absurd h List.not_mem_nil⟩⟩⟩
theorem okP_Pl_forget : okP P_Pl_forget := List.forall_mem_cons.mpr ⟨ok_Pl_forget_0, fun _ h => absurd h List.not_mem_nil⟩
theorem okP_Pl_possible : okP P_Pl_possible := List.forall_mem_cons.mpr ⟨ok_Pl_possible_0, fun _ h => absurd h List.not_mem_nil⟩
theorem okP_Pl_costPart : okP P_Pl_costPart := List.forall_mem_cons.mpr ⟨ok_Pl_costPart_0, fun _ h => absurd h List.not_mem_nil⟩
theorem okP_Pl_copyRow : okP P_Pl_copyRow := List.forall_mem_cons.mpr ⟨ok_Pl_copyRow_0, List.forall_mem_cons.mpr ⟨ok_Pl_copyRow_1, fun _ h => absurd h List.not_mem_nil⟩⟩
theorem okP_Pl_digit : okP P_Pl_digit := List.forall_mem_cons.mpr ⟨ok_Pl_digit_0, fun _ h => absurd h List.not_mem_nil⟩
theorem okP_Pl_shiftOf : okP P_Pl_shiftOf := List.forall_mem_cons.mpr ⟨ok_Pl_shiftOf_0, fun _ h => absurd h List.not_mem_nil⟩
theorem okP_Pl_gather : okP P_Pl_gather := List.forall_mem_cons.mpr ⟨ok_Pl_gather_0, List.forall_mem_cons.mpr ⟨ok_Pl_gather_1, fun _ h => absurd h List.not_mem_nil⟩⟩
theorem okP_Pl_teamWith : okP P_Pl_teamWith := List.forall_mem_cons.mpr ⟨ok_Pl_teamWith_0, fun _ h => absurd h List.not_mem_nil⟩
theorem okP_Pl_find : okP P_Pl_find := List.forall_mem_cons.mpr ⟨ok_Pl_find_0, List.forall_mem_cons.mpr ⟨ok_Pl_find_1, List.forall_mem_cons.mpr ⟨ok_Pl_find_2, fun _ h => absurd h List.not_mem_nil⟩⟩⟩
theorem okP_Pl_start : okP P_Pl_start := List.forall_mem_cons.mpr ⟨ok_Pl_start_0, fun _ h => absurd h List.not_mem_nil⟩
theorem okP_Pl_costAtHand : okP P_Pl_costAtHand := List.forall_mem_cons.mpr ⟨ok_Pl_costAtHand_0, List.forall_mem_cons.mpr ⟨ok_Pl_costAtHand_1, List.forall_mem_cons.mpr ⟨ok_Pl_costAtHand_2, fun _ h => absurd h List.not_mem_nil⟩⟩⟩
theorem okP_Pl_indexOf : okP P_Pl_indexOf := List.forall_mem_cons.mpr ⟨ok_Pl_indexOf_0, fun _ h => absurd h List.not_mem_nil⟩
theorem okP_Pl_costInHaste : okP P_Pl_costInHaste := List.forall_mem_cons.mpr ⟨ok_Pl_costInHaste_0, List.forall_mem_cons.mpr ⟨ok_Pl_costInHaste_1, fun _ h => absurd h List.not_mem_nil⟩⟩
theorem okP_Pl_takeSoonest : okP P_Pl_takeSoonest := List.forall_mem_cons.mpr ⟨ok_Pl_takeSoonest_0, List.forall_mem_cons.mpr ⟨ok_Pl_takeSoonest_1, fun _ h => absurd h List.not_mem_nil⟩⟩
theorem okP_Pl_lengthen : okP P_Pl_lengthen := List.forall_mem_cons.mpr ⟨ok_Pl_lengthen_0, List.forall_mem_cons.mpr ⟨ok_Pl_lengthen_1, List.forall_mem_cons.mpr ⟨ok_Pl_lengthen_2, fun _ h => absurd h List.not_mem_nil⟩⟩⟩
theorem okP_Pl_putBehind : okP P_Pl_putBehind := List.forall_mem_cons.mpr ⟨ok_Pl_putBehind_0, List.forall_mem_cons.mpr ⟨ok_Pl_putBehind_1, List.forall_mem_cons.mpr ⟨ok_Pl_putBehind_2, List.forall_mem_cons.mpr ⟨ok_Pl_putBehind_3, fun _ h => absurd h List.not_mem_nil⟩⟩⟩⟩
theorem okP_Pl_isIdle : okP P_Pl_isIdle := List.forall_mem_cons.mpr ⟨ok_Pl_isIdle_0, List.forall_mem_cons.mpr ⟨ok_Pl_isIdle_1, List.forall_mem_cons.mpr ⟨ok_Pl_isIdle_2, fun _ h => absurd h List.not_mem_nil⟩⟩⟩
theorem okP_Pl_keepRow : okP P_Pl_keepRow := List.forall_mem_cons.mpr ⟨ok_Pl_keepRow_0, fun _ h => absurd h List.not_mem_nil⟩
theorem okP_Pl_share : okP P_Pl_share := List.forall_mem_cons.mpr ⟨ok_Pl_share_0, fun _ h => absurd h List.not_mem_nil⟩
theorem okP_Pl_shareOthers : okP P_Pl_shareOthers := List.forall_mem_cons.mpr ⟨ok_Pl_shareOthers_0, List.forall_mem_cons.mpr ⟨ok_Pl_shareOthers_1, List.forall_mem_cons.mpr ⟨ok_Pl_shareOthers_2, fun _ h => absurd h List.not_mem_nil⟩⟩⟩
theorem okP_Pl_isLikelier : okP P_Pl_isLikelier := List.forall_mem_cons.mpr ⟨ok_Pl_isLikelier_0, List.forall_mem_cons.mpr ⟨ok_Pl_isLikelier_1, fun _ h => absurd h List.not_mem_nil⟩⟩
theorem okP_Ro_init : okP P_Ro_init := List.forall_mem_cons.mpr ⟨ok_Ro_init_0, fun _ h => absurd h List.not_mem_nil⟩
theorem okP_Ro_tell : okP P_Ro_tell := List.forall_mem_cons.mpr ⟨ok_Ro_tell_0, fun _ h => absurd h List.not_mem_nil⟩
theorem okP_Ro_minutes : okP P_Ro_minutes := List.forall_mem_cons.mpr ⟨ok_Ro_minutes_0, fun _ h => absurd h List.not_mem_nil⟩
theorem okP_Te_init : okP P_Te_init := List.forall_mem_cons.mpr ⟨ok_Te_init_0, fun _ h => absurd h List.not_mem_nil⟩
theorem okP_Te_startDay : okP P_Te_startDay := List.forall_mem_cons.mpr ⟨ok_Te_startDay_0, fun _ h => absurd h List.not_mem_nil⟩
theorem okP_Te_rests : okP P_Te_rests := List.forall_mem_cons.mpr ⟨ok_Te_rests_0, fun _ h => absurd h List.not_mem_nil⟩
theorem okP_Te_rowAt : okP P_Te_rowAt := List.forall_mem_cons.mpr ⟨ok_Te_rowAt_0, fun _ h => absurd h List.not_mem_nil⟩
theorem okP_Te_hasInRow : okP P_Te_hasInRow := List.forall_mem_cons.mpr ⟨ok_Te_hasInRow_0, fun _ h => absurd h List.not_mem_nil⟩
theorem okP_Te_detail : okP P_Te_detail := List.forall_mem_cons.mpr ⟨ok_Te_detail_0, List.forall_mem_cons.mpr ⟨ok_Te_detail_1, fun _ h => absurd h List.not_mem_nil⟩⟩
theorem okP_Te_freeAt : okP P_Te_freeAt := List.forall_mem_cons.mpr ⟨ok_Te_freeAt_0, List.forall_mem_cons.mpr ⟨ok_Te_freeAt_1, fun _ h => absurd h List.not_mem_nil⟩⟩
theorem okP_Te_passMinute : okP P_Te_passMinute := List.forall_mem_cons.mpr ⟨ok_Te_passMinute_0, fun _ h => absurd h List.not_mem_nil⟩
theorem okP_Te_step : okP P_Te_step := List.forall_mem_cons.mpr ⟨ok_Te_step_0, List.forall_mem_cons.mpr ⟨ok_Te_step_1, List.forall_mem_cons.mpr ⟨ok_Te_step_2, fun _ h => absurd h List.not_mem_nil⟩⟩⟩
theorem okP_Te_jobAmong : okP P_Te_jobAmong := List.forall_mem_cons.mpr ⟨ok_Te_jobAmong_0, fun _ h => absurd h List.not_mem_nil⟩
theorem okP_Te_begin : okP P_Te_begin := List.forall_mem_cons.mpr ⟨ok_Te_begin_0, fun _ h => absurd h List.not_mem_nil⟩
theorem okP_Te_go : okP P_Te_go := List.forall_mem_cons.mpr ⟨ok_Te_go_0, List.forall_mem_cons.mpr ⟨ok_Te_go_1, List.forall_mem_cons.mpr ⟨ok_Te_go_2, fun _ h => absurd h List.not_mem_nil⟩⟩⟩
theorem okP_Tx_init : okP P_Tx_init := List.forall_mem_cons.mpr ⟨ok_Tx_init_0, fun _ h => absurd h List.not_mem_nil⟩
theorem okP_Tx_bytesOf : okP P_Tx_bytesOf := List.forall_mem_cons.mpr ⟨ok_Tx_bytesOf_0, fun _ h => absurd h List.not_mem_nil⟩
theorem okP_Tx_addBytes : okP P_Tx_addBytes := List.forall_mem_cons.mpr ⟨ok_Tx_addBytes_0, fun _ h => absurd h List.not_mem_nil⟩
theorem okP_Tx_isDigit : okP P_Tx_isDigit := List.forall_mem_cons.mpr ⟨ok_Tx_isDigit_0, fun _ h => absurd h List.not_mem_nil⟩
theorem okP_Tx_isLetter : okP P_Tx_isLetter := fun _ h => absurd h List.not_mem_nil
theorem okP_Tx_isPlusOrMinus : okP P_Tx_isPlusOrMinus := List.forall_mem_cons.mpr ⟨ok_Tx_isPlusOrMinus_0, fun _ h => absurd h List.not_mem_nil⟩
theorem okP_Tx_isTimesOrBy : okP P_Tx_isTimesOrBy := List.forall_mem_cons.mpr ⟨ok_Tx_isTimesOrBy_0, fun _ h => absurd h List.not_mem_nil⟩
theorem okP_Tx_isComparison : okP P_Tx_isComparison := List.forall_mem_cons.mpr ⟨ok_Tx_isComparison_0, fun _ h => absurd h List.not_mem_nil⟩
theorem okP_Tx_firstFault : okP P_Tx_firstFault := List.forall_mem_cons.mpr ⟨ok_Tx_firstFault_0, List.forall_mem_cons.mpr ⟨ok_Tx_firstFault_1, fun _ h => absurd h List.not_mem_nil⟩⟩
theorem okP_Tx_goesOnWith : okP P_Tx_goesOnWith := List.forall_mem_cons.mpr ⟨ok_Tx_goesOnWith_0, List.forall_mem_cons.mpr ⟨ok_Tx_goesOnWith_1, fun _ h => absurd h List.not_mem_nil⟩⟩
theorem okP_Tx_beginsAtom : okP P_Tx_beginsAtom := List.forall_mem_cons.mpr ⟨ok_Tx_beginsAtom_0, fun _ h => absurd h List.not_mem_nil⟩
theorem okP_Tx_followsAtom : okP P_Tx_followsAtom := List.forall_mem_cons.mpr ⟨ok_Tx_followsAtom_0, List.forall_mem_cons.mpr ⟨ok_Tx_followsAtom_1, fun _ h => absurd h List.not_mem_nil⟩⟩
theorem okP_Tx_partBehind : okP P_Tx_partBehind := List.forall_mem_cons.mpr ⟨ok_Tx_partBehind_0, List.forall_mem_cons.mpr ⟨ok_Tx_partBehind_1, fun _ h => absurd h List.not_mem_nil⟩⟩
theorem okP_Tx_coinsFor : okP P_Tx_coinsFor := List.forall_mem_cons.mpr ⟨ok_Tx_coinsFor_0, List.forall_mem_cons.mpr ⟨ok_Tx_coinsFor_1, List.forall_mem_cons.mpr ⟨ok_Tx_coinsFor_2, fun _ h => absurd h List.not_mem_nil⟩⟩⟩
theorem okP_Tx_compares : okP P_Tx_compares := List.forall_mem_cons.mpr ⟨ok_Tx_compares_0, fun _ h => absurd h List.not_mem_nil⟩
theorem okP_Tx_sign : okP P_Tx_sign := List.forall_mem_cons.mpr ⟨ok_Tx_sign_0, fun _ h => absurd h List.not_mem_nil⟩
theorem okP_Tx_takeSign : okP P_Tx_takeSign := List.forall_mem_cons.mpr ⟨ok_Tx_takeSign_0, fun _ h => absurd h List.not_mem_nil⟩
theorem okP_Tx_sumFor : okP P_Tx_sumFor := List.forall_mem_cons.mpr ⟨ok_Tx_sumFor_0, List.forall_mem_cons.mpr ⟨ok_Tx_sumFor_1, fun _ h => absurd h List.not_mem_nil⟩⟩
theorem okP_Tx_productFor : okP P_Tx_productFor := List.forall_mem_cons.mpr ⟨ok_Tx_productFor_0, List.forall_mem_cons.mpr ⟨ok_Tx_productFor_1, fun _ h => absurd h List.not_mem_nil⟩⟩
theorem okP_Tx_atomFor : okP P_Tx_atomFor := List.forall_mem_cons.mpr ⟨ok_Tx_atomFor_0, fun _ h => absurd h List.not_mem_nil⟩
theorem okP_Tx_number : okP P_Tx_number := List.forall_mem_cons.mpr ⟨ok_Tx_number_0, fun _ h => absurd h List.not_mem_nil⟩
theorem okP_Tx_letterFor : okP P_Tx_letterFor := List.forall_mem_cons.mpr ⟨ok_Tx_letterFor_0, List.forall_mem_cons.mpr ⟨ok_Tx_letterFor_1, List.forall_mem_cons.mpr ⟨ok_Tx_letterFor_2, fun _ h => absurd h List.not_mem_nil⟩⟩⟩
theorem okP_Tx_divided : okP P_Tx_divided := List.forall_mem_cons.mpr ⟨ok_Tx_divided_0, fun _ h => absurd h List.not_mem_nil⟩
theorem okP_Tx_bounded : okP P_Tx_bounded := List.forall_mem_cons.mpr ⟨ok_Tx_bounded_0, fun _ h => absurd h List.not_mem_nil⟩
theorem okP_Wa_init : okP P_Wa_init := List.forall_mem_cons.mpr ⟨ok_Wa_init_0, fun _ h => absurd h List.not_mem_nil⟩
theorem okP_Wa_hasAllTerms : okP P_Wa_hasAllTerms := List.forall_mem_cons.mpr ⟨ok_Wa_hasAllTerms_0, fun _ h => absurd h List.not_mem_nil⟩
theorem okP_Wa_keepTape : okP P_Wa_keepTape := List.forall_mem_cons.mpr ⟨ok_Wa_keepTape_0, List.forall_mem_cons.mpr ⟨ok_Wa_keepTape_1, fun _ h => absurd h List.not_mem_nil⟩⟩
theorem okP_Wa_termsFor : okP P_Wa_termsFor := List.forall_mem_cons.mpr ⟨ok_Wa_termsFor_0, List.forall_mem_cons.mpr ⟨ok_Wa_termsFor_1, fun _ h => absurd h List.not_mem_nil⟩⟩
theorem okP_Wa_coinsBy : okP P_Wa_coinsBy := List.forall_mem_cons.mpr ⟨ok_Wa_coinsBy_0, fun _ h => absurd h List.not_mem_nil⟩
theorem okP_Wa_dropDrafts : okP P_Wa_dropDrafts := List.forall_mem_cons.mpr ⟨ok_Wa_dropDrafts_0, fun _ h => absurd h List.not_mem_nil⟩
theorem okP_Wa_draft : okP P_Wa_draft := List.forall_mem_cons.mpr ⟨ok_Wa_draft_0, List.forall_mem_cons.mpr ⟨ok_Wa_draft_1, fun _ h => absurd h List.not_mem_nil⟩⟩
theorem okP_Wa_enterDrafts : okP P_Wa_enterDrafts := List.forall_mem_cons.mpr ⟨ok_Wa_enterDrafts_0, List.forall_mem_cons.mpr ⟨ok_Wa_enterDrafts_1, fun _ h => absurd h List.not_mem_nil⟩⟩
theorem okP_Wa_lineDetail : okP P_Wa_lineDetail := List.forall_mem_cons.mpr ⟨ok_Wa_lineDetail_0, List.forall_mem_cons.mpr ⟨ok_Wa_lineDetail_1, fun _ h => absurd h List.not_mem_nil⟩⟩
theorem okP_CY_init : okP P_CY_init := List.forall_mem_cons.mpr ⟨ok_CY_init_0, List.forall_mem_cons.mpr ⟨ok_CY_init_1, fun _ h => absurd h List.not_mem_nil⟩⟩
theorem okP_CY_cottage : okP P_CY_cottage := List.forall_mem_cons.mpr ⟨ok_CY_cottage_0, List.forall_mem_cons.mpr ⟨ok_CY_cottage_1, fun _ h => absurd h List.not_mem_nil⟩⟩
theorem okP_CY_rent : okP P_CY_rent := List.forall_mem_cons.mpr ⟨ok_CY_rent_0, fun _ h => absurd h List.not_mem_nil⟩
theorem okP_CY_book : okP P_CY_book := List.forall_mem_cons.mpr ⟨ok_CY_book_0, List.forall_mem_cons.mpr ⟨ok_CY_book_1, fun _ h => absurd h List.not_mem_nil⟩⟩
theorem okP_CY_cancel : okP P_CY_cancel := List.forall_mem_cons.mpr ⟨ok_CY_cancel_0, fun _ h => absurd h List.not_mem_nil⟩
theorem okP_CY_shut : okP P_CY_shut := List.forall_mem_cons.mpr ⟨ok_CY_shut_0, fun _ h => absurd h List.not_mem_nil⟩
theorem okP_CY_moves : okP P_CY_moves := List.forall_mem_cons.mpr ⟨ok_CY_moves_0, fun _ h => absurd h List.not_mem_nil⟩
theorem okP_CY_moved : okP P_CY_moved := List.forall_mem_cons.mpr ⟨ok_CY_moved_0, fun _ h => absurd h List.not_mem_nil⟩
theorem okP_CY_move : okP P_CY_move := List.forall_mem_cons.mpr ⟨ok_CY_move_0, fun _ h => absurd h List.not_mem_nil⟩
theorem okP_CY_booked : okP P_CY_booked := List.forall_mem_cons.mpr ⟨ok_CY_booked_0, fun _ h => absurd h List.not_mem_nil⟩
theorem okP_CY_taken : okP P_CY_taken := List.forall_mem_cons.mpr ⟨ok_CY_taken_0, List.forall_mem_cons.mpr ⟨ok_CY_taken_1, fun _ h => absurd h List.not_mem_nil⟩⟩
theorem okP_CY_team : okP P_CY_team := List.forall_mem_cons.mpr ⟨ok_CY_team_0, List.forall_mem_cons.mpr ⟨ok_CY_team_1, fun _ h => absurd h List.not_mem_nil⟩⟩
theorem okP_CY_way : okP P_CY_way := List.forall_mem_cons.mpr ⟨ok_CY_way_0, List.forall_mem_cons.mpr ⟨ok_CY_way_1, fun _ h => absurd h List.not_mem_nil⟩⟩
theorem okP_CY_rest : okP P_CY_rest := List.forall_mem_cons.mpr ⟨ok_CY_rest_0, fun _ h => absurd h List.not_mem_nil⟩
theorem okP_CY_openDay : okP P_CY_openDay := List.forall_mem_cons.mpr ⟨ok_CY_openDay_0, List.forall_mem_cons.mpr ⟨ok_CY_openDay_1, fun _ h => absurd h List.not_mem_nil⟩⟩
theorem okP_CY_closeDay : okP P_CY_closeDay := List.forall_mem_cons.mpr ⟨ok_CY_closeDay_0, fun _ h => absurd h List.not_mem_nil⟩
theorem okP_CY_late : okP P_CY_late := List.forall_mem_cons.mpr ⟨ok_CY_late_0, fun _ h => absurd h List.not_mem_nil⟩
theorem okP_CY_state : okP P_CY_state := List.forall_mem_cons.mpr ⟨ok_CY_state_0, fun _ h => absurd h List.not_mem_nil⟩
theorem okP_CY_best : okP P_CY_best := List.forall_mem_cons.mpr ⟨ok_CY_best_0, fun _ h => absurd h List.not_mem_nil⟩
theorem okP_CY_plan : okP P_CY_plan := List.forall_mem_cons.mpr ⟨ok_CY_plan_0, fun _ h => absurd h List.not_mem_nil⟩
theorem okP_CY_row : okP P_CY_row := List.forall_mem_cons.mpr ⟨ok_CY_row_0, fun _ h => absurd h List.not_mem_nil⟩
theorem okP_CY_tick : okP P_CY_tick := List.forall_mem_cons.mpr ⟨ok_CY_tick_0, List.forall_mem_cons.mpr ⟨ok_CY_tick_1, fun _ h => absurd h List.not_mem_nil⟩⟩
theorem okP_CY_about : okP P_CY_about := List.forall_mem_cons.mpr ⟨ok_CY_about_0, fun _ h => absurd h List.not_mem_nil⟩
theorem okP_CY_job : okP P_CY_job := List.forall_mem_cons.mpr ⟨ok_CY_job_0, fun _ h => absurd h List.not_mem_nil⟩
theorem okP_CY_linen : okP P_CY_linen := List.forall_mem_cons.mpr ⟨ok_CY_linen_0, fun _ h => absurd h List.not_mem_nil⟩
theorem okP_CY_sets : okP P_CY_sets := List.forall_mem_cons.mpr ⟨ok_CY_sets_0, fun _ h => absurd h List.not_mem_nil⟩
theorem okP_CY_fewest : okP P_CY_fewest := List.forall_mem_cons.mpr ⟨ok_CY_fewest_0, fun _ h => absurd h List.not_mem_nil⟩
theorem okP_CY_feed : okP P_CY_feed := List.forall_mem_cons.mpr ⟨ok_CY_feed_0, List.forall_mem_cons.mpr ⟨ok_CY_feed_1, fun _ h => absurd h List.not_mem_nil⟩⟩
theorem okP_CY_end : okP P_CY_end := List.forall_mem_cons.mpr ⟨ok_CY_end_0, fun _ h => absurd h List.not_mem_nil⟩
theorem okP_CY_fault : okP P_CY_fault := List.forall_mem_cons.mpr ⟨ok_CY_fault_0, fun _ h => absurd h List.not_mem_nil⟩
theorem okP_CY_terms : okP P_CY_terms := List.forall_mem_cons.mpr ⟨ok_CY_terms_0, fun _ h => absurd h List.not_mem_nil⟩
theorem okP_CY_force : okP P_CY_force := List.forall_mem_cons.mpr ⟨ok_CY_force_0, fun _ h => absurd h List.not_mem_nil⟩
theorem okP_CY_pay : okP P_CY_pay := List.forall_mem_cons.mpr ⟨ok_CY_pay_0, fun _ h => absurd h List.not_mem_nil⟩
theorem okP_CY_line : okP P_CY_line := List.forall_mem_cons.mpr ⟨ok_CY_line_0, fun _ h => absurd h List.not_mem_nil⟩
theorem okP_CY_look : okP P_CY_look := List.forall_mem_cons.mpr ⟨ok_CY_look_0, List.forall_mem_cons.mpr ⟨ok_CY_look_1, fun _ h => absurd h List.not_mem_nil⟩⟩
theorem okP_CY_worth : okP P_CY_worth := List.forall_mem_cons.mpr ⟨ok_CY_worth_0, fun _ h => absurd h List.not_mem_nil⟩
theorem okP_CY_lost : okP P_CY_lost := List.forall_mem_cons.mpr ⟨ok_CY_lost_0, fun _ h => absurd h List.not_mem_nil⟩
theorem okP_CY_kept : okP P_CY_kept := List.forall_mem_cons.mpr ⟨ok_CY_kept_0, fun _ h => absurd h List.not_mem_nil⟩
theorem okP_CY_complain : okP P_CY_complain := List.forall_mem_cons.mpr ⟨ok_CY_complain_0, List.forall_mem_cons.mpr ⟨ok_CY_complain_1, fun _ h => absurd h List.not_mem_nil⟩⟩
theorem okP_CY_blamed : okP P_CY_blamed := List.forall_mem_cons.mpr ⟨ok_CY_blamed_0, fun _ h => absurd h List.not_mem_nil⟩
theorem okP_CY_draw : okP P_CY_draw := List.forall_mem_cons.mpr ⟨ok_CY_draw_0, List.forall_mem_cons.mpr ⟨ok_CY_draw_1, fun _ h => absurd h List.not_mem_nil⟩⟩
theorem okP_CY_code : okP P_CY_code := List.forall_mem_cons.mpr ⟨ok_CY_code_0, fun _ h => absurd h List.not_mem_nil⟩
theorem okP_CY_door : okP P_CY_door := List.forall_mem_cons.mpr ⟨ok_CY_door_0, List.forall_mem_cons.mpr ⟨ok_CY_door_1, List.forall_mem_cons.mpr ⟨ok_CY_door_2, fun _ h => absurd h List.not_mem_nil⟩⟩⟩
theorem okP_CY_count : okP P_CY_count := List.forall_mem_cons.mpr ⟨ok_CY_count_0, List.forall_mem_cons.mpr ⟨ok_CY_count_1, List.forall_mem_cons.mpr ⟨ok_CY_count_2, fun _ h => absurd h List.not_mem_nil⟩⟩⟩
theorem okP_CY_within : okP P_CY_within := List.forall_mem_cons.mpr ⟨ok_CY_within_0, fun _ h => absurd h List.not_mem_nil⟩
theorem okP_CY_isWeek : okP P_CY_isWeek := List.forall_mem_cons.mpr ⟨ok_CY_isWeek_0, fun _ h => absurd h List.not_mem_nil⟩
theorem okP_CY_isToCome : okP P_CY_isToCome := List.forall_mem_cons.mpr ⟨ok_CY_isToCome_0, fun _ h => absurd h List.not_mem_nil⟩
theorem okP_CY_cottageAt : okP P_CY_cottageAt := List.forall_mem_cons.mpr ⟨ok_CY_cottageAt_0, fun _ h => absurd h List.not_mem_nil⟩
theorem okP_CY_bookingAt : okP P_CY_bookingAt := List.forall_mem_cons.mpr ⟨ok_CY_bookingAt_0, fun _ h => absurd h List.not_mem_nil⟩
theorem okP_CY_begunAt : okP P_CY_begunAt := List.forall_mem_cons.mpr ⟨ok_CY_begunAt_0, fun _ h => absurd h List.not_mem_nil⟩
theorem okP_CY_teamAt : okP P_CY_teamAt := List.forall_mem_cons.mpr ⟨ok_CY_teamAt_0, fun _ h => absurd h List.not_mem_nil⟩
theorem okP_CY_stayOf : okP P_CY_stayOf := List.forall_mem_cons.mpr ⟨ok_CY_stayOf_0, fun _ h => absurd h List.not_mem_nil⟩
theorem okP_CY_jobOf : okP P_CY_jobOf := List.forall_mem_cons.mpr ⟨ok_CY_jobOf_0, fun _ h => absurd h List.not_mem_nil⟩
theorem okP_CY_jobToBegin : okP P_CY_jobToBegin := List.forall_mem_cons.mpr ⟨ok_CY_jobToBegin_0, fun _ h => absurd h List.not_mem_nil⟩
theorem okP_CY_isLet : okP P_CY_isLet := List.forall_mem_cons.mpr ⟨ok_CY_isLet_0, fun _ h => absurd h List.not_mem_nil⟩
theorem okP_CY_findMoves : okP P_CY_findMoves := List.forall_mem_cons.mpr ⟨ok_CY_findMoves_0, List.forall_mem_cons.mpr ⟨ok_CY_findMoves_1, List.forall_mem_cons.mpr ⟨ok_CY_findMoves_2, fun _ h => absurd h List.not_mem_nil⟩⟩⟩
theorem okP_CY_beginStays : okP P_CY_beginStays := List.forall_mem_cons.mpr ⟨ok_CY_beginStays_0, List.forall_mem_cons.mpr ⟨ok_CY_beginStays_1, fun _ h => absurd h List.not_mem_nil⟩⟩
theorem okP_CY_makeJobs : okP P_CY_makeJobs := List.forall_mem_cons.mpr ⟨ok_CY_makeJobs_0, List.forall_mem_cons.mpr ⟨ok_CY_makeJobs_1, fun _ h => absurd h List.not_mem_nil⟩⟩
theorem okP_CY_guestsWhoCome : okP P_CY_guestsWhoCome := List.forall_mem_cons.mpr ⟨ok_CY_guestsWhoCome_0, fun _ h => absurd h List.not_mem_nil⟩
theorem okP_CY_giveCodes : okP P_CY_giveCodes := List.forall_mem_cons.mpr ⟨ok_CY_giveCodes_0, fun _ h => absurd h List.not_mem_nil⟩
theorem okP_CY_nextCode : okP P_CY_nextCode := List.forall_mem_cons.mpr ⟨ok_CY_nextCode_0, fun _ h => absurd h List.not_mem_nil⟩
theorem okP_CY_findPlan : okP P_CY_findPlan := List.forall_mem_cons.mpr ⟨ok_CY_findPlan_0, List.forall_mem_cons.mpr ⟨ok_CY_findPlan_1, fun _ h => absurd h List.not_mem_nil⟩⟩
theorem okP_CY_draftLines : okP P_CY_draftLines := List.forall_mem_cons.mpr ⟨ok_CY_draftLines_0, List.forall_mem_cons.mpr ⟨ok_CY_draftLines_1, fun _ h => absurd h List.not_mem_nil⟩⟩
theorem okP_CY_teamToBlame : okP P_CY_teamToBlame := List.forall_mem_cons.mpr ⟨ok_CY_teamToBlame_0, List.forall_mem_cons.mpr ⟨ok_CY_teamToBlame_1, fun _ h => absurd h List.not_mem_nil⟩⟩
theorem okP_CY_readyJobs : okP P_CY_readyJobs := List.forall_mem_cons.mpr ⟨ok_CY_readyJobs_0, fun _ h => absurd h List.not_mem_nil⟩
theorem okP_CY_weightOf : okP P_CY_weightOf := List.forall_mem_cons.mpr ⟨ok_CY_weightOf_0, List.forall_mem_cons.mpr ⟨ok_CY_weightOf_1, fun _ h => absurd h List.not_mem_nil⟩⟩
theorem okP_CY_drawOne : okP P_CY_drawOne := List.forall_mem_cons.mpr ⟨ok_CY_drawOne_0, List.forall_mem_cons.mpr ⟨ok_CY_drawOne_1, fun _ h => absurd h List.not_mem_nil⟩⟩
theorem okP_CY_bookingsInForce : okP P_CY_bookingsInForce := List.forall_mem_cons.mpr ⟨ok_CY_bookingsInForce_0, fun _ h => absurd h List.not_mem_nil⟩
theorem okP_CY_jobsLeftOut : okP P_CY_jobsLeftOut := List.forall_mem_cons.mpr ⟨ok_CY_jobsLeftOut_0, fun _ h => absurd h List.not_mem_nil⟩
theorem okP_CY_lateMinutes : okP P_CY_lateMinutes := List.forall_mem_cons.mpr ⟨ok_CY_lateMinutes_0, fun _ h => absurd h List.not_mem_nil⟩
theorem okP_Mo_init : okP P_Mo_init := List.forall_mem_cons.mpr ⟨ok_Mo_init_0, List.forall_mem_cons.mpr ⟨ok_Mo_init_1, List.forall_mem_cons.mpr ⟨ok_Mo_init_2, List.forall_mem_cons.mpr ⟨ok_Mo_init_3, List.forall_mem_cons.mpr ⟨ok_Mo_init_4, List.forall_mem_cons.mpr ⟨ok_Mo_init_5, List.forall_mem_cons.mpr ⟨ok_Mo_init_6, List.forall_mem_cons.mpr ⟨ok_Mo_init_7, List.forall_mem_cons.mpr ⟨ok_Mo_init_8, fun _ h => absurd h List.not_mem_nil⟩⟩⟩⟩⟩⟩⟩⟩⟩
theorem okP_Mo_thrown : okP P_Mo_thrown := List.forall_mem_cons.mpr ⟨ok_Mo_thrown_0, fun _ h => absurd h List.not_mem_nil⟩
theorem okP_Mo_isIn : okP P_Mo_isIn := List.forall_mem_cons.mpr ⟨ok_Mo_isIn_0, fun _ h => absurd h List.not_mem_nil⟩
theorem okP_Mo_isCottage : okP P_Mo_isCottage := List.forall_mem_cons.mpr ⟨ok_Mo_isCottage_0, fun _ h => absurd h List.not_mem_nil⟩
theorem okP_Mo_isBooking : okP P_Mo_isBooking := List.forall_mem_cons.mpr ⟨ok_Mo_isBooking_0, fun _ h => absurd h List.not_mem_nil⟩
theorem okP_Mo_isAhead : okP P_Mo_isAhead := List.forall_mem_cons.mpr ⟨ok_Mo_isAhead_0, fun _ h => absurd h List.not_mem_nil⟩
theorem okP_Mo_cottage : okP P_Mo_cottage := List.forall_mem_cons.mpr ⟨ok_Mo_cottage_0, List.forall_mem_cons.mpr ⟨ok_Mo_cottage_1, fun _ h => absurd h List.not_mem_nil⟩⟩
theorem okP_Mo_rent : okP P_Mo_rent := List.forall_mem_cons.mpr ⟨ok_Mo_rent_0, fun _ h => absurd h List.not_mem_nil⟩
theorem okP_Mo_inForce : okP P_Mo_inForce := List.forall_mem_cons.mpr ⟨ok_Mo_inForce_0, fun _ h => absurd h List.not_mem_nil⟩
theorem okP_Mo_book : okP P_Mo_book := List.forall_mem_cons.mpr ⟨ok_Mo_book_0, List.forall_mem_cons.mpr ⟨ok_Mo_book_1, List.forall_mem_cons.mpr ⟨ok_Mo_book_2, fun _ h => absurd h List.not_mem_nil⟩⟩⟩
theorem okP_Mo_cancel : okP P_Mo_cancel := List.forall_mem_cons.mpr ⟨ok_Mo_cancel_0, fun _ h => absurd h List.not_mem_nil⟩
theorem okP_Mo_shut : okP P_Mo_shut := List.forall_mem_cons.mpr ⟨ok_Mo_shut_0, fun _ h => absurd h List.not_mem_nil⟩
theorem okP_Mo_tryMoves : okP P_Mo_tryMoves := List.forall_mem_cons.mpr ⟨ok_Mo_tryMoves_0, List.forall_mem_cons.mpr ⟨ok_Mo_tryMoves_1, List.forall_mem_cons.mpr ⟨ok_Mo_tryMoves_2, List.forall_mem_cons.mpr ⟨ok_Mo_tryMoves_3, List.forall_mem_cons.mpr ⟨ok_Mo_tryMoves_4, fun _ h => absurd h List.not_mem_nil⟩⟩⟩⟩⟩
theorem okP_Mo_findMoves : okP P_Mo_findMoves := List.forall_mem_cons.mpr ⟨ok_Mo_findMoves_0, List.forall_mem_cons.mpr ⟨ok_Mo_findMoves_1, fun _ h => absurd h List.not_mem_nil⟩⟩
theorem okP_Mo_moves : okP P_Mo_moves := List.forall_mem_cons.mpr ⟨ok_Mo_moves_0, fun _ h => absurd h List.not_mem_nil⟩
theorem okP_Mo_moved : okP P_Mo_moved := List.forall_mem_cons.mpr ⟨ok_Mo_moved_0, fun _ h => absurd h List.not_mem_nil⟩
theorem okP_Mo_move : okP P_Mo_move := List.forall_mem_cons.mpr ⟨ok_Mo_move_0, List.forall_mem_cons.mpr ⟨ok_Mo_move_1, fun _ h => absurd h List.not_mem_nil⟩⟩
theorem okP_Mo_booked : okP P_Mo_booked := List.forall_mem_cons.mpr ⟨ok_Mo_booked_0, List.forall_mem_cons.mpr ⟨ok_Mo_booked_1, List.forall_mem_cons.mpr ⟨ok_Mo_booked_2, fun _ h => absurd h List.not_mem_nil⟩⟩⟩
theorem okP_Mo_taken : okP P_Mo_taken := List.forall_mem_cons.mpr ⟨ok_Mo_taken_0, List.forall_mem_cons.mpr ⟨ok_Mo_taken_1, fun _ h => absurd h List.not_mem_nil⟩⟩
theorem okP_Mo_team : okP P_Mo_team := List.forall_mem_cons.mpr ⟨ok_Mo_team_0, fun _ h => absurd h List.not_mem_nil⟩
theorem okP_Mo_way : okP P_Mo_way := List.forall_mem_cons.mpr ⟨ok_Mo_way_0, List.forall_mem_cons.mpr ⟨ok_Mo_way_1, fun _ h => absurd h List.not_mem_nil⟩⟩
theorem okP_Mo_rest : okP P_Mo_rest := List.forall_mem_cons.mpr ⟨ok_Mo_rest_0, fun _ h => absurd h List.not_mem_nil⟩
theorem okP_Mo_job0 : okP P_Mo_job0 := List.forall_mem_cons.mpr ⟨ok_Mo_job0_0, fun _ h => absurd h List.not_mem_nil⟩
theorem okP_Mo_stay : okP P_Mo_stay := List.forall_mem_cons.mpr ⟨ok_Mo_stay_0, fun _ h => absurd h List.not_mem_nil⟩
theorem okP_Mo_openDay : okP P_Mo_openDay := List.forall_mem_cons.mpr ⟨ok_Mo_openDay_0, List.forall_mem_cons.mpr ⟨ok_Mo_openDay_1, List.forall_mem_cons.mpr ⟨ok_Mo_openDay_2, List.forall_mem_cons.mpr ⟨ok_Mo_openDay_3, List.forall_mem_cons.mpr ⟨ok_Mo_openDay_4, List.forall_mem_cons.mpr ⟨ok_Mo_openDay_5, List.forall_mem_cons.mpr ⟨ok_Mo_openDay_6, List.forall_mem_cons.mpr ⟨ok_Mo_openDay_7, fun _ h => absurd h List.not_mem_nil⟩⟩⟩⟩⟩⟩⟩⟩
theorem okP_Mo_isOpenJob : okP P_Mo_isOpenJob := List.forall_mem_cons.mpr ⟨ok_Mo_isOpenJob_0, fun _ h => absurd h List.not_mem_nil⟩
theorem okP_Mo_late : okP P_Mo_late := List.forall_mem_cons.mpr ⟨ok_Mo_late_0, fun _ h => absurd h List.not_mem_nil⟩
theorem okP_Mo_state : okP P_Mo_state := List.forall_mem_cons.mpr ⟨ok_Mo_state_0, fun _ h => absurd h List.not_mem_nil⟩
theorem okP_Mo_minutesTo : okP P_Mo_minutesTo := List.forall_mem_cons.mpr ⟨ok_Mo_minutesTo_0, fun _ h => absurd h List.not_mem_nil⟩
theorem okP_Mo_wayOf : okP P_Mo_wayOf := List.forall_mem_cons.mpr ⟨ok_Mo_wayOf_0, fun _ h => absurd h List.not_mem_nil⟩
theorem okP_Mo_setsBehind : okP P_Mo_setsBehind := List.forall_mem_cons.mpr ⟨ok_Mo_setsBehind_0, fun _ h => absurd h List.not_mem_nil⟩
theorem okP_Mo_inRow : okP P_Mo_inRow := List.forall_mem_cons.mpr ⟨ok_Mo_inRow_0, fun _ h => absurd h List.not_mem_nil⟩
theorem okP_Mo_isWorse : okP P_Mo_isWorse := List.forall_mem_cons.mpr ⟨ok_Mo_isWorse_0, fun _ h => absurd h List.not_mem_nil⟩
theorem okP_Mo_tryRows : okP P_Mo_tryRows := List.forall_mem_cons.mpr ⟨ok_Mo_tryRows_0, List.forall_mem_cons.mpr ⟨ok_Mo_tryRows_1, List.forall_mem_cons.mpr ⟨ok_Mo_tryRows_2, List.forall_mem_cons.mpr ⟨ok_Mo_tryRows_3, List.forall_mem_cons.mpr ⟨ok_Mo_tryRows_4, List.forall_mem_cons.mpr ⟨ok_Mo_tryRows_5, List.forall_mem_cons.mpr ⟨ok_Mo_tryRows_6, fun _ h => absurd h List.not_mem_nil⟩⟩⟩⟩⟩⟩⟩
theorem okP_Mo_startTime : okP P_Mo_startTime := List.forall_mem_cons.mpr ⟨ok_Mo_startTime_0, List.forall_mem_cons.mpr ⟨ok_Mo_startTime_1, fun _ h => absurd h List.not_mem_nil⟩⟩
theorem okP_Mo_findPlan : okP P_Mo_findPlan := List.forall_mem_cons.mpr ⟨ok_Mo_findPlan_0, List.forall_mem_cons.mpr ⟨ok_Mo_findPlan_1, List.forall_mem_cons.mpr ⟨ok_Mo_findPlan_2, List.forall_mem_cons.mpr ⟨ok_Mo_findPlan_3, fun _ h => absurd h List.not_mem_nil⟩⟩⟩⟩
theorem okP_Mo_best : okP P_Mo_best := List.forall_mem_cons.mpr ⟨ok_Mo_best_0, fun _ h => absurd h List.not_mem_nil⟩
theorem okP_Mo_plan : okP P_Mo_plan := List.forall_mem_cons.mpr ⟨ok_Mo_plan_0, fun _ h => absurd h List.not_mem_nil⟩
theorem okP_Mo_isTeam : okP P_Mo_isTeam := List.forall_mem_cons.mpr ⟨ok_Mo_isTeam_0, fun _ h => absurd h List.not_mem_nil⟩
theorem okP_Mo_row : okP P_Mo_row := List.forall_mem_cons.mpr ⟨ok_Mo_row_0, fun _ h => absurd h List.not_mem_nil⟩
theorem okP_Mo_goesOn : okP P_Mo_goesOn := List.forall_mem_cons.mpr ⟨ok_Mo_goesOn_0, List.forall_mem_cons.mpr ⟨ok_Mo_goesOn_1, List.forall_mem_cons.mpr ⟨ok_Mo_goesOn_2, List.forall_mem_cons.mpr ⟨ok_Mo_goesOn_3, List.forall_mem_cons.mpr ⟨ok_Mo_goesOn_4, List.forall_mem_cons.mpr ⟨ok_Mo_goesOn_5, fun _ h => absurd h List.not_mem_nil⟩⟩⟩⟩⟩⟩
theorem okP_Mo_tick : okP P_Mo_tick := List.forall_mem_cons.mpr ⟨ok_Mo_tick_0, List.forall_mem_cons.mpr ⟨ok_Mo_tick_1, fun _ h => absurd h List.not_mem_nil⟩⟩
theorem okP_Mo_about : okP P_Mo_about := List.forall_mem_cons.mpr ⟨ok_Mo_about_0, List.forall_mem_cons.mpr ⟨ok_Mo_about_1, fun _ h => absurd h List.not_mem_nil⟩⟩
theorem okP_Mo_isJobOf : okP P_Mo_isJobOf := List.forall_mem_cons.mpr ⟨ok_Mo_isJobOf_0, fun _ h => absurd h List.not_mem_nil⟩
theorem okP_Mo_lateOf : okP P_Mo_lateOf := List.forall_mem_cons.mpr ⟨ok_Mo_lateOf_0, fun _ h => absurd h List.not_mem_nil⟩
theorem okP_Mo_job1 : okP P_Mo_job1 := List.forall_mem_cons.mpr ⟨ok_Mo_job1_0, List.forall_mem_cons.mpr ⟨ok_Mo_job1_1, List.forall_mem_cons.mpr ⟨ok_Mo_job1_2, fun _ h => absurd h List.not_mem_nil⟩⟩⟩
theorem okP_Mo_linen : okP P_Mo_linen := List.forall_mem_cons.mpr ⟨ok_Mo_linen_0, fun _ h => absurd h List.not_mem_nil⟩
theorem okP_Mo_sets : okP P_Mo_sets := List.forall_mem_cons.mpr ⟨ok_Mo_sets_0, List.forall_mem_cons.mpr ⟨ok_Mo_sets_1, fun _ h => absurd h List.not_mem_nil⟩⟩
theorem okP_Mo_isEnough : okP P_Mo_isEnough := List.forall_mem_cons.mpr ⟨ok_Mo_isEnough_0, List.forall_mem_cons.mpr ⟨ok_Mo_isEnough_1, fun _ h => absurd h List.not_mem_nil⟩⟩
theorem okP_Mo_fewest : okP P_Mo_fewest := List.forall_mem_cons.mpr ⟨ok_Mo_fewest_0, fun _ h => absurd h List.not_mem_nil⟩
theorem okP_Mo_closeDay : okP P_Mo_closeDay := List.forall_mem_cons.mpr ⟨ok_Mo_closeDay_0, List.forall_mem_cons.mpr ⟨ok_Mo_closeDay_1, List.forall_mem_cons.mpr ⟨ok_Mo_closeDay_2, List.forall_mem_cons.mpr ⟨ok_Mo_closeDay_3, List.forall_mem_cons.mpr ⟨ok_Mo_closeDay_4, List.forall_mem_cons.mpr ⟨ok_Mo_closeDay_5, fun _ h => absurd h List.not_mem_nil⟩⟩⟩⟩⟩⟩
theorem okP_Mo_line : okP P_Mo_line := List.forall_mem_cons.mpr ⟨ok_Mo_line_0, fun _ h => absurd h List.not_mem_nil⟩
theorem okP_Mo_bytesIn : okP P_Mo_bytesIn := List.forall_mem_cons.mpr ⟨ok_Mo_bytesIn_0, fun _ h => absurd h List.not_mem_nil⟩
theorem okP_Mo_put : okP P_Mo_put := List.forall_mem_cons.mpr ⟨ok_Mo_put_0, fun _ h => absurd h List.not_mem_nil⟩
theorem okP_Mo_feed : okP P_Mo_feed := List.forall_mem_cons.mpr ⟨ok_Mo_feed_0, List.forall_mem_cons.mpr ⟨ok_Mo_feed_1, fun _ h => absurd h List.not_mem_nil⟩⟩
theorem okP_Mo_end : okP P_Mo_end := List.forall_mem_cons.mpr ⟨ok_Mo_end_0, fun _ h => absurd h List.not_mem_nil⟩
theorem okP_Mo_look0 : okP P_Mo_look0 := List.forall_mem_cons.mpr ⟨ok_Mo_look0_0, List.forall_mem_cons.mpr ⟨ok_Mo_look0_1, fun _ h => absurd h List.not_mem_nil⟩⟩
theorem okP_Mo_stop : okP P_Mo_stop := List.forall_mem_cons.mpr ⟨ok_Mo_stop_0, fun _ h => absurd h List.not_mem_nil⟩
theorem okP_Mo_bound : okP P_Mo_bound := List.forall_mem_cons.mpr ⟨ok_Mo_bound_0, fun _ h => absurd h List.not_mem_nil⟩
theorem okP_Mo_isDigit : okP P_Mo_isDigit := List.forall_mem_cons.mpr ⟨ok_Mo_isDigit_0, fun _ h => absurd h List.not_mem_nil⟩
theorem okP_Mo_letter : okP P_Mo_letter := List.forall_mem_cons.mpr ⟨ok_Mo_letter_0, List.forall_mem_cons.mpr ⟨ok_Mo_letter_1, fun _ h => absurd h List.not_mem_nil⟩⟩
theorem okP_Mo_atom : okP P_Mo_atom := List.forall_mem_cons.mpr ⟨ok_Mo_atom_0, List.forall_mem_cons.mpr ⟨ok_Mo_atom_1, List.forall_mem_cons.mpr ⟨ok_Mo_atom_2, List.forall_mem_cons.mpr ⟨ok_Mo_atom_3, fun _ h => absurd h List.not_mem_nil⟩⟩⟩⟩
theorem okP_Mo_product : okP P_Mo_product := List.forall_mem_cons.mpr ⟨ok_Mo_product_0, List.forall_mem_cons.mpr ⟨ok_Mo_product_1, fun _ h => absurd h List.not_mem_nil⟩⟩
theorem okP_Mo_sums : okP P_Mo_sums := List.forall_mem_cons.mpr ⟨ok_Mo_sums_0, List.forall_mem_cons.mpr ⟨ok_Mo_sums_1, fun _ h => absurd h List.not_mem_nil⟩⟩
theorem okP_Mo_isSign : okP P_Mo_isSign := List.forall_mem_cons.mpr ⟨ok_Mo_isSign_0, fun _ h => absurd h List.not_mem_nil⟩
theorem okP_Mo_holds : okP P_Mo_holds := List.forall_mem_cons.mpr ⟨ok_Mo_holds_0, List.forall_mem_cons.mpr ⟨ok_Mo_holds_1, fun _ h => absurd h List.not_mem_nil⟩⟩
theorem okP_Mo_clause : okP P_Mo_clause := List.forall_mem_cons.mpr ⟨ok_Mo_clause_0, List.forall_mem_cons.mpr ⟨ok_Mo_clause_1, List.forall_mem_cons.mpr ⟨ok_Mo_clause_2, fun _ h => absurd h List.not_mem_nil⟩⟩⟩
theorem okP_Mo_goThrough : okP P_Mo_goThrough := List.forall_mem_cons.mpr ⟨ok_Mo_goThrough_0, List.forall_mem_cons.mpr ⟨ok_Mo_goThrough_1, fun _ h => absurd h List.not_mem_nil⟩⟩
theorem okP_Mo_fault : okP P_Mo_fault := List.forall_mem_cons.mpr ⟨ok_Mo_fault_0, fun _ h => absurd h List.not_mem_nil⟩
theorem okP_Mo_terms : okP P_Mo_terms := List.forall_mem_cons.mpr ⟨ok_Mo_terms_0, List.forall_mem_cons.mpr ⟨ok_Mo_terms_1, List.forall_mem_cons.mpr ⟨ok_Mo_terms_2, fun _ h => absurd h List.not_mem_nil⟩⟩⟩
theorem okP_Mo_termsFor : okP P_Mo_termsFor := List.forall_mem_cons.mpr ⟨ok_Mo_termsFor_0, List.forall_mem_cons.mpr ⟨ok_Mo_termsFor_1, fun _ h => absurd h List.not_mem_nil⟩⟩
theorem okP_Mo_force : okP P_Mo_force := List.forall_mem_cons.mpr ⟨ok_Mo_force_0, fun _ h => absurd h List.not_mem_nil⟩
theorem okP_Mo_payBy : okP P_Mo_payBy := List.forall_mem_cons.mpr ⟨ok_Mo_payBy_0, fun _ h => absurd h List.not_mem_nil⟩
theorem okP_Mo_payFor : okP P_Mo_payFor := List.forall_mem_cons.mpr ⟨ok_Mo_payFor_0, fun _ h => absurd h List.not_mem_nil⟩
theorem okP_Mo_pay : okP P_Mo_pay := List.forall_mem_cons.mpr ⟨ok_Mo_pay_0, fun _ h => absurd h List.not_mem_nil⟩
theorem okP_Mo_enter : okP P_Mo_enter := List.forall_mem_cons.mpr ⟨ok_Mo_enter_0, List.forall_mem_cons.mpr ⟨ok_Mo_enter_1, fun _ h => absurd h List.not_mem_nil⟩⟩
theorem okP_Mo_look1 : okP P_Mo_look1 := List.forall_mem_cons.mpr ⟨ok_Mo_look1_0, List.forall_mem_cons.mpr ⟨ok_Mo_look1_1, fun _ h => absurd h List.not_mem_nil⟩⟩
theorem okP_Mo_worth : okP P_Mo_worth := List.forall_mem_cons.mpr ⟨ok_Mo_worth_0, fun _ h => absurd h List.not_mem_nil⟩
theorem okP_Mo_beside : okP P_Mo_beside := List.forall_mem_cons.mpr ⟨ok_Mo_beside_0, fun _ h => absurd h List.not_mem_nil⟩
theorem okP_Mo_lostOf : okP P_Mo_lostOf := List.forall_mem_cons.mpr ⟨ok_Mo_lostOf_0, List.forall_mem_cons.mpr ⟨ok_Mo_lostOf_1, fun _ h => absurd h List.not_mem_nil⟩⟩
theorem okP_Mo_isStay : okP P_Mo_isStay := List.forall_mem_cons.mpr ⟨ok_Mo_isStay_0, fun _ h => absurd h List.not_mem_nil⟩
theorem okP_Mo_lost : okP P_Mo_lost := List.forall_mem_cons.mpr ⟨ok_Mo_lost_0, fun _ h => absurd h List.not_mem_nil⟩
theorem okP_Mo_kept : okP P_Mo_kept := List.forall_mem_cons.mpr ⟨ok_Mo_kept_0, fun _ h => absurd h List.not_mem_nil⟩
theorem okP_Mo_complain : okP P_Mo_complain := List.forall_mem_cons.mpr ⟨ok_Mo_complain_0, List.forall_mem_cons.mpr ⟨ok_Mo_complain_1, List.forall_mem_cons.mpr ⟨ok_Mo_complain_2, fun _ h => absurd h List.not_mem_nil⟩⟩⟩
theorem okP_Mo_blamed : okP P_Mo_blamed := List.forall_mem_cons.mpr ⟨ok_Mo_blamed_0, fun _ h => absurd h List.not_mem_nil⟩
theorem okP_Mo_weight : okP P_Mo_weight := List.forall_mem_cons.mpr ⟨ok_Mo_weight_0, fun _ h => absurd h List.not_mem_nil⟩
theorem okP_Mo_draw : okP P_Mo_draw := List.forall_mem_cons.mpr ⟨ok_Mo_draw_0, List.forall_mem_cons.mpr ⟨ok_Mo_draw_1, List.forall_mem_cons.mpr ⟨ok_Mo_draw_2, List.forall_mem_cons.mpr ⟨ok_Mo_draw_3, List.forall_mem_cons.mpr ⟨ok_Mo_draw_4, fun _ h => absurd h List.not_mem_nil⟩⟩⟩⟩⟩
theorem okP_Mo_drawCode : okP P_Mo_drawCode := List.forall_mem_cons.mpr ⟨ok_Mo_drawCode_0, List.forall_mem_cons.mpr ⟨ok_Mo_drawCode_1, List.forall_mem_cons.mpr ⟨ok_Mo_drawCode_2, fun _ h => absurd h List.not_mem_nil⟩⟩⟩
theorem okP_Mo_code : okP P_Mo_code := List.forall_mem_cons.mpr ⟨ok_Mo_code_0, fun _ h => absurd h List.not_mem_nil⟩
theorem okP_Mo_door : okP P_Mo_door := List.forall_mem_cons.mpr ⟨ok_Mo_door_0, List.forall_mem_cons.mpr ⟨ok_Mo_door_1, List.forall_mem_cons.mpr ⟨ok_Mo_door_2, fun _ h => absurd h List.not_mem_nil⟩⟩⟩
theorem okP_Mo_count : okP P_Mo_count := List.forall_mem_cons.mpr ⟨ok_Mo_count_0, List.forall_mem_cons.mpr ⟨ok_Mo_count_1, List.forall_mem_cons.mpr ⟨ok_Mo_count_2, List.forall_mem_cons.mpr ⟨ok_Mo_count_3, fun _ h => absurd h List.not_mem_nil⟩⟩⟩⟩
theorem okP_Lw_about : okP P_Lw_about := fun _ h => absurd h List.not_mem_nil
theorem okP_Lw_law : okP P_Lw_law := List.forall_mem_cons.mpr ⟨ok_Lw_law_0, List.forall_mem_cons.mpr ⟨ok_Lw_law_1, List.forall_mem_cons.mpr ⟨ok_Lw_law_2, List.forall_mem_cons.mpr ⟨ok_Lw_law_3, List.forall_mem_cons.mpr ⟨ok_Lw_law_4, List.forall_mem_cons.mpr ⟨ok_Lw_law_5, List.forall_mem_cons.mpr ⟨ok_Lw_law_6, List.forall_mem_cons.mpr ⟨ok_Lw_law_7, List.forall_mem_cons.mpr ⟨ok_Lw_law_8, List.forall_mem_cons.mpr ⟨ok_Lw_law_9, List.forall_mem_cons.mpr ⟨ok_Lw_law_10, List.forall_mem_cons.mpr ⟨ok_Lw_law_11, List.forall_mem_cons.mpr ⟨ok_Lw_law_12, List.forall_mem_cons.mpr ⟨ok_Lw_law_13, List.forall_mem_cons.mpr ⟨ok_Lw_law_14, List.forall_mem_cons.mpr ⟨ok_Lw_law_15, List.forall_mem_cons.mpr ⟨ok_Lw_law_16, List.forall_mem_cons.mpr ⟨ok_Lw_law_17, List.forall_mem_cons.mpr ⟨ok_Lw_law_18, List.forall_mem_cons.mpr ⟨ok_Lw_law_19, List.forall_mem_cons.mpr ⟨ok_Lw_law_20, List.forall_mem_cons.mpr ⟨ok_Lw_law_21, List.forall_mem_cons.mpr ⟨ok_Lw_law_22, List.forall_mem_cons.mpr ⟨ok_Lw_law_23, List.forall_mem_cons.mpr ⟨ok_Lw_law_24, List.forall_mem_cons.mpr ⟨ok_Lw_law_25, List.forall_mem_cons.mpr ⟨ok_Lw_law_26, List.forall_mem_cons.mpr ⟨ok_Lw_law_27, List.forall_mem_cons.mpr ⟨ok_Lw_law_28, fun _ h => absurd h List.not_mem_nil⟩⟩⟩⟩⟩⟩⟩⟩⟩⟩⟩⟩⟩⟩⟩⟩⟩⟩⟩⟩⟩⟩⟩⟩⟩⟩⟩⟩⟩
theorem okR_0 : ∀ P ∈ zP0, okP P := List.forall_mem_cons.mpr ⟨okP_JM_max0, List.forall_mem_cons.mpr ⟨okP_JM_min0, List.forall_mem_cons.mpr ⟨okP_JM_abs, List.forall_mem_cons.mpr ⟨okP_JM_max1, List.forall_mem_cons.mpr ⟨okP_JM_min1, List.forall_mem_cons.mpr ⟨okP_JI_bitCount, List.forall_mem_cons.mpr ⟨okP_JA_fill0, List.forall_mem_cons.mpr ⟨okP_JA_fill1, List.forall_mem_cons.mpr ⟨okP_Bk_init, List.forall_mem_cons.mpr ⟨okP_Bk_detail, List.forall_mem_cons.mpr ⟨okP_Bs_init, List.forall_mem_cons.mpr ⟨okP_Bs_isFull, List.forall_mem_cons.mpr ⟨okP_Bs_addLook, List.forall_mem_cons.mpr ⟨okP_Bs_addStay, List.forall_mem_cons.mpr ⟨okP_Bs_addEntry, List.forall_mem_cons.mpr ⟨okP_Bs_isEntry, fun _ h => absurd h List.not_mem_nil⟩⟩⟩⟩⟩⟩⟩⟩⟩⟩⟩⟩⟩⟩⟩⟩
theorem okR_1 : ∀ P ∈ zP1, okP P := List.forall_mem_cons.mpr ⟨okP_Bs_lookAhead, List.forall_mem_cons.mpr ⟨okP_Bs_lookBehind, List.forall_mem_cons.mpr ⟨okP_Bs_lostAt, List.forall_mem_cons.mpr ⟨okP_Bs_lostCoins, List.forall_mem_cons.mpr ⟨okP_Co_init, List.forall_mem_cons.mpr ⟨okP_Co_takes, List.forall_mem_cons.mpr ⟨okP_Co_isShut, List.forall_mem_cons.mpr ⟨okP_Co_setShut, List.forall_mem_cons.mpr ⟨okP_Co_hadCode, List.forall_mem_cons.mpr ⟨okP_Co_keepCode, List.forall_mem_cons.mpr ⟨okP_Jb_init, List.forall_mem_cons.mpr ⟨okP_Jb_isReady, List.forall_mem_cons.mpr ⟨okP_Jb_lateness, List.forall_mem_cons.mpr ⟨okP_Jb_detail, List.forall_mem_cons.mpr ⟨okP_La_init, List.forall_mem_cons.mpr ⟨okP_La_sendOut, fun _ h => absurd h List.not_mem_nil⟩⟩⟩⟩⟩⟩⟩⟩⟩⟩⟩⟩⟩⟩⟩⟩
theorem okR_2 : ∀ P ∈ zP2, okP P := List.forall_mem_cons.mpr ⟨okP_La_takeBack, List.forall_mem_cons.mpr ⟨okP_La_detail, List.forall_mem_cons.mpr ⟨okP_La_fewestSets, List.forall_mem_cons.mpr ⟨okP_La_guestsIn, List.forall_mem_cons.mpr ⟨okP_Mv_init, List.forall_mem_cons.mpr ⟨okP_Mv_clear, List.forall_mem_cons.mpr ⟨okP_Mv_addCottage, List.forall_mem_cons.mpr ⟨okP_Mv_addBooking, List.forall_mem_cons.mpr ⟨okP_Mv_find, List.forall_mem_cons.mpr ⟨okP_Mv_place, List.forall_mem_cons.mpr ⟨okP_Mv_keepIfBetter, List.forall_mem_cons.mpr ⟨okP_Mv_goalOf, List.forall_mem_cons.mpr ⟨okP_Mv_carryOut, List.forall_mem_cons.mpr ⟨okP_Pl_init, List.forall_mem_cons.mpr ⟨okP_Pl_forget, List.forall_mem_cons.mpr ⟨okP_Pl_possible, fun _ h => absurd h List.not_mem_nil⟩⟩⟩⟩⟩⟩⟩⟩⟩⟩⟩⟩⟩⟩⟩⟩
theorem okR_3 : ∀ P ∈ zP3, okP P := List.forall_mem_cons.mpr ⟨okP_Pl_costPart, List.forall_mem_cons.mpr ⟨okP_Pl_copyRow, List.forall_mem_cons.mpr ⟨okP_Pl_digit, List.forall_mem_cons.mpr ⟨okP_Pl_shiftOf, List.forall_mem_cons.mpr ⟨okP_Pl_gather, List.forall_mem_cons.mpr ⟨okP_Pl_teamWith, List.forall_mem_cons.mpr ⟨okP_Pl_find, List.forall_mem_cons.mpr ⟨okP_Pl_start, List.forall_mem_cons.mpr ⟨okP_Pl_costAtHand, List.forall_mem_cons.mpr ⟨okP_Pl_indexOf, List.forall_mem_cons.mpr ⟨okP_Pl_costInHaste, List.forall_mem_cons.mpr ⟨okP_Pl_takeSoonest, List.forall_mem_cons.mpr ⟨okP_Pl_lengthen, List.forall_mem_cons.mpr ⟨okP_Pl_putBehind, List.forall_mem_cons.mpr ⟨okP_Pl_isIdle, List.forall_mem_cons.mpr ⟨okP_Pl_keepRow, fun _ h => absurd h List.not_mem_nil⟩⟩⟩⟩⟩⟩⟩⟩⟩⟩⟩⟩⟩⟩⟩⟩
theorem okR_4 : ∀ P ∈ zP4, okP P := List.forall_mem_cons.mpr ⟨okP_Pl_share, List.forall_mem_cons.mpr ⟨okP_Pl_shareOthers, List.forall_mem_cons.mpr ⟨okP_Pl_isLikelier, List.forall_mem_cons.mpr ⟨okP_Ro_init, List.forall_mem_cons.mpr ⟨okP_Ro_tell, List.forall_mem_cons.mpr ⟨okP_Ro_minutes, List.forall_mem_cons.mpr ⟨okP_Te_init, List.forall_mem_cons.mpr ⟨okP_Te_startDay, List.forall_mem_cons.mpr ⟨okP_Te_rests, List.forall_mem_cons.mpr ⟨okP_Te_rowAt, List.forall_mem_cons.mpr ⟨okP_Te_hasInRow, List.forall_mem_cons.mpr ⟨okP_Te_detail, List.forall_mem_cons.mpr ⟨okP_Te_freeAt, List.forall_mem_cons.mpr ⟨okP_Te_passMinute, List.forall_mem_cons.mpr ⟨okP_Te_step, List.forall_mem_cons.mpr ⟨okP_Te_jobAmong, fun _ h => absurd h List.not_mem_nil⟩⟩⟩⟩⟩⟩⟩⟩⟩⟩⟩⟩⟩⟩⟩⟩
theorem okR_5 : ∀ P ∈ zP5, okP P := List.forall_mem_cons.mpr ⟨okP_Te_begin, List.forall_mem_cons.mpr ⟨okP_Te_go, List.forall_mem_cons.mpr ⟨okP_Tx_init, List.forall_mem_cons.mpr ⟨okP_Tx_bytesOf, List.forall_mem_cons.mpr ⟨okP_Tx_addBytes, List.forall_mem_cons.mpr ⟨okP_Tx_isDigit, List.forall_mem_cons.mpr ⟨okP_Tx_isLetter, List.forall_mem_cons.mpr ⟨okP_Tx_isPlusOrMinus, List.forall_mem_cons.mpr ⟨okP_Tx_isTimesOrBy, List.forall_mem_cons.mpr ⟨okP_Tx_isComparison, List.forall_mem_cons.mpr ⟨okP_Tx_firstFault, List.forall_mem_cons.mpr ⟨okP_Tx_goesOnWith, List.forall_mem_cons.mpr ⟨okP_Tx_beginsAtom, List.forall_mem_cons.mpr ⟨okP_Tx_followsAtom, List.forall_mem_cons.mpr ⟨okP_Tx_partBehind, List.forall_mem_cons.mpr ⟨okP_Tx_coinsFor, fun _ h => absurd h List.not_mem_nil⟩⟩⟩⟩⟩⟩⟩⟩⟩⟩⟩⟩⟩⟩⟩⟩
theorem okR_6 : ∀ P ∈ zP6, okP P := List.forall_mem_cons.mpr ⟨okP_Tx_compares, List.forall_mem_cons.mpr ⟨okP_Tx_sign, List.forall_mem_cons.mpr ⟨okP_Tx_takeSign, List.forall_mem_cons.mpr ⟨okP_Tx_sumFor, List.forall_mem_cons.mpr ⟨okP_Tx_productFor, List.forall_mem_cons.mpr ⟨okP_Tx_atomFor, List.forall_mem_cons.mpr ⟨okP_Tx_number, List.forall_mem_cons.mpr ⟨okP_Tx_letterFor, List.forall_mem_cons.mpr ⟨okP_Tx_divided, List.forall_mem_cons.mpr ⟨okP_Tx_bounded, List.forall_mem_cons.mpr ⟨okP_Wa_init, List.forall_mem_cons.mpr ⟨okP_Wa_hasAllTerms, List.forall_mem_cons.mpr ⟨okP_Wa_keepTape, List.forall_mem_cons.mpr ⟨okP_Wa_termsFor, List.forall_mem_cons.mpr ⟨okP_Wa_coinsBy, List.forall_mem_cons.mpr ⟨okP_Wa_dropDrafts, fun _ h => absurd h List.not_mem_nil⟩⟩⟩⟩⟩⟩⟩⟩⟩⟩⟩⟩⟩⟩⟩⟩
theorem okR_7 : ∀ P ∈ zP7, okP P := List.forall_mem_cons.mpr ⟨okP_Wa_draft, List.forall_mem_cons.mpr ⟨okP_Wa_enterDrafts, List.forall_mem_cons.mpr ⟨okP_Wa_lineDetail, List.forall_mem_cons.mpr ⟨okP_CY_init, List.forall_mem_cons.mpr ⟨okP_CY_cottage, List.forall_mem_cons.mpr ⟨okP_CY_rent, List.forall_mem_cons.mpr ⟨okP_CY_book, List.forall_mem_cons.mpr ⟨okP_CY_cancel, List.forall_mem_cons.mpr ⟨okP_CY_shut, List.forall_mem_cons.mpr ⟨okP_CY_moves, List.forall_mem_cons.mpr ⟨okP_CY_moved, List.forall_mem_cons.mpr ⟨okP_CY_move, List.forall_mem_cons.mpr ⟨okP_CY_booked, List.forall_mem_cons.mpr ⟨okP_CY_taken, List.forall_mem_cons.mpr ⟨okP_CY_team, List.forall_mem_cons.mpr ⟨okP_CY_way, fun _ h => absurd h List.not_mem_nil⟩⟩⟩⟩⟩⟩⟩⟩⟩⟩⟩⟩⟩⟩⟩⟩
theorem okR_8 : ∀ P ∈ zP8, okP P := List.forall_mem_cons.mpr ⟨okP_CY_rest, List.forall_mem_cons.mpr ⟨okP_CY_openDay, List.forall_mem_cons.mpr ⟨okP_CY_closeDay, List.forall_mem_cons.mpr ⟨okP_CY_late, List.forall_mem_cons.mpr ⟨okP_CY_state, List.forall_mem_cons.mpr ⟨okP_CY_best, List.forall_mem_cons.mpr ⟨okP_CY_plan, List.forall_mem_cons.mpr ⟨okP_CY_row, List.forall_mem_cons.mpr ⟨okP_CY_tick, List.forall_mem_cons.mpr ⟨okP_CY_about, List.forall_mem_cons.mpr ⟨okP_CY_job, List.forall_mem_cons.mpr ⟨okP_CY_linen, List.forall_mem_cons.mpr ⟨okP_CY_sets, List.forall_mem_cons.mpr ⟨okP_CY_fewest, List.forall_mem_cons.mpr ⟨okP_CY_feed, List.forall_mem_cons.mpr ⟨okP_CY_end, fun _ h => absurd h List.not_mem_nil⟩⟩⟩⟩⟩⟩⟩⟩⟩⟩⟩⟩⟩⟩⟩⟩
theorem okR_9 : ∀ P ∈ zP9, okP P := List.forall_mem_cons.mpr ⟨okP_CY_fault, List.forall_mem_cons.mpr ⟨okP_CY_terms, List.forall_mem_cons.mpr ⟨okP_CY_force, List.forall_mem_cons.mpr ⟨okP_CY_pay, List.forall_mem_cons.mpr ⟨okP_CY_line, List.forall_mem_cons.mpr ⟨okP_CY_look, List.forall_mem_cons.mpr ⟨okP_CY_worth, List.forall_mem_cons.mpr ⟨okP_CY_lost, List.forall_mem_cons.mpr ⟨okP_CY_kept, List.forall_mem_cons.mpr ⟨okP_CY_complain, List.forall_mem_cons.mpr ⟨okP_CY_blamed, List.forall_mem_cons.mpr ⟨okP_CY_draw, List.forall_mem_cons.mpr ⟨okP_CY_code, List.forall_mem_cons.mpr ⟨okP_CY_door, List.forall_mem_cons.mpr ⟨okP_CY_count, List.forall_mem_cons.mpr ⟨okP_CY_within, fun _ h => absurd h List.not_mem_nil⟩⟩⟩⟩⟩⟩⟩⟩⟩⟩⟩⟩⟩⟩⟩⟩
theorem okR_10 : ∀ P ∈ zP10, okP P := List.forall_mem_cons.mpr ⟨okP_CY_isWeek, List.forall_mem_cons.mpr ⟨okP_CY_isToCome, List.forall_mem_cons.mpr ⟨okP_CY_cottageAt, List.forall_mem_cons.mpr ⟨okP_CY_bookingAt, List.forall_mem_cons.mpr ⟨okP_CY_begunAt, List.forall_mem_cons.mpr ⟨okP_CY_teamAt, List.forall_mem_cons.mpr ⟨okP_CY_stayOf, List.forall_mem_cons.mpr ⟨okP_CY_jobOf, List.forall_mem_cons.mpr ⟨okP_CY_jobToBegin, List.forall_mem_cons.mpr ⟨okP_CY_isLet, List.forall_mem_cons.mpr ⟨okP_CY_findMoves, List.forall_mem_cons.mpr ⟨okP_CY_beginStays, List.forall_mem_cons.mpr ⟨okP_CY_makeJobs, List.forall_mem_cons.mpr ⟨okP_CY_guestsWhoCome, List.forall_mem_cons.mpr ⟨okP_CY_giveCodes, List.forall_mem_cons.mpr ⟨okP_CY_nextCode, fun _ h => absurd h List.not_mem_nil⟩⟩⟩⟩⟩⟩⟩⟩⟩⟩⟩⟩⟩⟩⟩⟩
theorem okR_11 : ∀ P ∈ zP11, okP P := List.forall_mem_cons.mpr ⟨okP_CY_findPlan, List.forall_mem_cons.mpr ⟨okP_CY_draftLines, List.forall_mem_cons.mpr ⟨okP_CY_teamToBlame, List.forall_mem_cons.mpr ⟨okP_CY_readyJobs, List.forall_mem_cons.mpr ⟨okP_CY_weightOf, List.forall_mem_cons.mpr ⟨okP_CY_drawOne, List.forall_mem_cons.mpr ⟨okP_CY_bookingsInForce, List.forall_mem_cons.mpr ⟨okP_CY_jobsLeftOut, List.forall_mem_cons.mpr ⟨okP_CY_lateMinutes, List.forall_mem_cons.mpr ⟨okP_Mo_init, List.forall_mem_cons.mpr ⟨okP_Mo_thrown, List.forall_mem_cons.mpr ⟨okP_Mo_isIn, List.forall_mem_cons.mpr ⟨okP_Mo_isCottage, List.forall_mem_cons.mpr ⟨okP_Mo_isBooking, List.forall_mem_cons.mpr ⟨okP_Mo_isAhead, List.forall_mem_cons.mpr ⟨okP_Mo_cottage, fun _ h => absurd h List.not_mem_nil⟩⟩⟩⟩⟩⟩⟩⟩⟩⟩⟩⟩⟩⟩⟩⟩
theorem okR_12 : ∀ P ∈ zP12, okP P := List.forall_mem_cons.mpr ⟨okP_Mo_rent, List.forall_mem_cons.mpr ⟨okP_Mo_inForce, List.forall_mem_cons.mpr ⟨okP_Mo_book, List.forall_mem_cons.mpr ⟨okP_Mo_cancel, List.forall_mem_cons.mpr ⟨okP_Mo_shut, List.forall_mem_cons.mpr ⟨okP_Mo_tryMoves, List.forall_mem_cons.mpr ⟨okP_Mo_findMoves, List.forall_mem_cons.mpr ⟨okP_Mo_moves, List.forall_mem_cons.mpr ⟨okP_Mo_moved, List.forall_mem_cons.mpr ⟨okP_Mo_move, List.forall_mem_cons.mpr ⟨okP_Mo_booked, List.forall_mem_cons.mpr ⟨okP_Mo_taken, List.forall_mem_cons.mpr ⟨okP_Mo_team, List.forall_mem_cons.mpr ⟨okP_Mo_way, List.forall_mem_cons.mpr ⟨okP_Mo_rest, List.forall_mem_cons.mpr ⟨okP_Mo_job0, fun _ h => absurd h List.not_mem_nil⟩⟩⟩⟩⟩⟩⟩⟩⟩⟩⟩⟩⟩⟩⟩⟩
theorem okR_13 : ∀ P ∈ zP13, okP P := List.forall_mem_cons.mpr ⟨okP_Mo_stay, List.forall_mem_cons.mpr ⟨okP_Mo_openDay, List.forall_mem_cons.mpr ⟨okP_Mo_isOpenJob, List.forall_mem_cons.mpr ⟨okP_Mo_late, List.forall_mem_cons.mpr ⟨okP_Mo_state, List.forall_mem_cons.mpr ⟨okP_Mo_minutesTo, List.forall_mem_cons.mpr ⟨okP_Mo_wayOf, List.forall_mem_cons.mpr ⟨okP_Mo_setsBehind, List.forall_mem_cons.mpr ⟨okP_Mo_inRow, List.forall_mem_cons.mpr ⟨okP_Mo_isWorse, List.forall_mem_cons.mpr ⟨okP_Mo_tryRows, List.forall_mem_cons.mpr ⟨okP_Mo_startTime, List.forall_mem_cons.mpr ⟨okP_Mo_findPlan, List.forall_mem_cons.mpr ⟨okP_Mo_best, List.forall_mem_cons.mpr ⟨okP_Mo_plan, List.forall_mem_cons.mpr ⟨okP_Mo_isTeam, fun _ h => absurd h List.not_mem_nil⟩⟩⟩⟩⟩⟩⟩⟩⟩⟩⟩⟩⟩⟩⟩⟩
theorem okR_14 : ∀ P ∈ zP14, okP P := List.forall_mem_cons.mpr ⟨okP_Mo_row, List.forall_mem_cons.mpr ⟨okP_Mo_goesOn, List.forall_mem_cons.mpr ⟨okP_Mo_tick, List.forall_mem_cons.mpr ⟨okP_Mo_about, List.forall_mem_cons.mpr ⟨okP_Mo_isJobOf, List.forall_mem_cons.mpr ⟨okP_Mo_lateOf, List.forall_mem_cons.mpr ⟨okP_Mo_job1, List.forall_mem_cons.mpr ⟨okP_Mo_linen, List.forall_mem_cons.mpr ⟨okP_Mo_sets, List.forall_mem_cons.mpr ⟨okP_Mo_isEnough, List.forall_mem_cons.mpr ⟨okP_Mo_fewest, List.forall_mem_cons.mpr ⟨okP_Mo_closeDay, List.forall_mem_cons.mpr ⟨okP_Mo_line, List.forall_mem_cons.mpr ⟨okP_Mo_bytesIn, List.forall_mem_cons.mpr ⟨okP_Mo_put, List.forall_mem_cons.mpr ⟨okP_Mo_feed, fun _ h => absurd h List.not_mem_nil⟩⟩⟩⟩⟩⟩⟩⟩⟩⟩⟩⟩⟩⟩⟩⟩
theorem okR_15 : ∀ P ∈ zP15, okP P := List.forall_mem_cons.mpr ⟨okP_Mo_end, List.forall_mem_cons.mpr ⟨okP_Mo_look0, List.forall_mem_cons.mpr ⟨okP_Mo_stop, List.forall_mem_cons.mpr ⟨okP_Mo_bound, List.forall_mem_cons.mpr ⟨okP_Mo_isDigit, List.forall_mem_cons.mpr ⟨okP_Mo_letter, List.forall_mem_cons.mpr ⟨okP_Mo_atom, List.forall_mem_cons.mpr ⟨okP_Mo_product, List.forall_mem_cons.mpr ⟨okP_Mo_sums, List.forall_mem_cons.mpr ⟨okP_Mo_isSign, List.forall_mem_cons.mpr ⟨okP_Mo_holds, List.forall_mem_cons.mpr ⟨okP_Mo_clause, List.forall_mem_cons.mpr ⟨okP_Mo_goThrough, List.forall_mem_cons.mpr ⟨okP_Mo_fault, List.forall_mem_cons.mpr ⟨okP_Mo_terms, List.forall_mem_cons.mpr ⟨okP_Mo_termsFor, fun _ h => absurd h List.not_mem_nil⟩⟩⟩⟩⟩⟩⟩⟩⟩⟩⟩⟩⟩⟩⟩⟩
theorem okR_16 : ∀ P ∈ zP16, okP P := List.forall_mem_cons.mpr ⟨okP_Mo_force, List.forall_mem_cons.mpr ⟨okP_Mo_payBy, List.forall_mem_cons.mpr ⟨okP_Mo_payFor, List.forall_mem_cons.mpr ⟨okP_Mo_pay, List.forall_mem_cons.mpr ⟨okP_Mo_enter, List.forall_mem_cons.mpr ⟨okP_Mo_look1, List.forall_mem_cons.mpr ⟨okP_Mo_worth, List.forall_mem_cons.mpr ⟨okP_Mo_beside, List.forall_mem_cons.mpr ⟨okP_Mo_lostOf, List.forall_mem_cons.mpr ⟨okP_Mo_isStay, List.forall_mem_cons.mpr ⟨okP_Mo_lost, List.forall_mem_cons.mpr ⟨okP_Mo_kept, List.forall_mem_cons.mpr ⟨okP_Mo_complain, List.forall_mem_cons.mpr ⟨okP_Mo_blamed, List.forall_mem_cons.mpr ⟨okP_Mo_weight, List.forall_mem_cons.mpr ⟨okP_Mo_draw, fun _ h => absurd h List.not_mem_nil⟩⟩⟩⟩⟩⟩⟩⟩⟩⟩⟩⟩⟩⟩⟩⟩
theorem okR_17 : ∀ P ∈ zP17, okP P := List.forall_mem_cons.mpr ⟨okP_Mo_drawCode, List.forall_mem_cons.mpr ⟨okP_Mo_code, List.forall_mem_cons.mpr ⟨okP_Mo_door, List.forall_mem_cons.mpr ⟨okP_Mo_count, List.forall_mem_cons.mpr ⟨okP_Lw_about, List.forall_mem_cons.mpr ⟨okP_Lw_law, fun _ h => absurd h List.not_mem_nil⟩⟩⟩⟩⟩⟩
theorem okA : ∀ r ∈ zPP, ∀ P ∈ r, okP P := List.forall_mem_cons.mpr ⟨okR_0, List.forall_mem_cons.mpr ⟨okR_1, List.forall_mem_cons.mpr ⟨okR_2, List.forall_mem_cons.mpr ⟨okR_3, List.forall_mem_cons.mpr ⟨okR_4, List.forall_mem_cons.mpr ⟨okR_5, List.forall_mem_cons.mpr ⟨okR_6, List.forall_mem_cons.mpr ⟨okR_7, List.forall_mem_cons.mpr ⟨okR_8, List.forall_mem_cons.mpr ⟨okR_9, List.forall_mem_cons.mpr ⟨okR_10, List.forall_mem_cons.mpr ⟨okR_11, List.forall_mem_cons.mpr ⟨okR_12, List.forall_mem_cons.mpr ⟨okR_13, List.forall_mem_cons.mpr ⟨okR_14, List.forall_mem_cons.mpr ⟨okR_15, List.forall_mem_cons.mpr ⟨okR_16, List.forall_mem_cons.mpr ⟨okR_17, fun _ h => absurd h List.not_mem_nil⟩⟩⟩⟩⟩⟩⟩⟩⟩⟩⟩⟩⟩⟩⟩⟩⟩⟩
theorem getD_mem {α : Type} {l : List α} {i : Nat} {d : α} : l.getD i d ∈ l ∨ l.getD i d = d := by
  rw [List.getD_eq_getElem?_getD]
  cases h : l[i]? with
  | none => exact Or.inr rfl
  | some x => exact Or.inl (List.mem_of_getElem? h)
theorem okP_tbl (k : Nat) : okP (tbl k) := by
  unfold tbl
  rcases getD_mem (l := zPP) (i := k / 16) (d := []) with h | h
  · rcases getD_mem (l := zPP.getD (k / 16) []) (i := k % 16) (d := nilP) with h2 | h2
    · exact okA _ h _ h2
    · rw [h2]; exact fun _ h => absurd h List.not_mem_nil
  · rw [h]; exact fun _ h => absurd h List.not_mem_nil
theorem zY_ok : zPP.map (fun r => r.map pY) = zY := by rfl
theorem yM_tbl {k : Nat} (hk : k < 278) : pY (tbl k) = yM k := by
  unfold yM tbl
  rw [← zY_ok]
  simp only [List.getD_eq_getElem?_getD, List.getElem?_map]
  cases h : zPP[k / 16]? with
  | none =>
    have : k / 16 < 18 := by omega
    exact absurd (List.getElem?_eq_none_iff.mp h) (by show ¬ 18 ≤ _; omega)
  | some r =>
    simp only [Option.map_some, Option.getD_some, List.getElem?_map]
    cases h2 : r[k % 16]? with
    | none =>  simp [nilP]
    | some P => simp
theorem tb_JM_max0 : tbl 0 = P_JM_max0 := rfl
theorem tb_JM_min0 : tbl 1 = P_JM_min0 := rfl
theorem tb_JM_abs : tbl 2 = P_JM_abs := rfl
theorem tb_JM_max1 : tbl 3 = P_JM_max1 := rfl
theorem tb_JM_min1 : tbl 4 = P_JM_min1 := rfl
theorem tb_JI_bitCount : tbl 5 = P_JI_bitCount := rfl
theorem tb_JA_fill0 : tbl 6 = P_JA_fill0 := rfl
theorem tb_JA_fill1 : tbl 7 = P_JA_fill1 := rfl
theorem tb_Bk_init : tbl 8 = P_Bk_init := rfl
theorem tb_Bk_detail : tbl 9 = P_Bk_detail := rfl
theorem tb_Bs_init : tbl 10 = P_Bs_init := rfl
theorem tb_Bs_isFull : tbl 11 = P_Bs_isFull := rfl
theorem tb_Bs_addLook : tbl 12 = P_Bs_addLook := rfl
theorem tb_Bs_addStay : tbl 13 = P_Bs_addStay := rfl
theorem tb_Bs_addEntry : tbl 14 = P_Bs_addEntry := rfl
theorem tb_Bs_isEntry : tbl 15 = P_Bs_isEntry := rfl
theorem tb_Bs_lookAhead : tbl 16 = P_Bs_lookAhead := rfl
theorem tb_Bs_lookBehind : tbl 17 = P_Bs_lookBehind := rfl
theorem tb_Bs_lostAt : tbl 18 = P_Bs_lostAt := rfl
theorem tb_Bs_lostCoins : tbl 19 = P_Bs_lostCoins := rfl
theorem tb_Co_init : tbl 20 = P_Co_init := rfl
theorem tb_Co_takes : tbl 21 = P_Co_takes := rfl
theorem tb_Co_isShut : tbl 22 = P_Co_isShut := rfl
theorem tb_Co_setShut : tbl 23 = P_Co_setShut := rfl
theorem tb_Co_hadCode : tbl 24 = P_Co_hadCode := rfl
theorem tb_Co_keepCode : tbl 25 = P_Co_keepCode := rfl
theorem tb_Jb_init : tbl 26 = P_Jb_init := rfl
theorem tb_Jb_isReady : tbl 27 = P_Jb_isReady := rfl
theorem tb_Jb_lateness : tbl 28 = P_Jb_lateness := rfl
theorem tb_Jb_detail : tbl 29 = P_Jb_detail := rfl
theorem tb_La_init : tbl 30 = P_La_init := rfl
theorem tb_La_sendOut : tbl 31 = P_La_sendOut := rfl
theorem tb_La_takeBack : tbl 32 = P_La_takeBack := rfl
theorem tb_La_detail : tbl 33 = P_La_detail := rfl
theorem tb_La_fewestSets : tbl 34 = P_La_fewestSets := rfl
theorem tb_La_guestsIn : tbl 35 = P_La_guestsIn := rfl
theorem tb_Mv_init : tbl 36 = P_Mv_init := rfl
theorem tb_Mv_clear : tbl 37 = P_Mv_clear := rfl
theorem tb_Mv_addCottage : tbl 38 = P_Mv_addCottage := rfl
theorem tb_Mv_addBooking : tbl 39 = P_Mv_addBooking := rfl
theorem tb_Mv_find : tbl 40 = P_Mv_find := rfl
theorem tb_Mv_place : tbl 41 = P_Mv_place := rfl
theorem tb_Mv_keepIfBetter : tbl 42 = P_Mv_keepIfBetter := rfl
theorem tb_Mv_goalOf : tbl 43 = P_Mv_goalOf := rfl
theorem tb_Mv_carryOut : tbl 44 = P_Mv_carryOut := rfl
theorem tb_Pl_init : tbl 45 = P_Pl_init := rfl
theorem tb_Pl_forget : tbl 46 = P_Pl_forget := rfl
theorem tb_Pl_possible : tbl 47 = P_Pl_possible := rfl
theorem tb_Pl_costPart : tbl 48 = P_Pl_costPart := rfl
theorem tb_Pl_copyRow : tbl 49 = P_Pl_copyRow := rfl
theorem tb_Pl_digit : tbl 50 = P_Pl_digit := rfl
theorem tb_Pl_shiftOf : tbl 51 = P_Pl_shiftOf := rfl
theorem tb_Pl_gather : tbl 52 = P_Pl_gather := rfl
theorem tb_Pl_teamWith : tbl 53 = P_Pl_teamWith := rfl
theorem tb_Pl_find : tbl 54 = P_Pl_find := rfl
theorem tb_Pl_start : tbl 55 = P_Pl_start := rfl
theorem tb_Pl_costAtHand : tbl 56 = P_Pl_costAtHand := rfl
theorem tb_Pl_indexOf : tbl 57 = P_Pl_indexOf := rfl
theorem tb_Pl_costInHaste : tbl 58 = P_Pl_costInHaste := rfl
theorem tb_Pl_takeSoonest : tbl 59 = P_Pl_takeSoonest := rfl
theorem tb_Pl_lengthen : tbl 60 = P_Pl_lengthen := rfl
theorem tb_Pl_putBehind : tbl 61 = P_Pl_putBehind := rfl
theorem tb_Pl_isIdle : tbl 62 = P_Pl_isIdle := rfl
theorem tb_Pl_keepRow : tbl 63 = P_Pl_keepRow := rfl
theorem tb_Pl_share : tbl 64 = P_Pl_share := rfl
theorem tb_Pl_shareOthers : tbl 65 = P_Pl_shareOthers := rfl
theorem tb_Pl_isLikelier : tbl 66 = P_Pl_isLikelier := rfl
theorem tb_Ro_init : tbl 67 = P_Ro_init := rfl
theorem tb_Ro_tell : tbl 68 = P_Ro_tell := rfl
theorem tb_Ro_minutes : tbl 69 = P_Ro_minutes := rfl
theorem tb_Te_init : tbl 70 = P_Te_init := rfl
theorem tb_Te_startDay : tbl 71 = P_Te_startDay := rfl
theorem tb_Te_rests : tbl 72 = P_Te_rests := rfl
theorem tb_Te_rowAt : tbl 73 = P_Te_rowAt := rfl
theorem tb_Te_hasInRow : tbl 74 = P_Te_hasInRow := rfl
theorem tb_Te_detail : tbl 75 = P_Te_detail := rfl
theorem tb_Te_freeAt : tbl 76 = P_Te_freeAt := rfl
theorem tb_Te_passMinute : tbl 77 = P_Te_passMinute := rfl
theorem tb_Te_step : tbl 78 = P_Te_step := rfl
theorem tb_Te_jobAmong : tbl 79 = P_Te_jobAmong := rfl
theorem tb_Te_begin : tbl 80 = P_Te_begin := rfl
theorem tb_Te_go : tbl 81 = P_Te_go := rfl
theorem tb_Tx_init : tbl 82 = P_Tx_init := rfl
theorem tb_Tx_bytesOf : tbl 83 = P_Tx_bytesOf := rfl
theorem tb_Tx_addBytes : tbl 84 = P_Tx_addBytes := rfl
theorem tb_Tx_isDigit : tbl 85 = P_Tx_isDigit := rfl
theorem tb_Tx_isLetter : tbl 86 = P_Tx_isLetter := rfl
theorem tb_Tx_isPlusOrMinus : tbl 87 = P_Tx_isPlusOrMinus := rfl
theorem tb_Tx_isTimesOrBy : tbl 88 = P_Tx_isTimesOrBy := rfl
theorem tb_Tx_isComparison : tbl 89 = P_Tx_isComparison := rfl
theorem tb_Tx_firstFault : tbl 90 = P_Tx_firstFault := rfl
theorem tb_Tx_goesOnWith : tbl 91 = P_Tx_goesOnWith := rfl
theorem tb_Tx_beginsAtom : tbl 92 = P_Tx_beginsAtom := rfl
theorem tb_Tx_followsAtom : tbl 93 = P_Tx_followsAtom := rfl
theorem tb_Tx_partBehind : tbl 94 = P_Tx_partBehind := rfl
theorem tb_Tx_coinsFor : tbl 95 = P_Tx_coinsFor := rfl
theorem tb_Tx_compares : tbl 96 = P_Tx_compares := rfl
theorem tb_Tx_sign : tbl 97 = P_Tx_sign := rfl
theorem tb_Tx_takeSign : tbl 98 = P_Tx_takeSign := rfl
theorem tb_Tx_sumFor : tbl 99 = P_Tx_sumFor := rfl
theorem tb_Tx_productFor : tbl 100 = P_Tx_productFor := rfl
theorem tb_Tx_atomFor : tbl 101 = P_Tx_atomFor := rfl
theorem tb_Tx_number : tbl 102 = P_Tx_number := rfl
theorem tb_Tx_letterFor : tbl 103 = P_Tx_letterFor := rfl
theorem tb_Tx_divided : tbl 104 = P_Tx_divided := rfl
theorem tb_Tx_bounded : tbl 105 = P_Tx_bounded := rfl
theorem tb_Wa_init : tbl 106 = P_Wa_init := rfl
theorem tb_Wa_hasAllTerms : tbl 107 = P_Wa_hasAllTerms := rfl
theorem tb_Wa_keepTape : tbl 108 = P_Wa_keepTape := rfl
theorem tb_Wa_termsFor : tbl 109 = P_Wa_termsFor := rfl
theorem tb_Wa_coinsBy : tbl 110 = P_Wa_coinsBy := rfl
theorem tb_Wa_dropDrafts : tbl 111 = P_Wa_dropDrafts := rfl
theorem tb_Wa_draft : tbl 112 = P_Wa_draft := rfl
theorem tb_Wa_enterDrafts : tbl 113 = P_Wa_enterDrafts := rfl
theorem tb_Wa_lineDetail : tbl 114 = P_Wa_lineDetail := rfl
theorem tb_CY_init : tbl 115 = P_CY_init := rfl
theorem tb_CY_cottage : tbl 116 = P_CY_cottage := rfl
theorem tb_CY_rent : tbl 117 = P_CY_rent := rfl
theorem tb_CY_book : tbl 118 = P_CY_book := rfl
theorem tb_CY_cancel : tbl 119 = P_CY_cancel := rfl
theorem tb_CY_shut : tbl 120 = P_CY_shut := rfl
theorem tb_CY_moves : tbl 121 = P_CY_moves := rfl
theorem tb_CY_moved : tbl 122 = P_CY_moved := rfl
theorem tb_CY_move : tbl 123 = P_CY_move := rfl
theorem tb_CY_booked : tbl 124 = P_CY_booked := rfl
theorem tb_CY_taken : tbl 125 = P_CY_taken := rfl
theorem tb_CY_team : tbl 126 = P_CY_team := rfl
theorem tb_CY_way : tbl 127 = P_CY_way := rfl
theorem tb_CY_rest : tbl 128 = P_CY_rest := rfl
theorem tb_CY_openDay : tbl 129 = P_CY_openDay := rfl
theorem tb_CY_closeDay : tbl 130 = P_CY_closeDay := rfl
theorem tb_CY_late : tbl 131 = P_CY_late := rfl
theorem tb_CY_state : tbl 132 = P_CY_state := rfl
theorem tb_CY_best : tbl 133 = P_CY_best := rfl
theorem tb_CY_plan : tbl 134 = P_CY_plan := rfl
theorem tb_CY_row : tbl 135 = P_CY_row := rfl
theorem tb_CY_tick : tbl 136 = P_CY_tick := rfl
theorem tb_CY_about : tbl 137 = P_CY_about := rfl
theorem tb_CY_job : tbl 138 = P_CY_job := rfl
theorem tb_CY_linen : tbl 139 = P_CY_linen := rfl
theorem tb_CY_sets : tbl 140 = P_CY_sets := rfl
theorem tb_CY_fewest : tbl 141 = P_CY_fewest := rfl
theorem tb_CY_feed : tbl 142 = P_CY_feed := rfl
theorem tb_CY_end : tbl 143 = P_CY_end := rfl
theorem tb_CY_fault : tbl 144 = P_CY_fault := rfl
theorem tb_CY_terms : tbl 145 = P_CY_terms := rfl
theorem tb_CY_force : tbl 146 = P_CY_force := rfl
theorem tb_CY_pay : tbl 147 = P_CY_pay := rfl
theorem tb_CY_line : tbl 148 = P_CY_line := rfl
theorem tb_CY_look : tbl 149 = P_CY_look := rfl
theorem tb_CY_worth : tbl 150 = P_CY_worth := rfl
theorem tb_CY_lost : tbl 151 = P_CY_lost := rfl
theorem tb_CY_kept : tbl 152 = P_CY_kept := rfl
theorem tb_CY_complain : tbl 153 = P_CY_complain := rfl
theorem tb_CY_blamed : tbl 154 = P_CY_blamed := rfl
theorem tb_CY_draw : tbl 155 = P_CY_draw := rfl
theorem tb_CY_code : tbl 156 = P_CY_code := rfl
theorem tb_CY_door : tbl 157 = P_CY_door := rfl
theorem tb_CY_count : tbl 158 = P_CY_count := rfl
theorem tb_CY_within : tbl 159 = P_CY_within := rfl
theorem tb_CY_isWeek : tbl 160 = P_CY_isWeek := rfl
theorem tb_CY_isToCome : tbl 161 = P_CY_isToCome := rfl
theorem tb_CY_cottageAt : tbl 162 = P_CY_cottageAt := rfl
theorem tb_CY_bookingAt : tbl 163 = P_CY_bookingAt := rfl
theorem tb_CY_begunAt : tbl 164 = P_CY_begunAt := rfl
theorem tb_CY_teamAt : tbl 165 = P_CY_teamAt := rfl
theorem tb_CY_stayOf : tbl 166 = P_CY_stayOf := rfl
theorem tb_CY_jobOf : tbl 167 = P_CY_jobOf := rfl
theorem tb_CY_jobToBegin : tbl 168 = P_CY_jobToBegin := rfl
theorem tb_CY_isLet : tbl 169 = P_CY_isLet := rfl
theorem tb_CY_findMoves : tbl 170 = P_CY_findMoves := rfl
theorem tb_CY_beginStays : tbl 171 = P_CY_beginStays := rfl
theorem tb_CY_makeJobs : tbl 172 = P_CY_makeJobs := rfl
theorem tb_CY_guestsWhoCome : tbl 173 = P_CY_guestsWhoCome := rfl
theorem tb_CY_giveCodes : tbl 174 = P_CY_giveCodes := rfl
theorem tb_CY_nextCode : tbl 175 = P_CY_nextCode := rfl
theorem tb_CY_findPlan : tbl 176 = P_CY_findPlan := rfl
theorem tb_CY_draftLines : tbl 177 = P_CY_draftLines := rfl
theorem tb_CY_teamToBlame : tbl 178 = P_CY_teamToBlame := rfl
theorem tb_CY_readyJobs : tbl 179 = P_CY_readyJobs := rfl
theorem tb_CY_weightOf : tbl 180 = P_CY_weightOf := rfl
theorem tb_CY_drawOne : tbl 181 = P_CY_drawOne := rfl
theorem tb_CY_bookingsInForce : tbl 182 = P_CY_bookingsInForce := rfl
theorem tb_CY_jobsLeftOut : tbl 183 = P_CY_jobsLeftOut := rfl
theorem tb_CY_lateMinutes : tbl 184 = P_CY_lateMinutes := rfl
theorem tb_Mo_init : tbl 185 = P_Mo_init := rfl
theorem tb_Mo_thrown : tbl 186 = P_Mo_thrown := rfl
theorem tb_Mo_isIn : tbl 187 = P_Mo_isIn := rfl
theorem tb_Mo_isCottage : tbl 188 = P_Mo_isCottage := rfl
theorem tb_Mo_isBooking : tbl 189 = P_Mo_isBooking := rfl
theorem tb_Mo_isAhead : tbl 190 = P_Mo_isAhead := rfl
theorem tb_Mo_cottage : tbl 191 = P_Mo_cottage := rfl
theorem tb_Mo_rent : tbl 192 = P_Mo_rent := rfl
theorem tb_Mo_inForce : tbl 193 = P_Mo_inForce := rfl
theorem tb_Mo_book : tbl 194 = P_Mo_book := rfl
theorem tb_Mo_cancel : tbl 195 = P_Mo_cancel := rfl
theorem tb_Mo_shut : tbl 196 = P_Mo_shut := rfl
theorem tb_Mo_tryMoves : tbl 197 = P_Mo_tryMoves := rfl
theorem tb_Mo_findMoves : tbl 198 = P_Mo_findMoves := rfl
theorem tb_Mo_moves : tbl 199 = P_Mo_moves := rfl
theorem tb_Mo_moved : tbl 200 = P_Mo_moved := rfl
theorem tb_Mo_move : tbl 201 = P_Mo_move := rfl
theorem tb_Mo_booked : tbl 202 = P_Mo_booked := rfl
theorem tb_Mo_taken : tbl 203 = P_Mo_taken := rfl
theorem tb_Mo_team : tbl 204 = P_Mo_team := rfl
theorem tb_Mo_way : tbl 205 = P_Mo_way := rfl
theorem tb_Mo_rest : tbl 206 = P_Mo_rest := rfl
theorem tb_Mo_job0 : tbl 207 = P_Mo_job0 := rfl
theorem tb_Mo_stay : tbl 208 = P_Mo_stay := rfl
theorem tb_Mo_openDay : tbl 209 = P_Mo_openDay := rfl
theorem tb_Mo_isOpenJob : tbl 210 = P_Mo_isOpenJob := rfl
theorem tb_Mo_late : tbl 211 = P_Mo_late := rfl
theorem tb_Mo_state : tbl 212 = P_Mo_state := rfl
theorem tb_Mo_minutesTo : tbl 213 = P_Mo_minutesTo := rfl
theorem tb_Mo_wayOf : tbl 214 = P_Mo_wayOf := rfl
theorem tb_Mo_setsBehind : tbl 215 = P_Mo_setsBehind := rfl
theorem tb_Mo_inRow : tbl 216 = P_Mo_inRow := rfl
theorem tb_Mo_isWorse : tbl 217 = P_Mo_isWorse := rfl
theorem tb_Mo_tryRows : tbl 218 = P_Mo_tryRows := rfl
theorem tb_Mo_startTime : tbl 219 = P_Mo_startTime := rfl
theorem tb_Mo_findPlan : tbl 220 = P_Mo_findPlan := rfl
theorem tb_Mo_best : tbl 221 = P_Mo_best := rfl
theorem tb_Mo_plan : tbl 222 = P_Mo_plan := rfl
theorem tb_Mo_isTeam : tbl 223 = P_Mo_isTeam := rfl
theorem tb_Mo_row : tbl 224 = P_Mo_row := rfl
theorem tb_Mo_goesOn : tbl 225 = P_Mo_goesOn := rfl
theorem tb_Mo_tick : tbl 226 = P_Mo_tick := rfl
theorem tb_Mo_about : tbl 227 = P_Mo_about := rfl
theorem tb_Mo_isJobOf : tbl 228 = P_Mo_isJobOf := rfl
theorem tb_Mo_lateOf : tbl 229 = P_Mo_lateOf := rfl
theorem tb_Mo_job1 : tbl 230 = P_Mo_job1 := rfl
theorem tb_Mo_linen : tbl 231 = P_Mo_linen := rfl
theorem tb_Mo_sets : tbl 232 = P_Mo_sets := rfl
theorem tb_Mo_isEnough : tbl 233 = P_Mo_isEnough := rfl
theorem tb_Mo_fewest : tbl 234 = P_Mo_fewest := rfl
theorem tb_Mo_closeDay : tbl 235 = P_Mo_closeDay := rfl
theorem tb_Mo_line : tbl 236 = P_Mo_line := rfl
theorem tb_Mo_bytesIn : tbl 237 = P_Mo_bytesIn := rfl
theorem tb_Mo_put : tbl 238 = P_Mo_put := rfl
theorem tb_Mo_feed : tbl 239 = P_Mo_feed := rfl
theorem tb_Mo_end : tbl 240 = P_Mo_end := rfl
theorem tb_Mo_look0 : tbl 241 = P_Mo_look0 := rfl
theorem tb_Mo_stop : tbl 242 = P_Mo_stop := rfl
theorem tb_Mo_bound : tbl 243 = P_Mo_bound := rfl
theorem tb_Mo_isDigit : tbl 244 = P_Mo_isDigit := rfl
theorem tb_Mo_letter : tbl 245 = P_Mo_letter := rfl
theorem tb_Mo_atom : tbl 246 = P_Mo_atom := rfl
theorem tb_Mo_product : tbl 247 = P_Mo_product := rfl
theorem tb_Mo_sums : tbl 248 = P_Mo_sums := rfl
theorem tb_Mo_isSign : tbl 249 = P_Mo_isSign := rfl
theorem tb_Mo_holds : tbl 250 = P_Mo_holds := rfl
theorem tb_Mo_clause : tbl 251 = P_Mo_clause := rfl
theorem tb_Mo_goThrough : tbl 252 = P_Mo_goThrough := rfl
theorem tb_Mo_fault : tbl 253 = P_Mo_fault := rfl
theorem tb_Mo_terms : tbl 254 = P_Mo_terms := rfl
theorem tb_Mo_termsFor : tbl 255 = P_Mo_termsFor := rfl
theorem tb_Mo_force : tbl 256 = P_Mo_force := rfl
theorem tb_Mo_payBy : tbl 257 = P_Mo_payBy := rfl
theorem tb_Mo_payFor : tbl 258 = P_Mo_payFor := rfl
theorem tb_Mo_pay : tbl 259 = P_Mo_pay := rfl
theorem tb_Mo_enter : tbl 260 = P_Mo_enter := rfl
theorem tb_Mo_look1 : tbl 261 = P_Mo_look1 := rfl
theorem tb_Mo_worth : tbl 262 = P_Mo_worth := rfl
theorem tb_Mo_beside : tbl 263 = P_Mo_beside := rfl
theorem tb_Mo_lostOf : tbl 264 = P_Mo_lostOf := rfl
theorem tb_Mo_isStay : tbl 265 = P_Mo_isStay := rfl
theorem tb_Mo_lost : tbl 266 = P_Mo_lost := rfl
theorem tb_Mo_kept : tbl 267 = P_Mo_kept := rfl
theorem tb_Mo_complain : tbl 268 = P_Mo_complain := rfl
theorem tb_Mo_blamed : tbl 269 = P_Mo_blamed := rfl
theorem tb_Mo_weight : tbl 270 = P_Mo_weight := rfl
theorem tb_Mo_draw : tbl 271 = P_Mo_draw := rfl
theorem tb_Mo_drawCode : tbl 272 = P_Mo_drawCode := rfl
theorem tb_Mo_code : tbl 273 = P_Mo_code := rfl
theorem tb_Mo_door : tbl 274 = P_Mo_door := rfl
theorem tb_Mo_count : tbl 275 = P_Mo_count := rfl
theorem tb_Lw_about : tbl 276 = P_Lw_about := rfl
theorem tb_Lw_law : tbl 277 = P_Lw_law := rfl
