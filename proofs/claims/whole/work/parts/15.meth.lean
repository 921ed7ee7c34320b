/-! what the tables say of each method; which methods the rows call -/
def mOK (P : Pgm) (q : Nat × Nat × Nat × Nat) : Bool :=
  decide (tables_1[q.2.2.2]? = some (.initialized (pY P).cls)) &&
  (if pC P = 99 then decide (tables_1[q.2.1]? = some (.static (pY P))) else decide (tables_1[q.2.1]? = some (.instanceMethod (pY P)))) &&
  (if pC P = 99 ∨ iniP P = true then true else decide (lw_tbl[q.2.2.1]? = some (.selects (pY P).cls (pY P) (pY P))) && decide (clN (pC P) = (pY P).cls) && decide (pC P < 13)) &&
  plainFor (pY P) && decide ((pY P).cls ≠ "java/lang/invoke/MethodHandle") && decide ((pY P).cls ≠ "java/lang/invoke/VarHandle") &&
  decide ((parseMethodDescriptor (pY P).desc).map (fun d => d.parameters.length) = some (pN P)) && decide (pOwn P = (pY P).cls) && decide (pL P ≤ 40) && decide (iniP P = true → pRet P = none)

def zM0 : List (Nat × Nat × Nat × Nat) := [(855, 854, 0, 14), (759, 758, 0, 14), (558, 557, 0, 14), (876, 875, 0, 14), (873, 872, 0, 14), (2090, 2089, 0, 26), (97, 96, 0, 5), (938, 937, 0, 5), (433, 432, 0, 12), (582, 580, 680, 12), (208, 207, 0, 7), (1256, 1254, 1354, 7), (1260, 1258, 1358, 7), (665, 663, 763, 7), (669, 668, 8, 7), (1281, 1280, 46, 7)]
theorem mR0 : (zP0.zip zM0).all (fun q => mOK q.1 q.2) = true := by decide +kernel
set_option maxRecDepth 100000 in
theorem cd_JM_max0 : Cond.code (pY P_JM_max0) (pB P_JM_max0) (pL P_JM_max0) (pRet P_JM_max0) ∈ tables_1 := List.mem_of_getElem? (i := 855) rfl
set_option maxRecDepth 100000 in
theorem cd_JM_min0 : Cond.code (pY P_JM_min0) (pB P_JM_min0) (pL P_JM_min0) (pRet P_JM_min0) ∈ tables_1 := List.mem_of_getElem? (i := 759) rfl
set_option maxRecDepth 100000 in
theorem cd_JM_abs : Cond.code (pY P_JM_abs) (pB P_JM_abs) (pL P_JM_abs) (pRet P_JM_abs) ∈ tables_1 := List.mem_of_getElem? (i := 558) rfl
set_option maxRecDepth 100000 in
theorem cd_JM_max1 : Cond.code (pY P_JM_max1) (pB P_JM_max1) (pL P_JM_max1) (pRet P_JM_max1) ∈ tables_1 := List.mem_of_getElem? (i := 876) rfl
set_option maxRecDepth 100000 in
theorem cd_JM_min1 : Cond.code (pY P_JM_min1) (pB P_JM_min1) (pL P_JM_min1) (pRet P_JM_min1) ∈ tables_1 := List.mem_of_getElem? (i := 873) rfl
set_option maxRecDepth 100000 in
theorem cd_JI_bitCount : Cond.code (pY P_JI_bitCount) (pB P_JI_bitCount) (pL P_JI_bitCount) (pRet P_JI_bitCount) ∈ tables_1 := List.mem_of_getElem? (i := 2090) rfl
set_option maxRecDepth 100000 in
theorem cd_JA_fill0 : Cond.code (pY P_JA_fill0) (pB P_JA_fill0) (pL P_JA_fill0) (pRet P_JA_fill0) ∈ tables_1 := List.mem_of_getElem? (i := 97) rfl
set_option maxRecDepth 100000 in
theorem cd_JA_fill1 : Cond.code (pY P_JA_fill1) (pB P_JA_fill1) (pL P_JA_fill1) (pRet P_JA_fill1) ∈ tables_1 := List.mem_of_getElem? (i := 938) rfl
set_option maxRecDepth 100000 in
theorem cd_Bk_init : Cond.code (pY P_Bk_init) (pB P_Bk_init) (pL P_Bk_init) (pRet P_Bk_init) ∈ tables_1 := List.mem_of_getElem? (i := 433) rfl
set_option maxRecDepth 100000 in
theorem cd_Bk_detail : Cond.code (pY P_Bk_detail) (pB P_Bk_detail) (pL P_Bk_detail) (pRet P_Bk_detail) ∈ tables_1 := List.mem_of_getElem? (i := 582) rfl
set_option maxRecDepth 100000 in
theorem cd_Bs_init : Cond.code (pY P_Bs_init) (pB P_Bs_init) (pL P_Bs_init) (pRet P_Bs_init) ∈ tables_1 := List.mem_of_getElem? (i := 208) rfl
set_option maxRecDepth 100000 in
theorem cd_Bs_isFull : Cond.code (pY P_Bs_isFull) (pB P_Bs_isFull) (pL P_Bs_isFull) (pRet P_Bs_isFull) ∈ tables_1 := List.mem_of_getElem? (i := 1256) rfl
set_option maxRecDepth 100000 in
theorem cd_Bs_addLook : Cond.code (pY P_Bs_addLook) (pB P_Bs_addLook) (pL P_Bs_addLook) (pRet P_Bs_addLook) ∈ tables_1 := List.mem_of_getElem? (i := 1260) rfl
set_option maxRecDepth 100000 in
theorem cd_Bs_addStay : Cond.code (pY P_Bs_addStay) (pB P_Bs_addStay) (pL P_Bs_addStay) (pRet P_Bs_addStay) ∈ tables_1 := List.mem_of_getElem? (i := 665) rfl
set_option maxRecDepth 100000 in
theorem cd_Bs_addEntry : Cond.code (pY P_Bs_addEntry) (pB P_Bs_addEntry) (pL P_Bs_addEntry) (pRet P_Bs_addEntry) ∈ tables_1 := List.mem_of_getElem? (i := 669) rfl
set_option maxRecDepth 100000 in
theorem cd_Bs_isEntry : Cond.code (pY P_Bs_isEntry) (pB P_Bs_isEntry) (pL P_Bs_isEntry) (pRet P_Bs_isEntry) ∈ tables_1 := List.mem_of_getElem? (i := 1281) rfl
theorem cdR0 : ∀ P ∈ zP0.take 16, Cond.code (pY P) (pB P) (pL P) (pRet P) ∈ tables_1 := List.forall_mem_cons.mpr ⟨cd_JM_max0, List.forall_mem_cons.mpr ⟨cd_JM_min0, List.forall_mem_cons.mpr ⟨cd_JM_abs, List.forall_mem_cons.mpr ⟨cd_JM_max1, List.forall_mem_cons.mpr ⟨cd_JM_min1, List.forall_mem_cons.mpr ⟨cd_JI_bitCount, List.forall_mem_cons.mpr ⟨cd_JA_fill0, List.forall_mem_cons.mpr ⟨cd_JA_fill1, List.forall_mem_cons.mpr ⟨cd_Bk_init, List.forall_mem_cons.mpr ⟨cd_Bk_detail, List.forall_mem_cons.mpr ⟨cd_Bs_init, List.forall_mem_cons.mpr ⟨cd_Bs_isFull, List.forall_mem_cons.mpr ⟨cd_Bs_addLook, List.forall_mem_cons.mpr ⟨cd_Bs_addStay, List.forall_mem_cons.mpr ⟨cd_Bs_addEntry, List.forall_mem_cons.mpr ⟨cd_Bs_isEntry, fun _ h => absurd h List.not_mem_nil⟩⟩⟩⟩⟩⟩⟩⟩⟩⟩⟩⟩⟩⟩⟩⟩
def zM1 : List (Nat × Nat × Nat × Nat) := [(1285, 1284, 47, 7), (1289, 1288, 48, 7), (1277, 1275, 1375, 7), (1298, 1296, 1396, 7), (373, 372, 0, 11), (425, 423, 523, 11), (514, 512, 612, 11), (518, 516, 616, 11), (772, 770, 870, 11), (779, 777, 877, 11), (681, 680, 0, 16), (811, 809, 909, 16), (851, 849, 949, 16), (1068, 1066, 1166, 16), (175, 174, 0, 6), (756, 754, 854, 6)]
theorem mR1 : (zP1.zip zM1).all (fun q => mOK q.1 q.2) = true := by decide +kernel
set_option maxRecDepth 100000 in
theorem cd_Bs_lookAhead : Cond.code (pY P_Bs_lookAhead) (pB P_Bs_lookAhead) (pL P_Bs_lookAhead) (pRet P_Bs_lookAhead) ∈ tables_1 := List.mem_of_getElem? (i := 1285) rfl
set_option maxRecDepth 100000 in
theorem cd_Bs_lookBehind : Cond.code (pY P_Bs_lookBehind) (pB P_Bs_lookBehind) (pL P_Bs_lookBehind) (pRet P_Bs_lookBehind) ∈ tables_1 := List.mem_of_getElem? (i := 1289) rfl
set_option maxRecDepth 100000 in
theorem cd_Bs_lostAt : Cond.code (pY P_Bs_lostAt) (pB P_Bs_lostAt) (pL P_Bs_lostAt) (pRet P_Bs_lostAt) ∈ tables_1 := List.mem_of_getElem? (i := 1277) rfl
set_option maxRecDepth 100000 in
theorem cd_Bs_lostCoins : Cond.code (pY P_Bs_lostCoins) (pB P_Bs_lostCoins) (pL P_Bs_lostCoins) (pRet P_Bs_lostCoins) ∈ tables_1 := List.mem_of_getElem? (i := 1298) rfl
set_option maxRecDepth 100000 in
theorem cd_Co_init : Cond.code (pY P_Co_init) (pB P_Co_init) (pL P_Co_init) (pRet P_Co_init) ∈ tables_1 := List.mem_of_getElem? (i := 373) rfl
set_option maxRecDepth 100000 in
theorem cd_Co_takes : Cond.code (pY P_Co_takes) (pB P_Co_takes) (pL P_Co_takes) (pRet P_Co_takes) ∈ tables_1 := List.mem_of_getElem? (i := 425) rfl
set_option maxRecDepth 100000 in
theorem cd_Co_isShut : Cond.code (pY P_Co_isShut) (pB P_Co_isShut) (pL P_Co_isShut) (pRet P_Co_isShut) ∈ tables_1 := List.mem_of_getElem? (i := 514) rfl
set_option maxRecDepth 100000 in
theorem cd_Co_setShut : Cond.code (pY P_Co_setShut) (pB P_Co_setShut) (pL P_Co_setShut) (pRet P_Co_setShut) ∈ tables_1 := List.mem_of_getElem? (i := 518) rfl
set_option maxRecDepth 100000 in
theorem cd_Co_hadCode : Cond.code (pY P_Co_hadCode) (pB P_Co_hadCode) (pL P_Co_hadCode) (pRet P_Co_hadCode) ∈ tables_1 := List.mem_of_getElem? (i := 772) rfl
set_option maxRecDepth 100000 in
theorem cd_Co_keepCode : Cond.code (pY P_Co_keepCode) (pB P_Co_keepCode) (pL P_Co_keepCode) (pRet P_Co_keepCode) ∈ tables_1 := List.mem_of_getElem? (i := 779) rfl
set_option maxRecDepth 100000 in
theorem cd_Jb_init : Cond.code (pY P_Jb_init) (pB P_Jb_init) (pL P_Jb_init) (pRet P_Jb_init) ∈ tables_1 := List.mem_of_getElem? (i := 681) rfl
set_option maxRecDepth 100000 in
theorem cd_Jb_isReady : Cond.code (pY P_Jb_isReady) (pB P_Jb_isReady) (pL P_Jb_isReady) (pRet P_Jb_isReady) ∈ tables_1 := List.mem_of_getElem? (i := 811) rfl
set_option maxRecDepth 100000 in
theorem cd_Jb_lateness : Cond.code (pY P_Jb_lateness) (pB P_Jb_lateness) (pL P_Jb_lateness) (pRet P_Jb_lateness) ∈ tables_1 := List.mem_of_getElem? (i := 851) rfl
set_option maxRecDepth 100000 in
theorem cd_Jb_detail : Cond.code (pY P_Jb_detail) (pB P_Jb_detail) (pL P_Jb_detail) (pRet P_Jb_detail) ∈ tables_1 := List.mem_of_getElem? (i := 1068) rfl
set_option maxRecDepth 100000 in
theorem cd_La_init : Cond.code (pY P_La_init) (pB P_La_init) (pL P_La_init) (pRet P_La_init) ∈ tables_1 := List.mem_of_getElem? (i := 175) rfl
set_option maxRecDepth 100000 in
theorem cd_La_sendOut : Cond.code (pY P_La_sendOut) (pB P_La_sendOut) (pL P_La_sendOut) (pRet P_La_sendOut) ∈ tables_1 := List.mem_of_getElem? (i := 756) rfl
theorem cdR1 : ∀ P ∈ zP1.take 16, Cond.code (pY P) (pB P) (pL P) (pRet P) ∈ tables_1 := List.forall_mem_cons.mpr ⟨cd_Bs_lookAhead, List.forall_mem_cons.mpr ⟨cd_Bs_lookBehind, List.forall_mem_cons.mpr ⟨cd_Bs_lostAt, List.forall_mem_cons.mpr ⟨cd_Bs_lostCoins, List.forall_mem_cons.mpr ⟨cd_Co_init, List.forall_mem_cons.mpr ⟨cd_Co_takes, List.forall_mem_cons.mpr ⟨cd_Co_isShut, List.forall_mem_cons.mpr ⟨cd_Co_setShut, List.forall_mem_cons.mpr ⟨cd_Co_hadCode, List.forall_mem_cons.mpr ⟨cd_Co_keepCode, List.forall_mem_cons.mpr ⟨cd_Jb_init, List.forall_mem_cons.mpr ⟨cd_Jb_isReady, List.forall_mem_cons.mpr ⟨cd_Jb_lateness, List.forall_mem_cons.mpr ⟨cd_Jb_detail, List.forall_mem_cons.mpr ⟨cd_La_init, List.forall_mem_cons.mpr ⟨cd_La_sendOut, fun _ h => absurd h List.not_mem_nil⟩⟩⟩⟩⟩⟩⟩⟩⟩⟩⟩⟩⟩⟩⟩⟩
def zM2 : List (Nat × Nat × Nat × Nat) := [(894, 892, 992, 6), (1081, 1079, 1179, 6), (1089, 1087, 1187, 6), (1092, 1091, 0, 6), (47, 46, 0, 2), (531, 529, 629, 2), (535, 533, 633, 2), (539, 537, 637, 2), (543, 541, 641, 2), (547, 546, 5, 2), (551, 550, 6, 2), (566, 564, 664, 2), (574, 572, 672, 2), (87, 86, 0, 3), (649, 647, 747, 3), (1010, 1008, 1108, 3)]
theorem mR2 : (zP2.zip zM2).all (fun q => mOK q.1 q.2) = true := by decide +kernel
set_option maxRecDepth 100000 in
theorem cd_La_takeBack : Cond.code (pY P_La_takeBack) (pB P_La_takeBack) (pL P_La_takeBack) (pRet P_La_takeBack) ∈ tables_1 := List.mem_of_getElem? (i := 894) rfl
set_option maxRecDepth 100000 in
theorem cd_La_detail : Cond.code (pY P_La_detail) (pB P_La_detail) (pL P_La_detail) (pRet P_La_detail) ∈ tables_1 := List.mem_of_getElem? (i := 1081) rfl
set_option maxRecDepth 100000 in
theorem cd_La_fewestSets : Cond.code (pY P_La_fewestSets) (pB P_La_fewestSets) (pL P_La_fewestSets) (pRet P_La_fewestSets) ∈ tables_1 := List.mem_of_getElem? (i := 1089) rfl
set_option maxRecDepth 100000 in
theorem cd_La_guestsIn : Cond.code (pY P_La_guestsIn) (pB P_La_guestsIn) (pL P_La_guestsIn) (pRet P_La_guestsIn) ∈ tables_1 := List.mem_of_getElem? (i := 1092) rfl
set_option maxRecDepth 100000 in
theorem cd_Mv_init : Cond.code (pY P_Mv_init) (pB P_Mv_init) (pL P_Mv_init) (pRet P_Mv_init) ∈ tables_1 := List.mem_of_getElem? (i := 47) rfl
set_option maxRecDepth 100000 in
theorem cd_Mv_clear : Cond.code (pY P_Mv_clear) (pB P_Mv_clear) (pL P_Mv_clear) (pRet P_Mv_clear) ∈ tables_1 := List.mem_of_getElem? (i := 531) rfl
set_option maxRecDepth 100000 in
theorem cd_Mv_addCottage : Cond.code (pY P_Mv_addCottage) (pB P_Mv_addCottage) (pL P_Mv_addCottage) (pRet P_Mv_addCottage) ∈ tables_1 := List.mem_of_getElem? (i := 535) rfl
set_option maxRecDepth 100000 in
theorem cd_Mv_addBooking : Cond.code (pY P_Mv_addBooking) (pB P_Mv_addBooking) (pL P_Mv_addBooking) (pRet P_Mv_addBooking) ∈ tables_1 := List.mem_of_getElem? (i := 539) rfl
set_option maxRecDepth 100000 in
theorem cd_Mv_find : Cond.code (pY P_Mv_find) (pB P_Mv_find) (pL P_Mv_find) (pRet P_Mv_find) ∈ tables_1 := List.mem_of_getElem? (i := 543) rfl
set_option maxRecDepth 100000 in
theorem cd_Mv_place : Cond.code (pY P_Mv_place) (pB P_Mv_place) (pL P_Mv_place) (pRet P_Mv_place) ∈ tables_1 := List.mem_of_getElem? (i := 547) rfl
set_option maxRecDepth 100000 in
theorem cd_Mv_keepIfBetter : Cond.code (pY P_Mv_keepIfBetter) (pB P_Mv_keepIfBetter) (pL P_Mv_keepIfBetter) (pRet P_Mv_keepIfBetter) ∈ tables_1 := List.mem_of_getElem? (i := 551) rfl
set_option maxRecDepth 100000 in
theorem cd_Mv_goalOf : Cond.code (pY P_Mv_goalOf) (pB P_Mv_goalOf) (pL P_Mv_goalOf) (pRet P_Mv_goalOf) ∈ tables_1 := List.mem_of_getElem? (i := 566) rfl
set_option maxRecDepth 100000 in
theorem cd_Mv_carryOut : Cond.code (pY P_Mv_carryOut) (pB P_Mv_carryOut) (pL P_Mv_carryOut) (pRet P_Mv_carryOut) ∈ tables_1 := List.mem_of_getElem? (i := 574) rfl
set_option maxRecDepth 100000 in
theorem cd_Pl_init : Cond.code (pY P_Pl_init) (pB P_Pl_init) (pL P_Pl_init) (pRet P_Pl_init) ∈ tables_1 := List.mem_of_getElem? (i := 87) rfl
set_option maxRecDepth 100000 in
theorem cd_Pl_forget : Cond.code (pY P_Pl_forget) (pB P_Pl_forget) (pL P_Pl_forget) (pRet P_Pl_forget) ∈ tables_1 := List.mem_of_getElem? (i := 649) rfl
set_option maxRecDepth 100000 in
theorem cd_Pl_possible : Cond.code (pY P_Pl_possible) (pB P_Pl_possible) (pL P_Pl_possible) (pRet P_Pl_possible) ∈ tables_1 := List.mem_of_getElem? (i := 1010) rfl
theorem cdR2 : ∀ P ∈ zP2.take 16, Cond.code (pY P) (pB P) (pL P) (pRet P) ∈ tables_1 := List.forall_mem_cons.mpr ⟨cd_La_takeBack, List.forall_mem_cons.mpr ⟨cd_La_detail, List.forall_mem_cons.mpr ⟨cd_La_fewestSets, List.forall_mem_cons.mpr ⟨cd_La_guestsIn, List.forall_mem_cons.mpr ⟨cd_Mv_init, List.forall_mem_cons.mpr ⟨cd_Mv_clear, List.forall_mem_cons.mpr ⟨cd_Mv_addCottage, List.forall_mem_cons.mpr ⟨cd_Mv_addBooking, List.forall_mem_cons.mpr ⟨cd_Mv_find, List.forall_mem_cons.mpr ⟨cd_Mv_place, List.forall_mem_cons.mpr ⟨cd_Mv_keepIfBetter, List.forall_mem_cons.mpr ⟨cd_Mv_goalOf, List.forall_mem_cons.mpr ⟨cd_Mv_carryOut, List.forall_mem_cons.mpr ⟨cd_Pl_init, List.forall_mem_cons.mpr ⟨cd_Pl_forget, List.forall_mem_cons.mpr ⟨cd_Pl_possible, fun _ h => absurd h List.not_mem_nil⟩⟩⟩⟩⟩⟩⟩⟩⟩⟩⟩⟩⟩⟩⟩⟩
def zM3 : List (Nat × Nat × Nat × Nat) := [(1014, 1012, 1112, 3), (1024, 1022, 1122, 3), (1027, 1026, 0, 3), (990, 989, 0, 3), (922, 920, 1020, 3), (926, 925, 25, 3), (934, 932, 1032, 3), (947, 946, 27, 3), (943, 942, 26, 3), (959, 958, 28, 3), (972, 971, 30, 3), (976, 975, 31, 3), (983, 982, 32, 3), (963, 962, 29, 3), (987, 986, 33, 3), (994, 993, 34, 3)]
theorem mR3 : (zP3.zip zM3).all (fun q => mOK q.1 q.2) = true := by decide +kernel
set_option maxRecDepth 100000 in
theorem cd_Pl_costPart : Cond.code (pY P_Pl_costPart) (pB P_Pl_costPart) (pL P_Pl_costPart) (pRet P_Pl_costPart) ∈ tables_1 := List.mem_of_getElem? (i := 1014) rfl
set_option maxRecDepth 100000 in
theorem cd_Pl_copyRow : Cond.code (pY P_Pl_copyRow) (pB P_Pl_copyRow) (pL P_Pl_copyRow) (pRet P_Pl_copyRow) ∈ tables_1 := List.mem_of_getElem? (i := 1024) rfl
set_option maxRecDepth 100000 in
theorem cd_Pl_digit : Cond.code (pY P_Pl_digit) (pB P_Pl_digit) (pL P_Pl_digit) (pRet P_Pl_digit) ∈ tables_1 := List.mem_of_getElem? (i := 1027) rfl
set_option maxRecDepth 100000 in
theorem cd_Pl_shiftOf : Cond.code (pY P_Pl_shiftOf) (pB P_Pl_shiftOf) (pL P_Pl_shiftOf) (pRet P_Pl_shiftOf) ∈ tables_1 := List.mem_of_getElem? (i := 990) rfl
set_option maxRecDepth 100000 in
theorem cd_Pl_gather : Cond.code (pY P_Pl_gather) (pB P_Pl_gather) (pL P_Pl_gather) (pRet P_Pl_gather) ∈ tables_1 := List.mem_of_getElem? (i := 922) rfl
set_option maxRecDepth 100000 in
theorem cd_Pl_teamWith : Cond.code (pY P_Pl_teamWith) (pB P_Pl_teamWith) (pL P_Pl_teamWith) (pRet P_Pl_teamWith) ∈ tables_1 := List.mem_of_getElem? (i := 926) rfl
set_option maxRecDepth 100000 in
theorem cd_Pl_find : Cond.code (pY P_Pl_find) (pB P_Pl_find) (pL P_Pl_find) (pRet P_Pl_find) ∈ tables_1 := List.mem_of_getElem? (i := 934) rfl
set_option maxRecDepth 100000 in
theorem cd_Pl_start : Cond.code (pY P_Pl_start) (pB P_Pl_start) (pL P_Pl_start) (pRet P_Pl_start) ∈ tables_1 := List.mem_of_getElem? (i := 947) rfl
set_option maxRecDepth 100000 in
theorem cd_Pl_costAtHand : Cond.code (pY P_Pl_costAtHand) (pB P_Pl_costAtHand) (pL P_Pl_costAtHand) (pRet P_Pl_costAtHand) ∈ tables_1 := List.mem_of_getElem? (i := 943) rfl
set_option maxRecDepth 100000 in
theorem cd_Pl_indexOf : Cond.code (pY P_Pl_indexOf) (pB P_Pl_indexOf) (pL P_Pl_indexOf) (pRet P_Pl_indexOf) ∈ tables_1 := List.mem_of_getElem? (i := 959) rfl
set_option maxRecDepth 100000 in
theorem cd_Pl_costInHaste : Cond.code (pY P_Pl_costInHaste) (pB P_Pl_costInHaste) (pL P_Pl_costInHaste) (pRet P_Pl_costInHaste) ∈ tables_1 := List.mem_of_getElem? (i := 972) rfl
set_option maxRecDepth 100000 in
theorem cd_Pl_takeSoonest : Cond.code (pY P_Pl_takeSoonest) (pB P_Pl_takeSoonest) (pL P_Pl_takeSoonest) (pRet P_Pl_takeSoonest) ∈ tables_1 := List.mem_of_getElem? (i := 976) rfl
set_option maxRecDepth 100000 in
theorem cd_Pl_lengthen : Cond.code (pY P_Pl_lengthen) (pB P_Pl_lengthen) (pL P_Pl_lengthen) (pRet P_Pl_lengthen) ∈ tables_1 := List.mem_of_getElem? (i := 983) rfl
set_option maxRecDepth 100000 in
theorem cd_Pl_putBehind : Cond.code (pY P_Pl_putBehind) (pB P_Pl_putBehind) (pL P_Pl_putBehind) (pRet P_Pl_putBehind) ∈ tables_1 := List.mem_of_getElem? (i := 963) rfl
set_option maxRecDepth 100000 in
theorem cd_Pl_isIdle : Cond.code (pY P_Pl_isIdle) (pB P_Pl_isIdle) (pL P_Pl_isIdle) (pRet P_Pl_isIdle) ∈ tables_1 := List.mem_of_getElem? (i := 987) rfl
set_option maxRecDepth 100000 in
theorem cd_Pl_keepRow : Cond.code (pY P_Pl_keepRow) (pB P_Pl_keepRow) (pL P_Pl_keepRow) (pRet P_Pl_keepRow) ∈ tables_1 := List.mem_of_getElem? (i := 994) rfl
theorem cdR3 : ∀ P ∈ zP3.take 16, Cond.code (pY P) (pB P) (pL P) (pRet P) ∈ tables_1 := List.forall_mem_cons.mpr ⟨cd_Pl_costPart, List.forall_mem_cons.mpr ⟨cd_Pl_copyRow, List.forall_mem_cons.mpr ⟨cd_Pl_digit, List.forall_mem_cons.mpr ⟨cd_Pl_shiftOf, List.forall_mem_cons.mpr ⟨cd_Pl_gather, List.forall_mem_cons.mpr ⟨cd_Pl_teamWith, List.forall_mem_cons.mpr ⟨cd_Pl_find, List.forall_mem_cons.mpr ⟨cd_Pl_start, List.forall_mem_cons.mpr ⟨cd_Pl_costAtHand, List.forall_mem_cons.mpr ⟨cd_Pl_indexOf, List.forall_mem_cons.mpr ⟨cd_Pl_costInHaste, List.forall_mem_cons.mpr ⟨cd_Pl_takeSoonest, List.forall_mem_cons.mpr ⟨cd_Pl_lengthen, List.forall_mem_cons.mpr ⟨cd_Pl_putBehind, List.forall_mem_cons.mpr ⟨cd_Pl_isIdle, List.forall_mem_cons.mpr ⟨cd_Pl_keepRow, fun _ h => absurd h List.not_mem_nil⟩⟩⟩⟩⟩⟩⟩⟩⟩⟩⟩⟩⟩⟩⟩⟩
def zM4 : List (Nat × Nat × Nat × Nat) := [(998, 997, 35, 3), (1002, 1001, 36, 3), (1006, 1005, 37, 3), (93, 92, 0, 4), (645, 643, 743, 4), (967, 965, 1065, 4), (594, 593, 0, 15), (783, 781, 881, 15), (787, 786, 14, 15), (1039, 1037, 1137, 15), (930, 928, 1028, 15), (1426, 1424, 1524, 15), (951, 949, 1049, 15), (1047, 1045, 1145, 15), (1051, 1050, 39, 15), (954, 953, 0, 15)]
theorem mR4 : (zP4.zip zM4).all (fun q => mOK q.1 q.2) = true := by decide +kernel
set_option maxRecDepth 100000 in
theorem cd_Pl_share : Cond.code (pY P_Pl_share) (pB P_Pl_share) (pL P_Pl_share) (pRet P_Pl_share) ∈ tables_1 := List.mem_of_getElem? (i := 998) rfl
set_option maxRecDepth 100000 in
theorem cd_Pl_shareOthers : Cond.code (pY P_Pl_shareOthers) (pB P_Pl_shareOthers) (pL P_Pl_shareOthers) (pRet P_Pl_shareOthers) ∈ tables_1 := List.mem_of_getElem? (i := 1002) rfl
set_option maxRecDepth 100000 in
theorem cd_Pl_isLikelier : Cond.code (pY P_Pl_isLikelier) (pB P_Pl_isLikelier) (pL P_Pl_isLikelier) (pRet P_Pl_isLikelier) ∈ tables_1 := List.mem_of_getElem? (i := 1006) rfl
set_option maxRecDepth 100000 in
theorem cd_Ro_init : Cond.code (pY P_Ro_init) (pB P_Ro_init) (pL P_Ro_init) (pRet P_Ro_init) ∈ tables_1 := List.mem_of_getElem? (i := 93) rfl
set_option maxRecDepth 100000 in
theorem cd_Ro_tell : Cond.code (pY P_Ro_tell) (pB P_Ro_tell) (pL P_Ro_tell) (pRet P_Ro_tell) ∈ tables_1 := List.mem_of_getElem? (i := 645) rfl
set_option maxRecDepth 100000 in
theorem cd_Ro_minutes : Cond.code (pY P_Ro_minutes) (pB P_Ro_minutes) (pL P_Ro_minutes) (pRet P_Ro_minutes) ∈ tables_1 := List.mem_of_getElem? (i := 967) rfl
set_option maxRecDepth 100000 in
theorem cd_Te_init : Cond.code (pY P_Te_init) (pB P_Te_init) (pL P_Te_init) (pRet P_Te_init) ∈ tables_1 := List.mem_of_getElem? (i := 594) rfl
set_option maxRecDepth 100000 in
theorem cd_Te_startDay : Cond.code (pY P_Te_startDay) (pB P_Te_startDay) (pL P_Te_startDay) (pRet P_Te_startDay) ∈ tables_1 := List.mem_of_getElem? (i := 783) rfl
set_option maxRecDepth 100000 in
theorem cd_Te_rests : Cond.code (pY P_Te_rests) (pB P_Te_rests) (pL P_Te_rests) (pRet P_Te_rests) ∈ tables_1 := List.mem_of_getElem? (i := 787) rfl
set_option maxRecDepth 100000 in
theorem cd_Te_rowAt : Cond.code (pY P_Te_rowAt) (pB P_Te_rowAt) (pL P_Te_rowAt) (pRet P_Te_rowAt) ∈ tables_1 := List.mem_of_getElem? (i := 1039) rfl
set_option maxRecDepth 100000 in
theorem cd_Te_hasInRow : Cond.code (pY P_Te_hasInRow) (pB P_Te_hasInRow) (pL P_Te_hasInRow) (pRet P_Te_hasInRow) ∈ tables_1 := List.mem_of_getElem? (i := 930) rfl
set_option maxRecDepth 100000 in
theorem cd_Te_detail : Cond.code (pY P_Te_detail) (pB P_Te_detail) (pL P_Te_detail) (pRet P_Te_detail) ∈ tables_1 := List.mem_of_getElem? (i := 1426) rfl
set_option maxRecDepth 100000 in
theorem cd_Te_freeAt : Cond.code (pY P_Te_freeAt) (pB P_Te_freeAt) (pL P_Te_freeAt) (pRet P_Te_freeAt) ∈ tables_1 := List.mem_of_getElem? (i := 951) rfl
set_option maxRecDepth 100000 in
theorem cd_Te_passMinute : Cond.code (pY P_Te_passMinute) (pB P_Te_passMinute) (pL P_Te_passMinute) (pRet P_Te_passMinute) ∈ tables_1 := List.mem_of_getElem? (i := 1047) rfl
set_option maxRecDepth 100000 in
theorem cd_Te_step : Cond.code (pY P_Te_step) (pB P_Te_step) (pL P_Te_step) (pRet P_Te_step) ∈ tables_1 := List.mem_of_getElem? (i := 1051) rfl
set_option maxRecDepth 100000 in
theorem cd_Te_jobAmong : Cond.code (pY P_Te_jobAmong) (pB P_Te_jobAmong) (pL P_Te_jobAmong) (pRet P_Te_jobAmong) ∈ tables_1 := List.mem_of_getElem? (i := 954) rfl
theorem cdR4 : ∀ P ∈ zP4.take 16, Cond.code (pY P) (pB P) (pL P) (pRet P) ∈ tables_1 := List.forall_mem_cons.mpr ⟨cd_Pl_share, List.forall_mem_cons.mpr ⟨cd_Pl_shareOthers, List.forall_mem_cons.mpr ⟨cd_Pl_isLikelier, List.forall_mem_cons.mpr ⟨cd_Ro_init, List.forall_mem_cons.mpr ⟨cd_Ro_tell, List.forall_mem_cons.mpr ⟨cd_Ro_minutes, List.forall_mem_cons.mpr ⟨cd_Te_init, List.forall_mem_cons.mpr ⟨cd_Te_startDay, List.forall_mem_cons.mpr ⟨cd_Te_rests, List.forall_mem_cons.mpr ⟨cd_Te_rowAt, List.forall_mem_cons.mpr ⟨cd_Te_hasInRow, List.forall_mem_cons.mpr ⟨cd_Te_detail, List.forall_mem_cons.mpr ⟨cd_Te_freeAt, List.forall_mem_cons.mpr ⟨cd_Te_passMinute, List.forall_mem_cons.mpr ⟨cd_Te_step, List.forall_mem_cons.mpr ⟨cd_Te_jobAmong, fun _ h => absurd h List.not_mem_nil⟩⟩⟩⟩⟩⟩⟩⟩⟩⟩⟩⟩⟩⟩⟩⟩
def zM5 : List (Nat × Nat × Nat × Nat) := [(1060, 1059, 41, 15), (1055, 1054, 40, 15), (241, 240, 0, 9), (1100, 1099, 0, 9), (1104, 1102, 1202, 9), (838, 837, 0, 9), (1127, 1126, 0, 9), (879, 878, 0, 9), (862, 861, 0, 9), (882, 881, 0, 9), (1116, 1114, 1214, 9), (1120, 1119, 42, 9), (1124, 1123, 43, 9), (1214, 1213, 44, 9), (1217, 1216, 0, 9), (819, 817, 917, 9)]
theorem mR5 : (zP5.zip zM5).all (fun q => mOK q.1 q.2) = true := by decide +kernel
set_option maxRecDepth 100000 in
theorem cd_Te_begin : Cond.code (pY P_Te_begin) (pB P_Te_begin) (pL P_Te_begin) (pRet P_Te_begin) ∈ tables_1 := List.mem_of_getElem? (i := 1060) rfl
set_option maxRecDepth 100000 in
theorem cd_Te_go : Cond.code (pY P_Te_go) (pB P_Te_go) (pL P_Te_go) (pRet P_Te_go) ∈ tables_1 := List.mem_of_getElem? (i := 1055) rfl
set_option maxRecDepth 100000 in
theorem cd_Tx_init : Cond.code (pY P_Tx_init) (pB P_Tx_init) (pL P_Tx_init) (pRet P_Tx_init) ∈ tables_1 := List.mem_of_getElem? (i := 241) rfl
set_option maxRecDepth 100000 in
theorem cd_Tx_bytesOf : Cond.code (pY P_Tx_bytesOf) (pB P_Tx_bytesOf) (pL P_Tx_bytesOf) (pRet P_Tx_bytesOf) ∈ tables_1 := List.mem_of_getElem? (i := 1100) rfl
set_option maxRecDepth 100000 in
theorem cd_Tx_addBytes : Cond.code (pY P_Tx_addBytes) (pB P_Tx_addBytes) (pL P_Tx_addBytes) (pRet P_Tx_addBytes) ∈ tables_1 := List.mem_of_getElem? (i := 1104) rfl
set_option maxRecDepth 100000 in
theorem cd_Tx_isDigit : Cond.code (pY P_Tx_isDigit) (pB P_Tx_isDigit) (pL P_Tx_isDigit) (pRet P_Tx_isDigit) ∈ tables_1 := List.mem_of_getElem? (i := 838) rfl
set_option maxRecDepth 100000 in
theorem cd_Tx_isLetter : Cond.code (pY P_Tx_isLetter) (pB P_Tx_isLetter) (pL P_Tx_isLetter) (pRet P_Tx_isLetter) ∈ tables_1 := List.mem_of_getElem? (i := 1127) rfl
set_option maxRecDepth 100000 in
theorem cd_Tx_isPlusOrMinus : Cond.code (pY P_Tx_isPlusOrMinus) (pB P_Tx_isPlusOrMinus) (pL P_Tx_isPlusOrMinus) (pRet P_Tx_isPlusOrMinus) ∈ tables_1 := List.mem_of_getElem? (i := 879) rfl
set_option maxRecDepth 100000 in
theorem cd_Tx_isTimesOrBy : Cond.code (pY P_Tx_isTimesOrBy) (pB P_Tx_isTimesOrBy) (pL P_Tx_isTimesOrBy) (pRet P_Tx_isTimesOrBy) ∈ tables_1 := List.mem_of_getElem? (i := 862) rfl
set_option maxRecDepth 100000 in
theorem cd_Tx_isComparison : Cond.code (pY P_Tx_isComparison) (pB P_Tx_isComparison) (pL P_Tx_isComparison) (pRet P_Tx_isComparison) ∈ tables_1 := List.mem_of_getElem? (i := 882) rfl
set_option maxRecDepth 100000 in
theorem cd_Tx_firstFault : Cond.code (pY P_Tx_firstFault) (pB P_Tx_firstFault) (pL P_Tx_firstFault) (pRet P_Tx_firstFault) ∈ tables_1 := List.mem_of_getElem? (i := 1116) rfl
set_option maxRecDepth 100000 in
theorem cd_Tx_goesOnWith : Cond.code (pY P_Tx_goesOnWith) (pB P_Tx_goesOnWith) (pL P_Tx_goesOnWith) (pRet P_Tx_goesOnWith) ∈ tables_1 := List.mem_of_getElem? (i := 1120) rfl
set_option maxRecDepth 100000 in
theorem cd_Tx_beginsAtom : Cond.code (pY P_Tx_beginsAtom) (pB P_Tx_beginsAtom) (pL P_Tx_beginsAtom) (pRet P_Tx_beginsAtom) ∈ tables_1 := List.mem_of_getElem? (i := 1124) rfl
set_option maxRecDepth 100000 in
theorem cd_Tx_followsAtom : Cond.code (pY P_Tx_followsAtom) (pB P_Tx_followsAtom) (pL P_Tx_followsAtom) (pRet P_Tx_followsAtom) ∈ tables_1 := List.mem_of_getElem? (i := 1214) rfl
set_option maxRecDepth 100000 in
theorem cd_Tx_partBehind : Cond.code (pY P_Tx_partBehind) (pB P_Tx_partBehind) (pL P_Tx_partBehind) (pRet P_Tx_partBehind) ∈ tables_1 := List.mem_of_getElem? (i := 1217) rfl
set_option maxRecDepth 100000 in
theorem cd_Tx_coinsFor : Cond.code (pY P_Tx_coinsFor) (pB P_Tx_coinsFor) (pL P_Tx_coinsFor) (pRet P_Tx_coinsFor) ∈ tables_1 := List.mem_of_getElem? (i := 819) rfl
theorem cdR5 : ∀ P ∈ zP5.take 16, Cond.code (pY P) (pB P) (pL P) (pRet P) ∈ tables_1 := List.forall_mem_cons.mpr ⟨cd_Te_begin, List.forall_mem_cons.mpr ⟨cd_Te_go, List.forall_mem_cons.mpr ⟨cd_Tx_init, List.forall_mem_cons.mpr ⟨cd_Tx_bytesOf, List.forall_mem_cons.mpr ⟨cd_Tx_addBytes, List.forall_mem_cons.mpr ⟨cd_Tx_isDigit, List.forall_mem_cons.mpr ⟨cd_Tx_isLetter, List.forall_mem_cons.mpr ⟨cd_Tx_isPlusOrMinus, List.forall_mem_cons.mpr ⟨cd_Tx_isTimesOrBy, List.forall_mem_cons.mpr ⟨cd_Tx_isComparison, List.forall_mem_cons.mpr ⟨cd_Tx_firstFault, List.forall_mem_cons.mpr ⟨cd_Tx_goesOnWith, List.forall_mem_cons.mpr ⟨cd_Tx_beginsAtom, List.forall_mem_cons.mpr ⟨cd_Tx_followsAtom, List.forall_mem_cons.mpr ⟨cd_Tx_partBehind, List.forall_mem_cons.mpr ⟨cd_Tx_coinsFor, fun _ h => absurd h List.not_mem_nil⟩⟩⟩⟩⟩⟩⟩⟩⟩⟩⟩⟩⟩⟩⟩⟩
def zM6 : List (Nat × Nat × Nat × Nat) := [(885, 884, 0, 9), (823, 822, 17, 9), (859, 858, 22, 9), (827, 826, 18, 9), (831, 830, 19, 9), (835, 834, 20, 9), (842, 841, 21, 9), (847, 846, 0, 9), (865, 864, 0, 9), (868, 867, 0, 9), (235, 234, 0, 8), (1226, 1224, 1324, 8), (1230, 1228, 1328, 8), (803, 801, 901, 8), (815, 813, 913, 8), (799, 797, 897, 8)]
theorem mR6 : (zP6.zip zM6).all (fun q => mOK q.1 q.2) = true := by decide +kernel
set_option maxRecDepth 100000 in
theorem cd_Tx_compares : Cond.code (pY P_Tx_compares) (pB P_Tx_compares) (pL P_Tx_compares) (pRet P_Tx_compares) ∈ tables_1 := List.mem_of_getElem? (i := 885) rfl
set_option maxRecDepth 100000 in
theorem cd_Tx_sign : Cond.code (pY P_Tx_sign) (pB P_Tx_sign) (pL P_Tx_sign) (pRet P_Tx_sign) ∈ tables_1 := List.mem_of_getElem? (i := 823) rfl
set_option maxRecDepth 100000 in
theorem cd_Tx_takeSign : Cond.code (pY P_Tx_takeSign) (pB P_Tx_takeSign) (pL P_Tx_takeSign) (pRet P_Tx_takeSign) ∈ tables_1 := List.mem_of_getElem? (i := 859) rfl
set_option maxRecDepth 100000 in
theorem cd_Tx_sumFor : Cond.code (pY P_Tx_sumFor) (pB P_Tx_sumFor) (pL P_Tx_sumFor) (pRet P_Tx_sumFor) ∈ tables_1 := List.mem_of_getElem? (i := 827) rfl
set_option maxRecDepth 100000 in
theorem cd_Tx_productFor : Cond.code (pY P_Tx_productFor) (pB P_Tx_productFor) (pL P_Tx_productFor) (pRet P_Tx_productFor) ∈ tables_1 := List.mem_of_getElem? (i := 831) rfl
set_option maxRecDepth 100000 in
theorem cd_Tx_atomFor : Cond.code (pY P_Tx_atomFor) (pB P_Tx_atomFor) (pL P_Tx_atomFor) (pRet P_Tx_atomFor) ∈ tables_1 := List.mem_of_getElem? (i := 835) rfl
set_option maxRecDepth 100000 in
theorem cd_Tx_number : Cond.code (pY P_Tx_number) (pB P_Tx_number) (pL P_Tx_number) (pRet P_Tx_number) ∈ tables_1 := List.mem_of_getElem? (i := 842) rfl
set_option maxRecDepth 100000 in
theorem cd_Tx_letterFor : Cond.code (pY P_Tx_letterFor) (pB P_Tx_letterFor) (pL P_Tx_letterFor) (pRet P_Tx_letterFor) ∈ tables_1 := List.mem_of_getElem? (i := 847) rfl
set_option maxRecDepth 100000 in
theorem cd_Tx_divided : Cond.code (pY P_Tx_divided) (pB P_Tx_divided) (pL P_Tx_divided) (pRet P_Tx_divided) ∈ tables_1 := List.mem_of_getElem? (i := 865) rfl
set_option maxRecDepth 100000 in
theorem cd_Tx_bounded : Cond.code (pY P_Tx_bounded) (pB P_Tx_bounded) (pL P_Tx_bounded) (pRet P_Tx_bounded) ∈ tables_1 := List.mem_of_getElem? (i := 868) rfl
set_option maxRecDepth 100000 in
theorem cd_Wa_init : Cond.code (pY P_Wa_init) (pB P_Wa_init) (pL P_Wa_init) (pRet P_Wa_init) ∈ tables_1 := List.mem_of_getElem? (i := 235) rfl
set_option maxRecDepth 100000 in
theorem cd_Wa_hasAllTerms : Cond.code (pY P_Wa_hasAllTerms) (pB P_Wa_hasAllTerms) (pL P_Wa_hasAllTerms) (pRet P_Wa_hasAllTerms) ∈ tables_1 := List.mem_of_getElem? (i := 1226) rfl
set_option maxRecDepth 100000 in
theorem cd_Wa_keepTape : Cond.code (pY P_Wa_keepTape) (pB P_Wa_keepTape) (pL P_Wa_keepTape) (pRet P_Wa_keepTape) ∈ tables_1 := List.mem_of_getElem? (i := 1230) rfl
set_option maxRecDepth 100000 in
theorem cd_Wa_termsFor : Cond.code (pY P_Wa_termsFor) (pB P_Wa_termsFor) (pL P_Wa_termsFor) (pRet P_Wa_termsFor) ∈ tables_1 := List.mem_of_getElem? (i := 803) rfl
set_option maxRecDepth 100000 in
theorem cd_Wa_coinsBy : Cond.code (pY P_Wa_coinsBy) (pB P_Wa_coinsBy) (pL P_Wa_coinsBy) (pRet P_Wa_coinsBy) ∈ tables_1 := List.mem_of_getElem? (i := 815) rfl
set_option maxRecDepth 100000 in
theorem cd_Wa_dropDrafts : Cond.code (pY P_Wa_dropDrafts) (pB P_Wa_dropDrafts) (pL P_Wa_dropDrafts) (pRet P_Wa_dropDrafts) ∈ tables_1 := List.mem_of_getElem? (i := 799) rfl
theorem cdR6 : ∀ P ∈ zP6.take 16, Cond.code (pY P) (pB P) (pL P) (pRet P) ∈ tables_1 := List.forall_mem_cons.mpr ⟨cd_Tx_compares, List.forall_mem_cons.mpr ⟨cd_Tx_sign, List.forall_mem_cons.mpr ⟨cd_Tx_takeSign, List.forall_mem_cons.mpr ⟨cd_Tx_sumFor, List.forall_mem_cons.mpr ⟨cd_Tx_productFor, List.forall_mem_cons.mpr ⟨cd_Tx_atomFor, List.forall_mem_cons.mpr ⟨cd_Tx_number, List.forall_mem_cons.mpr ⟨cd_Tx_letterFor, List.forall_mem_cons.mpr ⟨cd_Tx_divided, List.forall_mem_cons.mpr ⟨cd_Tx_bounded, List.forall_mem_cons.mpr ⟨cd_Wa_init, List.forall_mem_cons.mpr ⟨cd_Wa_hasAllTerms, List.forall_mem_cons.mpr ⟨cd_Wa_keepTape, List.forall_mem_cons.mpr ⟨cd_Wa_termsFor, List.forall_mem_cons.mpr ⟨cd_Wa_coinsBy, List.forall_mem_cons.mpr ⟨cd_Wa_dropDrafts, fun _ h => absurd h List.not_mem_nil⟩⟩⟩⟩⟩⟩⟩⟩⟩⟩⟩⟩⟩⟩⟩⟩
def zM7 : List (Nat × Nat × Nat × Nat) := [(890, 888, 988, 8), (898, 896, 996, 8), (1247, 1245, 1345, 8), (31, 30, 0, 1), (366, 364, 464, 1), (406, 404, 504, 1), (414, 412, 512, 1), (502, 500, 600, 1), (510, 508, 608, 1), (523, 521, 621, 1), (562, 560, 660, 1), (570, 568, 668, 1), (578, 576, 676, 1), (586, 584, 684, 1), (590, 588, 688, 1), (641, 639, 739, 1)]
theorem mR7 : (zP7.zip zM7).all (fun q => mOK q.1 q.2) = true := by decide +kernel
set_option maxRecDepth 100000 in
theorem cd_Wa_draft : Cond.code (pY P_Wa_draft) (pB P_Wa_draft) (pL P_Wa_draft) (pRet P_Wa_draft) ∈ tables_1 := List.mem_of_getElem? (i := 890) rfl
set_option maxRecDepth 100000 in
theorem cd_Wa_enterDrafts : Cond.code (pY P_Wa_enterDrafts) (pB P_Wa_enterDrafts) (pL P_Wa_enterDrafts) (pRet P_Wa_enterDrafts) ∈ tables_1 := List.mem_of_getElem? (i := 898) rfl
set_option maxRecDepth 100000 in
theorem cd_Wa_lineDetail : Cond.code (pY P_Wa_lineDetail) (pB P_Wa_lineDetail) (pL P_Wa_lineDetail) (pRet P_Wa_lineDetail) ∈ tables_1 := List.mem_of_getElem? (i := 1247) rfl
set_option maxRecDepth 100000 in
theorem cd_CY_init : Cond.code (pY P_CY_init) (pB P_CY_init) (pL P_CY_init) (pRet P_CY_init) ∈ tables_1 := List.mem_of_getElem? (i := 31) rfl
set_option maxRecDepth 100000 in
theorem cd_CY_cottage : Cond.code (pY P_CY_cottage) (pB P_CY_cottage) (pL P_CY_cottage) (pRet P_CY_cottage) ∈ tables_1 := List.mem_of_getElem? (i := 366) rfl
set_option maxRecDepth 100000 in
theorem cd_CY_rent : Cond.code (pY P_CY_rent) (pB P_CY_rent) (pL P_CY_rent) (pRet P_CY_rent) ∈ tables_1 := List.mem_of_getElem? (i := 406) rfl
set_option maxRecDepth 100000 in
theorem cd_CY_book : Cond.code (pY P_CY_book) (pB P_CY_book) (pL P_CY_book) (pRet P_CY_book) ∈ tables_1 := List.mem_of_getElem? (i := 414) rfl
set_option maxRecDepth 100000 in
theorem cd_CY_cancel : Cond.code (pY P_CY_cancel) (pB P_CY_cancel) (pL P_CY_cancel) (pRet P_CY_cancel) ∈ tables_1 := List.mem_of_getElem? (i := 502) rfl
set_option maxRecDepth 100000 in
theorem cd_CY_shut : Cond.code (pY P_CY_shut) (pB P_CY_shut) (pL P_CY_shut) (pRet P_CY_shut) ∈ tables_1 := List.mem_of_getElem? (i := 510) rfl
set_option maxRecDepth 100000 in
theorem cd_CY_moves : Cond.code (pY P_CY_moves) (pB P_CY_moves) (pL P_CY_moves) (pRet P_CY_moves) ∈ tables_1 := List.mem_of_getElem? (i := 523) rfl
set_option maxRecDepth 100000 in
theorem cd_CY_moved : Cond.code (pY P_CY_moved) (pB P_CY_moved) (pL P_CY_moved) (pRet P_CY_moved) ∈ tables_1 := List.mem_of_getElem? (i := 562) rfl
set_option maxRecDepth 100000 in
theorem cd_CY_move : Cond.code (pY P_CY_move) (pB P_CY_move) (pL P_CY_move) (pRet P_CY_move) ∈ tables_1 := List.mem_of_getElem? (i := 570) rfl
set_option maxRecDepth 100000 in
theorem cd_CY_booked : Cond.code (pY P_CY_booked) (pB P_CY_booked) (pL P_CY_booked) (pRet P_CY_booked) ∈ tables_1 := List.mem_of_getElem? (i := 578) rfl
set_option maxRecDepth 100000 in
theorem cd_CY_taken : Cond.code (pY P_CY_taken) (pB P_CY_taken) (pL P_CY_taken) (pRet P_CY_taken) ∈ tables_1 := List.mem_of_getElem? (i := 586) rfl
set_option maxRecDepth 100000 in
theorem cd_CY_team : Cond.code (pY P_CY_team) (pB P_CY_team) (pL P_CY_team) (pRet P_CY_team) ∈ tables_1 := List.mem_of_getElem? (i := 590) rfl
set_option maxRecDepth 100000 in
theorem cd_CY_way : Cond.code (pY P_CY_way) (pB P_CY_way) (pL P_CY_way) (pRet P_CY_way) ∈ tables_1 := List.mem_of_getElem? (i := 641) rfl
theorem cdR7 : ∀ P ∈ zP7.take 16, Cond.code (pY P) (pB P) (pL P) (pRet P) ∈ tables_1 := List.forall_mem_cons.mpr ⟨cd_Wa_draft, List.forall_mem_cons.mpr ⟨cd_Wa_enterDrafts, List.forall_mem_cons.mpr ⟨cd_Wa_lineDetail, List.forall_mem_cons.mpr ⟨cd_CY_init, List.forall_mem_cons.mpr ⟨cd_CY_cottage, List.forall_mem_cons.mpr ⟨cd_CY_rent, List.forall_mem_cons.mpr ⟨cd_CY_book, List.forall_mem_cons.mpr ⟨cd_CY_cancel, List.forall_mem_cons.mpr ⟨cd_CY_shut, List.forall_mem_cons.mpr ⟨cd_CY_moves, List.forall_mem_cons.mpr ⟨cd_CY_moved, List.forall_mem_cons.mpr ⟨cd_CY_move, List.forall_mem_cons.mpr ⟨cd_CY_booked, List.forall_mem_cons.mpr ⟨cd_CY_taken, List.forall_mem_cons.mpr ⟨cd_CY_team, List.forall_mem_cons.mpr ⟨cd_CY_way, fun _ h => absurd h List.not_mem_nil⟩⟩⟩⟩⟩⟩⟩⟩⟩⟩⟩⟩⟩⟩⟩⟩
def zM8 : List (Nat × Nat × Nat × Nat) := [(653, 651, 751, 1), (657, 655, 755, 1), (791, 789, 889, 1), (902, 900, 1000, 1), (910, 908, 1008, 1), (914, 912, 1012, 1), (1020, 1018, 1118, 1), (1031, 1029, 1129, 1), (1043, 1041, 1141, 1), (1361, 1359, 1459, 1), (1064, 1062, 1162, 1), (1073, 1071, 1171, 1), (1077, 1075, 1175, 1), (1085, 1083, 1183, 1), (1097, 1095, 1195, 1), (1108, 1106, 1206, 1)]
theorem mR8 : (zP8.zip zM8).all (fun q => mOK q.1 q.2) = true := by decide +kernel
set_option maxRecDepth 100000 in
theorem cd_CY_rest : Cond.code (pY P_CY_rest) (pB P_CY_rest) (pL P_CY_rest) (pRet P_CY_rest) ∈ tables_1 := List.mem_of_getElem? (i := 653) rfl
set_option maxRecDepth 100000 in
theorem cd_CY_openDay : Cond.code (pY P_CY_openDay) (pB P_CY_openDay) (pL P_CY_openDay) (pRet P_CY_openDay) ∈ tables_1 := List.mem_of_getElem? (i := 657) rfl
set_option maxRecDepth 100000 in
theorem cd_CY_closeDay : Cond.code (pY P_CY_closeDay) (pB P_CY_closeDay) (pL P_CY_closeDay) (pRet P_CY_closeDay) ∈ tables_1 := List.mem_of_getElem? (i := 791) rfl
set_option maxRecDepth 100000 in
theorem cd_CY_late : Cond.code (pY P_CY_late) (pB P_CY_late) (pL P_CY_late) (pRet P_CY_late) ∈ tables_1 := List.mem_of_getElem? (i := 902) rfl
set_option maxRecDepth 100000 in
theorem cd_CY_state : Cond.code (pY P_CY_state) (pB P_CY_state) (pL P_CY_state) (pRet P_CY_state) ∈ tables_1 := List.mem_of_getElem? (i := 910) rfl
set_option maxRecDepth 100000 in
theorem cd_CY_best : Cond.code (pY P_CY_best) (pB P_CY_best) (pL P_CY_best) (pRet P_CY_best) ∈ tables_1 := List.mem_of_getElem? (i := 914) rfl
set_option maxRecDepth 100000 in
theorem cd_CY_plan : Cond.code (pY P_CY_plan) (pB P_CY_plan) (pL P_CY_plan) (pRet P_CY_plan) ∈ tables_1 := List.mem_of_getElem? (i := 1020) rfl
set_option maxRecDepth 100000 in
theorem cd_CY_row : Cond.code (pY P_CY_row) (pB P_CY_row) (pL P_CY_row) (pRet P_CY_row) ∈ tables_1 := List.mem_of_getElem? (i := 1031) rfl
set_option maxRecDepth 100000 in
theorem cd_CY_tick : Cond.code (pY P_CY_tick) (pB P_CY_tick) (pL P_CY_tick) (pRet P_CY_tick) ∈ tables_1 := List.mem_of_getElem? (i := 1043) rfl
set_option maxRecDepth 100000 in
theorem cd_CY_about : Cond.code (pY P_CY_about) (pB P_CY_about) (pL P_CY_about) (pRet P_CY_about) ∈ tables_1 := List.mem_of_getElem? (i := 1361) rfl
set_option maxRecDepth 100000 in
theorem cd_CY_job : Cond.code (pY P_CY_job) (pB P_CY_job) (pL P_CY_job) (pRet P_CY_job) ∈ tables_1 := List.mem_of_getElem? (i := 1064) rfl
set_option maxRecDepth 100000 in
theorem cd_CY_linen : Cond.code (pY P_CY_linen) (pB P_CY_linen) (pL P_CY_linen) (pRet P_CY_linen) ∈ tables_1 := List.mem_of_getElem? (i := 1073) rfl
set_option maxRecDepth 100000 in
theorem cd_CY_sets : Cond.code (pY P_CY_sets) (pB P_CY_sets) (pL P_CY_sets) (pRet P_CY_sets) ∈ tables_1 := List.mem_of_getElem? (i := 1077) rfl
set_option maxRecDepth 100000 in
theorem cd_CY_fewest : Cond.code (pY P_CY_fewest) (pB P_CY_fewest) (pL P_CY_fewest) (pRet P_CY_fewest) ∈ tables_1 := List.mem_of_getElem? (i := 1085) rfl
set_option maxRecDepth 100000 in
theorem cd_CY_feed : Cond.code (pY P_CY_feed) (pB P_CY_feed) (pL P_CY_feed) (pRet P_CY_feed) ∈ tables_1 := List.mem_of_getElem? (i := 1097) rfl
set_option maxRecDepth 100000 in
theorem cd_CY_end : Cond.code (pY P_CY_end) (pB P_CY_end) (pL P_CY_end) (pRet P_CY_end) ∈ tables_1 := List.mem_of_getElem? (i := 1108) rfl
theorem cdR8 : ∀ P ∈ zP8.take 16, Cond.code (pY P) (pB P) (pL P) (pRet P) ∈ tables_1 := List.forall_mem_cons.mpr ⟨cd_CY_rest, List.forall_mem_cons.mpr ⟨cd_CY_openDay, List.forall_mem_cons.mpr ⟨cd_CY_closeDay, List.forall_mem_cons.mpr ⟨cd_CY_late, List.forall_mem_cons.mpr ⟨cd_CY_state, List.forall_mem_cons.mpr ⟨cd_CY_best, List.forall_mem_cons.mpr ⟨cd_CY_plan, List.forall_mem_cons.mpr ⟨cd_CY_row, List.forall_mem_cons.mpr ⟨cd_CY_tick, List.forall_mem_cons.mpr ⟨cd_CY_about, List.forall_mem_cons.mpr ⟨cd_CY_job, List.forall_mem_cons.mpr ⟨cd_CY_linen, List.forall_mem_cons.mpr ⟨cd_CY_sets, List.forall_mem_cons.mpr ⟨cd_CY_fewest, List.forall_mem_cons.mpr ⟨cd_CY_feed, List.forall_mem_cons.mpr ⟨cd_CY_end, fun _ h => absurd h List.not_mem_nil⟩⟩⟩⟩⟩⟩⟩⟩⟩⟩⟩⟩⟩⟩⟩⟩
def zM9 : List (Nat × Nat × Nat × Nat) := [(1112, 1110, 1210, 1), (1222, 1220, 1320, 1), (1235, 1233, 1333, 1), (1239, 1237, 1337, 1), (1243, 1241, 1341, 1), (1252, 1250, 1350, 1), (1265, 1263, 1363, 1), (1269, 1267, 1367, 1), (1294, 1292, 1392, 1), (1304, 1302, 1402, 1), (1313, 1311, 1411, 1), (1317, 1315, 1415, 1), (1333, 1331, 1431, 1), (1337, 1335, 1435, 1), (1341, 1339, 1439, 1), (369, 368, 0, 1)]
theorem mR9 : (zP9.zip zM9).all (fun q => mOK q.1 q.2) = true := by decide +kernel
set_option maxRecDepth 100000 in
theorem cd_CY_fault : Cond.code (pY P_CY_fault) (pB P_CY_fault) (pL P_CY_fault) (pRet P_CY_fault) ∈ tables_1 := List.mem_of_getElem? (i := 1112) rfl
set_option maxRecDepth 100000 in
theorem cd_CY_terms : Cond.code (pY P_CY_terms) (pB P_CY_terms) (pL P_CY_terms) (pRet P_CY_terms) ∈ tables_1 := List.mem_of_getElem? (i := 1222) rfl
set_option maxRecDepth 100000 in
theorem cd_CY_force : Cond.code (pY P_CY_force) (pB P_CY_force) (pL P_CY_force) (pRet P_CY_force) ∈ tables_1 := List.mem_of_getElem? (i := 1235) rfl
set_option maxRecDepth 100000 in
theorem cd_CY_pay : Cond.code (pY P_CY_pay) (pB P_CY_pay) (pL P_CY_pay) (pRet P_CY_pay) ∈ tables_1 := List.mem_of_getElem? (i := 1239) rfl
set_option maxRecDepth 100000 in
theorem cd_CY_line : Cond.code (pY P_CY_line) (pB P_CY_line) (pL P_CY_line) (pRet P_CY_line) ∈ tables_1 := List.mem_of_getElem? (i := 1243) rfl
set_option maxRecDepth 100000 in
theorem cd_CY_look : Cond.code (pY P_CY_look) (pB P_CY_look) (pL P_CY_look) (pRet P_CY_look) ∈ tables_1 := List.mem_of_getElem? (i := 1252) rfl
set_option maxRecDepth 100000 in
theorem cd_CY_worth : Cond.code (pY P_CY_worth) (pB P_CY_worth) (pL P_CY_worth) (pRet P_CY_worth) ∈ tables_1 := List.mem_of_getElem? (i := 1265) rfl
set_option maxRecDepth 100000 in
theorem cd_CY_lost : Cond.code (pY P_CY_lost) (pB P_CY_lost) (pL P_CY_lost) (pRet P_CY_lost) ∈ tables_1 := List.mem_of_getElem? (i := 1269) rfl
set_option maxRecDepth 100000 in
theorem cd_CY_kept : Cond.code (pY P_CY_kept) (pB P_CY_kept) (pL P_CY_kept) (pRet P_CY_kept) ∈ tables_1 := List.mem_of_getElem? (i := 1294) rfl
set_option maxRecDepth 100000 in
theorem cd_CY_complain : Cond.code (pY P_CY_complain) (pB P_CY_complain) (pL P_CY_complain) (pRet P_CY_complain) ∈ tables_1 := List.mem_of_getElem? (i := 1304) rfl
set_option maxRecDepth 100000 in
theorem cd_CY_blamed : Cond.code (pY P_CY_blamed) (pB P_CY_blamed) (pL P_CY_blamed) (pRet P_CY_blamed) ∈ tables_1 := List.mem_of_getElem? (i := 1313) rfl
set_option maxRecDepth 100000 in
theorem cd_CY_draw : Cond.code (pY P_CY_draw) (pB P_CY_draw) (pL P_CY_draw) (pRet P_CY_draw) ∈ tables_1 := List.mem_of_getElem? (i := 1317) rfl
set_option maxRecDepth 100000 in
theorem cd_CY_code : Cond.code (pY P_CY_code) (pB P_CY_code) (pL P_CY_code) (pRet P_CY_code) ∈ tables_1 := List.mem_of_getElem? (i := 1333) rfl
set_option maxRecDepth 100000 in
theorem cd_CY_door : Cond.code (pY P_CY_door) (pB P_CY_door) (pL P_CY_door) (pRet P_CY_door) ∈ tables_1 := List.mem_of_getElem? (i := 1337) rfl
set_option maxRecDepth 100000 in
theorem cd_CY_count : Cond.code (pY P_CY_count) (pB P_CY_count) (pL P_CY_count) (pRet P_CY_count) ∈ tables_1 := List.mem_of_getElem? (i := 1341) rfl
set_option maxRecDepth 100000 in
theorem cd_CY_within : Cond.code (pY P_CY_within) (pB P_CY_within) (pL P_CY_within) (pRet P_CY_within) ∈ tables_1 := List.mem_of_getElem? (i := 369) rfl
theorem cdR9 : ∀ P ∈ zP9.take 16, Cond.code (pY P) (pB P) (pL P) (pRet P) ∈ tables_1 := List.forall_mem_cons.mpr ⟨cd_CY_fault, List.forall_mem_cons.mpr ⟨cd_CY_terms, List.forall_mem_cons.mpr ⟨cd_CY_force, List.forall_mem_cons.mpr ⟨cd_CY_pay, List.forall_mem_cons.mpr ⟨cd_CY_line, List.forall_mem_cons.mpr ⟨cd_CY_look, List.forall_mem_cons.mpr ⟨cd_CY_worth, List.forall_mem_cons.mpr ⟨cd_CY_lost, List.forall_mem_cons.mpr ⟨cd_CY_kept, List.forall_mem_cons.mpr ⟨cd_CY_complain, List.forall_mem_cons.mpr ⟨cd_CY_blamed, List.forall_mem_cons.mpr ⟨cd_CY_draw, List.forall_mem_cons.mpr ⟨cd_CY_code, List.forall_mem_cons.mpr ⟨cd_CY_door, List.forall_mem_cons.mpr ⟨cd_CY_count, List.forall_mem_cons.mpr ⟨cd_CY_within, fun _ h => absurd h List.not_mem_nil⟩⟩⟩⟩⟩⟩⟩⟩⟩⟩⟩⟩⟩⟩⟩⟩
def zM10 : List (Nat × Nat × Nat × Nat) := [(421, 420, 0, 1), (418, 417, 1, 1), (410, 409, 0, 1), (506, 505, 3, 1), (1273, 1272, 45, 1), (1035, 1034, 38, 1), (677, 676, 10, 1), (807, 806, 16, 1), (906, 905, 23, 1), (429, 428, 2, 1), (527, 526, 4, 1), (661, 660, 7, 1), (673, 672, 9, 1), (752, 751, 11, 1), (763, 762, 12, 1), (767, 766, 13, 1)]
theorem mR10 : (zP10.zip zM10).all (fun q => mOK q.1 q.2) = true := by decide +kernel
set_option maxRecDepth 100000 in
theorem cd_CY_isWeek : Cond.code (pY P_CY_isWeek) (pB P_CY_isWeek) (pL P_CY_isWeek) (pRet P_CY_isWeek) ∈ tables_1 := List.mem_of_getElem? (i := 421) rfl
set_option maxRecDepth 100000 in
theorem cd_CY_isToCome : Cond.code (pY P_CY_isToCome) (pB P_CY_isToCome) (pL P_CY_isToCome) (pRet P_CY_isToCome) ∈ tables_1 := List.mem_of_getElem? (i := 418) rfl
set_option maxRecDepth 100000 in
theorem cd_CY_cottageAt : Cond.code (pY P_CY_cottageAt) (pB P_CY_cottageAt) (pL P_CY_cottageAt) (pRet P_CY_cottageAt) ∈ tables_1 := List.mem_of_getElem? (i := 410) rfl
set_option maxRecDepth 100000 in
theorem cd_CY_bookingAt : Cond.code (pY P_CY_bookingAt) (pB P_CY_bookingAt) (pL P_CY_bookingAt) (pRet P_CY_bookingAt) ∈ tables_1 := List.mem_of_getElem? (i := 506) rfl
set_option maxRecDepth 100000 in
theorem cd_CY_begunAt : Cond.code (pY P_CY_begunAt) (pB P_CY_begunAt) (pL P_CY_begunAt) (pRet P_CY_begunAt) ∈ tables_1 := List.mem_of_getElem? (i := 1273) rfl
set_option maxRecDepth 100000 in
theorem cd_CY_teamAt : Cond.code (pY P_CY_teamAt) (pB P_CY_teamAt) (pL P_CY_teamAt) (pRet P_CY_teamAt) ∈ tables_1 := List.mem_of_getElem? (i := 1035) rfl
set_option maxRecDepth 100000 in
theorem cd_CY_stayOf : Cond.code (pY P_CY_stayOf) (pB P_CY_stayOf) (pL P_CY_stayOf) (pRet P_CY_stayOf) ∈ tables_1 := List.mem_of_getElem? (i := 677) rfl
set_option maxRecDepth 100000 in
theorem cd_CY_jobOf : Cond.code (pY P_CY_jobOf) (pB P_CY_jobOf) (pL P_CY_jobOf) (pRet P_CY_jobOf) ∈ tables_1 := List.mem_of_getElem? (i := 807) rfl
set_option maxRecDepth 100000 in
theorem cd_CY_jobToBegin : Cond.code (pY P_CY_jobToBegin) (pB P_CY_jobToBegin) (pL P_CY_jobToBegin) (pRet P_CY_jobToBegin) ∈ tables_1 := List.mem_of_getElem? (i := 906) rfl
set_option maxRecDepth 100000 in
theorem cd_CY_isLet : Cond.code (pY P_CY_isLet) (pB P_CY_isLet) (pL P_CY_isLet) (pRet P_CY_isLet) ∈ tables_1 := List.mem_of_getElem? (i := 429) rfl
set_option maxRecDepth 100000 in
theorem cd_CY_findMoves : Cond.code (pY P_CY_findMoves) (pB P_CY_findMoves) (pL P_CY_findMoves) (pRet P_CY_findMoves) ∈ tables_1 := List.mem_of_getElem? (i := 527) rfl
set_option maxRecDepth 100000 in
theorem cd_CY_beginStays : Cond.code (pY P_CY_beginStays) (pB P_CY_beginStays) (pL P_CY_beginStays) (pRet P_CY_beginStays) ∈ tables_1 := List.mem_of_getElem? (i := 661) rfl
set_option maxRecDepth 100000 in
theorem cd_CY_makeJobs : Cond.code (pY P_CY_makeJobs) (pB P_CY_makeJobs) (pL P_CY_makeJobs) (pRet P_CY_makeJobs) ∈ tables_1 := List.mem_of_getElem? (i := 673) rfl
set_option maxRecDepth 100000 in
theorem cd_CY_guestsWhoCome : Cond.code (pY P_CY_guestsWhoCome) (pB P_CY_guestsWhoCome) (pL P_CY_guestsWhoCome) (pRet P_CY_guestsWhoCome) ∈ tables_1 := List.mem_of_getElem? (i := 752) rfl
set_option maxRecDepth 100000 in
theorem cd_CY_giveCodes : Cond.code (pY P_CY_giveCodes) (pB P_CY_giveCodes) (pL P_CY_giveCodes) (pRet P_CY_giveCodes) ∈ tables_1 := List.mem_of_getElem? (i := 763) rfl
set_option maxRecDepth 100000 in
theorem cd_CY_nextCode : Cond.code (pY P_CY_nextCode) (pB P_CY_nextCode) (pL P_CY_nextCode) (pRet P_CY_nextCode) ∈ tables_1 := List.mem_of_getElem? (i := 767) rfl
theorem cdR10 : ∀ P ∈ zP10.take 16, Cond.code (pY P) (pB P) (pL P) (pRet P) ∈ tables_1 := List.forall_mem_cons.mpr ⟨cd_CY_isWeek, List.forall_mem_cons.mpr ⟨cd_CY_isToCome, List.forall_mem_cons.mpr ⟨cd_CY_cottageAt, List.forall_mem_cons.mpr ⟨cd_CY_bookingAt, List.forall_mem_cons.mpr ⟨cd_CY_begunAt, List.forall_mem_cons.mpr ⟨cd_CY_teamAt, List.forall_mem_cons.mpr ⟨cd_CY_stayOf, List.forall_mem_cons.mpr ⟨cd_CY_jobOf, List.forall_mem_cons.mpr ⟨cd_CY_jobToBegin, List.forall_mem_cons.mpr ⟨cd_CY_isLet, List.forall_mem_cons.mpr ⟨cd_CY_findMoves, List.forall_mem_cons.mpr ⟨cd_CY_beginStays, List.forall_mem_cons.mpr ⟨cd_CY_makeJobs, List.forall_mem_cons.mpr ⟨cd_CY_guestsWhoCome, List.forall_mem_cons.mpr ⟨cd_CY_giveCodes, List.forall_mem_cons.mpr ⟨cd_CY_nextCode, fun _ h => absurd h List.not_mem_nil⟩⟩⟩⟩⟩⟩⟩⟩⟩⟩⟩⟩⟩⟩⟩⟩
def zM11 : List (Nat × Nat × Nat × Nat) := [(918, 917, 24, 1), (795, 794, 15, 1), (1308, 1307, 49, 1), (1321, 1320, 50, 1), (1329, 1328, 52, 1), (1325, 1324, 51, 1), (1345, 1344, 53, 1), (1349, 1348, 54, 1), (1353, 1352, 55, 1), (1431, 1430, 0, 10), (1737, 1735, 1835, 10), (1744, 1743, 0, 10), (1752, 1751, 57, 10), (1772, 1771, 60, 10), (1760, 1759, 58, 10), (1741, 1739, 1839, 10)]
theorem mR11 : (zP11.zip zM11).all (fun q => mOK q.1 q.2) = true := by decide +kernel
set_option maxRecDepth 100000 in
theorem cd_CY_findPlan : Cond.code (pY P_CY_findPlan) (pB P_CY_findPlan) (pL P_CY_findPlan) (pRet P_CY_findPlan) ∈ tables_1 := List.mem_of_getElem? (i := 918) rfl
set_option maxRecDepth 100000 in
theorem cd_CY_draftLines : Cond.code (pY P_CY_draftLines) (pB P_CY_draftLines) (pL P_CY_draftLines) (pRet P_CY_draftLines) ∈ tables_1 := List.mem_of_getElem? (i := 795) rfl
set_option maxRecDepth 100000 in
theorem cd_CY_teamToBlame : Cond.code (pY P_CY_teamToBlame) (pB P_CY_teamToBlame) (pL P_CY_teamToBlame) (pRet P_CY_teamToBlame) ∈ tables_1 := List.mem_of_getElem? (i := 1308) rfl
set_option maxRecDepth 100000 in
theorem cd_CY_readyJobs : Cond.code (pY P_CY_readyJobs) (pB P_CY_readyJobs) (pL P_CY_readyJobs) (pRet P_CY_readyJobs) ∈ tables_1 := List.mem_of_getElem? (i := 1321) rfl
set_option maxRecDepth 100000 in
theorem cd_CY_weightOf : Cond.code (pY P_CY_weightOf) (pB P_CY_weightOf) (pL P_CY_weightOf) (pRet P_CY_weightOf) ∈ tables_1 := List.mem_of_getElem? (i := 1329) rfl
set_option maxRecDepth 100000 in
theorem cd_CY_drawOne : Cond.code (pY P_CY_drawOne) (pB P_CY_drawOne) (pL P_CY_drawOne) (pRet P_CY_drawOne) ∈ tables_1 := List.mem_of_getElem? (i := 1325) rfl
set_option maxRecDepth 100000 in
theorem cd_CY_bookingsInForce : Cond.code (pY P_CY_bookingsInForce) (pB P_CY_bookingsInForce) (pL P_CY_bookingsInForce) (pRet P_CY_bookingsInForce) ∈ tables_1 := List.mem_of_getElem? (i := 1345) rfl
set_option maxRecDepth 100000 in
theorem cd_CY_jobsLeftOut : Cond.code (pY P_CY_jobsLeftOut) (pB P_CY_jobsLeftOut) (pL P_CY_jobsLeftOut) (pRet P_CY_jobsLeftOut) ∈ tables_1 := List.mem_of_getElem? (i := 1349) rfl
set_option maxRecDepth 100000 in
theorem cd_CY_lateMinutes : Cond.code (pY P_CY_lateMinutes) (pB P_CY_lateMinutes) (pL P_CY_lateMinutes) (pRet P_CY_lateMinutes) ∈ tables_1 := List.mem_of_getElem? (i := 1353) rfl
set_option maxRecDepth 100000 in
theorem cd_Mo_init : Cond.code (pY P_Mo_init) (pB P_Mo_init) (pL P_Mo_init) (pRet P_Mo_init) ∈ tables_1 := List.mem_of_getElem? (i := 1431) rfl
set_option maxRecDepth 100000 in
theorem cd_Mo_thrown : Cond.code (pY P_Mo_thrown) (pB P_Mo_thrown) (pL P_Mo_thrown) (pRet P_Mo_thrown) ∈ tables_1 := List.mem_of_getElem? (i := 1737) rfl
set_option maxRecDepth 100000 in
theorem cd_Mo_isIn : Cond.code (pY P_Mo_isIn) (pB P_Mo_isIn) (pL P_Mo_isIn) (pRet P_Mo_isIn) ∈ tables_1 := List.mem_of_getElem? (i := 1744) rfl
set_option maxRecDepth 100000 in
theorem cd_Mo_isCottage : Cond.code (pY P_Mo_isCottage) (pB P_Mo_isCottage) (pL P_Mo_isCottage) (pRet P_Mo_isCottage) ∈ tables_1 := List.mem_of_getElem? (i := 1752) rfl
set_option maxRecDepth 100000 in
theorem cd_Mo_isBooking : Cond.code (pY P_Mo_isBooking) (pB P_Mo_isBooking) (pL P_Mo_isBooking) (pRet P_Mo_isBooking) ∈ tables_1 := List.mem_of_getElem? (i := 1772) rfl
set_option maxRecDepth 100000 in
theorem cd_Mo_isAhead : Cond.code (pY P_Mo_isAhead) (pB P_Mo_isAhead) (pL P_Mo_isAhead) (pRet P_Mo_isAhead) ∈ tables_1 := List.mem_of_getElem? (i := 1760) rfl
set_option maxRecDepth 100000 in
theorem cd_Mo_cottage : Cond.code (pY P_Mo_cottage) (pB P_Mo_cottage) (pL P_Mo_cottage) (pRet P_Mo_cottage) ∈ tables_1 := List.mem_of_getElem? (i := 1741) rfl
theorem cdR11 : ∀ P ∈ zP11.take 16, Cond.code (pY P) (pB P) (pL P) (pRet P) ∈ tables_1 := List.forall_mem_cons.mpr ⟨cd_CY_findPlan, List.forall_mem_cons.mpr ⟨cd_CY_draftLines, List.forall_mem_cons.mpr ⟨cd_CY_teamToBlame, List.forall_mem_cons.mpr ⟨cd_CY_readyJobs, List.forall_mem_cons.mpr ⟨cd_CY_weightOf, List.forall_mem_cons.mpr ⟨cd_CY_drawOne, List.forall_mem_cons.mpr ⟨cd_CY_bookingsInForce, List.forall_mem_cons.mpr ⟨cd_CY_jobsLeftOut, List.forall_mem_cons.mpr ⟨cd_CY_lateMinutes, List.forall_mem_cons.mpr ⟨cd_Mo_init, List.forall_mem_cons.mpr ⟨cd_Mo_thrown, List.forall_mem_cons.mpr ⟨cd_Mo_isIn, List.forall_mem_cons.mpr ⟨cd_Mo_isCottage, List.forall_mem_cons.mpr ⟨cd_Mo_isBooking, List.forall_mem_cons.mpr ⟨cd_Mo_isAhead, List.forall_mem_cons.mpr ⟨cd_Mo_cottage, fun _ h => absurd h List.not_mem_nil⟩⟩⟩⟩⟩⟩⟩⟩⟩⟩⟩⟩⟩⟩⟩⟩
def zM12 : List (Nat × Nat × Nat × Nat) := [(1748, 1746, 1846, 10), (1764, 1763, 59, 10), (1756, 1754, 1854, 10), (1768, 1766, 1866, 10), (1776, 1774, 1874, 10), (1788, 1787, 62, 10), (1784, 1783, 61, 10), (1780, 1778, 1878, 10), (1793, 1791, 1891, 10), (1797, 1795, 1895, 10), (1801, 1799, 1899, 10), (1805, 1803, 1903, 10), (1809, 1807, 1907, 10), (1813, 1811, 1911, 10), (1817, 1815, 1915, 10), (1826, 1825, 63, 10)]
theorem mR12 : (zP12.zip zM12).all (fun q => mOK q.1 q.2) = true := by decide +kernel
set_option maxRecDepth 100000 in
theorem cd_Mo_rent : Cond.code (pY P_Mo_rent) (pB P_Mo_rent) (pL P_Mo_rent) (pRet P_Mo_rent) ∈ tables_1 := List.mem_of_getElem? (i := 1748) rfl
set_option maxRecDepth 100000 in
theorem cd_Mo_inForce : Cond.code (pY P_Mo_inForce) (pB P_Mo_inForce) (pL P_Mo_inForce) (pRet P_Mo_inForce) ∈ tables_1 := List.mem_of_getElem? (i := 1764) rfl
set_option maxRecDepth 100000 in
theorem cd_Mo_book : Cond.code (pY P_Mo_book) (pB P_Mo_book) (pL P_Mo_book) (pRet P_Mo_book) ∈ tables_1 := List.mem_of_getElem? (i := 1756) rfl
set_option maxRecDepth 100000 in
theorem cd_Mo_cancel : Cond.code (pY P_Mo_cancel) (pB P_Mo_cancel) (pL P_Mo_cancel) (pRet P_Mo_cancel) ∈ tables_1 := List.mem_of_getElem? (i := 1768) rfl
set_option maxRecDepth 100000 in
theorem cd_Mo_shut : Cond.code (pY P_Mo_shut) (pB P_Mo_shut) (pL P_Mo_shut) (pRet P_Mo_shut) ∈ tables_1 := List.mem_of_getElem? (i := 1776) rfl
set_option maxRecDepth 100000 in
theorem cd_Mo_tryMoves : Cond.code (pY P_Mo_tryMoves) (pB P_Mo_tryMoves) (pL P_Mo_tryMoves) (pRet P_Mo_tryMoves) ∈ tables_1 := List.mem_of_getElem? (i := 1788) rfl
set_option maxRecDepth 100000 in
theorem cd_Mo_findMoves : Cond.code (pY P_Mo_findMoves) (pB P_Mo_findMoves) (pL P_Mo_findMoves) (pRet P_Mo_findMoves) ∈ tables_1 := List.mem_of_getElem? (i := 1784) rfl
set_option maxRecDepth 100000 in
theorem cd_Mo_moves : Cond.code (pY P_Mo_moves) (pB P_Mo_moves) (pL P_Mo_moves) (pRet P_Mo_moves) ∈ tables_1 := List.mem_of_getElem? (i := 1780) rfl
set_option maxRecDepth 100000 in
theorem cd_Mo_moved : Cond.code (pY P_Mo_moved) (pB P_Mo_moved) (pL P_Mo_moved) (pRet P_Mo_moved) ∈ tables_1 := List.mem_of_getElem? (i := 1793) rfl
set_option maxRecDepth 100000 in
theorem cd_Mo_move : Cond.code (pY P_Mo_move) (pB P_Mo_move) (pL P_Mo_move) (pRet P_Mo_move) ∈ tables_1 := List.mem_of_getElem? (i := 1797) rfl
set_option maxRecDepth 100000 in
theorem cd_Mo_booked : Cond.code (pY P_Mo_booked) (pB P_Mo_booked) (pL P_Mo_booked) (pRet P_Mo_booked) ∈ tables_1 := List.mem_of_getElem? (i := 1801) rfl
set_option maxRecDepth 100000 in
theorem cd_Mo_taken : Cond.code (pY P_Mo_taken) (pB P_Mo_taken) (pL P_Mo_taken) (pRet P_Mo_taken) ∈ tables_1 := List.mem_of_getElem? (i := 1805) rfl
set_option maxRecDepth 100000 in
theorem cd_Mo_team : Cond.code (pY P_Mo_team) (pB P_Mo_team) (pL P_Mo_team) (pRet P_Mo_team) ∈ tables_1 := List.mem_of_getElem? (i := 1809) rfl
set_option maxRecDepth 100000 in
theorem cd_Mo_way : Cond.code (pY P_Mo_way) (pB P_Mo_way) (pL P_Mo_way) (pRet P_Mo_way) ∈ tables_1 := List.mem_of_getElem? (i := 1813) rfl
set_option maxRecDepth 100000 in
theorem cd_Mo_rest : Cond.code (pY P_Mo_rest) (pB P_Mo_rest) (pL P_Mo_rest) (pRet P_Mo_rest) ∈ tables_1 := List.mem_of_getElem? (i := 1817) rfl
set_option maxRecDepth 100000 in
theorem cd_Mo_job0 : Cond.code (pY P_Mo_job0) (pB P_Mo_job0) (pL P_Mo_job0) (pRet P_Mo_job0) ∈ tables_1 := List.mem_of_getElem? (i := 1826) rfl
theorem cdR12 : ∀ P ∈ zP12.take 16, Cond.code (pY P) (pB P) (pL P) (pRet P) ∈ tables_1 := List.forall_mem_cons.mpr ⟨cd_Mo_rent, List.forall_mem_cons.mpr ⟨cd_Mo_inForce, List.forall_mem_cons.mpr ⟨cd_Mo_book, List.forall_mem_cons.mpr ⟨cd_Mo_cancel, List.forall_mem_cons.mpr ⟨cd_Mo_shut, List.forall_mem_cons.mpr ⟨cd_Mo_tryMoves, List.forall_mem_cons.mpr ⟨cd_Mo_findMoves, List.forall_mem_cons.mpr ⟨cd_Mo_moves, List.forall_mem_cons.mpr ⟨cd_Mo_moved, List.forall_mem_cons.mpr ⟨cd_Mo_move, List.forall_mem_cons.mpr ⟨cd_Mo_booked, List.forall_mem_cons.mpr ⟨cd_Mo_taken, List.forall_mem_cons.mpr ⟨cd_Mo_team, List.forall_mem_cons.mpr ⟨cd_Mo_way, List.forall_mem_cons.mpr ⟨cd_Mo_rest, List.forall_mem_cons.mpr ⟨cd_Mo_job0, fun _ h => absurd h List.not_mem_nil⟩⟩⟩⟩⟩⟩⟩⟩⟩⟩⟩⟩⟩⟩⟩⟩
def zM13 : List (Nat × Nat × Nat × Nat) := [(1830, 1829, 64, 10), (1821, 1819, 1919, 10), (1849, 1848, 67, 10), (1845, 1843, 1943, 10), (1853, 1851, 1951, 10), (1874, 1873, 71, 10), (1878, 1877, 72, 10), (1887, 1886, 74, 10), (1883, 1882, 73, 10), (1870, 1869, 70, 10), (1866, 1865, 69, 10), (1891, 1890, 75, 10), (1861, 1860, 68, 10), (1857, 1855, 1955, 10), (1895, 1893, 1993, 10), (1903, 1902, 76, 10)]
theorem mR13 : (zP13.zip zM13).all (fun q => mOK q.1 q.2) = true := by decide +kernel
set_option maxRecDepth 100000 in
theorem cd_Mo_stay : Cond.code (pY P_Mo_stay) (pB P_Mo_stay) (pL P_Mo_stay) (pRet P_Mo_stay) ∈ tables_1 := List.mem_of_getElem? (i := 1830) rfl
set_option maxRecDepth 100000 in
theorem cd_Mo_openDay : Cond.code (pY P_Mo_openDay) (pB P_Mo_openDay) (pL P_Mo_openDay) (pRet P_Mo_openDay) ∈ tables_1 := List.mem_of_getElem? (i := 1821) rfl
set_option maxRecDepth 100000 in
theorem cd_Mo_isOpenJob : Cond.code (pY P_Mo_isOpenJob) (pB P_Mo_isOpenJob) (pL P_Mo_isOpenJob) (pRet P_Mo_isOpenJob) ∈ tables_1 := List.mem_of_getElem? (i := 1849) rfl
set_option maxRecDepth 100000 in
theorem cd_Mo_late : Cond.code (pY P_Mo_late) (pB P_Mo_late) (pL P_Mo_late) (pRet P_Mo_late) ∈ tables_1 := List.mem_of_getElem? (i := 1845) rfl
set_option maxRecDepth 100000 in
theorem cd_Mo_state : Cond.code (pY P_Mo_state) (pB P_Mo_state) (pL P_Mo_state) (pRet P_Mo_state) ∈ tables_1 := List.mem_of_getElem? (i := 1853) rfl
set_option maxRecDepth 100000 in
theorem cd_Mo_minutesTo : Cond.code (pY P_Mo_minutesTo) (pB P_Mo_minutesTo) (pL P_Mo_minutesTo) (pRet P_Mo_minutesTo) ∈ tables_1 := List.mem_of_getElem? (i := 1874) rfl
set_option maxRecDepth 100000 in
theorem cd_Mo_wayOf : Cond.code (pY P_Mo_wayOf) (pB P_Mo_wayOf) (pL P_Mo_wayOf) (pRet P_Mo_wayOf) ∈ tables_1 := List.mem_of_getElem? (i := 1878) rfl
set_option maxRecDepth 100000 in
theorem cd_Mo_setsBehind : Cond.code (pY P_Mo_setsBehind) (pB P_Mo_setsBehind) (pL P_Mo_setsBehind) (pRet P_Mo_setsBehind) ∈ tables_1 := List.mem_of_getElem? (i := 1887) rfl
set_option maxRecDepth 100000 in
theorem cd_Mo_inRow : Cond.code (pY P_Mo_inRow) (pB P_Mo_inRow) (pL P_Mo_inRow) (pRet P_Mo_inRow) ∈ tables_1 := List.mem_of_getElem? (i := 1883) rfl
set_option maxRecDepth 100000 in
theorem cd_Mo_isWorse : Cond.code (pY P_Mo_isWorse) (pB P_Mo_isWorse) (pL P_Mo_isWorse) (pRet P_Mo_isWorse) ∈ tables_1 := List.mem_of_getElem? (i := 1870) rfl
set_option maxRecDepth 100000 in
theorem cd_Mo_tryRows : Cond.code (pY P_Mo_tryRows) (pB P_Mo_tryRows) (pL P_Mo_tryRows) (pRet P_Mo_tryRows) ∈ tables_1 := List.mem_of_getElem? (i := 1866) rfl
set_option maxRecDepth 100000 in
theorem cd_Mo_startTime : Cond.code (pY P_Mo_startTime) (pB P_Mo_startTime) (pL P_Mo_startTime) (pRet P_Mo_startTime) ∈ tables_1 := List.mem_of_getElem? (i := 1891) rfl
set_option maxRecDepth 100000 in
theorem cd_Mo_findPlan : Cond.code (pY P_Mo_findPlan) (pB P_Mo_findPlan) (pL P_Mo_findPlan) (pRet P_Mo_findPlan) ∈ tables_1 := List.mem_of_getElem? (i := 1861) rfl
set_option maxRecDepth 100000 in
theorem cd_Mo_best : Cond.code (pY P_Mo_best) (pB P_Mo_best) (pL P_Mo_best) (pRet P_Mo_best) ∈ tables_1 := List.mem_of_getElem? (i := 1857) rfl
set_option maxRecDepth 100000 in
theorem cd_Mo_plan : Cond.code (pY P_Mo_plan) (pB P_Mo_plan) (pL P_Mo_plan) (pRet P_Mo_plan) ∈ tables_1 := List.mem_of_getElem? (i := 1895) rfl
set_option maxRecDepth 100000 in
theorem cd_Mo_isTeam : Cond.code (pY P_Mo_isTeam) (pB P_Mo_isTeam) (pL P_Mo_isTeam) (pRet P_Mo_isTeam) ∈ tables_1 := List.mem_of_getElem? (i := 1903) rfl
theorem cdR13 : ∀ P ∈ zP13.take 16, Cond.code (pY P) (pB P) (pL P) (pRet P) ∈ tables_1 := List.forall_mem_cons.mpr ⟨cd_Mo_stay, List.forall_mem_cons.mpr ⟨cd_Mo_openDay, List.forall_mem_cons.mpr ⟨cd_Mo_isOpenJob, List.forall_mem_cons.mpr ⟨cd_Mo_late, List.forall_mem_cons.mpr ⟨cd_Mo_state, List.forall_mem_cons.mpr ⟨cd_Mo_minutesTo, List.forall_mem_cons.mpr ⟨cd_Mo_wayOf, List.forall_mem_cons.mpr ⟨cd_Mo_setsBehind, List.forall_mem_cons.mpr ⟨cd_Mo_inRow, List.forall_mem_cons.mpr ⟨cd_Mo_isWorse, List.forall_mem_cons.mpr ⟨cd_Mo_tryRows, List.forall_mem_cons.mpr ⟨cd_Mo_startTime, List.forall_mem_cons.mpr ⟨cd_Mo_findPlan, List.forall_mem_cons.mpr ⟨cd_Mo_best, List.forall_mem_cons.mpr ⟨cd_Mo_plan, List.forall_mem_cons.mpr ⟨cd_Mo_isTeam, fun _ h => absurd h List.not_mem_nil⟩⟩⟩⟩⟩⟩⟩⟩⟩⟩⟩⟩⟩⟩⟩⟩
def zM14 : List (Nat × Nat × Nat × Nat) := [(1899, 1897, 1997, 10), (1911, 1910, 77, 10), (1907, 1905, 2005, 10), (1915, 1913, 2013, 10), (1923, 1922, 78, 10), (1927, 1926, 79, 10), (1919, 1917, 2017, 10), (1931, 1929, 2029, 10), (1935, 1933, 2033, 10), (1943, 1942, 80, 10), (1939, 1937, 2037, 10), (1947, 1945, 2045, 10), (2015, 2013, 2113, 10), (2023, 2022, 0, 10), (2027, 2026, 94, 10), (2020, 2018, 2118, 10)]
theorem mR14 : (zP14.zip zM14).all (fun q => mOK q.1 q.2) = true := by decide +kernel
set_option maxRecDepth 100000 in
theorem cd_Mo_row : Cond.code (pY P_Mo_row) (pB P_Mo_row) (pL P_Mo_row) (pRet P_Mo_row) ∈ tables_1 := List.mem_of_getElem? (i := 1899) rfl
set_option maxRecDepth 100000 in
theorem cd_Mo_goesOn : Cond.code (pY P_Mo_goesOn) (pB P_Mo_goesOn) (pL P_Mo_goesOn) (pRet P_Mo_goesOn) ∈ tables_1 := List.mem_of_getElem? (i := 1911) rfl
set_option maxRecDepth 100000 in
theorem cd_Mo_tick : Cond.code (pY P_Mo_tick) (pB P_Mo_tick) (pL P_Mo_tick) (pRet P_Mo_tick) ∈ tables_1 := List.mem_of_getElem? (i := 1907) rfl
set_option maxRecDepth 100000 in
theorem cd_Mo_about : Cond.code (pY P_Mo_about) (pB P_Mo_about) (pL P_Mo_about) (pRet P_Mo_about) ∈ tables_1 := List.mem_of_getElem? (i := 1915) rfl
set_option maxRecDepth 100000 in
theorem cd_Mo_isJobOf : Cond.code (pY P_Mo_isJobOf) (pB P_Mo_isJobOf) (pL P_Mo_isJobOf) (pRet P_Mo_isJobOf) ∈ tables_1 := List.mem_of_getElem? (i := 1923) rfl
set_option maxRecDepth 100000 in
theorem cd_Mo_lateOf : Cond.code (pY P_Mo_lateOf) (pB P_Mo_lateOf) (pL P_Mo_lateOf) (pRet P_Mo_lateOf) ∈ tables_1 := List.mem_of_getElem? (i := 1927) rfl
set_option maxRecDepth 100000 in
theorem cd_Mo_job1 : Cond.code (pY P_Mo_job1) (pB P_Mo_job1) (pL P_Mo_job1) (pRet P_Mo_job1) ∈ tables_1 := List.mem_of_getElem? (i := 1919) rfl
set_option maxRecDepth 100000 in
theorem cd_Mo_linen : Cond.code (pY P_Mo_linen) (pB P_Mo_linen) (pL P_Mo_linen) (pRet P_Mo_linen) ∈ tables_1 := List.mem_of_getElem? (i := 1931) rfl
set_option maxRecDepth 100000 in
theorem cd_Mo_sets : Cond.code (pY P_Mo_sets) (pB P_Mo_sets) (pL P_Mo_sets) (pRet P_Mo_sets) ∈ tables_1 := List.mem_of_getElem? (i := 1935) rfl
set_option maxRecDepth 100000 in
theorem cd_Mo_isEnough : Cond.code (pY P_Mo_isEnough) (pB P_Mo_isEnough) (pL P_Mo_isEnough) (pRet P_Mo_isEnough) ∈ tables_1 := List.mem_of_getElem? (i := 1943) rfl
set_option maxRecDepth 100000 in
theorem cd_Mo_fewest : Cond.code (pY P_Mo_fewest) (pB P_Mo_fewest) (pL P_Mo_fewest) (pRet P_Mo_fewest) ∈ tables_1 := List.mem_of_getElem? (i := 1939) rfl
set_option maxRecDepth 100000 in
theorem cd_Mo_closeDay : Cond.code (pY P_Mo_closeDay) (pB P_Mo_closeDay) (pL P_Mo_closeDay) (pRet P_Mo_closeDay) ∈ tables_1 := List.mem_of_getElem? (i := 1947) rfl
set_option maxRecDepth 100000 in
theorem cd_Mo_line : Cond.code (pY P_Mo_line) (pB P_Mo_line) (pL P_Mo_line) (pRet P_Mo_line) ∈ tables_1 := List.mem_of_getElem? (i := 2015) rfl
set_option maxRecDepth 100000 in
theorem cd_Mo_bytesIn : Cond.code (pY P_Mo_bytesIn) (pB P_Mo_bytesIn) (pL P_Mo_bytesIn) (pRet P_Mo_bytesIn) ∈ tables_1 := List.mem_of_getElem? (i := 2023) rfl
set_option maxRecDepth 100000 in
theorem cd_Mo_put : Cond.code (pY P_Mo_put) (pB P_Mo_put) (pL P_Mo_put) (pRet P_Mo_put) ∈ tables_1 := List.mem_of_getElem? (i := 2027) rfl
set_option maxRecDepth 100000 in
theorem cd_Mo_feed : Cond.code (pY P_Mo_feed) (pB P_Mo_feed) (pL P_Mo_feed) (pRet P_Mo_feed) ∈ tables_1 := List.mem_of_getElem? (i := 2020) rfl
theorem cdR14 : ∀ P ∈ zP14.take 16, Cond.code (pY P) (pB P) (pL P) (pRet P) ∈ tables_1 := List.forall_mem_cons.mpr ⟨cd_Mo_row, List.forall_mem_cons.mpr ⟨cd_Mo_goesOn, List.forall_mem_cons.mpr ⟨cd_Mo_tick, List.forall_mem_cons.mpr ⟨cd_Mo_about, List.forall_mem_cons.mpr ⟨cd_Mo_isJobOf, List.forall_mem_cons.mpr ⟨cd_Mo_lateOf, List.forall_mem_cons.mpr ⟨cd_Mo_job1, List.forall_mem_cons.mpr ⟨cd_Mo_linen, List.forall_mem_cons.mpr ⟨cd_Mo_sets, List.forall_mem_cons.mpr ⟨cd_Mo_isEnough, List.forall_mem_cons.mpr ⟨cd_Mo_fewest, List.forall_mem_cons.mpr ⟨cd_Mo_closeDay, List.forall_mem_cons.mpr ⟨cd_Mo_line, List.forall_mem_cons.mpr ⟨cd_Mo_bytesIn, List.forall_mem_cons.mpr ⟨cd_Mo_put, List.forall_mem_cons.mpr ⟨cd_Mo_feed, fun _ h => absurd h List.not_mem_nil⟩⟩⟩⟩⟩⟩⟩⟩⟩⟩⟩⟩⟩⟩⟩⟩
def zM15 : List (Nat × Nat × Nat × Nat) := [(2031, 2029, 2129, 10), (1983, 1982, 89, 10), (1991, 1990, 91, 10), (2000, 1999, 0, 10), (1995, 1994, 92, 10), (1987, 1986, 90, 10), (1979, 1978, 88, 10), (1975, 1974, 87, 10), (1971, 1970, 86, 10), (2007, 2006, 0, 10), (2011, 2010, 93, 10), (1967, 1966, 85, 10), (1963, 1962, 84, 10), (2035, 2033, 2133, 10), (2039, 2037, 2137, 10), (1955, 1954, 82, 10)]
theorem mR15 : (zP15.zip zM15).all (fun q => mOK q.1 q.2) = true := by decide +kernel
set_option maxRecDepth 100000 in
theorem cd_Mo_end : Cond.code (pY P_Mo_end) (pB P_Mo_end) (pL P_Mo_end) (pRet P_Mo_end) ∈ tables_1 := List.mem_of_getElem? (i := 2031) rfl
set_option maxRecDepth 100000 in
theorem cd_Mo_look0 : Cond.code (pY P_Mo_look0) (pB P_Mo_look0) (pL P_Mo_look0) (pRet P_Mo_look0) ∈ tables_1 := List.mem_of_getElem? (i := 1983) rfl
set_option maxRecDepth 100000 in
theorem cd_Mo_stop : Cond.code (pY P_Mo_stop) (pB P_Mo_stop) (pL P_Mo_stop) (pRet P_Mo_stop) ∈ tables_1 := List.mem_of_getElem? (i := 1991) rfl
set_option maxRecDepth 100000 in
theorem cd_Mo_bound : Cond.code (pY P_Mo_bound) (pB P_Mo_bound) (pL P_Mo_bound) (pRet P_Mo_bound) ∈ tables_1 := List.mem_of_getElem? (i := 2000) rfl
set_option maxRecDepth 100000 in
theorem cd_Mo_isDigit : Cond.code (pY P_Mo_isDigit) (pB P_Mo_isDigit) (pL P_Mo_isDigit) (pRet P_Mo_isDigit) ∈ tables_1 := List.mem_of_getElem? (i := 1995) rfl
set_option maxRecDepth 100000 in
theorem cd_Mo_letter : Cond.code (pY P_Mo_letter) (pB P_Mo_letter) (pL P_Mo_letter) (pRet P_Mo_letter) ∈ tables_1 := List.mem_of_getElem? (i := 1987) rfl
set_option maxRecDepth 100000 in
theorem cd_Mo_atom : Cond.code (pY P_Mo_atom) (pB P_Mo_atom) (pL P_Mo_atom) (pRet P_Mo_atom) ∈ tables_1 := List.mem_of_getElem? (i := 1979) rfl
set_option maxRecDepth 100000 in
theorem cd_Mo_product : Cond.code (pY P_Mo_product) (pB P_Mo_product) (pL P_Mo_product) (pRet P_Mo_product) ∈ tables_1 := List.mem_of_getElem? (i := 1975) rfl
set_option maxRecDepth 100000 in
theorem cd_Mo_sums : Cond.code (pY P_Mo_sums) (pB P_Mo_sums) (pL P_Mo_sums) (pRet P_Mo_sums) ∈ tables_1 := List.mem_of_getElem? (i := 1971) rfl
set_option maxRecDepth 100000 in
theorem cd_Mo_isSign : Cond.code (pY P_Mo_isSign) (pB P_Mo_isSign) (pL P_Mo_isSign) (pRet P_Mo_isSign) ∈ tables_1 := List.mem_of_getElem? (i := 2007) rfl
set_option maxRecDepth 100000 in
theorem cd_Mo_holds : Cond.code (pY P_Mo_holds) (pB P_Mo_holds) (pL P_Mo_holds) (pRet P_Mo_holds) ∈ tables_1 := List.mem_of_getElem? (i := 2011) rfl
set_option maxRecDepth 100000 in
theorem cd_Mo_clause : Cond.code (pY P_Mo_clause) (pB P_Mo_clause) (pL P_Mo_clause) (pRet P_Mo_clause) ∈ tables_1 := List.mem_of_getElem? (i := 1967) rfl
set_option maxRecDepth 100000 in
theorem cd_Mo_goThrough : Cond.code (pY P_Mo_goThrough) (pB P_Mo_goThrough) (pL P_Mo_goThrough) (pRet P_Mo_goThrough) ∈ tables_1 := List.mem_of_getElem? (i := 1963) rfl
set_option maxRecDepth 100000 in
theorem cd_Mo_fault : Cond.code (pY P_Mo_fault) (pB P_Mo_fault) (pL P_Mo_fault) (pRet P_Mo_fault) ∈ tables_1 := List.mem_of_getElem? (i := 2035) rfl
set_option maxRecDepth 100000 in
theorem cd_Mo_terms : Cond.code (pY P_Mo_terms) (pB P_Mo_terms) (pL P_Mo_terms) (pRet P_Mo_terms) ∈ tables_1 := List.mem_of_getElem? (i := 2039) rfl
set_option maxRecDepth 100000 in
theorem cd_Mo_termsFor : Cond.code (pY P_Mo_termsFor) (pB P_Mo_termsFor) (pL P_Mo_termsFor) (pRet P_Mo_termsFor) ∈ tables_1 := List.mem_of_getElem? (i := 1955) rfl
theorem cdR15 : ∀ P ∈ zP15.take 16, Cond.code (pY P) (pB P) (pL P) (pRet P) ∈ tables_1 := List.forall_mem_cons.mpr ⟨cd_Mo_end, List.forall_mem_cons.mpr ⟨cd_Mo_look0, List.forall_mem_cons.mpr ⟨cd_Mo_stop, List.forall_mem_cons.mpr ⟨cd_Mo_bound, List.forall_mem_cons.mpr ⟨cd_Mo_isDigit, List.forall_mem_cons.mpr ⟨cd_Mo_letter, List.forall_mem_cons.mpr ⟨cd_Mo_atom, List.forall_mem_cons.mpr ⟨cd_Mo_product, List.forall_mem_cons.mpr ⟨cd_Mo_sums, List.forall_mem_cons.mpr ⟨cd_Mo_isSign, List.forall_mem_cons.mpr ⟨cd_Mo_holds, List.forall_mem_cons.mpr ⟨cd_Mo_clause, List.forall_mem_cons.mpr ⟨cd_Mo_goThrough, List.forall_mem_cons.mpr ⟨cd_Mo_fault, List.forall_mem_cons.mpr ⟨cd_Mo_terms, List.forall_mem_cons.mpr ⟨cd_Mo_termsFor, fun _ h => absurd h List.not_mem_nil⟩⟩⟩⟩⟩⟩⟩⟩⟩⟩⟩⟩⟩⟩⟩⟩
def zM16 : List (Nat × Nat × Nat × Nat) := [(2043, 2041, 2141, 10), (1959, 1958, 83, 10), (1951, 1950, 81, 10), (2047, 2045, 2145, 10), (1834, 1833, 65, 10), (2051, 2049, 2149, 10), (2055, 2053, 2153, 10), (2071, 2070, 97, 10), (2067, 2066, 96, 10), (2063, 2062, 95, 10), (2059, 2057, 2157, 10), (2075, 2073, 2173, 10), (2079, 2077, 2177, 10), (2083, 2081, 2181, 10), (2097, 2096, 98, 10), (2087, 2085, 2185, 10)]
theorem mR16 : (zP16.zip zM16).all (fun q => mOK q.1 q.2) = true := by decide +kernel
set_option maxRecDepth 100000 in
theorem cd_Mo_force : Cond.code (pY P_Mo_force) (pB P_Mo_force) (pL P_Mo_force) (pRet P_Mo_force) ∈ tables_1 := List.mem_of_getElem? (i := 2043) rfl
set_option maxRecDepth 100000 in
theorem cd_Mo_payBy : Cond.code (pY P_Mo_payBy) (pB P_Mo_payBy) (pL P_Mo_payBy) (pRet P_Mo_payBy) ∈ tables_1 := List.mem_of_getElem? (i := 1959) rfl
set_option maxRecDepth 100000 in
theorem cd_Mo_payFor : Cond.code (pY P_Mo_payFor) (pB P_Mo_payFor) (pL P_Mo_payFor) (pRet P_Mo_payFor) ∈ tables_1 := List.mem_of_getElem? (i := 1951) rfl
set_option maxRecDepth 100000 in
theorem cd_Mo_pay : Cond.code (pY P_Mo_pay) (pB P_Mo_pay) (pL P_Mo_pay) (pRet P_Mo_pay) ∈ tables_1 := List.mem_of_getElem? (i := 2047) rfl
set_option maxRecDepth 100000 in
theorem cd_Mo_enter : Cond.code (pY P_Mo_enter) (pB P_Mo_enter) (pL P_Mo_enter) (pRet P_Mo_enter) ∈ tables_1 := List.mem_of_getElem? (i := 1834) rfl
set_option maxRecDepth 100000 in
theorem cd_Mo_look1 : Cond.code (pY P_Mo_look1) (pB P_Mo_look1) (pL P_Mo_look1) (pRet P_Mo_look1) ∈ tables_1 := List.mem_of_getElem? (i := 2051) rfl
set_option maxRecDepth 100000 in
theorem cd_Mo_worth : Cond.code (pY P_Mo_worth) (pB P_Mo_worth) (pL P_Mo_worth) (pRet P_Mo_worth) ∈ tables_1 := List.mem_of_getElem? (i := 2055) rfl
set_option maxRecDepth 100000 in
theorem cd_Mo_beside : Cond.code (pY P_Mo_beside) (pB P_Mo_beside) (pL P_Mo_beside) (pRet P_Mo_beside) ∈ tables_1 := List.mem_of_getElem? (i := 2071) rfl
set_option maxRecDepth 100000 in
theorem cd_Mo_lostOf : Cond.code (pY P_Mo_lostOf) (pB P_Mo_lostOf) (pL P_Mo_lostOf) (pRet P_Mo_lostOf) ∈ tables_1 := List.mem_of_getElem? (i := 2067) rfl
set_option maxRecDepth 100000 in
theorem cd_Mo_isStay : Cond.code (pY P_Mo_isStay) (pB P_Mo_isStay) (pL P_Mo_isStay) (pRet P_Mo_isStay) ∈ tables_1 := List.mem_of_getElem? (i := 2063) rfl
set_option maxRecDepth 100000 in
theorem cd_Mo_lost : Cond.code (pY P_Mo_lost) (pB P_Mo_lost) (pL P_Mo_lost) (pRet P_Mo_lost) ∈ tables_1 := List.mem_of_getElem? (i := 2059) rfl
set_option maxRecDepth 100000 in
theorem cd_Mo_kept : Cond.code (pY P_Mo_kept) (pB P_Mo_kept) (pL P_Mo_kept) (pRet P_Mo_kept) ∈ tables_1 := List.mem_of_getElem? (i := 2075) rfl
set_option maxRecDepth 100000 in
theorem cd_Mo_complain : Cond.code (pY P_Mo_complain) (pB P_Mo_complain) (pL P_Mo_complain) (pRet P_Mo_complain) ∈ tables_1 := List.mem_of_getElem? (i := 2079) rfl
set_option maxRecDepth 100000 in
theorem cd_Mo_blamed : Cond.code (pY P_Mo_blamed) (pB P_Mo_blamed) (pL P_Mo_blamed) (pRet P_Mo_blamed) ∈ tables_1 := List.mem_of_getElem? (i := 2083) rfl
set_option maxRecDepth 100000 in
theorem cd_Mo_weight : Cond.code (pY P_Mo_weight) (pB P_Mo_weight) (pL P_Mo_weight) (pRet P_Mo_weight) ∈ tables_1 := List.mem_of_getElem? (i := 2097) rfl
set_option maxRecDepth 100000 in
theorem cd_Mo_draw : Cond.code (pY P_Mo_draw) (pB P_Mo_draw) (pL P_Mo_draw) (pRet P_Mo_draw) ∈ tables_1 := List.mem_of_getElem? (i := 2087) rfl
theorem cdR16 : ∀ P ∈ zP16.take 16, Cond.code (pY P) (pB P) (pL P) (pRet P) ∈ tables_1 := List.forall_mem_cons.mpr ⟨cd_Mo_force, List.forall_mem_cons.mpr ⟨cd_Mo_payBy, List.forall_mem_cons.mpr ⟨cd_Mo_payFor, List.forall_mem_cons.mpr ⟨cd_Mo_pay, List.forall_mem_cons.mpr ⟨cd_Mo_enter, List.forall_mem_cons.mpr ⟨cd_Mo_look1, List.forall_mem_cons.mpr ⟨cd_Mo_worth, List.forall_mem_cons.mpr ⟨cd_Mo_beside, List.forall_mem_cons.mpr ⟨cd_Mo_lostOf, List.forall_mem_cons.mpr ⟨cd_Mo_isStay, List.forall_mem_cons.mpr ⟨cd_Mo_lost, List.forall_mem_cons.mpr ⟨cd_Mo_kept, List.forall_mem_cons.mpr ⟨cd_Mo_complain, List.forall_mem_cons.mpr ⟨cd_Mo_blamed, List.forall_mem_cons.mpr ⟨cd_Mo_weight, List.forall_mem_cons.mpr ⟨cd_Mo_draw, fun _ h => absurd h List.not_mem_nil⟩⟩⟩⟩⟩⟩⟩⟩⟩⟩⟩⟩⟩⟩⟩⟩
def zM17 : List (Nat × Nat × Nat × Nat) := [(1838, 1837, 66, 10), (2101, 2099, 2199, 10), (2105, 2103, 2203, 10), (2109, 2107, 2207, 10)]
theorem mR17 : (zP17.zip zM17).all (fun q => mOK q.1 q.2) = true := by decide +kernel
set_option maxRecDepth 100000 in
theorem cd_Mo_drawCode : Cond.code (pY P_Mo_drawCode) (pB P_Mo_drawCode) (pL P_Mo_drawCode) (pRet P_Mo_drawCode) ∈ tables_1 := List.mem_of_getElem? (i := 1838) rfl
set_option maxRecDepth 100000 in
theorem cd_Mo_code : Cond.code (pY P_Mo_code) (pB P_Mo_code) (pL P_Mo_code) (pRet P_Mo_code) ∈ tables_1 := List.mem_of_getElem? (i := 2101) rfl
set_option maxRecDepth 100000 in
theorem cd_Mo_door : Cond.code (pY P_Mo_door) (pB P_Mo_door) (pL P_Mo_door) (pRet P_Mo_door) ∈ tables_1 := List.mem_of_getElem? (i := 2105) rfl
set_option maxRecDepth 100000 in
theorem cd_Mo_count : Cond.code (pY P_Mo_count) (pB P_Mo_count) (pL P_Mo_count) (pRet P_Mo_count) ∈ tables_1 := List.mem_of_getElem? (i := 2109) rfl
theorem cdR17 : ∀ P ∈ zP17.take 4, Cond.code (pY P) (pB P) (pL P) (pRet P) ∈ tables_1 := List.forall_mem_cons.mpr ⟨cd_Mo_drawCode, List.forall_mem_cons.mpr ⟨cd_Mo_code, List.forall_mem_cons.mpr ⟨cd_Mo_door, List.forall_mem_cons.mpr ⟨cd_Mo_count, fun _ h => absurd h List.not_mem_nil⟩⟩⟩⟩
def zMM : List (List (Nat × Nat × Nat × Nat)) := [zM0, zM1, zM2, zM3, zM4, zM5, zM6, zM7, zM8, zM9, zM10, zM11, zM12, zM13, zM14, zM15, zM16, zM17]
theorem mRow : ∀ i, i < 18 → ((zPP.getD i []).zip (zMM.getD i [])).all (fun q => mOK q.1 q.2) = true := by
  intro i hi
  match i, hi with
  | 0, _ => exact mR0
  | 1, _ => exact mR1
  | 2, _ => exact mR2
  | 3, _ => exact mR3
  | 4, _ => exact mR4
  | 5, _ => exact mR5
  | 6, _ => exact mR6
  | 7, _ => exact mR7
  | 8, _ => exact mR8
  | 9, _ => exact mR9
  | 10, _ => exact mR10
  | 11, _ => exact mR11
  | 12, _ => exact mR12
  | 13, _ => exact mR13
  | 14, _ => exact mR14
  | 15, _ => exact mR15
  | 16, _ => exact mR16
  | 17, _ => exact mR17
  | i + 18, h => omega
theorem mLen : ∀ i, i < 18 → (zPP.getD i []).length = (if i = 17 then 6 else 16) ∧ (zMM.getD i []).length = (if i = 17 then 4 else 16) := by
  intro i hi
  match i, hi with
  | 0, _ => exact ⟨rfl, rfl⟩
  | 1, _ => exact ⟨rfl, rfl⟩
  | 2, _ => exact ⟨rfl, rfl⟩
  | 3, _ => exact ⟨rfl, rfl⟩
  | 4, _ => exact ⟨rfl, rfl⟩
  | 5, _ => exact ⟨rfl, rfl⟩
  | 6, _ => exact ⟨rfl, rfl⟩
  | 7, _ => exact ⟨rfl, rfl⟩
  | 8, _ => exact ⟨rfl, rfl⟩
  | 9, _ => exact ⟨rfl, rfl⟩
  | 10, _ => exact ⟨rfl, rfl⟩
  | 11, _ => exact ⟨rfl, rfl⟩
  | 12, _ => exact ⟨rfl, rfl⟩
  | 13, _ => exact ⟨rfl, rfl⟩
  | 14, _ => exact ⟨rfl, rfl⟩
  | 15, _ => exact ⟨rfl, rfl⟩
  | 16, _ => exact ⟨rfl, rfl⟩
  | 17, _ => exact ⟨rfl, rfl⟩
  | i + 18, h => omega
theorem mok {k : Nat} (hk : k < 276) : ∃ q, mOK (tbl k) q = true := by
  have hi : k / 16 < 18 := by omega
  obtain ⟨l1, l2⟩ := mLen _ hi
  have h1 : k % 16 < (zPP.getD (k / 16) []).length := by rw [l1]; split <;> omega
  have h2 : k % 16 < (zMM.getD (k / 16) []).length := by rw [l2]; split <;> omega
  have h3 := List.all_eq_true.mp (mRow _ hi) ((zPP.getD (k / 16) [])[k % 16], (zMM.getD (k / 16) [])[k % 16]) (List.mem_of_getElem? (i := k % 16) (by rw [List.getElem?_zip_eq_some]; exact ⟨List.getElem?_eq_getElem h1, List.getElem?_eq_getElem h2⟩))
  refine ⟨(zMM.getD (k / 16) [])[k % 16], ?_⟩
  unfold tbl
  rw [List.getD_eq_getElem?_getD (l := zPP.getD (k / 16) []), List.getElem?_eq_getElem h1]
  exact h3
theorem cdRow : ∀ i, i < 18 → ∀ P ∈ (zPP.getD i []).take (if i = 17 then 4 else 16), Cond.code (pY P) (pB P) (pL P) (pRet P) ∈ tables_1 := by
  intro i hi
  match i, hi with
  | 0, _ => exact cdR0
  | 1, _ => exact cdR1
  | 2, _ => exact cdR2
  | 3, _ => exact cdR3
  | 4, _ => exact cdR4
  | 5, _ => exact cdR5
  | 6, _ => exact cdR6
  | 7, _ => exact cdR7
  | 8, _ => exact cdR8
  | 9, _ => exact cdR9
  | 10, _ => exact cdR10
  | 11, _ => exact cdR11
  | 12, _ => exact cdR12
  | 13, _ => exact cdR13
  | 14, _ => exact cdR14
  | 15, _ => exact cdR15
  | 16, _ => exact cdR16
  | 17, _ => exact cdR17
  | i + 18, h => omega
theorem mcd {k : Nat} (hk : k < 276) : Cond.code (pY (tbl k)) (pB (tbl k)) (pL (tbl k)) (pRet (tbl k)) ∈ tables_1 := by
  have hi : k / 16 < 18 := by omega
  obtain ⟨l1, l2⟩ := mLen _ hi
  have h1 : k % 16 < (zPP.getD (k / 16) []).length := by rw [l1]; split <;> omega
  refine cdRow _ hi (tbl k) (List.mem_of_getElem? (i := k % 16) ?_)
  rw [List.getElem?_take_of_lt (by split <;> omega), List.getElem?_eq_getElem h1]
  unfold tbl
  rw [List.getD_eq_getElem?_getD (l := zPP.getD (k / 16) []), List.getElem?_eq_getElem h1]
  rfl
def calI (i : Ins) : Bool := match i with
  | (_, ins, _, a, _, _, _, _, _) => match ins with
    | .invokevirtual _ => decide (a < 276) && !iniP (tbl a) && decide (a ≠ 137) && decide (pC (tbl a) < 13)
    | .invokestatic _ => decide (a = 9001) || decide (a = 86) || decide (a = 276) || (decide (a < 276) && decide (pC (tbl a) = 99) && !iniP (tbl a))
    | .invokespecial _ => decide (a = 9000) || (decide (a < 276) && iniP (tbl a) && decide (pC (tbl a) < 13))
    | _ => true
theorem cR0 : zP0.all (fun P => (pCd P).all (fun ch => ch.all calI)) = true := by decide +kernel
theorem cR1 : zP1.all (fun P => (pCd P).all (fun ch => ch.all calI)) = true := by decide +kernel
theorem cR2 : zP2.all (fun P => (pCd P).all (fun ch => ch.all calI)) = true := by decide +kernel
theorem cR3 : zP3.all (fun P => (pCd P).all (fun ch => ch.all calI)) = true := by decide +kernel
theorem cR4 : zP4.all (fun P => (pCd P).all (fun ch => ch.all calI)) = true := by decide +kernel
theorem cR5 : zP5.all (fun P => (pCd P).all (fun ch => ch.all calI)) = true := by decide +kernel
theorem cR6 : zP6.all (fun P => (pCd P).all (fun ch => ch.all calI)) = true := by decide +kernel
theorem cR7 : zP7.all (fun P => (pCd P).all (fun ch => ch.all calI)) = true := by decide +kernel
theorem cR8 : zP8.all (fun P => (pCd P).all (fun ch => ch.all calI)) = true := by decide +kernel
theorem cR9 : zP9.all (fun P => (pCd P).all (fun ch => ch.all calI)) = true := by decide +kernel
theorem cR10 : zP10.all (fun P => (pCd P).all (fun ch => ch.all calI)) = true := by decide +kernel
theorem cR11 : zP11.all (fun P => (pCd P).all (fun ch => ch.all calI)) = true := by decide +kernel
theorem cR12 : zP12.all (fun P => (pCd P).all (fun ch => ch.all calI)) = true := by decide +kernel
theorem cR13 : zP13.all (fun P => (pCd P).all (fun ch => ch.all calI)) = true := by decide +kernel
theorem cR14 : zP14.all (fun P => (pCd P).all (fun ch => ch.all calI)) = true := by decide +kernel
theorem cR15 : zP15.all (fun P => (pCd P).all (fun ch => ch.all calI)) = true := by decide +kernel
theorem cR16 : zP16.all (fun P => (pCd P).all (fun ch => ch.all calI)) = true := by decide +kernel
theorem cR17 : zP17.all (fun P => (pCd P).all (fun ch => ch.all calI)) = true := by decide +kernel
theorem cRow : ∀ r ∈ zPP, r.all (fun P => (pCd P).all (fun ch => ch.all calI)) = true := List.forall_mem_cons.mpr ⟨cR0, List.forall_mem_cons.mpr ⟨cR1, List.forall_mem_cons.mpr ⟨cR2, List.forall_mem_cons.mpr ⟨cR3, List.forall_mem_cons.mpr ⟨cR4, List.forall_mem_cons.mpr ⟨cR5, List.forall_mem_cons.mpr ⟨cR6, List.forall_mem_cons.mpr ⟨cR7, List.forall_mem_cons.mpr ⟨cR8, List.forall_mem_cons.mpr ⟨cR9, List.forall_mem_cons.mpr ⟨cR10, List.forall_mem_cons.mpr ⟨cR11, List.forall_mem_cons.mpr ⟨cR12, List.forall_mem_cons.mpr ⟨cR13, List.forall_mem_cons.mpr ⟨cR14, List.forall_mem_cons.mpr ⟨cR15, List.forall_mem_cons.mpr ⟨cR16, List.forall_mem_cons.mpr ⟨cR17, fun _ h => absurd h List.not_mem_nil⟩⟩⟩⟩⟩⟩⟩⟩⟩⟩⟩⟩⟩⟩⟩⟩⟩⟩
theorem cal_tbl (k : Nat) : (pCd (tbl k)).all (fun ch => ch.all calI) = true := by
  unfold tbl
  rcases getD_mem (l := zPP) (i := k / 16) (d := []) with h | h
  · rcases getD_mem (l := zPP.getD (k / 16) []) (i := k % 16) (d := nilP) with h2 | h2
    · exact List.all_eq_true.mp (cRow _ h) _ h2
    · rw [h2]; rfl
  · rw [h]; rfl
theorem fnd_mem {pc : Nat} {i : Ins} : ∀ {l : List Ins}, fnd l pc = some i → i ∈ l
  | [], h => by cases h
  | x :: r, h => by
    unfold fnd at h
    cases hb : Nat.beq x.1 pc with
    | true => rw [hb] at h; cases h; exact List.mem_cons_self
    | false => rw [hb] at h; exact List.mem_cons_of_mem _ (fnd_mem h)
theorem fet_cal {k pc : Nat} {i : Ins} (h0 : fet k pc = some i) : calI i = true := by
  have h : fnd ((pCd (tbl k)).getD (pc / 64) []) pc = some i := by
    unfold fet at h0
    split at h0
    · rename_i j hj
      cases hl : lenOK j with
      | true => rw [hl] at h0; cases h0; exact hj
      | false => rw [hl] at h0; cases h0
    · cases h0
  rcases getD_mem (l := pCd (tbl k)) (i := pc / 64) (d := []) with hm | hm
  · exact List.all_eq_true.mp (List.all_eq_true.mp (cal_tbl k) _ hm) i (fnd_mem h)
  · rw [hm] at h; cases h

