def m_X0_init : hk_M := (yX0_init, cX0_init, 2, none, [])
theorem ok_X0_init : hk_ok m_X0_init 1 := ⟨by decide +kernel, ⟨by decide +kernel, by decide +kernel⟩, by decide +kernel, by decide +kernel, wd_4, wd_80⟩
theorem ic_X0_init : hk_ini m_X0_init 1 := ⟨ok_X0_init, rfl, rfl, rfl, wd_79⟩
def m_X0_firstRow : hk_M := (yX0_firstRow, cX0_firstRow, 5, some .int, [])
theorem ok_X0_firstRow : hk_ok m_X0_firstRow 2 := ⟨by decide +kernel, ⟨by decide +kernel, by decide +kernel⟩, by decide +kernel, by decide +kernel, wd_4, wd_547⟩
theorem vi_X0_firstRow : hk_vir m_X0_firstRow 0 2 := ⟨ok_X0_firstRow, rfl, wd_545, _, rfl, wd_546⟩
def m_X0_firstRowFrom : hk_M := (yX0_firstRowFrom, cX0_firstRowFrom, 6, some .int, [])
theorem ok_X0_firstRowFrom : hk_ok m_X0_firstRowFrom 3 := ⟨by decide +kernel, ⟨by decide +kernel, by decide +kernel⟩, by decide +kernel, by decide +kernel, wd_4, wd_569⟩
theorem vi_X0_firstRowFrom : hk_vir m_X0_firstRowFrom 0 3 := ⟨ok_X0_firstRowFrom, rfl, wd_567, _, rfl, wd_568⟩
def m_X0_leastSaid : hk_M := (yX0_leastSaid, cX0_leastSaid, 3, some .int, [])
theorem ok_X0_leastSaid : hk_ok m_X0_leastSaid 2 := ⟨by decide +kernel, ⟨by decide +kernel, by decide +kernel⟩, by decide +kernel, by decide +kernel, wd_4, wd_608⟩
theorem vi_X0_leastSaid : hk_vir m_X0_leastSaid 0 2 := ⟨ok_X0_leastSaid, rfl, wd_606, _, rfl, wd_607⟩
def m_X0_leastSaidFrom : hk_M := (yX0_leastSaidFrom, cX0_leastSaidFrom, 5, some .int, [])
theorem ok_X0_leastSaidFrom : hk_ok m_X0_leastSaidFrom 2 := ⟨by decide +kernel, ⟨by decide +kernel, by decide +kernel⟩, by decide +kernel, by decide +kernel, wd_4, wd_600⟩
theorem vi_X0_leastSaidFrom : hk_vir m_X0_leastSaidFrom 0 2 := ⟨ok_X0_leastSaidFrom, rfl, wd_598, _, rfl, wd_599⟩
def m_X0_isMember : hk_M := (yX0_isMember, cX0_isMember, 2, some .boolean, [])
theorem ok_X0_isMember : hk_ok m_X0_isMember 1 := ⟨by decide +kernel, ⟨by decide +kernel, by decide +kernel⟩, by decide +kernel, by decide +kernel, wd_4, wd_564⟩
theorem vi_X0_isMember : hk_vir m_X0_isMember 0 1 := ⟨ok_X0_isMember, rfl, wd_562, _, rfl, wd_563⟩
def m_X0_startOf : hk_M := (yX0_startOf, cX0_startOf, 4, some .int, [])
theorem ok_X0_startOf : hk_ok m_X0_startOf 1 := ⟨by decide +kernel, ⟨by decide +kernel, by decide +kernel⟩, by decide +kernel, by decide +kernel, wd_4, wd_560⟩
theorem vi_X0_startOf : hk_vir m_X0_startOf 0 1 := ⟨ok_X0_startOf, rfl, wd_558, _, rfl, wd_559⟩
def m_X0_nextRow : hk_M := (yX0_nextRow, cX0_nextRow, 5, some .int, [])
theorem ok_X0_nextRow : hk_ok m_X0_nextRow 1 := ⟨by decide +kernel, ⟨by decide +kernel, by decide +kernel⟩, by decide +kernel, by decide +kernel, wd_4, wd_581⟩
theorem vi_X0_nextRow : hk_vir m_X0_nextRow 0 1 := ⟨ok_X0_nextRow, rfl, wd_579, _, rfl, wd_580⟩
def m_X0_findCheapest : hk_M := (yX0_findCheapest, cX0_findCheapest, 8, none, [])
theorem ok_X0_findCheapest : hk_ok m_X0_findCheapest 2 := ⟨by decide +kernel, ⟨by decide +kernel, by decide +kernel⟩, by decide +kernel, by decide +kernel, wd_4, wd_573⟩
theorem vi_X0_findCheapest : hk_vir m_X0_findCheapest 0 2 := ⟨ok_X0_findCheapest, rfl, wd_571, _, rfl, wd_572⟩
def m_X0_stand : hk_M := (yX0_stand, cX0_stand, 4, none, [])
theorem ok_X0_stand : hk_ok m_X0_stand 2 := ⟨by decide +kernel, ⟨by decide +kernel, by decide +kernel⟩, by decide +kernel, by decide +kernel, wd_4, wd_586⟩
theorem vi_X0_stand : hk_vir m_X0_stand 0 2 := ⟨ok_X0_stand, rfl, wd_584, _, rfl, wd_585⟩
def m_X0_mayLie : hk_M := (yX0_mayLie, cX0_mayLie, 2, some .boolean, [])
theorem ok_X0_mayLie : hk_ok m_X0_mayLie 0 := ⟨by decide +kernel, ⟨by decide +kernel, by decide +kernel⟩, by decide +kernel, by decide +kernel, wd_4, wd_591⟩
theorem vi_X0_mayLie : hk_vir m_X0_mayLie 0 0 := ⟨ok_X0_mayLie, rfl, wd_589, _, rfl, wd_590⟩
def m_X0_mayLieFor : hk_M := (yX0_mayLieFor, cX0_mayLieFor, 4, some .boolean, [])
theorem ok_X0_mayLieFor : hk_ok m_X0_mayLieFor 1 := ⟨by decide +kernel, ⟨by decide +kernel, by decide +kernel⟩, by decide +kernel, by decide +kernel, wd_4, wd_595⟩
theorem vi_X0_mayLieFor : hk_vir m_X0_mayLieFor 0 1 := ⟨ok_X0_mayLieFor, rfl, wd_593, _, rfl, wd_594⟩
def m_X0_allGain : hk_M := (yX0_allGain, cX0_allGain, 4, some .boolean, [])
theorem ok_X0_allGain : hk_ok m_X0_allGain 2 := ⟨by decide +kernel, ⟨by decide +kernel, by decide +kernel⟩, by decide +kernel, by decide +kernel, wd_4, wd_604⟩
theorem vi_X0_allGain : hk_vir m_X0_allGain 0 2 := ⟨ok_X0_allGain, rfl, wd_602, _, rfl, wd_603⟩
def m_X1_init : hk_M := (yX1_init, cX1_init, 3, none, [])
theorem ok_X1_init : hk_ok m_X1_init 1 := ⟨by decide +kernel, ⟨by decide +kernel, by decide +kernel⟩, by decide +kernel, by decide +kernel, wd_6, wd_129⟩
theorem ic_X1_init : hk_ini m_X1_init 1 := ⟨ok_X1_init, rfl, rfl, rfl, wd_128⟩
def m_X1_isOrder : hk_M := (yX1_isOrder, cX1_isOrder, 6, some .boolean, [])
theorem ok_X1_isOrder : hk_ok m_X1_isOrder 1 := ⟨by decide +kernel, ⟨by decide +kernel, by decide +kernel⟩, by decide +kernel, by decide +kernel, wd_6, wd_736⟩
theorem vi_X1_isOrder : hk_vir m_X1_isOrder 1 1 := ⟨ok_X1_isOrder, rfl, wd_734, _, rfl, wd_735⟩
def m_X1_read : hk_M := (yX1_read, cX1_read, 5, none, [])
theorem ok_X1_read : hk_ok m_X1_read 2 := ⟨by decide +kernel, ⟨by decide +kernel, by decide +kernel⟩, by decide +kernel, by decide +kernel, wd_6, wd_744⟩
theorem vi_X1_read : hk_vir m_X1_read 1 2 := ⟨ok_X1_read, rfl, wd_742, _, rfl, wd_743⟩
def m_X1_told : hk_M := (yX1_told, cX1_told, 4, some .int, [])
theorem ok_X1_told : hk_ok m_X1_told 1 := ⟨by decide +kernel, ⟨by decide +kernel, by decide +kernel⟩, by decide +kernel, by decide +kernel, wd_6, wd_768⟩
theorem vi_X1_told : hk_vir m_X1_told 1 1 := ⟨ok_X1_told, rfl, wd_766, _, rfl, wd_767⟩
def m_X1_learn : hk_M := (yX1_learn, cX1_learn, 4, none, [])
theorem ok_X1_learn : hk_ok m_X1_learn 2 := ⟨by decide +kernel, ⟨by decide +kernel, by decide +kernel⟩, by decide +kernel, by decide +kernel, wd_6, wd_740⟩
theorem vi_X1_learn : hk_vir m_X1_learn 1 2 := ⟨ok_X1_learn, rfl, wd_738, _, rfl, wd_739⟩
def m_X1_orderOf : hk_M := (yX1_orderOf, cX1_orderOf, 3, some .int, [])
theorem ok_X1_orderOf : hk_ok m_X1_orderOf 1 := ⟨by decide +kernel, ⟨by decide +kernel, by decide +kernel⟩, by decide +kernel, by decide +kernel, wd_6, wd_828⟩
theorem vi_X1_orderOf : hk_vir m_X1_orderOf 1 1 := ⟨ok_X1_orderOf, rfl, wd_826, _, rfl, wd_827⟩
def m_X1_placeFor : hk_M := (yX1_placeFor, cX1_placeFor, 3, some .int, [])
theorem ok_X1_placeFor : hk_ok m_X1_placeFor 2 := ⟨by decide +kernel, ⟨by decide +kernel, by decide +kernel⟩, by decide +kernel, by decide +kernel, wd_6, wd_800⟩
theorem vi_X1_placeFor : hk_vir m_X1_placeFor 1 2 := ⟨ok_X1_placeFor, rfl, wd_798, _, rfl, wd_799⟩
def m_X1_bestOf : hk_M := (yX1_bestOf, cX1_bestOf, 5, some .int, [])
theorem ok_X1_bestOf : hk_ok m_X1_bestOf 2 := ⟨by decide +kernel, ⟨by decide +kernel, by decide +kernel⟩, by decide +kernel, by decide +kernel, wd_6, wd_760⟩
theorem vi_X1_bestOf : hk_vir m_X1_bestOf 1 2 := ⟨ok_X1_bestOf, rfl, wd_758, _, rfl, wd_759⟩
def m_X1_tradeByRings : hk_M := (yX1_tradeByRings, cX1_tradeByRings, 3, some .int, [])
theorem ok_X1_tradeByRings : hk_ok m_X1_tradeByRings 0 := ⟨by decide +kernel, ⟨by decide +kernel, by decide +kernel⟩, by decide +kernel, by decide +kernel, wd_6, wd_752⟩
theorem vi_X1_tradeByRings : hk_vir m_X1_tradeByRings 1 0 := ⟨ok_X1_tradeByRings, rfl, wd_750, _, rfl, wd_751⟩
def m_X1_leaveByRings : hk_M := (yX1_leaveByRings, cX1_leaveByRings, 5, some .int, [])
theorem ok_X1_leaveByRings : hk_ok m_X1_leaveByRings 2 := ⟨by decide +kernel, ⟨by decide +kernel, by decide +kernel⟩, by decide +kernel, by decide +kernel, wd_6, wd_756⟩
theorem vi_X1_leaveByRings : hk_vir m_X1_leaveByRings 1 2 := ⟨ok_X1_leaveByRings, rfl, wd_754, _, rfl, wd_755⟩
def m_X1_isOnRing : hk_M := (yX1_isOnRing, cX1_isOnRing, 4, some .boolean, [])
theorem ok_X1_isOnRing : hk_ok m_X1_isOnRing 1 := ⟨by decide +kernel, ⟨by decide +kernel, by decide +kernel⟩, by decide +kernel, by decide +kernel, wd_6, wd_764⟩
theorem vi_X1_isOnRing : hk_vir m_X1_isOnRing 1 1 := ⟨ok_X1_isOnRing, rfl, wd_762, _, rfl, wd_763⟩
def m_X1_tradeByTurns : hk_M := (yX1_tradeByTurns, cX1_tradeByTurns, 5, some .int, [])
theorem ok_X1_tradeByTurns : hk_ok m_X1_tradeByTurns 1 := ⟨by decide +kernel, ⟨by decide +kernel, by decide +kernel⟩, by decide +kernel, by decide +kernel, wd_6, wd_780⟩
theorem vi_X1_tradeByTurns : hk_vir m_X1_tradeByTurns 1 1 := ⟨ok_X1_tradeByTurns, rfl, wd_778, _, rfl, wd_779⟩
def m_X1_leastBlocking : hk_M := (yX1_leastBlocking, cX1_leastBlocking, 7, some .int, [])
theorem ok_X1_leastBlocking : hk_ok m_X1_leastBlocking 1 := ⟨by decide +kernel, ⟨by decide +kernel, by decide +kernel⟩, by decide +kernel, by decide +kernel, wd_6, wd_788⟩
theorem vi_X1_leastBlocking : hk_vir m_X1_leastBlocking 1 1 := ⟨ok_X1_leastBlocking, rfl, wd_786, _, rfl, wd_787⟩
def m_X1_keepsWithin : hk_M := (yX1_keepsWithin, cX1_keepsWithin, 3, some .boolean, [])
theorem ok_X1_keepsWithin : hk_ok m_X1_keepsWithin 1 := ⟨by decide +kernel, ⟨by decide +kernel, by decide +kernel⟩, by decide +kernel, by decide +kernel, wd_6, wd_792⟩
theorem vi_X1_keepsWithin : hk_vir m_X1_keepsWithin 1 1 := ⟨ok_X1_keepsWithin, rfl, wd_790, _, rfl, wd_791⟩
def m_X1_isBetterFor : hk_M := (yX1_isBetterFor, cX1_isBetterFor, 5, some .boolean, [])
theorem ok_X1_isBetterFor : hk_ok m_X1_isBetterFor 1 := ⟨by decide +kernel, ⟨by decide +kernel, by decide +kernel⟩, by decide +kernel, by decide +kernel, wd_6, wd_796⟩
theorem vi_X1_isBetterFor : hk_vir m_X1_isBetterFor 1 1 := ⟨ok_X1_isBetterFor, rfl, wd_794, _, rfl, wd_795⟩
def m_X1_isBettered : hk_M := (yX1_isBettered, cX1_isBettered, 6, some .boolean, [])
theorem ok_X1_isBettered : hk_ok m_X1_isBettered 1 := ⟨by decide +kernel, ⟨by decide +kernel, by decide +kernel⟩, by decide +kernel, by decide +kernel, wd_6, wd_812⟩
theorem vi_X1_isBettered : hk_vir m_X1_isBettered 1 1 := ⟨ok_X1_isBettered, rfl, wd_810, _, rfl, wd_811⟩
def m_X1_goodTrades : hk_M := (yX1_goodTrades, cX1_goodTrades, 6, some .int, [])
theorem ok_X1_goodTrades : hk_ok m_X1_goodTrades 0 := ⟨by decide +kernel, ⟨by decide +kernel, by decide +kernel⟩, by decide +kernel, by decide +kernel, wd_6, wd_842⟩
theorem vi_X1_goodTrades : hk_vir m_X1_goodTrades 1 0 := ⟨ok_X1_goodTrades, rfl, wd_840, _, rfl, wd_841⟩
def m_X1_coreTrades : hk_M := (yX1_coreTrades, cX1_coreTrades, 6, some .int, [])
theorem ok_X1_coreTrades : hk_ok m_X1_coreTrades 0 := ⟨by decide +kernel, ⟨by decide +kernel, by decide +kernel⟩, by decide +kernel, by decide +kernel, wd_6, wd_847⟩
theorem vi_X1_coreTrades : hk_vir m_X1_coreTrades 1 0 := ⟨ok_X1_coreTrades, rfl, wd_845, _, rfl, wd_846⟩
def m_X1_leastLie : hk_M := (yX1_leastLie, cX1_leastLie, 7, some .int, [])
theorem ok_X1_leastLie : hk_ok m_X1_leastLie 1 := ⟨by decide +kernel, ⟨by decide +kernel, by decide +kernel⟩, by decide +kernel, by decide +kernel, wd_6, wd_824⟩
theorem vi_X1_leastLie : hk_vir m_X1_leastLie 1 1 := ⟨ok_X1_leastLie, rfl, wd_822, _, rfl, wd_823⟩
def m_X1_thingBySaying : hk_M := (yX1_thingBySaying, cX1_thingBySaying, 3, some .int, [])
theorem ok_X1_thingBySaying : hk_ok m_X1_thingBySaying 2 := ⟨by decide +kernel, ⟨by decide +kernel, by decide +kernel⟩, by decide +kernel, by decide +kernel, wd_6, wd_833⟩
theorem vi_X1_thingBySaying : hk_vir m_X1_thingBySaying 1 2 := ⟨ok_X1_thingBySaying, rfl, wd_831, _, rfl, wd_832⟩
def m_X2_init : hk_M := (yX2_init, cX2_init, 3, none, [])
theorem ok_X2_init : hk_ok m_X2_init 2 := ⟨by decide +kernel, ⟨by decide +kernel, by decide +kernel⟩, by decide +kernel, by decide +kernel, wd_13, wd_324⟩
theorem ic_X2_init : hk_ini m_X2_init 2 := ⟨ok_X2_init, rfl, rfl, rfl, wd_323⟩
def m_X2_settle : hk_M := (yX2_settle, cX2_settle, 2, none, [])
theorem ok_X2_settle : hk_ok m_X2_settle 1 := ⟨by decide +kernel, ⟨by decide +kernel, by decide +kernel⟩, by decide +kernel, by decide +kernel, wd_13, wd_443⟩
def m_X2_changeEnd : hk_M := (yX2_changeEnd, cX2_changeEnd, 3, some .int, [])
theorem ok_X2_changeEnd : hk_ok m_X2_changeEnd 2 := ⟨by decide +kernel, ⟨by decide +kernel, by decide +kernel⟩, by decide +kernel, by decide +kernel, wd_13, wd_365⟩
def m_X2_changePlace : hk_M := (yX2_changePlace, cX2_changePlace, 4, some .int, [])
theorem ok_X2_changePlace : hk_ok m_X2_changePlace 2 := ⟨by decide +kernel, ⟨by decide +kernel, by decide +kernel⟩, by decide +kernel, by decide +kernel, wd_13, wd_429⟩
def m_X2_middleOf : hk_M := (yX2_middleOf, cX2_middleOf, 4, some .int, [])
theorem ok_X2_middleOf : hk_ok m_X2_middleOf 1 := ⟨by decide +kernel, ⟨by decide +kernel, by decide +kernel⟩, by decide +kernel, by decide +kernel, wd_13, wd_447⟩
theorem vi_X2_middleOf : hk_vir m_X2_middleOf 2 1 := ⟨ok_X2_middleOf, rfl, wd_445, _, rfl, wd_446⟩
def m_X2_heft : hk_M := (yX2_heft, cX2_heft, 3, some .int, [])
theorem ok_X2_heft : hk_ok m_X2_heft 0 := ⟨by decide +kernel, ⟨by decide +kernel, by decide +kernel⟩, by decide +kernel, by decide +kernel, wd_13, wd_875⟩
def m_X2_fail : hk_M := (yX2_fail, cX2_fail, 1, none, [])
theorem ok_X2_fail : hk_ok m_X2_fail 0 := ⟨by decide +kernel, ⟨by decide +kernel, by decide +kernel⟩, by decide +kernel, by decide +kernel, wd_13, wd_941⟩
def m_X3_init : hk_M := (yX3_init, cX3_init, 3, none, [])
theorem ok_X3_init : hk_ok m_X3_init 2 := ⟨by decide +kernel, ⟨by decide +kernel, by decide +kernel⟩, by decide +kernel, by decide +kernel, wd_10, wd_266⟩
theorem ic_X3_init : hk_ini m_X3_init 2 := ⟨ok_X3_init, rfl, rfl, rfl, wd_265⟩
def m_X3_paymentAt : hk_M := (yX3_paymentAt, cX3_paymentAt, 3, some .int, [])
theorem ok_X3_paymentAt : hk_ok m_X3_paymentAt 2 := ⟨by decide +kernel, ⟨by decide +kernel, by decide +kernel⟩, by decide +kernel, by decide +kernel, wd_10, wd_526⟩
def m_X3_changePayment : hk_M := (yX3_changePayment, cX3_changePayment, 6, some .int, [])
theorem ok_X3_changePayment : hk_ok m_X3_changePayment 3 := ⟨by decide +kernel, ⟨by decide +kernel, by decide +kernel⟩, by decide +kernel, by decide +kernel, wd_10, wd_386⟩
theorem vi_X3_changePayment : hk_vir m_X3_changePayment 3 3 := ⟨ok_X3_changePayment, rfl, wd_385, _, rfl, wd_1502⟩
def m_X3_heft : hk_M := (yX3_heft, cX3_heft, 1, some .int, [])
theorem ok_X3_heft : hk_ok m_X3_heft 0 := ⟨by decide +kernel, ⟨by decide +kernel, by decide +kernel⟩, by decide +kernel, by decide +kernel, wd_10, wd_879⟩
def m_X3_fail : hk_M := (yX3_fail, cX3_fail, 1, none, [])
theorem ok_X3_fail : hk_ok m_X3_fail 0 := ⟨by decide +kernel, ⟨by decide +kernel, by decide +kernel⟩, by decide +kernel, by decide +kernel, wd_10, wd_1011⟩
def m_X4_init : hk_M := (yX4_init, cX4_init, 1, none, [])
theorem ok_X4_init : hk_ok m_X4_init 0 := ⟨by decide +kernel, ⟨by decide +kernel, by decide +kernel⟩, by decide +kernel, by decide +kernel, wd_7, wd_172⟩
theorem ic_X4_init : hk_ini m_X4_init 0 := ⟨ok_X4_init, rfl, rfl, rfl, wd_171⟩
def m_X4_holdNothing : hk_M := (yX4_holdNothing, cX4_holdNothing, 1, none, [])
theorem ok_X4_holdNothing : hk_ok m_X4_holdNothing 0 := ⟨by decide +kernel, ⟨by decide +kernel, by decide +kernel⟩, by decide +kernel, by decide +kernel, wd_7, wd_860⟩
theorem vi_X4_holdNothing : hk_vir m_X4_holdNothing 4 0 := ⟨ok_X4_holdNothing, rfl, wd_858, _, rfl, wd_859⟩
def m_X4_holdRule : hk_M := (yX4_holdRule, cX4_holdRule, 2, none, [])
theorem ok_X4_holdRule : hk_ok m_X4_holdRule 1 := ⟨by decide +kernel, ⟨by decide +kernel, by decide +kernel⟩, by decide +kernel, by decide +kernel, wd_7, wd_868⟩
theorem vi_X4_holdRule : hk_vir m_X4_holdRule 4 1 := ⟨ok_X4_holdRule, rfl, wd_866, _, rfl, wd_867⟩
def m_X4_holdRow : hk_M := (yX4_holdRow, cX4_holdRow, 3, none, [])
theorem ok_X4_holdRow : hk_ok m_X4_holdRow 2 := ⟨by decide +kernel, ⟨by decide +kernel, by decide +kernel⟩, by decide +kernel, by decide +kernel, wd_7, wd_894⟩
theorem vi_X4_holdRow : hk_vir m_X4_holdRow 4 2 := ⟨ok_X4_holdRow, rfl, wd_892, _, rfl, wd_893⟩
def m_X4_holdsRow : hk_M := (yX4_holdsRow, cX4_holdsRow, 1, some .boolean, [])
theorem ok_X4_holdsRow : hk_ok m_X4_holdsRow 0 := ⟨by decide +kernel, ⟨by decide +kernel, by decide +kernel⟩, by decide +kernel, by decide +kernel, wd_7, wd_914⟩
theorem vi_X4_holdsRow : hk_vir m_X4_holdsRow 4 0 := ⟨ok_X4_holdsRow, rfl, wd_912, _, rfl, wd_913⟩
def m_X4_hasPlaces : hk_M := (yX4_hasPlaces, cX4_hasPlaces, 3, some .boolean, [])
theorem ok_X4_hasPlaces : hk_ok m_X4_hasPlaces 2 := ⟨by decide +kernel, ⟨by decide +kernel, by decide +kernel⟩, by decide +kernel, by decide +kernel, wd_7, wd_918⟩
theorem vi_X4_hasPlaces : hk_vir m_X4_hasPlaces 4 2 := ⟨ok_X4_hasPlaces, rfl, wd_916, _, rfl, wd_917⟩
def m_X5_init : hk_M := (yX5_init, cX5_init, 3, none, [])
theorem ok_X5_init : hk_ok m_X5_init 2 := ⟨by decide +kernel, ⟨by decide +kernel, by decide +kernel⟩, by decide +kernel, by decide +kernel, wd_9, wd_269⟩
theorem ic_X5_init : hk_ini m_X5_init 2 := ⟨ok_X5_init, rfl, rfl, rfl, wd_268⟩
def m_X5_settle : hk_M := (yX5_settle, cX5_settle, 2, none, [])
theorem ok_X5_settle : hk_ok m_X5_settle 1 := ⟨by decide +kernel, ⟨by decide +kernel, by decide +kernel⟩, by decide +kernel, by decide +kernel, wd_9, wd_478⟩
theorem vi_X5_settle : hk_vir m_X5_settle 5 1 := ⟨ok_X5_settle, rfl, wd_438, _, rfl, wd_439⟩
def m_X5_endAt : hk_M := (yX5_endAt, cX5_endAt, 2, some .int, [])
theorem ok_X5_endAt : hk_ok m_X5_endAt 1 := ⟨by decide +kernel, ⟨by decide +kernel, by decide +kernel⟩, by decide +kernel, by decide +kernel, wd_9, wd_486⟩
theorem vi_X5_endAt : hk_vir m_X5_endAt 5 1 := ⟨ok_X5_endAt, rfl, wd_480, _, rfl, wd_481⟩
def m_X5_paymentAt : hk_M := (yX5_paymentAt, cX5_paymentAt, 3, some .int, [])
theorem ok_X5_paymentAt : hk_ok m_X5_paymentAt 2 := ⟨by decide +kernel, ⟨by decide +kernel, by decide +kernel⟩, by decide +kernel, by decide +kernel, wd_9, wd_528⟩
theorem vi_X5_paymentAt : hk_vir m_X5_paymentAt 5 2 := ⟨ok_X5_paymentAt, rfl, wd_520, _, rfl, wd_521⟩
def m_X5_profit : hk_M := (yX5_profit, cX5_profit, 4, some .int, [])
theorem ok_X5_profit : hk_ok m_X5_profit 3 := ⟨by decide +kernel, ⟨by decide +kernel, by decide +kernel⟩, by decide +kernel, by decide +kernel, wd_9, wd_516⟩
theorem vi_X5_profit : hk_vir m_X5_profit 5 3 := ⟨ok_X5_profit, rfl, wd_510, _, rfl, wd_511⟩
def m_X5_changeEnd : hk_M := (yX5_changeEnd, cX5_changeEnd, 4, some .int, [])
theorem ok_X5_changeEnd : hk_ok m_X5_changeEnd 2 := ⟨by decide +kernel, ⟨by decide +kernel, by decide +kernel⟩, by decide +kernel, by decide +kernel, wd_9, wd_370⟩
theorem vi_X5_changeEnd : hk_vir m_X5_changeEnd 5 2 := ⟨ok_X5_changeEnd, rfl, wd_360, _, rfl, wd_361⟩
def m_X5_changePayment : hk_M := (yX5_changePayment, cX5_changePayment, 4, some .int, [])
theorem ok_X5_changePayment : hk_ok m_X5_changePayment 3 := ⟨by decide +kernel, ⟨by decide +kernel, by decide +kernel⟩, by decide +kernel, by decide +kernel, wd_9, wd_390⟩
theorem vi_X5_changePayment : hk_vir m_X5_changePayment 5 3 := ⟨ok_X5_changePayment, rfl, wd_380, _, rfl, wd_381⟩
def m_X5_changeGift : hk_M := (yX5_changeGift, cX5_changeGift, 3, some .int, [])
theorem ok_X5_changeGift : hk_ok m_X5_changeGift 2 := ⟨by decide +kernel, ⟨by decide +kernel, by decide +kernel⟩, by decide +kernel, by decide +kernel, wd_9, wd_408⟩
theorem vi_X5_changeGift : hk_vir m_X5_changeGift 5 2 := ⟨ok_X5_changeGift, rfl, wd_396, _, rfl, wd_397⟩
def m_X5_changeWeight : hk_M := (yX5_changeWeight, cX5_changeWeight, 3, some .int, [])
theorem ok_X5_changeWeight : hk_ok m_X5_changeWeight 2 := ⟨by decide +kernel, ⟨by decide +kernel, by decide +kernel⟩, by decide +kernel, by decide +kernel, wd_9, wd_418⟩
theorem vi_X5_changeWeight : hk_vir m_X5_changeWeight 5 2 := ⟨ok_X5_changeWeight, rfl, wd_410, _, rfl, wd_411⟩
def m_X5_changePlace : hk_M := (yX5_changePlace, cX5_changePlace, 3, some .int, [])
theorem ok_X5_changePlace : hk_ok m_X5_changePlace 2 := ⟨by decide +kernel, ⟨by decide +kernel, by decide +kernel⟩, by decide +kernel, by decide +kernel, wd_9, wd_432⟩
theorem vi_X5_changePlace : hk_vir m_X5_changePlace 5 2 := ⟨ok_X5_changePlace, rfl, wd_424, _, rfl, wd_425⟩
def m_X5_heft : hk_M := (yX5_heft, cX5_heft, 1, some .int, [])
theorem ok_X5_heft : hk_ok m_X5_heft 0 := ⟨by decide +kernel, ⟨by decide +kernel, by decide +kernel⟩, by decide +kernel, by decide +kernel, wd_9, wd_885⟩
theorem vi_X5_heft : hk_vir m_X5_heft 5 0 := ⟨ok_X5_heft, rfl, wd_870, _, rfl, wd_871⟩
def m_X5_fail : hk_M := (yX5_fail, cX5_fail, 1, none, [])
theorem ok_X5_fail : hk_ok m_X5_fail 0 := ⟨by decide +kernel, ⟨by decide +kernel, by decide +kernel⟩, by decide +kernel, by decide +kernel, wd_9, wd_1016⟩
theorem vi_X5_fail : hk_vir m_X5_fail 5 0 := ⟨ok_X5_fail, rfl, wd_936, _, rfl, wd_937⟩
def m_X6_init : hk_M := (yX6_init, cX6_init, 2, none, [])
theorem ok_X6_init : hk_ok m_X6_init 1 := ⟨by decide +kernel, ⟨by decide +kernel, by decide +kernel⟩, by decide +kernel, by decide +kernel, wd_5, wd_105⟩
theorem ic_X6_init : hk_ini m_X6_init 1 := ⟨ok_X6_init, rfl, rfl, rfl, wd_104⟩
def m_X6_look : hk_M := (yX6_look, cX6_look, 5, none, [])
theorem ok_X6_look : hk_ok m_X6_look 3 := ⟨by decide +kernel, ⟨by decide +kernel, by decide +kernel⟩, by decide +kernel, by decide +kernel, wd_5, wd_638⟩
theorem vi_X6_look : hk_vir m_X6_look 6 3 := ⟨ok_X6_look, rfl, wd_636, _, rfl, wd_637⟩
def m_X6_measure : hk_M := (yX6_measure, cX6_measure, 5, none, [])
theorem ok_X6_measure : hk_ok m_X6_measure 2 := ⟨by decide +kernel, ⟨by decide +kernel, by decide +kernel⟩, by decide +kernel, by decide +kernel, wd_5, wd_646⟩
theorem vi_X6_measure : hk_vir m_X6_measure 6 2 := ⟨ok_X6_measure, rfl, wd_644, _, rfl, wd_645⟩
def m_X6_lengthOf : hk_M := (yX6_lengthOf, cX6_lengthOf, 3, some .int, [])
theorem ok_X6_lengthOf : hk_ok m_X6_lengthOf 2 := ⟨by decide +kernel, ⟨by decide +kernel, by decide +kernel⟩, by decide +kernel, by decide +kernel, wd_5, wd_651⟩
theorem vi_X6_lengthOf : hk_vir m_X6_lengthOf 6 2 := ⟨ok_X6_lengthOf, rfl, wd_649, _, rfl, wd_650⟩
def m_X6_hasRound : hk_M := (yX6_hasRound, cX6_hasRound, 2, some .boolean, [])
theorem ok_X6_hasRound : hk_ok m_X6_hasRound 0 := ⟨by decide +kernel, ⟨by decide +kernel, by decide +kernel⟩, by decide +kernel, by decide +kernel, wd_5, wd_655⟩
theorem vi_X6_hasRound : hk_vir m_X6_hasRound 6 0 := ⟨ok_X6_hasRound, rfl, wd_653, _, rfl, wd_654⟩
def m_X6_shorten : hk_M := (yX6_shorten, cX6_shorten, 3, none, [])
theorem ok_X6_shorten : hk_ok m_X6_shorten 0 := ⟨by decide +kernel, ⟨by decide +kernel, by decide +kernel⟩, by decide +kernel, by decide +kernel, wd_5, wd_659⟩
theorem vi_X6_shorten : hk_vir m_X6_shorten 6 0 := ⟨ok_X6_shorten, rfl, wd_657, _, rfl, wd_658⟩
def m_X6_shortenFrom : hk_M := (yX6_shortenFrom, cX6_shortenFrom, 6, none, [])
theorem ok_X6_shortenFrom : hk_ok m_X6_shortenFrom 2 := ⟨by decide +kernel, ⟨by decide +kernel, by decide +kernel⟩, by decide +kernel, by decide +kernel, wd_5, wd_666⟩
theorem vi_X6_shortenFrom : hk_vir m_X6_shortenFrom 6 2 := ⟨ok_X6_shortenFrom, rfl, wd_664, _, rfl, wd_665⟩
def m_X6_priceOf : hk_M := (yX6_priceOf, cX6_priceOf, 3, some .int, [])
theorem ok_X6_priceOf : hk_ok m_X6_priceOf 1 := ⟨by decide +kernel, ⟨by decide +kernel, by decide +kernel⟩, by decide +kernel, by decide +kernel, wd_5, wd_710⟩
theorem vi_X6_priceOf : hk_vir m_X6_priceOf 6 1 := ⟨ok_X6_priceOf, rfl, wd_708, _, rfl, wd_709⟩
def m_X6_leastRound : hk_M := (yX6_leastRound, cX6_leastRound, 3, some .int, [])
theorem ok_X6_leastRound : hk_ok m_X6_leastRound 0 := ⟨by decide +kernel, ⟨by decide +kernel, by decide +kernel⟩, by decide +kernel, by decide +kernel, wd_5, wd_674⟩
theorem vi_X6_leastRound : hk_vir m_X6_leastRound 6 0 := ⟨ok_X6_leastRound, rfl, wd_672, _, rfl, wd_673⟩
def m_X6_leastRoundFrom : hk_M := (yX6_leastRoundFrom, cX6_leastRoundFrom, 6, some .int, [])
theorem ok_X6_leastRoundFrom : hk_ok m_X6_leastRoundFrom 1 := ⟨by decide +kernel, ⟨by decide +kernel, by decide +kernel⟩, by decide +kernel, by decide +kernel, wd_5, wd_678⟩
theorem vi_X6_leastRoundFrom : hk_vir m_X6_leastRoundFrom 6 1 := ⟨ok_X6_leastRoundFrom, rfl, wd_676, _, rfl, wd_677⟩
def m_X6_goOn : hk_M := (yX6_goOn, cX6_goOn, 7, none, [])
theorem ok_X6_goOn : hk_ok m_X6_goOn 3 := ⟨by decide +kernel, ⟨by decide +kernel, by decide +kernel⟩, by decide +kernel, by decide +kernel, wd_5, wd_683⟩
theorem vi_X6_goOn : hk_vir m_X6_goOn 6 3 := ⟨ok_X6_goOn, rfl, wd_681, _, rfl, wd_682⟩
def m_X7_init : hk_M := (yX7_init, cX7_init, 3, none, [])
theorem ok_X7_init : hk_ok m_X7_init 2 := ⟨by decide +kernel, ⟨by decide +kernel, by decide +kernel⟩, by decide +kernel, by decide +kernel, wd_11, wd_301⟩
theorem ic_X7_init : hk_ini m_X7_init 2 := ⟨ok_X7_init, rfl, rfl, rfl, wd_300⟩
def m_X7_settle : hk_M := (yX7_settle, cX7_settle, 2, none, [])
theorem ok_X7_settle : hk_ok m_X7_settle 1 := ⟨by decide +kernel, ⟨by decide +kernel, by decide +kernel⟩, by decide +kernel, by decide +kernel, wd_11, wd_459⟩
def m_X7_changeEnd : hk_M := (yX7_changeEnd, cX7_changeEnd, 3, some .int, [])
theorem ok_X7_changeEnd : hk_ok m_X7_changeEnd 2 := ⟨by decide +kernel, ⟨by decide +kernel, by decide +kernel⟩, by decide +kernel, by decide +kernel, wd_11, wd_369⟩
def m_X7_changePayment : hk_M := (yX7_changePayment, cX7_changePayment, 4, some .int, [])
theorem ok_X7_changePayment : hk_ok m_X7_changePayment 3 := ⟨by decide +kernel, ⟨by decide +kernel, by decide +kernel⟩, by decide +kernel, by decide +kernel, wd_11, wd_389⟩
def m_X7_changeGift : hk_M := (yX7_changeGift, cX7_changeGift, 3, some .int, [])
theorem ok_X7_changeGift : hk_ok m_X7_changeGift 2 := ⟨by decide +kernel, ⟨by decide +kernel, by decide +kernel⟩, by decide +kernel, by decide +kernel, wd_11, wd_403⟩
def m_X7_changeWeight : hk_M := (yX7_changeWeight, cX7_changeWeight, 3, some .int, [])
theorem ok_X7_changeWeight : hk_ok m_X7_changeWeight 2 := ⟨by decide +kernel, ⟨by decide +kernel, by decide +kernel⟩, by decide +kernel, by decide +kernel, wd_11, wd_417⟩
def m_X7_change : hk_M := (yX7_change, cX7_change, 4, some .int, [])
theorem ok_X7_change : hk_ok m_X7_change 3 := ⟨by decide +kernel, ⟨by decide +kernel, by decide +kernel⟩, by decide +kernel, by decide +kernel, wd_11, wd_407⟩
theorem vi_X7_change : hk_vir m_X7_change 7 3 := ⟨ok_X7_change, rfl, wd_405, _, rfl, wd_406⟩
def m_X7_workOut : hk_M := (yX7_workOut, cX7_workOut, 5, none, [])
theorem ok_X7_workOut : hk_ok m_X7_workOut 1 := ⟨by decide +kernel, ⟨by decide +kernel, by decide +kernel⟩, by decide +kernel, by decide +kernel, wd_11, wd_463⟩
theorem vi_X7_workOut : hk_vir m_X7_workOut 7 1 := ⟨ok_X7_workOut, rfl, wd_461, _, rfl, wd_462⟩
def m_X7_addUp : hk_M := (yX7_addUp, cX7_addUp, 5, none, [])
theorem ok_X7_addUp : hk_ok m_X7_addUp 1 := ⟨by decide +kernel, ⟨by decide +kernel, by decide +kernel⟩, by decide +kernel, by decide +kernel, wd_11, wd_467⟩
theorem vi_X7_addUp : hk_vir m_X7_addUp 7 1 := ⟨ok_X7_addUp, rfl, wd_465, _, rfl, wd_466⟩
def m_X7_ownPayment : hk_M := (yX7_ownPayment, cX7_ownPayment, 6, some .int, [])
theorem ok_X7_ownPayment : hk_ok m_X7_ownPayment 3 := ⟨by decide +kernel, ⟨by decide +kernel, by decide +kernel⟩, by decide +kernel, by decide +kernel, wd_11, wd_473⟩
theorem vi_X7_ownPayment : hk_vir m_X7_ownPayment 7 3 := ⟨ok_X7_ownPayment, rfl, wd_471, _, rfl, wd_472⟩
def m_X7_heft : hk_M := (yX7_heft, cX7_heft, 1, some .int, [])
theorem ok_X7_heft : hk_ok m_X7_heft 0 := ⟨by decide +kernel, ⟨by decide +kernel, by decide +kernel⟩, by decide +kernel, by decide +kernel, wd_11, wd_883⟩
def m_X8_init : hk_M := (yX8_init, cX8_init, 3, none, [])
theorem ok_X8_init : hk_ok m_X8_init 2 := ⟨by decide +kernel, ⟨by decide +kernel, by decide +kernel⟩, by decide +kernel, by decide +kernel, wd_3, wd_36⟩
theorem ic_X8_init : hk_ini m_X8_init 2 := ⟨ok_X8_init, rfl, rfl, rfl, wd_35⟩
def m_X8_come : hk_M := (yX8_come, cX8_come, 3, some .int, [])
theorem ok_X8_come : hk_ok m_X8_come 0 := ⟨by decide +kernel, ⟨by decide +kernel, by decide +kernel⟩, by decide +kernel, by decide +kernel, wd_3, wd_231⟩
theorem vi_X8_come : hk_vir m_X8_come 8 0 := ⟨ok_X8_come, rfl, wd_229, _, rfl, wd_230⟩
def m_X8_number : hk_M := (yX8_number, cX8_number, 3, some .int, [])
theorem ok_X8_number : hk_ok m_X8_number 2 := ⟨by decide +kernel, ⟨by decide +kernel, by decide +kernel⟩, by decide +kernel, by decide +kernel, wd_3, wd_254⟩
theorem vi_X8_number : hk_vir m_X8_number 8 2 := ⟨ok_X8_number, rfl, wd_252, _, rfl, wd_253⟩
def m_X8_changeNumber : hk_M := (yX8_changeNumber, cX8_changeNumber, 5, some .int, [])
theorem ok_X8_changeNumber : hk_ok m_X8_changeNumber 3 := ⟨by decide +kernel, ⟨by decide +kernel, by decide +kernel⟩, by decide +kernel, by decide +kernel, wd_3, wd_250⟩
theorem vi_X8_changeNumber : hk_vir m_X8_changeNumber 8 3 := ⟨ok_X8_changeNumber, rfl, wd_248, _, rfl, wd_249⟩
def m_X8_wishIn : hk_M := (yX8_wishIn, cX8_wishIn, 4, some .int, [])
theorem ok_X8_wishIn : hk_ok m_X8_wishIn 2 := ⟨by decide +kernel, ⟨by decide +kernel, by decide +kernel⟩, by decide +kernel, by decide +kernel, wd_3, wd_451⟩
theorem vi_X8_wishIn : hk_vir m_X8_wishIn 8 2 := ⟨ok_X8_wishIn, rfl, wd_449, _, rfl, wd_450⟩
def m_X8_rowSaying : hk_M := (yX8_rowSaying, cX8_rowSaying, 4, some .int, [])
theorem ok_X8_rowSaying : hk_ok m_X8_rowSaying 3 := ⟨by decide +kernel, ⟨by decide +kernel, by decide +kernel⟩, by decide +kernel, by decide +kernel, wd_3, wd_494⟩
theorem vi_X8_rowSaying : hk_vir m_X8_rowSaying 8 3 := ⟨ok_X8_rowSaying, rfl, wd_492, _, rfl, wd_493⟩
def m_X8_top : hk_M := (yX8_top, cX8_top, 4, some .int, [])
theorem ok_X8_top : hk_ok m_X8_top 1 := ⟨by decide +kernel, ⟨by decide +kernel, by decide +kernel⟩, by decide +kernel, by decide +kernel, wd_3, wd_455⟩
theorem vi_X8_top : hk_vir m_X8_top 8 1 := ⟨ok_X8_top, rfl, wd_453, _, rfl, wd_454⟩
def m_X9_init : hk_M := (yX9_init, cX9_init, 7, none, [])
theorem ok_X9_init : hk_ok m_X9_init 2 := ⟨by decide +kernel, ⟨by decide +kernel, by decide +kernel⟩, by decide +kernel, by decide +kernel, wd_1, wd_25⟩
theorem ic_X9_init : hk_ini m_X9_init 2 := ⟨ok_X9_init, rfl, rfl, rfl, wd_24⟩
def m_X9_wish : hk_M := (yX9_wish, cX9_wish, 1, some .int, [])
theorem ok_X9_wish : hk_ok m_X9_wish 0 := ⟨by decide +kernel, ⟨by decide +kernel, by decide +kernel⟩, by decide +kernel, by decide +kernel, wd_1, wd_227⟩
theorem vi_X9_wish : hk_vir m_X9_wish 9 0 := ⟨ok_X9_wish, rfl, wd_225, _, rfl, wd_226⟩
def m_X9_worth : hk_M := (yX9_worth, cX9_worth, 4, some .int, [])
theorem ok_X9_worth : hk_ok m_X9_worth 3 := ⟨by decide +kernel, ⟨by decide +kernel, by decide +kernel⟩, by decide +kernel, by decide +kernel, wd_1, wd_235⟩
theorem vi_X9_worth : hk_vir m_X9_worth 9 3 := ⟨ok_X9_worth, rfl, wd_233, _, rfl, wd_234⟩
def m_X9_rule : hk_M := (yX9_rule, cX9_rule, 2, some .int, [])
theorem ok_X9_rule : hk_ok m_X9_rule 1 := ⟨by decide +kernel, ⟨by decide +kernel, by decide +kernel⟩, by decide +kernel, by decide +kernel, wd_1, wd_258⟩
theorem vi_X9_rule : hk_vir m_X9_rule 9 1 := ⟨ok_X9_rule, rfl, wd_256, _, rfl, wd_257⟩
def m_X9_put : hk_M := (yX9_put, cX9_put, 5, some .int, [])
theorem ok_X9_put : hk_ok m_X9_put 3 := ⟨by decide +kernel, ⟨by decide +kernel, by decide +kernel⟩, by decide +kernel, by decide +kernel, wd_1, wd_350⟩
theorem vi_X9_put : hk_vir m_X9_put 9 3 := ⟨ok_X9_put, rfl, wd_348, _, rfl, wd_349⟩
def m_X9_pay : hk_M := (yX9_pay, cX9_pay, 6, some .int, [])
theorem ok_X9_pay : hk_ok m_X9_pay 4 := ⟨by decide +kernel, ⟨by decide +kernel, by decide +kernel⟩, by decide +kernel, by decide +kernel, wd_1, wd_374⟩
theorem vi_X9_pay : hk_vir m_X9_pay 9 4 := ⟨ok_X9_pay, rfl, wd_372, _, rfl, wd_373⟩
def m_X9_gift : hk_M := (yX9_gift, cX9_gift, 8, some .int, [])
theorem ok_X9_gift : hk_ok m_X9_gift 4 := ⟨by decide +kernel, ⟨by decide +kernel, by decide +kernel⟩, by decide +kernel, by decide +kernel, wd_1, wd_394⟩
theorem vi_X9_gift : hk_vir m_X9_gift 9 4 := ⟨ok_X9_gift, rfl, wd_392, _, rfl, wd_393⟩
def m_X9_middle : hk_M := (yX9_middle, cX9_middle, 5, some .int, [])
theorem ok_X9_middle : hk_ok m_X9_middle 3 := ⟨by decide +kernel, ⟨by decide +kernel, by decide +kernel⟩, by decide +kernel, by decide +kernel, wd_1, wd_422⟩
theorem vi_X9_middle : hk_vir m_X9_middle 9 3 := ⟨ok_X9_middle, rfl, wd_420, _, rfl, wd_421⟩
def m_X9_end : hk_M := (yX9_end, cX9_end, 4, some .int, [])
theorem ok_X9_end : hk_ok m_X9_end 2 := ⟨by decide +kernel, ⟨by decide +kernel, by decide +kernel⟩, by decide +kernel, by decide +kernel, wd_1, wd_436⟩
theorem vi_X9_end : hk_vir m_X9_end 9 2 := ⟨ok_X9_end, rfl, wd_434, _, rfl, wd_435⟩
def m_X9_pays : hk_M := (yX9_pays, cX9_pays, 5, some .int, [])
theorem ok_X9_pays : hk_ok m_X9_pays 3 := ⟨by decide +kernel, ⟨by decide +kernel, by decide +kernel⟩, by decide +kernel, by decide +kernel, wd_1, wd_1027⟩
theorem vi_X9_pays : hk_vir m_X9_pays 9 3 := ⟨ok_X9_pays, rfl, wd_1025, _, rfl, wd_1026⟩
def m_X9_said : hk_M := (yX9_said, cX9_said, 4, some .int, [])
theorem ok_X9_said : hk_ok m_X9_said 3 := ⟨by decide +kernel, ⟨by decide +kernel, by decide +kernel⟩, by decide +kernel, by decide +kernel, wd_1, wd_490⟩
theorem vi_X9_said : hk_vir m_X9_said 9 3 := ⟨ok_X9_said, rfl, wd_488, _, rfl, wd_489⟩
def m_X9_gain : hk_M := (yX9_gain, cX9_gain, 8, some .int, [])
theorem ok_X9_gain : hk_ok m_X9_gain 4 := ⟨by decide +kernel, ⟨by decide +kernel, by decide +kernel⟩, by decide +kernel, by decide +kernel, wd_1, wd_1050⟩
theorem vi_X9_gain : hk_vir m_X9_gain 9 4 := ⟨ok_X9_gain, rfl, wd_1048, _, rfl, wd_1049⟩
def m_X9_lie : hk_M := (yX9_lie, cX9_lie, 4, some .int, [])
theorem ok_X9_lie : hk_ok m_X9_lie 2 := ⟨by decide +kernel, ⟨by decide +kernel, by decide +kernel⟩, by decide +kernel, by decide +kernel, wd_1, wd_499⟩
theorem vi_X9_lie : hk_vir m_X9_lie 9 2 := ⟨ok_X9_lie, rfl, wd_497, _, rfl, wd_498⟩
def m_X9_lies : hk_M := (yX9_lies, cX9_lies, 6, some .int, [])
theorem ok_X9_lies : hk_ok m_X9_lies 1 := ⟨by decide +kernel, ⟨by decide +kernel, by decide +kernel⟩, by decide +kernel, by decide +kernel, wd_1, wd_535⟩
theorem vi_X9_lies : hk_vir m_X9_lies 9 1 := ⟨ok_X9_lies, rfl, wd_533, _, rfl, wd_534⟩
def m_X9_heap : hk_M := (yX9_heap, cX9_heap, 6, some .int, [])
theorem ok_X9_heap : hk_ok m_X9_heap 3 := ⟨by decide +kernel, ⟨by decide +kernel, by decide +kernel⟩, by decide +kernel, by decide +kernel, wd_1, wd_543⟩
theorem vi_X9_heap : hk_vir m_X9_heap 9 3 := ⟨ok_X9_heap, rfl, wd_541, _, rfl, wd_542⟩
def m_X9_onto : hk_M := (yX9_onto, cX9_onto, 5, some .int, [])
theorem ok_X9_onto : hk_ok m_X9_onto 1 := ⟨by decide +kernel, ⟨by decide +kernel, by decide +kernel⟩, by decide +kernel, by decide +kernel, wd_1, wd_612⟩
theorem vi_X9_onto : hk_vir m_X9_onto 9 1 := ⟨ok_X9_onto, rfl, wd_610, _, rfl, wd_611⟩
def m_X9_dictator : hk_M := (yX9_dictator, cX9_dictator, 4, some .int, [])
theorem ok_X9_dictator : hk_ok m_X9_dictator 1 := ⟨by decide +kernel, ⟨by decide +kernel, by decide +kernel⟩, by decide +kernel, by decide +kernel, wd_1, wd_617⟩
theorem vi_X9_dictator : hk_vir m_X9_dictator 9 1 := ⟨ok_X9_dictator, rfl, wd_615, _, rfl, wd_616⟩
def m_X9_budget : hk_M := (yX9_budget, cX9_budget, 7, some .long, [])
theorem ok_X9_budget : hk_ok m_X9_budget 2 := ⟨by decide +kernel, ⟨by decide +kernel, by decide +kernel⟩, by decide +kernel, by decide +kernel, wd_1, wd_1058⟩
theorem vi_X9_budget : hk_vir m_X9_budget 9 2 := ⟨ok_X9_budget, rfl, wd_1056, _, rfl, wd_1057⟩
def m_X9_welfare : hk_M := (yX9_welfare, cX9_welfare, 8, some .long, [])
theorem ok_X9_welfare : hk_ok m_X9_welfare 1 := ⟨by decide +kernel, ⟨by decide +kernel, by decide +kernel⟩, by decide +kernel, by decide +kernel, wd_1, wd_1071⟩
theorem vi_X9_welfare : hk_vir m_X9_welfare 9 1 := ⟨ok_X9_welfare, rfl, wd_1069, _, rfl, wd_1070⟩
def m_X9_span : hk_M := (yX9_span, cX9_span, 7, some .int, [])
theorem ok_X9_span : hk_ok m_X9_span 5 := ⟨by decide +kernel, ⟨by decide +kernel, by decide +kernel⟩, by decide +kernel, by decide +kernel, wd_1, wd_1079⟩
theorem vi_X9_span : hk_vir m_X9_span 9 5 := ⟨ok_X9_span, rfl, wd_1077, _, rfl, wd_1078⟩
def m_X9_round : hk_M := (yX9_round, cX9_round, 4, some .int, [])
theorem ok_X9_round : hk_ok m_X9_round 2 := ⟨by decide +kernel, ⟨by decide +kernel, by decide +kernel⟩, by decide +kernel, by decide +kernel, wd_1, wd_626⟩
theorem vi_X9_round : hk_vir m_X9_round 9 2 := ⟨ok_X9_round, rfl, wd_624, _, rfl, wd_625⟩
def m_X9_price : hk_M := (yX9_price, cX9_price, 6, some .int, [])
theorem ok_X9_price : hk_ok m_X9_price 4 := ⟨by decide +kernel, ⟨by decide +kernel, by decide +kernel⟩, by decide +kernel, by decide +kernel, wd_1, wd_1094⟩
theorem vi_X9_price : hk_vir m_X9_price 9 4 := ⟨ok_X9_price, rfl, wd_1092, _, rfl, wd_1093⟩
def m_X9_honest : hk_M := (yX9_honest, cX9_honest, 3, some .int, [])
theorem ok_X9_honest : hk_ok m_X9_honest 1 := ⟨by decide +kernel, ⟨by decide +kernel, by decide +kernel⟩, by decide +kernel, by decide +kernel, wd_1, wd_687⟩
theorem vi_X9_honest : hk_vir m_X9_honest 9 1 := ⟨ok_X9_honest, rfl, wd_685, _, rfl, wd_686⟩
def m_X9_same : hk_M := (yX9_same, cX9_same, 6, some .int, [])
theorem ok_X9_same : hk_ok m_X9_same 2 := ⟨by decide +kernel, ⟨by decide +kernel, by decide +kernel⟩, by decide +kernel, by decide +kernel, wd_1, wd_715⟩
theorem vi_X9_same : hk_vir m_X9_same 9 2 := ⟨ok_X9_same, rfl, wd_713, _, rfl, wd_714⟩
def m_X9_fair : hk_M := (yX9_fair, cX9_fair, 4, some .int, [])
theorem ok_X9_fair : hk_ok m_X9_fair 1 := ⟨by decide +kernel, ⟨by decide +kernel, by decide +kernel⟩, by decide +kernel, by decide +kernel, wd_1, wd_724⟩
theorem vi_X9_fair : hk_vir m_X9_fair 9 1 := ⟨ok_X9_fair, rfl, wd_722, _, rfl, wd_723⟩
def m_X9_likes : hk_M := (yX9_likes, cX9_likes, 3, some .int, [])
theorem ok_X9_likes : hk_ok m_X9_likes 2 := ⟨by decide +kernel, ⟨by decide +kernel, by decide +kernel⟩, by decide +kernel, by decide +kernel, wd_1, wd_732⟩
theorem vi_X9_likes : hk_vir m_X9_likes 9 2 := ⟨ok_X9_likes, rfl, wd_730, _, rfl, wd_731⟩
def m_X9_rings : hk_M := (yX9_rings, cX9_rings, 1, some .int, [])
theorem ok_X9_rings : hk_ok m_X9_rings 0 := ⟨by decide +kernel, ⟨by decide +kernel, by decide +kernel⟩, by decide +kernel, by decide +kernel, wd_1, wd_748⟩
theorem vi_X9_rings : hk_vir m_X9_rings 9 0 := ⟨ok_X9_rings, rfl, wd_746, _, rfl, wd_747⟩
def m_X9_leaves : hk_M := (yX9_leaves, cX9_leaves, 2, some .int, [])
theorem ok_X9_leaves : hk_ok m_X9_leaves 1 := ⟨by decide +kernel, ⟨by decide +kernel, by decide +kernel⟩, by decide +kernel, by decide +kernel, wd_1, wd_772⟩
theorem vi_X9_leaves : hk_vir m_X9_leaves 9 1 := ⟨ok_X9_leaves, rfl, wd_770, _, rfl, wd_771⟩
def m_X9_turns : hk_M := (yX9_turns, cX9_turns, 2, some .int, [])
theorem ok_X9_turns : hk_ok m_X9_turns 1 := ⟨by decide +kernel, ⟨by decide +kernel, by decide +kernel⟩, by decide +kernel, by decide +kernel, wd_1, wd_776⟩
theorem vi_X9_turns : hk_vir m_X9_turns 9 1 := ⟨ok_X9_turns, rfl, wd_774, _, rfl, wd_775⟩
def m_X9_blocks : hk_M := (yX9_blocks, cX9_blocks, 3, some .int, [])
theorem ok_X9_blocks : hk_ok m_X9_blocks 1 := ⟨by decide +kernel, ⟨by decide +kernel, by decide +kernel⟩, by decide +kernel, by decide +kernel, wd_1, wd_784⟩
theorem vi_X9_blocks : hk_vir m_X9_blocks 9 1 := ⟨ok_X9_blocks, rfl, wd_782, _, rfl, wd_783⟩
def m_X9_core : hk_M := (yX9_core, cX9_core, 7, some .int, [])
theorem ok_X9_core : hk_ok m_X9_core 1 := ⟨by decide +kernel, ⟨by decide +kernel, by decide +kernel⟩, by decide +kernel, by decide +kernel, wd_1, wd_804⟩
theorem vi_X9_core : hk_vir m_X9_core 9 1 := ⟨ok_X9_core, rfl, wd_802, _, rfl, wd_803⟩
def m_X9_good : hk_M := (yX9_good, cX9_good, 2, some .int, [])
theorem ok_X9_good : hk_ok m_X9_good 1 := ⟨by decide +kernel, ⟨by decide +kernel, by decide +kernel⟩, by decide +kernel, by decide +kernel, wd_1, wd_808⟩
theorem vi_X9_good : hk_vir m_X9_good 9 1 := ⟨ok_X9_good, rfl, wd_806, _, rfl, wd_807⟩
def m_X9_by : hk_M := (yX9_by, cX9_by, 6, some .int, [])
theorem ok_X9_by : hk_ok m_X9_by 1 := ⟨by decide +kernel, ⟨by decide +kernel, by decide +kernel⟩, by decide +kernel, by decide +kernel, wd_1, wd_816⟩
theorem vi_X9_by : hk_vir m_X9_by 9 1 := ⟨ok_X9_by, rfl, wd_814, _, rfl, wd_815⟩
def m_X9_wrong : hk_M := (yX9_wrong, cX9_wrong, 2, some .int, [])
theorem ok_X9_wrong : hk_ok m_X9_wrong 1 := ⟨by decide +kernel, ⟨by decide +kernel, by decide +kernel⟩, by decide +kernel, by decide +kernel, wd_1, wd_820⟩
theorem vi_X9_wrong : hk_vir m_X9_wrong 9 1 := ⟨ok_X9_wrong, rfl, wd_818, _, rfl, wd_819⟩
def m_X9_count : hk_M := (yX9_count, cX9_count, 2, some .int, [])
theorem ok_X9_count : hk_ok m_X9_count 1 := ⟨by decide +kernel, ⟨by decide +kernel, by decide +kernel⟩, by decide +kernel, by decide +kernel, wd_1, wd_838⟩
theorem vi_X9_count : hk_vir m_X9_count 9 1 := ⟨ok_X9_count, rfl, wd_836, _, rfl, wd_837⟩
def m_X9_keep : hk_M := (yX9_keep, cX9_keep, 5, some .int, [])
theorem ok_X9_keep : hk_ok m_X9_keep 3 := ⟨by decide +kernel, ⟨by decide +kernel, by decide +kernel⟩, by decide +kernel, by decide +kernel, wd_1, wd_852⟩
theorem vi_X9_keep : hk_vir m_X9_keep 9 3 := ⟨ok_X9_keep, rfl, wd_850, _, rfl, wd_851⟩
def m_X9_make : hk_M := (yX9_make, cX9_make, 5, some .int, [])
theorem ok_X9_make : hk_ok m_X9_make 3 := ⟨by decide +kernel, ⟨by decide +kernel, by decide +kernel⟩, by decide +kernel, by decide +kernel, wd_1, wd_906⟩
theorem vi_X9_make : hk_vir m_X9_make 9 3 := ⟨ok_X9_make, rfl, wd_904, _, rfl, wd_905⟩
def m_X9_element : hk_M := (yX9_element, cX9_element, 4, some .long, [])
theorem ok_X9_element : hk_ok m_X9_element 2 := ⟨by decide +kernel, ⟨by decide +kernel, by decide +kernel⟩, by decide +kernel, by decide +kernel, wd_1, wd_1102⟩
theorem vi_X9_element : hk_vir m_X9_element 9 2 := ⟨ok_X9_element, rfl, wd_1100, _, rfl, wd_1101⟩
def m_X9_copy : hk_M := (yX9_copy, cX9_copy, 8, some .int, [])
theorem ok_X9_copy : hk_ok m_X9_copy 5 := ⟨by decide +kernel, ⟨by decide +kernel, by decide +kernel⟩, by decide +kernel, by decide +kernel, wd_1, wd_910⟩
theorem vi_X9_copy : hk_vir m_X9_copy 9 5 := ⟨ok_X9_copy, rfl, wd_908, _, rfl, wd_909⟩
def m_X9_weight : hk_M := (yX9_weight, cX9_weight, 4, some .int, [])
theorem ok_X9_weight : hk_ok m_X9_weight 1 := ⟨by decide +kernel, ⟨by decide +kernel, by decide +kernel⟩, by decide +kernel, by decide +kernel, wd_1, wd_923⟩
theorem vi_X9_weight : hk_vir m_X9_weight 9 1 := ⟨ok_X9_weight, rfl, wd_921, _, rfl, wd_922⟩
def m_X9_toss : hk_M := (yX9_toss, cX9_toss, 4, some .int, [])
theorem ok_X9_toss : hk_ok m_X9_toss 1 := ⟨by decide +kernel, ⟨by decide +kernel, by decide +kernel⟩, by decide +kernel, by decide +kernel, wd_1, wd_930⟩
theorem vi_X9_toss : hk_vir m_X9_toss 9 1 := ⟨ok_X9_toss, rfl, wd_928, _, rfl, wd_929⟩
def m_X9_isWithin : hk_M := (yX9_isWithin, cX9_isWithin, 3, some .boolean, [])
theorem ok_X9_isWithin : hk_ok m_X9_isWithin 3 := ⟨by decide +kernel, ⟨by decide +kernel, by decide +kernel⟩, by decide +kernel, by decide +kernel, wd_1, wd_246⟩
theorem st_X9_isWithin : hk_sta1 m_X9_isWithin 3 := ⟨ok_X9_isWithin, rfl, wd_245⟩
def m_X9_isPerson : hk_M := (yX9_isPerson, cX9_isPerson, 2, some .boolean, [])
theorem ok_X9_isPerson : hk_ok m_X9_isPerson 1 := ⟨by decide +kernel, ⟨by decide +kernel, by decide +kernel⟩, by decide +kernel, by decide +kernel, wd_1, wd_378⟩
theorem vi_X9_isPerson : hk_vir m_X9_isPerson 9 1 := ⟨ok_X9_isPerson, rfl, wd_377, _, rfl, wp_5⟩
def m_X9_isEnd : hk_M := (yX9_isEnd, cX9_isEnd, 2, some .boolean, [])
theorem ok_X9_isEnd : hk_ok m_X9_isEnd 1 := ⟨by decide +kernel, ⟨by decide +kernel, by decide +kernel⟩, by decide +kernel, by decide +kernel, wd_1, wd_243⟩
theorem vi_X9_isEnd : hk_vir m_X9_isEnd 9 1 := ⟨ok_X9_isEnd, rfl, wd_242, _, rfl, wp_1⟩
def m_X9_isWish : hk_M := (yX9_isWish, cX9_isWish, 2, some .boolean, [])
theorem ok_X9_isWish : hk_ok m_X9_isWish 1 := ⟨by decide +kernel, ⟨by decide +kernel, by decide +kernel⟩, by decide +kernel, by decide +kernel, wd_1, wd_239⟩
theorem vi_X9_isWish : hk_vir m_X9_isWish 9 1 := ⟨ok_X9_isWish, rfl, wd_238, _, rfl, wp_0⟩
def m_X9_isRow : hk_M := (yX9_isRow, cX9_isRow, 2, some .boolean, [])
theorem ok_X9_isRow : hk_ok m_X9_isRow 1 := ⟨by decide +kernel, ⟨by decide +kernel, by decide +kernel⟩, by decide +kernel, by decide +kernel, wd_1, wd_358⟩
theorem vi_X9_isRow : hk_vir m_X9_isRow 9 1 := ⟨ok_X9_isRow, rfl, wd_357, _, rfl, wp_4⟩
def m_X9_ruleAt : hk_M := (yX9_ruleAt, cX9_ruleAt, 2, some (.object "HonestHouse$Table"), [])
theorem ok_X9_ruleAt : hk_ok m_X9_ruleAt 1 := ⟨by decide +kernel, ⟨by decide +kernel, by decide +kernel⟩, by decide +kernel, by decide +kernel, wd_1, wd_354⟩
theorem vi_X9_ruleAt : hk_vir m_X9_ruleAt 9 1 := ⟨ok_X9_ruleAt, rfl, wd_353, _, rfl, wp_3⟩
def m_X9_settledRule : hk_M := (yX9_settledRule, cX9_settledRule, 4, some (.object "HonestHouse$Table"), [])
theorem ok_X9_settledRule : hk_ok m_X9_settledRule 1 := ⟨by decide +kernel, ⟨by decide +kernel, by decide +kernel⟩, by decide +kernel, by decide +kernel, wd_1, wd_503⟩
theorem vi_X9_settledRule : hk_vir m_X9_settledRule 9 1 := ⟨ok_X9_settledRule, rfl, wd_502, _, rfl, wp_6⟩
def m_X9_settleFor : hk_M := (yX9_settleFor, cX9_settleFor, 5, none, [])
theorem ok_X9_settleFor : hk_ok m_X9_settleFor 3 := ⟨by decide +kernel, ⟨by decide +kernel, by decide +kernel⟩, by decide +kernel, by decide +kernel, wd_1, wd_1084⟩
theorem vi_X9_settleFor : hk_vir m_X9_settleFor 9 3 := ⟨ok_X9_settleFor, rfl, wd_1083, _, rfl, wp_23⟩
def m_X9_shelfAt : hk_M := (yX9_shelfAt, cX9_shelfAt, 2, some (.object "HonestHouse$Shelf"), [])
theorem ok_X9_shelfAt : hk_ok m_X9_shelfAt 1 := ⟨by decide +kernel, ⟨by decide +kernel, by decide +kernel⟩, by decide +kernel, by decide +kernel, wd_1, wd_856⟩
theorem vi_X9_shelfAt : hk_vir m_X9_shelfAt 9 1 := ⟨ok_X9_shelfAt, rfl, wd_855, _, rfl, wp_17⟩
def m_X9_newRule : hk_M := (yX9_newRule, cX9_newRule, 3, some (.object "HonestHouse$Table"), [])
theorem ok_X9_newRule : hk_ok m_X9_newRule 3 := ⟨by decide +kernel, ⟨by decide +kernel, by decide +kernel⟩, by decide +kernel, by decide +kernel, wd_1, wd_261⟩
theorem st_X9_newRule : hk_sta1 m_X9_newRule 3 := ⟨ok_X9_newRule, rfl, wd_260⟩
def m_X9_add : hk_M := (yX9_add, cX9_add, 2, some .int, [])
theorem ok_X9_add : hk_ok m_X9_add 1 := ⟨by decide +kernel, ⟨by decide +kernel, by decide +kernel⟩, by decide +kernel, by decide +kernel, wd_1, wd_346⟩
theorem vi_X9_add : hk_vir m_X9_add 9 1 := ⟨ok_X9_add, rfl, wd_345, _, rfl, wp_2⟩
def m_X9_pricedRule : hk_M := (yX9_pricedRule, cX9_pricedRule, 5, some (.object "HonestHouse$Table"), [])
theorem ok_X9_pricedRule : hk_ok m_X9_pricedRule 1 := ⟨by decide +kernel, ⟨by decide +kernel, by decide +kernel⟩, by decide +kernel, by decide +kernel, wd_1, wd_691⟩
theorem vi_X9_pricedRule : hk_vir m_X9_pricedRule 9 1 := ⟨ok_X9_pricedRule, rfl, wd_690, _, rfl, wp_13⟩
def m_X9_payPrices : hk_M := (yX9_payPrices, cX9_payPrices, 6, none, [])
theorem ok_X9_payPrices : hk_ok m_X9_payPrices 3 := ⟨by decide +kernel, ⟨by decide +kernel, by decide +kernel⟩, by decide +kernel, by decide +kernel, wd_1, wd_700⟩
theorem vi_X9_payPrices : hk_vir m_X9_payPrices 9 3 := ⟨ok_X9_payPrices, rfl, wd_699, _, rfl, wp_14⟩
def m_X9_firstLie : hk_M := (yX9_firstLie, cX9_firstLie, 9, some .int, [])
theorem ok_X9_firstLie : hk_ok m_X9_firstLie 2 := ⟨by decide +kernel, ⟨by decide +kernel, by decide +kernel⟩, by decide +kernel, by decide +kernel, wd_1, wd_507⟩
theorem vi_X9_firstLie : hk_vir m_X9_firstLie 9 2 := ⟨ok_X9_firstLie, rfl, wd_506, _, rfl, wp_7⟩
def m_X9_partOfLie : hk_M := (yX9_partOfLie, cX9_partOfLie, 5, some .int, [])
theorem ok_X9_partOfLie : hk_ok m_X9_partOfLie 5 := ⟨by decide +kernel, ⟨by decide +kernel, by decide +kernel⟩, by decide +kernel, by decide +kernel, wd_1, wd_531⟩
theorem st_X9_partOfLie : hk_sta1 m_X9_partOfLie 5 := ⟨ok_X9_partOfLie, rfl, wd_530⟩
def m_X9_liesAt : hk_M := (yX9_liesAt, cX9_liesAt, 8, some .int, [])
theorem ok_X9_liesAt : hk_ok m_X9_liesAt 3 := ⟨by decide +kernel, ⟨by decide +kernel, by decide +kernel⟩, by decide +kernel, by decide +kernel, wd_1, wd_539⟩
theorem vi_X9_liesAt : hk_vir m_X9_liesAt 9 3 := ⟨ok_X9_liesAt, rfl, wd_538, _, rfl, wp_8⟩
def m_X9_isDictator : hk_M := (yX9_isDictator, cX9_isDictator, 4, some .boolean, [])
theorem ok_X9_isDictator : hk_ok m_X9_isDictator 2 := ⟨by decide +kernel, ⟨by decide +kernel, by decide +kernel⟩, by decide +kernel, by decide +kernel, wd_1, wd_621⟩
theorem vi_X9_isDictator : hk_vir m_X9_isDictator 9 2 := ⟨ok_X9_isDictator, rfl, wd_620, _, rfl, wp_9⟩
def m_X9_paidByAll : hk_M := (yX9_paidByAll, cX9_paidByAll, 5, some .int, [])
theorem ok_X9_paidByAll : hk_ok m_X9_paidByAll 2 := ⟨by decide +kernel, ⟨by decide +kernel, by decide +kernel⟩, by decide +kernel, by decide +kernel, wd_1, wd_1063⟩
theorem vi_X9_paidByAll : hk_vir m_X9_paidByAll 9 2 := ⟨ok_X9_paidByAll, rfl, wd_1062, _, rfl, wp_22⟩
def m_X9_isSameAt : hk_M := (yX9_isSameAt, cX9_isSameAt, 5, some .boolean, [])
theorem ok_X9_isSameAt : hk_ok m_X9_isSameAt 3 := ⟨by decide +kernel, ⟨by decide +kernel, by decide +kernel⟩, by decide +kernel, by decide +kernel, wd_1, wd_719⟩
theorem vi_X9_isSameAt : hk_vir m_X9_isSameAt 9 3 := ⟨ok_X9_isSameAt, rfl, wd_718, _, rfl, wp_15⟩
def m_X9_isFairAt : hk_M := (yX9_isFairAt, cX9_isFairAt, 8, some .boolean, [])
theorem ok_X9_isFairAt : hk_ok m_X9_isFairAt 2 := ⟨by decide +kernel, ⟨by decide +kernel, by decide +kernel⟩, by decide +kernel, by decide +kernel, wd_1, wd_728⟩
theorem vi_X9_isFairAt : hk_vir m_X9_isFairAt 9 2 := ⟨ok_X9_isFairAt, rfl, wd_727, _, rfl, wp_16⟩
def m_X9_firstRound : hk_M := (yX9_firstRound, cX9_firstRound, 5, some .int, [])
theorem ok_X9_firstRound : hk_ok m_X9_firstRound 2 := ⟨by decide +kernel, ⟨by decide +kernel, by decide +kernel⟩, by decide +kernel, by decide +kernel, wd_1, wd_630⟩
theorem vi_X9_firstRound : hk_vir m_X9_firstRound 9 2 := ⟨ok_X9_firstRound, rfl, wd_629, _, rfl, wp_10⟩
def m_X9_isRoundAt : hk_M := (yX9_isRoundAt, cX9_isRoundAt, 4, some .boolean, [])
theorem ok_X9_isRoundAt : hk_ok m_X9_isRoundAt 3 := ⟨by decide +kernel, ⟨by decide +kernel, by decide +kernel⟩, by decide +kernel, by decide +kernel, wd_1, wd_634⟩
theorem vi_X9_isRoundAt : hk_vir m_X9_isRoundAt 9 3 := ⟨ok_X9_isRoundAt, rfl, wd_633, _, rfl, wp_11⟩
def m_X9_partOfRound : hk_M := (yX9_partOfRound, cX9_partOfRound, 4, some .int, [])
theorem ok_X9_partOfRound : hk_ok m_X9_partOfRound 3 := ⟨by decide +kernel, ⟨by decide +kernel, by decide +kernel⟩, by decide +kernel, by decide +kernel, wd_1, wd_670⟩
theorem vi_X9_partOfRound : hk_vir m_X9_partOfRound 9 3 := ⟨ok_X9_partOfRound, rfl, wd_669, _, rfl, wp_12⟩
def m_X9_keepRule : hk_M := (yX9_keepRule, cX9_keepRule, 4, some .int, [])
theorem ok_X9_keepRule : hk_ok m_X9_keepRule 2 := ⟨by decide +kernel, ⟨by decide +kernel, by decide +kernel⟩, by decide +kernel, by decide +kernel, wd_1, wd_864⟩
theorem vi_X9_keepRule : hk_vir m_X9_keepRule 9 2 := ⟨ok_X9_keepRule, rfl, wd_863, _, rfl, wp_18⟩
def m_X9_keepEnds : hk_M := (yX9_keepEnds, cX9_keepEnds, 5, some .int, [])
theorem ok_X9_keepEnds : hk_ok m_X9_keepEnds 2 := ⟨by decide +kernel, ⟨by decide +kernel, by decide +kernel⟩, by decide +kernel, by decide +kernel, wd_1, wd_889⟩
theorem vi_X9_keepEnds : hk_vir m_X9_keepEnds 9 2 := ⟨ok_X9_keepEnds, rfl, wd_888, _, rfl, wp_19⟩
def m_X9_keepNumbers : hk_M := (yX9_keepNumbers, cX9_keepNumbers, 4, some .int, [])
theorem ok_X9_keepNumbers : hk_ok m_X9_keepNumbers 2 := ⟨by decide +kernel, ⟨by decide +kernel, by decide +kernel⟩, by decide +kernel, by decide +kernel, wd_1, wd_901⟩
theorem vi_X9_keepNumbers : hk_vir m_X9_keepNumbers 9 2 := ⟨ok_X9_keepNumbers, rfl, wd_900, _, rfl, wp_20⟩
def m_X9_refusalOfRule : hk_M := (yX9_refusalOfRule, cX9_refusalOfRule, 1, some .int, [])
theorem ok_X9_refusalOfRule : hk_ok m_X9_refusalOfRule 1 := ⟨by decide +kernel, ⟨by decide +kernel, by decide +kernel⟩, by decide +kernel, by decide +kernel, wd_1, wd_926⟩
theorem st_X9_refusalOfRule : hk_sta1 m_X9_refusalOfRule 1 := ⟨ok_X9_refusalOfRule, rfl, wd_925⟩
def m_X9_numberOfFailure : hk_M := (yX9_numberOfFailure, cX9_numberOfFailure, 2, some .int, [(7, 11, 14, 211)])
theorem ok_X9_numberOfFailure : hk_ok m_X9_numberOfFailure 1 := ⟨by decide +kernel, ⟨by decide +kernel, by decide +kernel⟩, by decide +kernel, by decide +kernel, wd_1, wd_933⟩
def m_X10_init : hk_M := (yX10_init, cX10_init, 5, none, [])
theorem ok_X10_init : hk_ok m_X10_init 2 := ⟨by decide +kernel, ⟨by decide +kernel, by decide +kernel⟩, by decide +kernel, by decide +kernel, wd_8, wd_1109⟩
theorem ic_X10_init : hk_ini m_X10_init 2 := ⟨ok_X10_init, rfl, rfl, rfl, wd_1108⟩
def m_X10_thrown : hk_M := (yX10_thrown, cX10_thrown, 1, some .int, [])
theorem ok_X10_thrown : hk_ok m_X10_thrown 0 := ⟨by decide +kernel, ⟨by decide +kernel, by decide +kernel⟩, by decide +kernel, by decide +kernel, wd_8, wd_1217⟩
theorem vi_X10_thrown : hk_vir m_X10_thrown 10 0 := ⟨ok_X10_thrown, rfl, wd_1215, _, rfl, wd_1216⟩
def m_X10_raises : hk_M := (yX10_raises, cX10_raises, 2, some .int, [])
theorem ok_X10_raises : hk_ok m_X10_raises 1 := ⟨by decide +kernel, ⟨by decide +kernel, by decide +kernel⟩, by decide +kernel, by decide +kernel, wd_8, wd_1288⟩
theorem vi_X10_raises : hk_vir m_X10_raises 10 1 := ⟨ok_X10_raises, rfl, wd_1287, _, rfl, wp_32⟩
def m_X10_isIn : hk_M := (yX10_isIn, cX10_isIn, 2, some .boolean, [])
theorem ok_X10_isIn : hk_ok m_X10_isIn 2 := ⟨by decide +kernel, ⟨by decide +kernel, by decide +kernel⟩, by decide +kernel, by decide +kernel, wd_8, wd_1228⟩
theorem st_X10_isIn : hk_sta1 m_X10_isIn 2 := ⟨ok_X10_isIn, rfl, wd_1227⟩
def m_X10_counts : hk_M := (yX10_counts, cX10_counts, 2, none, [])
theorem ok_X10_counts : hk_ok m_X10_counts 0 := ⟨by decide +kernel, ⟨by decide +kernel, by decide +kernel⟩, by decide +kernel, by decide +kernel, wd_8, wd_1116⟩
theorem vi_X10_counts : hk_vir m_X10_counts 10 0 := ⟨ok_X10_counts, rfl, wd_1115, _, rfl, wp_24⟩
def m_X10_wish : hk_M := (yX10_wish, cX10_wish, 1, some .int, [])
theorem ok_X10_wish : hk_ok m_X10_wish 0 := ⟨by decide +kernel, ⟨by decide +kernel, by decide +kernel⟩, by decide +kernel, by decide +kernel, wd_8, wd_1221⟩
theorem vi_X10_wish : hk_vir m_X10_wish 10 0 := ⟨ok_X10_wish, rfl, wd_1219, _, rfl, wd_1220⟩
def m_X10_worth : hk_M := (yX10_worth, cX10_worth, 5, some .int, [])
theorem ok_X10_worth : hk_ok m_X10_worth 3 := ⟨by decide +kernel, ⟨by decide +kernel, by decide +kernel⟩, by decide +kernel, by decide +kernel, wd_8, wd_1225⟩
theorem vi_X10_worth : hk_vir m_X10_worth 10 3 := ⟨ok_X10_worth, rfl, wd_1223, _, rfl, wd_1224⟩
def m_X10_rule : hk_M := (yX10_rule, cX10_rule, 3, some .int, [])
theorem ok_X10_rule : hk_ok m_X10_rule 1 := ⟨by decide +kernel, ⟨by decide +kernel, by decide +kernel⟩, by decide +kernel, by decide +kernel, wd_8, wd_1232⟩
theorem vi_X10_rule : hk_vir m_X10_rule 10 1 := ⟨ok_X10_rule, rfl, wd_1230, _, rfl, wd_1231⟩
def m_X10_isRow : hk_M := (yX10_isRow, cX10_isRow, 3, some .boolean, [])
theorem ok_X10_isRow : hk_ok m_X10_isRow 2 := ⟨by decide +kernel, ⟨by decide +kernel, by decide +kernel⟩, by decide +kernel, by decide +kernel, wd_8, wd_1240⟩
theorem vi_X10_isRow : hk_vir m_X10_isRow 10 2 := ⟨ok_X10_isRow, rfl, wd_1239, _, rfl, wp_25⟩
def m_X10_put : hk_M := (yX10_put, cX10_put, 5, some .int, [])
theorem ok_X10_put : hk_ok m_X10_put 3 := ⟨by decide +kernel, ⟨by decide +kernel, by decide +kernel⟩, by decide +kernel, by decide +kernel, wd_8, wd_1236⟩
theorem vi_X10_put : hk_vir m_X10_put 10 3 := ⟨ok_X10_put, rfl, wd_1234, _, rfl, wd_1235⟩
def m_X10_pay : hk_M := (yX10_pay, cX10_pay, 7, some .int, [])
theorem ok_X10_pay : hk_ok m_X10_pay 4 := ⟨by decide +kernel, ⟨by decide +kernel, by decide +kernel⟩, by decide +kernel, by decide +kernel, wd_8, wd_1244⟩
theorem vi_X10_pay : hk_vir m_X10_pay 10 4 := ⟨ok_X10_pay, rfl, wd_1242, _, rfl, wd_1243⟩
def m_X10_gift : hk_M := (yX10_gift, cX10_gift, 8, some .int, [])
theorem ok_X10_gift : hk_ok m_X10_gift 4 := ⟨by decide +kernel, ⟨by decide +kernel, by decide +kernel⟩, by decide +kernel, by decide +kernel, wd_8, wd_1248⟩
theorem vi_X10_gift : hk_vir m_X10_gift 10 4 := ⟨ok_X10_gift, rfl, wd_1246, _, rfl, wd_1247⟩
def m_X10_middle : hk_M := (yX10_middle, cX10_middle, 5, some .int, [])
theorem ok_X10_middle : hk_ok m_X10_middle 3 := ⟨by decide +kernel, ⟨by decide +kernel, by decide +kernel⟩, by decide +kernel, by decide +kernel, wd_8, wd_1252⟩
theorem vi_X10_middle : hk_vir m_X10_middle 10 3 := ⟨ok_X10_middle, rfl, wd_1250, _, rfl, wd_1251⟩
def m_X10_wishOf : hk_M := (yX10_wishOf, cX10_wishOf, 3, some .int, [])
theorem ok_X10_wishOf : hk_ok m_X10_wishOf 2 := ⟨by decide +kernel, ⟨by decide +kernel, by decide +kernel⟩, by decide +kernel, by decide +kernel, wd_8, wd_1272⟩
theorem vi_X10_wishOf : hk_vir m_X10_wishOf 10 2 := ⟨ok_X10_wishOf, rfl, wd_1271, _, rfl, wp_29⟩
def m_X10_saying : hk_M := (yX10_saying, cX10_saying, 4, some .int, [])
theorem ok_X10_saying : hk_ok m_X10_saying 3 := ⟨by decide +kernel, ⟨by decide +kernel, by decide +kernel⟩, by decide +kernel, by decide +kernel, wd_8, wd_1300⟩
theorem vi_X10_saying : hk_vir m_X10_saying 10 3 := ⟨ok_X10_saying, rfl, wd_1299, _, rfl, wp_34⟩
def m_X10_sumOf : hk_M := (yX10_sumOf, cX10_sumOf, 7, some .int, [])
theorem ok_X10_sumOf : hk_ok m_X10_sumOf 4 := ⟨by decide +kernel, ⟨by decide +kernel, by decide +kernel⟩, by decide +kernel, by decide +kernel, wd_8, wd_1268⟩
theorem vi_X10_sumOf : hk_vir m_X10_sumOf 10 4 := ⟨ok_X10_sumOf, rfl, wd_1267, _, rfl, wp_28⟩
def m_X10_greatest : hk_M := (yX10_greatest, cX10_greatest, 6, some .int, [])
theorem ok_X10_greatest : hk_ok m_X10_greatest 3 := ⟨by decide +kernel, ⟨by decide +kernel, by decide +kernel⟩, by decide +kernel, by decide +kernel, wd_8, wd_1264⟩
theorem vi_X10_greatest : hk_vir m_X10_greatest 10 3 := ⟨ok_X10_greatest, rfl, wd_1263, _, rfl, wp_27⟩
def m_X10_top : hk_M := (yX10_top, cX10_top, 4, some .int, [])
theorem ok_X10_top : hk_ok m_X10_top 1 := ⟨by decide +kernel, ⟨by decide +kernel, by decide +kernel⟩, by decide +kernel, by decide +kernel, wd_8, wd_1280⟩
theorem vi_X10_top : hk_vir m_X10_top 10 1 := ⟨ok_X10_top, rfl, wd_1279, _, rfl, wp_31⟩
def m_X10_middleOf : hk_M := (yX10_middleOf, cX10_middleOf, 6, some .int, [])
theorem ok_X10_middleOf : hk_ok m_X10_middleOf 2 := ⟨by decide +kernel, ⟨by decide +kernel, by decide +kernel⟩, by decide +kernel, by decide +kernel, wd_8, wd_1276⟩
theorem vi_X10_middleOf : hk_vir m_X10_middleOf 10 2 := ⟨ok_X10_middleOf, rfl, wd_1275, _, rfl, wp_30⟩
def m_X10_ends : hk_M := (yX10_ends, cX10_ends, 3, some .int, [])
theorem ok_X10_ends : hk_ok m_X10_ends 2 := ⟨by decide +kernel, ⟨by decide +kernel, by decide +kernel⟩, by decide +kernel, by decide +kernel, wd_8, wd_1260⟩
theorem vi_X10_ends : hk_vir m_X10_ends 10 2 := ⟨ok_X10_ends, rfl, wd_1259, _, rfl, wp_26⟩
def m_X10_paysOf : hk_M := (yX10_paysOf, cX10_paysOf, 5, some .int, [])
theorem ok_X10_paysOf : hk_ok m_X10_paysOf 3 := ⟨by decide +kernel, ⟨by decide +kernel, by decide +kernel⟩, by decide +kernel, by decide +kernel, wd_8, wd_1292⟩
theorem vi_X10_paysOf : hk_vir m_X10_paysOf 10 3 := ⟨ok_X10_paysOf, rfl, wd_1291, _, rfl, wp_33⟩
def m_X10_end : hk_M := (yX10_end, cX10_end, 3, some .int, [])
theorem ok_X10_end : hk_ok m_X10_end 2 := ⟨by decide +kernel, ⟨by decide +kernel, by decide +kernel⟩, by decide +kernel, by decide +kernel, wd_8, wd_1256⟩
theorem vi_X10_end : hk_vir m_X10_end 10 2 := ⟨ok_X10_end, rfl, wd_1254, _, rfl, wd_1255⟩
def m_X10_pays : hk_M := (yX10_pays, cX10_pays, 4, some .int, [])
theorem ok_X10_pays : hk_ok m_X10_pays 3 := ⟨by decide +kernel, ⟨by decide +kernel, by decide +kernel⟩, by decide +kernel, by decide +kernel, wd_8, wd_1284⟩
theorem vi_X10_pays : hk_vir m_X10_pays 10 3 := ⟨ok_X10_pays, rfl, wd_1282, _, rfl, wd_1283⟩
def m_X10_said : hk_M := (yX10_said, cX10_said, 4, some .int, [])
theorem ok_X10_said : hk_ok m_X10_said 3 := ⟨by decide +kernel, ⟨by decide +kernel, by decide +kernel⟩, by decide +kernel, by decide +kernel, wd_8, wd_1296⟩
theorem vi_X10_said : hk_vir m_X10_said 10 3 := ⟨ok_X10_said, rfl, wd_1294, _, rfl, wd_1295⟩
def m_X10_worthOf : hk_M := (yX10_worthOf, cX10_worthOf, 5, some .int, [])
theorem ok_X10_worthOf : hk_ok m_X10_worthOf 4 := ⟨by decide +kernel, ⟨by decide +kernel, by decide +kernel⟩, by decide +kernel, by decide +kernel, wd_8, wd_1312⟩
theorem vi_X10_worthOf : hk_vir m_X10_worthOf 10 4 := ⟨ok_X10_worthOf, rfl, wd_1311, _, rfl, wp_36⟩
def m_X10_gainOf : hk_M := (yX10_gainOf, cX10_gainOf, 6, some .int, [])
theorem ok_X10_gainOf : hk_ok m_X10_gainOf 4 := ⟨by decide +kernel, ⟨by decide +kernel, by decide +kernel⟩, by decide +kernel, by decide +kernel, wd_8, wd_1308⟩
theorem vi_X10_gainOf : hk_vir m_X10_gainOf 10 4 := ⟨ok_X10_gainOf, rfl, wd_1307, _, rfl, wp_35⟩
def m_X10_gain : hk_M := (yX10_gain, cX10_gain, 5, some .int, [])
theorem ok_X10_gain : hk_ok m_X10_gain 4 := ⟨by decide +kernel, ⟨by decide +kernel, by decide +kernel⟩, by decide +kernel, by decide +kernel, wd_8, wd_1304⟩
theorem vi_X10_gain : hk_vir m_X10_gain 10 4 := ⟨ok_X10_gain, rfl, wd_1302, _, rfl, wd_1303⟩
def m_X10_lie : hk_M := (yX10_lie, cX10_lie, 7, some .int, [])
theorem ok_X10_lie : hk_ok m_X10_lie 2 := ⟨by decide +kernel, ⟨by decide +kernel, by decide +kernel⟩, by decide +kernel, by decide +kernel, wd_8, wd_1316⟩
theorem vi_X10_lie : hk_vir m_X10_lie 10 2 := ⟨ok_X10_lie, rfl, wd_1314, _, rfl, wd_1315⟩
def m_X10_lies : hk_M := (yX10_lies, cX10_lies, 6, some .int, [])
theorem ok_X10_lies : hk_ok m_X10_lies 1 := ⟨by decide +kernel, ⟨by decide +kernel, by decide +kernel⟩, by decide +kernel, by decide +kernel, wd_8, wd_1320⟩
theorem vi_X10_lies : hk_vir m_X10_lies 10 1 := ⟨ok_X10_lies, rfl, wd_1318, _, rfl, wd_1319⟩
def m_X10_reckon : hk_M := (yX10_reckon, cX10_reckon, 4, none, [])
theorem ok_X10_reckon : hk_ok m_X10_reckon 1 := ⟨by decide +kernel, ⟨by decide +kernel, by decide +kernel⟩, by decide +kernel, by decide +kernel, wd_8, wd_1328⟩
theorem vi_X10_reckon : hk_vir m_X10_reckon 10 1 := ⟨ok_X10_reckon, rfl, wd_1327, _, rfl, wp_37⟩
def m_X10_gains : hk_M := (yX10_gains, cX10_gains, 7, some .boolean, [])
theorem ok_X10_gains : hk_ok m_X10_gains 3 := ⟨by decide +kernel, ⟨by decide +kernel, by decide +kernel⟩, by decide +kernel, by decide +kernel, wd_8, wd_1332⟩
theorem vi_X10_gains : hk_vir m_X10_gains 10 3 := ⟨ok_X10_gains, rfl, wd_1331, _, rfl, wp_38⟩
def m_X10_heap : hk_M := (yX10_heap, cX10_heap, 6, some .int, [])
theorem ok_X10_heap : hk_ok m_X10_heap 3 := ⟨by decide +kernel, ⟨by decide +kernel, by decide +kernel⟩, by decide +kernel, by decide +kernel, wd_8, wd_1324⟩
theorem vi_X10_heap : hk_vir m_X10_heap 10 3 := ⟨ok_X10_heap, rfl, wd_1322, _, rfl, wd_1323⟩
def m_X10_onto : hk_M := (yX10_onto, cX10_onto, 5, some .int, [])
theorem ok_X10_onto : hk_ok m_X10_onto 1 := ⟨by decide +kernel, ⟨by decide +kernel, by decide +kernel⟩, by decide +kernel, by decide +kernel, wd_8, wd_1336⟩
theorem vi_X10_onto : hk_vir m_X10_onto 10 1 := ⟨ok_X10_onto, rfl, wd_1334, _, rfl, wd_1335⟩
def m_X10_dictator : hk_M := (yX10_dictator, cX10_dictator, 5, some .int, [])
theorem ok_X10_dictator : hk_ok m_X10_dictator 1 := ⟨by decide +kernel, ⟨by decide +kernel, by decide +kernel⟩, by decide +kernel, by decide +kernel, wd_8, wd_1340⟩
theorem vi_X10_dictator : hk_vir m_X10_dictator 10 1 := ⟨ok_X10_dictator, rfl, wd_1338, _, rfl, wd_1339⟩
def m_X10_budget : hk_M := (yX10_budget, cX10_budget, 9, some .long, [])
theorem ok_X10_budget : hk_ok m_X10_budget 2 := ⟨by decide +kernel, ⟨by decide +kernel, by decide +kernel⟩, by decide +kernel, by decide +kernel, wd_8, wd_1344⟩
theorem vi_X10_budget : hk_vir m_X10_budget 10 2 := ⟨ok_X10_budget, rfl, wd_1342, _, rfl, wd_1343⟩
def m_X10_welfare : hk_M := (yX10_welfare, cX10_welfare, 7, some .long, [])
theorem ok_X10_welfare : hk_ok m_X10_welfare 1 := ⟨by decide +kernel, ⟨by decide +kernel, by decide +kernel⟩, by decide +kernel, by decide +kernel, wd_8, wd_1348⟩
theorem vi_X10_welfare : hk_vir m_X10_welfare 10 1 := ⟨ok_X10_welfare, rfl, wd_1346, _, rfl, wd_1347⟩
def m_X10_measure : hk_M := (yX10_measure, cX10_measure, 7, none, [])
theorem ok_X10_measure : hk_ok m_X10_measure 3 := ⟨by decide +kernel, ⟨by decide +kernel, by decide +kernel⟩, by decide +kernel, by decide +kernel, wd_8, wd_1356⟩
theorem vi_X10_measure : hk_vir m_X10_measure 10 3 := ⟨ok_X10_measure, rfl, wd_1355, _, rfl, wp_39⟩
def m_X10_leastRound : hk_M := (yX10_leastRound, cX10_leastRound, 7, some .int, [])
theorem ok_X10_leastRound : hk_ok m_X10_leastRound 4 := ⟨by decide +kernel, ⟨by decide +kernel, by decide +kernel⟩, by decide +kernel, by decide +kernel, wd_8, wd_1370⟩
theorem vi_X10_leastRound : hk_vir m_X10_leastRound 10 4 := ⟨ok_X10_leastRound, rfl, wd_1369, _, rfl, wp_41⟩
def m_X10_least : hk_M := (yX10_least, cX10_least, 3, some .int, [])
theorem ok_X10_least : hk_ok m_X10_least 0 := ⟨by decide +kernel, ⟨by decide +kernel, by decide +kernel⟩, by decide +kernel, by decide +kernel, wd_8, wd_1366⟩
theorem vi_X10_least : hk_vir m_X10_least 10 0 := ⟨ok_X10_least, rfl, wd_1365, _, rfl, wp_40⟩
def m_X10_span : hk_M := (yX10_span, cX10_span, 6, some .int, [])
theorem ok_X10_span : hk_ok m_X10_span 5 := ⟨by decide +kernel, ⟨by decide +kernel, by decide +kernel⟩, by decide +kernel, by decide +kernel, wd_8, wd_1352⟩
theorem vi_X10_span : hk_vir m_X10_span 10 5 := ⟨ok_X10_span, rfl, wd_1350, _, rfl, wd_1351⟩
def m_X10_round : hk_M := (yX10_round, cX10_round, 6, some .int, [])
theorem ok_X10_round : hk_ok m_X10_round 2 := ⟨by decide +kernel, ⟨by decide +kernel, by decide +kernel⟩, by decide +kernel, by decide +kernel, wd_8, wd_1362⟩
theorem vi_X10_round : hk_vir m_X10_round 10 2 := ⟨ok_X10_round, rfl, wd_1360, _, rfl, wd_1361⟩
def m_X10_priceAll : hk_M := (yX10_priceAll, cX10_priceAll, 5, none, [])
theorem ok_X10_priceAll : hk_ok m_X10_priceAll 0 := ⟨by decide +kernel, ⟨by decide +kernel, by decide +kernel⟩, by decide +kernel, by decide +kernel, wd_8, wd_1378⟩
theorem vi_X10_priceAll : hk_vir m_X10_priceAll 10 0 := ⟨ok_X10_priceAll, rfl, wd_1377, _, rfl, wp_42⟩
def m_X10_price : hk_M := (yX10_price, cX10_price, 5, some .int, [])
theorem ok_X10_price : hk_ok m_X10_price 4 := ⟨by decide +kernel, ⟨by decide +kernel, by decide +kernel⟩, by decide +kernel, by decide +kernel, wd_8, wd_1374⟩
theorem vi_X10_price : hk_vir m_X10_price 10 4 := ⟨ok_X10_price, rfl, wd_1372, _, rfl, wd_1373⟩
def m_X10_honest : hk_M := (yX10_honest, cX10_honest, 6, some .int, [])
theorem ok_X10_honest : hk_ok m_X10_honest 1 := ⟨by decide +kernel, ⟨by decide +kernel, by decide +kernel⟩, by decide +kernel, by decide +kernel, wd_8, wd_1382⟩
theorem vi_X10_honest : hk_vir m_X10_honest 10 1 := ⟨ok_X10_honest, rfl, wd_1380, _, rfl, wd_1381⟩
def m_X10_same : hk_M := (yX10_same, cX10_same, 6, some .int, [])
theorem ok_X10_same : hk_ok m_X10_same 2 := ⟨by decide +kernel, ⟨by decide +kernel, by decide +kernel⟩, by decide +kernel, by decide +kernel, wd_8, wd_1388⟩
theorem vi_X10_same : hk_vir m_X10_same 10 2 := ⟨ok_X10_same, rfl, wd_1386, _, rfl, wd_1387⟩
def m_X10_fair : hk_M := (yX10_fair, cX10_fair, 6, some .int, [])
theorem ok_X10_fair : hk_ok m_X10_fair 1 := ⟨by decide +kernel, ⟨by decide +kernel, by decide +kernel⟩, by decide +kernel, by decide +kernel, wd_8, wd_1392⟩
theorem vi_X10_fair : hk_vir m_X10_fair 10 1 := ⟨ok_X10_fair, rfl, wd_1390, _, rfl, wd_1391⟩
def m_X10_digits : hk_M := (yX10_digits, cX10_digits, 6, some .boolean, [])
theorem ok_X10_digits : hk_ok m_X10_digits 2 := ⟨by decide +kernel, ⟨by decide +kernel, by decide +kernel⟩, by decide +kernel, by decide +kernel, wd_8, wd_1400⟩
theorem vi_X10_digits : hk_vir m_X10_digits 10 2 := ⟨ok_X10_digits, rfl, wd_1399, _, rfl, wp_43⟩
def m_X10_code : hk_M := (yX10_code, cX10_code, 4, some .int, [])
theorem ok_X10_code : hk_ok m_X10_code 1 := ⟨by decide +kernel, ⟨by decide +kernel, by decide +kernel⟩, by decide +kernel, by decide +kernel, wd_8, wd_1416⟩
theorem vi_X10_code : hk_vir m_X10_code 10 1 := ⟨ok_X10_code, rfl, wd_1415, _, rfl, wp_46⟩
def m_X10_place : hk_M := (yX10_place, cX10_place, 4, some .int, [])
theorem ok_X10_place : hk_ok m_X10_place 2 := ⟨by decide +kernel, ⟨by decide +kernel, by decide +kernel⟩, by decide +kernel, by decide +kernel, wd_8, wd_1452⟩
theorem vi_X10_place : hk_vir m_X10_place 10 2 := ⟨ok_X10_place, rfl, wd_1451, _, rfl, wp_52⟩
def m_X10_likes : hk_M := (yX10_likes, cX10_likes, 4, some .int, [])
theorem ok_X10_likes : hk_ok m_X10_likes 2 := ⟨by decide +kernel, ⟨by decide +kernel, by decide +kernel⟩, by decide +kernel, by decide +kernel, wd_8, wd_1396⟩
theorem vi_X10_likes : hk_vir m_X10_likes 10 2 := ⟨ok_X10_likes, rfl, wd_1394, _, rfl, wd_1395⟩
def m_X10_best : hk_M := (yX10_best, cX10_best, 4, some .int, [])
theorem ok_X10_best : hk_ok m_X10_best 2 := ⟨by decide +kernel, ⟨by decide +kernel, by decide +kernel⟩, by decide +kernel, by decide +kernel, wd_8, wd_1412⟩
theorem vi_X10_best : hk_vir m_X10_best 10 2 := ⟨ok_X10_best, rfl, wd_1411, _, rfl, wp_45⟩
def m_X10_ring : hk_M := (yX10_ring, cX10_ring, 7, none, [])
theorem ok_X10_ring : hk_ok m_X10_ring 0 := ⟨by decide +kernel, ⟨by decide +kernel, by decide +kernel⟩, by decide +kernel, by decide +kernel, wd_8, wd_1408⟩
theorem vi_X10_ring : hk_vir m_X10_ring 10 0 := ⟨ok_X10_ring, rfl, wd_1407, _, rfl, wp_44⟩
def m_X10_rings : hk_M := (yX10_rings, cX10_rings, 1, some .int, [])
theorem ok_X10_rings : hk_ok m_X10_rings 0 := ⟨by decide +kernel, ⟨by decide +kernel, by decide +kernel⟩, by decide +kernel, by decide +kernel, wd_8, wd_1404⟩
theorem vi_X10_rings : hk_vir m_X10_rings 10 0 := ⟨ok_X10_rings, rfl, wd_1402, _, rfl, wd_1403⟩
def m_X10_leaves : hk_M := (yX10_leaves, cX10_leaves, 2, some .int, [])
theorem ok_X10_leaves : hk_ok m_X10_leaves 1 := ⟨by decide +kernel, ⟨by decide +kernel, by decide +kernel⟩, by decide +kernel, by decide +kernel, wd_8, wd_1420⟩
theorem vi_X10_leaves : hk_vir m_X10_leaves 10 1 := ⟨ok_X10_leaves, rfl, wd_1418, _, rfl, wd_1419⟩
def m_X10_turn : hk_M := (yX10_turn, cX10_turn, 3, none, [])
theorem ok_X10_turn : hk_ok m_X10_turn 0 := ⟨by decide +kernel, ⟨by decide +kernel, by decide +kernel⟩, by decide +kernel, by decide +kernel, wd_8, wd_1428⟩
theorem vi_X10_turn : hk_vir m_X10_turn 10 0 := ⟨ok_X10_turn, rfl, wd_1427, _, rfl, wp_47⟩
def m_X10_turns : hk_M := (yX10_turns, cX10_turns, 2, some .int, [])
theorem ok_X10_turns : hk_ok m_X10_turns 1 := ⟨by decide +kernel, ⟨by decide +kernel, by decide +kernel⟩, by decide +kernel, by decide +kernel, wd_8, wd_1424⟩
theorem vi_X10_turns : hk_vir m_X10_turns 10 1 := ⟨ok_X10_turns, rfl, wd_1422, _, rfl, wd_1423⟩
def m_X10_isBetter : hk_M := (yX10_isBetter, cX10_isBetter, 6, some .boolean, [])
theorem ok_X10_isBetter : hk_ok m_X10_isBetter 3 := ⟨by decide +kernel, ⟨by decide +kernel, by decide +kernel⟩, by decide +kernel, by decide +kernel, wd_8, wd_1448⟩
theorem vi_X10_isBetter : hk_vir m_X10_isBetter 10 3 := ⟨ok_X10_isBetter, rfl, wd_1447, _, rfl, wp_51⟩
def m_X10_last : hk_M := (yX10_last, cX10_last, 3, some .int, [])
theorem ok_X10_last : hk_ok m_X10_last 0 := ⟨by decide +kernel, ⟨by decide +kernel, by decide +kernel⟩, by decide +kernel, by decide +kernel, wd_8, wd_1444⟩
theorem vi_X10_last : hk_vir m_X10_last 10 0 := ⟨ok_X10_last, rfl, wd_1443, _, rfl, wp_50⟩
def m_X10_isBeaten : hk_M := (yX10_isBeaten, cX10_isBeaten, 4, some .boolean, [])
theorem ok_X10_isBeaten : hk_ok m_X10_isBeaten 2 := ⟨by decide +kernel, ⟨by decide +kernel, by decide +kernel⟩, by decide +kernel, by decide +kernel, wd_8, wd_1440⟩
theorem vi_X10_isBeaten : hk_vir m_X10_isBeaten 10 2 := ⟨ok_X10_isBeaten, rfl, wd_1439, _, rfl, wp_49⟩
def m_X10_blocking : hk_M := (yX10_blocking, cX10_blocking, 3, some .int, [])
theorem ok_X10_blocking : hk_ok m_X10_blocking 1 := ⟨by decide +kernel, ⟨by decide +kernel, by decide +kernel⟩, by decide +kernel, by decide +kernel, wd_8, wd_1436⟩
theorem vi_X10_blocking : hk_vir m_X10_blocking 10 1 := ⟨ok_X10_blocking, rfl, wd_1435, _, rfl, wp_48⟩
def m_X10_blocks : hk_M := (yX10_blocks, cX10_blocks, 2, some .int, [])
theorem ok_X10_blocks : hk_ok m_X10_blocks 1 := ⟨by decide +kernel, ⟨by decide +kernel, by decide +kernel⟩, by decide +kernel, by decide +kernel, wd_8, wd_1432⟩
theorem vi_X10_blocks : hk_vir m_X10_blocks 10 1 := ⟨ok_X10_blocks, rfl, wd_1430, _, rfl, wd_1431⟩
def m_X10_core : hk_M := (yX10_core, cX10_core, 4, some .int, [])
theorem ok_X10_core : hk_ok m_X10_core 1 := ⟨by decide +kernel, ⟨by decide +kernel, by decide +kernel⟩, by decide +kernel, by decide +kernel, wd_8, wd_1456⟩
theorem vi_X10_core : hk_vir m_X10_core 10 1 := ⟨ok_X10_core, rfl, wd_1454, _, rfl, wd_1455⟩
def m_X10_good : hk_M := (yX10_good, cX10_good, 2, some .int, [])
theorem ok_X10_good : hk_ok m_X10_good 1 := ⟨by decide +kernel, ⟨by decide +kernel, by decide +kernel⟩, by decide +kernel, by decide +kernel, wd_8, wd_1460⟩
theorem vi_X10_good : hk_vir m_X10_good 10 1 := ⟨ok_X10_good, rfl, wd_1458, _, rfl, wd_1459⟩
def m_X10_by : hk_M := (yX10_by, cX10_by, 3, some .int, [])
theorem ok_X10_by : hk_ok m_X10_by 1 := ⟨by decide +kernel, ⟨by decide +kernel, by decide +kernel⟩, by decide +kernel, by decide +kernel, wd_8, wd_1464⟩
theorem vi_X10_by : hk_vir m_X10_by 10 1 := ⟨ok_X10_by, rfl, wd_1462, _, rfl, wd_1463⟩
def m_X10_wrong : hk_M := (yX10_wrong, cX10_wrong, 8, some .int, [])
theorem ok_X10_wrong : hk_ok m_X10_wrong 1 := ⟨by decide +kernel, ⟨by decide +kernel, by decide +kernel⟩, by decide +kernel, by decide +kernel, wd_8, wd_1468⟩
theorem vi_X10_wrong : hk_vir m_X10_wrong 10 1 := ⟨ok_X10_wrong, rfl, wd_1466, _, rfl, wd_1467⟩
def m_X10_count : hk_M := (yX10_count, cX10_count, 5, some .int, [])
theorem ok_X10_count : hk_ok m_X10_count 1 := ⟨by decide +kernel, ⟨by decide +kernel, by decide +kernel⟩, by decide +kernel, by decide +kernel, wd_8, wd_1472⟩
theorem vi_X10_count : hk_vir m_X10_count 10 1 := ⟨ok_X10_count, rfl, wd_1470, _, rfl, wd_1471⟩
def m_X10_keep : hk_M := (yX10_keep, cX10_keep, 5, some .int, [])
theorem ok_X10_keep : hk_ok m_X10_keep 3 := ⟨by decide +kernel, ⟨by decide +kernel, by decide +kernel⟩, by decide +kernel, by decide +kernel, wd_8, wd_1476⟩
theorem vi_X10_keep : hk_vir m_X10_keep 10 3 := ⟨ok_X10_keep, rfl, wd_1474, _, rfl, wd_1475⟩
def m_X10_make : hk_M := (yX10_make, cX10_make, 5, some .int, [])
theorem ok_X10_make : hk_ok m_X10_make 3 := ⟨by decide +kernel, ⟨by decide +kernel, by decide +kernel⟩, by decide +kernel, by decide +kernel, wd_8, wd_1480⟩
theorem vi_X10_make : hk_vir m_X10_make 10 3 := ⟨ok_X10_make, rfl, wd_1478, _, rfl, wd_1479⟩
def m_X10_element : hk_M := (yX10_element, cX10_element, 3, some .long, [])
theorem ok_X10_element : hk_ok m_X10_element 2 := ⟨by decide +kernel, ⟨by decide +kernel, by decide +kernel⟩, by decide +kernel, by decide +kernel, wd_8, wd_1484⟩
theorem vi_X10_element : hk_vir m_X10_element 10 2 := ⟨ok_X10_element, rfl, wd_1482, _, rfl, wd_1483⟩
def m_X10_copy : hk_M := (yX10_copy, cX10_copy, 7, some .int, [])
theorem ok_X10_copy : hk_ok m_X10_copy 5 := ⟨by decide +kernel, ⟨by decide +kernel, by decide +kernel⟩, by decide +kernel, by decide +kernel, wd_8, wd_1488⟩
theorem vi_X10_copy : hk_vir m_X10_copy 10 5 := ⟨ok_X10_copy, rfl, wd_1486, _, rfl, wd_1487⟩
def m_X10_wrongShelf : hk_M := (yX10_wrongShelf, cX10_wrongShelf, 2, some .int, [])
theorem ok_X10_wrongShelf : hk_ok m_X10_wrongShelf 1 := ⟨by decide +kernel, ⟨by decide +kernel, by decide +kernel⟩, by decide +kernel, by decide +kernel, wd_8, wd_1496⟩
theorem vi_X10_wrongShelf : hk_vir m_X10_wrongShelf 10 1 := ⟨ok_X10_wrongShelf, rfl, wd_1495, _, rfl, wp_53⟩
def m_X10_weight : hk_M := (yX10_weight, cX10_weight, 4, some .int, [])
theorem ok_X10_weight : hk_ok m_X10_weight 1 := ⟨by decide +kernel, ⟨by decide +kernel, by decide +kernel⟩, by decide +kernel, by decide +kernel, wd_8, wd_1492⟩
theorem vi_X10_weight : hk_vir m_X10_weight 10 1 := ⟨ok_X10_weight, rfl, wd_1490, _, rfl, wd_1491⟩
def m_X10_toss : hk_M := (yX10_toss, cX10_toss, 3, some .int, [])
theorem ok_X10_toss : hk_ok m_X10_toss 1 := ⟨by decide +kernel, ⟨by decide +kernel, by decide +kernel⟩, by decide +kernel, by decide +kernel, wd_8, wd_1500⟩
theorem vi_X10_toss : hk_vir m_X10_toss 10 1 := ⟨ok_X10_toss, rfl, wd_1498, _, rfl, wd_1499⟩
def m_J6_bitCount_0f7a4 : hk_M := (yJ6_bitCount_0f7a4, cJ6_bitCount_0f7a4, 1, some .int, [])
theorem ok_J6_bitCount_0f7a4 : hk_ok m_J6_bitCount_0f7a4 1 := ⟨by decide +kernel, ⟨by decide +kernel, by decide +kernel⟩, by decide +kernel, by decide +kernel, wd_18, wd_550⟩
theorem st_J6_bitCount_0f7a4 : hk_sta1 m_J6_bitCount_0f7a4 1 := ⟨ok_J6_bitCount_0f7a4, rfl, wd_549⟩
def m_J9_floorMod_7cf53 : hk_M := (yJ9_floorMod_7cf53, cJ9_floorMod_7cf53, 3, some .int, [])
theorem ok_J9_floorMod_7cf53 : hk_ok m_J9_floorMod_7cf53 2 := ⟨by decide +kernel, ⟨by decide +kernel, by decide +kernel⟩, by decide +kernel, by decide +kernel, wd_2, wd_31⟩
theorem st_J9_floorMod_7cf53 : hk_sta1 m_J9_floorMod_7cf53 2 := ⟨ok_J9_floorMod_7cf53, rfl, wd_30⟩
def m_J9_max_7cf53 : hk_M := (yJ9_max_7cf53, cJ9_max_7cf53, 2, some .int, [])
theorem ok_J9_max_7cf53 : hk_ok m_J9_max_7cf53 2 := ⟨by decide +kernel, ⟨by decide +kernel, by decide +kernel⟩, by decide +kernel, by decide +kernel, wd_2, wd_477⟩
theorem st_J9_max_7cf53 : hk_sta1 m_J9_max_7cf53 2 := ⟨ok_J9_max_7cf53, rfl, wd_476⟩
def m_J9_min_7cf53 : hk_M := (yJ9_min_7cf53, cJ9_min_7cf53, 2, some .int, [])
theorem ok_J9_min_7cf53 : hk_ok m_J9_min_7cf53 2 := ⟨by decide +kernel, ⟨by decide +kernel, by decide +kernel⟩, by decide +kernel, by decide +kernel, wd_2, wd_556⟩
theorem st_J9_min_7cf53 : hk_sta1 m_J9_min_7cf53 2 := ⟨ok_J9_min_7cf53, rfl, wd_555⟩
def m_J7_fill_d0a16 : hk_M := (yJ7_fill_d0a16, cJ7_fill_d0a16, 5, none, [])
theorem ok_J7_fill_d0a16 : hk_ok m_J7_fill_d0a16 2 := ⟨by decide +kernel, ⟨by decide +kernel, by decide +kernel⟩, by decide +kernel, by decide +kernel, wd_12, wd_897⟩
theorem st_J7_fill_d0a16 : hk_sta1 m_J7_fill_d0a16 2 := ⟨ok_J7_fill_d0a16, rfl, wd_896⟩
def m_J7_fill_53178 : hk_M := (yJ7_fill_53178, cJ7_fill_53178, 4, none, [])
theorem ok_J7_fill_53178 : hk_ok m_J7_fill_53178 2 := ⟨by decide +kernel, ⟨by decide +kernel, by decide +kernel⟩, by decide +kernel, by decide +kernel, wd_12, wd_305⟩
theorem st_J7_fill_53178 : hk_sta1 m_J7_fill_53178 2 := ⟨ok_J7_fill_53178, rfl, wd_304⟩
def m_L_cell : hk_M := (yL_cell, cL_cell, 2, some .int, [])
theorem ok_L_cell : hk_ok m_L_cell 2 := ⟨by decide +kernel, ⟨by decide +kernel, by decide +kernel⟩, by decide +kernel, by decide +kernel, wd_0, wd_1019⟩
theorem st_L_cell : hk_sta1 m_L_cell 2 := ⟨ok_L_cell, rfl, wd_1018⟩
def m_L_pays : hk_M := (yL_pays, cL_pays, 6, some .int, [(0, 12, 15, 13)])
theorem ok_L_pays : hk_ok m_L_pays 5 := ⟨by decide +kernel, ⟨by decide +kernel, by decide +kernel⟩, by decide +kernel, by decide +kernel, wd_0, wd_1022⟩
def m_L_gain : hk_M := (yL_gain, cL_gain, 7, some .int, [(0, 14, 17, 13)])
theorem ok_L_gain : hk_ok m_L_gain 6 := ⟨by decide +kernel, ⟨by decide +kernel, by decide +kernel⟩, by decide +kernel, by decide +kernel, wd_0, wd_1046⟩
def m_L_budget : hk_M := (yL_budget, cL_budget, 5, some .int, [(0, 9, 12, 13)])
theorem ok_L_budget : hk_ok m_L_budget 4 := ⟨by decide +kernel, ⟨by decide +kernel, by decide +kernel⟩, by decide +kernel, by decide +kernel, wd_0, wd_1054⟩
def m_L_welfare : hk_M := (yL_welfare, cL_welfare, 4, some .int, [(0, 8, 11, 13)])
theorem ok_L_welfare : hk_ok m_L_welfare 3 := ⟨by decide +kernel, ⟨by decide +kernel, by decide +kernel⟩, by decide +kernel, by decide +kernel, wd_0, wd_1067⟩
def m_L_span : hk_M := (yL_span, cL_span, 8, some .int, [(0, 16, 19, 13), (0, 16, 23, 31)])
theorem ok_L_span : hk_ok m_L_span 7 := ⟨by decide +kernel, ⟨by decide +kernel, by decide +kernel⟩, by decide +kernel, by decide +kernel, wd_0, wd_1074⟩
def m_L_price : hk_M := (yL_price, cL_price, 7, some .int, [(0, 14, 17, 13), (0, 14, 21, 31)])
theorem ok_L_price : hk_ok m_L_price 6 := ⟨by decide +kernel, ⟨by decide +kernel, by decide +kernel⟩, by decide +kernel, by decide +kernel, wd_0, wd_1090⟩
def m_L_element : hk_M := (yL_element, cL_element, 5, some .int, [(0, 9, 12, 13), (0, 9, 16, 31)])
theorem ok_L_element : hk_ok m_L_element 4 := ⟨by decide +kernel, ⟨by decide +kernel, by decide +kernel⟩, by decide +kernel, by decide +kernel, wd_0, wd_1098⟩
def m_L_law : hk_M := (yL_law, cL_law, 8, some .boolean, [])
theorem di_X5_changeEnd_5 : hk_dis yX5_changeEnd 5 m_X5_changeEnd 2 := ⟨_, "HonestHouse$Table", rfl, ok_X5_changeEnd, rfl, rfl, wd_362, wd_361, wd_360, ⟨by decide +kernel, by decide +kernel⟩, Or.inl ⟨wd_360, _, _, _, wd_370⟩⟩
theorem di_X5_changeEnd_2 : hk_dis yX5_changeEnd 2 m_X2_changeEnd 2 := ⟨_, "HonestHouse$Table", rfl, ok_X2_changeEnd, rfl, rfl, wd_362, wd_363, wd_364, ⟨by decide +kernel, by decide +kernel⟩, Or.inl ⟨wd_360, _, _, _, wd_370⟩⟩
theorem di_X5_changeEnd_3 : hk_dis yX5_changeEnd 3 m_X5_changeEnd 2 := ⟨_, "HonestHouse$Table", rfl, ok_X5_changeEnd, rfl, rfl, wd_362, wd_366, wd_360, ⟨by decide +kernel, by decide +kernel⟩, Or.inl ⟨wd_360, _, _, _, wd_370⟩⟩
theorem di_X5_changeEnd_7 : hk_dis yX5_changeEnd 7 m_X7_changeEnd 2 := ⟨_, "HonestHouse$Table", rfl, ok_X7_changeEnd, rfl, rfl, wd_362, wd_367, wd_368, ⟨by decide +kernel, by decide +kernel⟩, Or.inl ⟨wd_360, _, _, _, wd_370⟩⟩
theorem di_X5_changePayment_5 : hk_dis yX5_changePayment 5 m_X5_changePayment 3 := ⟨_, "HonestHouse$Table", rfl, ok_X5_changePayment, rfl, rfl, wd_382, wd_381, wd_380, ⟨by decide +kernel, by decide +kernel⟩, Or.inl ⟨wd_380, _, _, _, wd_390⟩⟩
theorem di_X5_changePayment_2 : hk_dis yX5_changePayment 2 m_X5_changePayment 3 := ⟨_, "HonestHouse$Table", rfl, ok_X5_changePayment, rfl, rfl, wd_382, wd_383, wd_380, ⟨by decide +kernel, by decide +kernel⟩, Or.inl ⟨wd_380, _, _, _, wd_390⟩⟩
theorem di_X5_changePayment_3 : hk_dis yX5_changePayment 3 m_X3_changePayment 3 := ⟨_, "HonestHouse$Table", rfl, ok_X3_changePayment, rfl, rfl, wd_382, wd_384, wd_385, ⟨by decide +kernel, by decide +kernel⟩, Or.inl ⟨wd_380, _, _, _, wd_390⟩⟩
theorem di_X5_changePayment_7 : hk_dis yX5_changePayment 7 m_X7_changePayment 3 := ⟨_, "HonestHouse$Table", rfl, ok_X7_changePayment, rfl, rfl, wd_382, wd_387, wd_388, ⟨by decide +kernel, by decide +kernel⟩, Or.inl ⟨wd_380, _, _, _, wd_390⟩⟩
theorem di_X5_changeGift_5 : hk_dis yX5_changeGift 5 m_X5_changeGift 2 := ⟨_, "HonestHouse$Table", rfl, ok_X5_changeGift, rfl, rfl, wd_398, wd_397, wd_396, ⟨by decide +kernel, by decide +kernel⟩, Or.inl ⟨wd_396, _, _, _, wd_408⟩⟩
theorem di_X5_changeGift_2 : hk_dis yX5_changeGift 2 m_X5_changeGift 2 := ⟨_, "HonestHouse$Table", rfl, ok_X5_changeGift, rfl, rfl, wd_398, wd_399, wd_396, ⟨by decide +kernel, by decide +kernel⟩, Or.inl ⟨wd_396, _, _, _, wd_408⟩⟩
theorem di_X5_changeGift_3 : hk_dis yX5_changeGift 3 m_X5_changeGift 2 := ⟨_, "HonestHouse$Table", rfl, ok_X5_changeGift, rfl, rfl, wd_398, wd_400, wd_396, ⟨by decide +kernel, by decide +kernel⟩, Or.inl ⟨wd_396, _, _, _, wd_408⟩⟩
theorem di_X5_changeGift_7 : hk_dis yX5_changeGift 7 m_X7_changeGift 2 := ⟨_, "HonestHouse$Table", rfl, ok_X7_changeGift, rfl, rfl, wd_398, wd_401, wd_402, ⟨by decide +kernel, by decide +kernel⟩, Or.inl ⟨wd_396, _, _, _, wd_408⟩⟩
theorem di_X5_changeWeight_5 : hk_dis yX5_changeWeight 5 m_X5_changeWeight 2 := ⟨_, "HonestHouse$Table", rfl, ok_X5_changeWeight, rfl, rfl, wd_412, wd_411, wd_410, ⟨by decide +kernel, by decide +kernel⟩, Or.inl ⟨wd_410, _, _, _, wd_418⟩⟩
theorem di_X5_changeWeight_2 : hk_dis yX5_changeWeight 2 m_X5_changeWeight 2 := ⟨_, "HonestHouse$Table", rfl, ok_X5_changeWeight, rfl, rfl, wd_412, wd_413, wd_410, ⟨by decide +kernel, by decide +kernel⟩, Or.inl ⟨wd_410, _, _, _, wd_418⟩⟩
theorem di_X5_changeWeight_3 : hk_dis yX5_changeWeight 3 m_X5_changeWeight 2 := ⟨_, "HonestHouse$Table", rfl, ok_X5_changeWeight, rfl, rfl, wd_412, wd_414, wd_410, ⟨by decide +kernel, by decide +kernel⟩, Or.inl ⟨wd_410, _, _, _, wd_418⟩⟩
theorem di_X5_changeWeight_7 : hk_dis yX5_changeWeight 7 m_X7_changeWeight 2 := ⟨_, "HonestHouse$Table", rfl, ok_X7_changeWeight, rfl, rfl, wd_412, wd_415, wd_416, ⟨by decide +kernel, by decide +kernel⟩, Or.inl ⟨wd_410, _, _, _, wd_418⟩⟩
theorem di_X5_changePlace_5 : hk_dis yX5_changePlace 5 m_X5_changePlace 2 := ⟨_, "HonestHouse$Table", rfl, ok_X5_changePlace, rfl, rfl, wd_426, wd_425, wd_424, ⟨by decide +kernel, by decide +kernel⟩, Or.inl ⟨wd_424, _, _, _, wd_432⟩⟩
theorem di_X5_changePlace_2 : hk_dis yX5_changePlace 2 m_X2_changePlace 2 := ⟨_, "HonestHouse$Table", rfl, ok_X2_changePlace, rfl, rfl, wd_426, wd_427, wd_428, ⟨by decide +kernel, by decide +kernel⟩, Or.inl ⟨wd_424, _, _, _, wd_432⟩⟩
theorem di_X5_changePlace_3 : hk_dis yX5_changePlace 3 m_X5_changePlace 2 := ⟨_, "HonestHouse$Table", rfl, ok_X5_changePlace, rfl, rfl, wd_426, wd_430, wd_424, ⟨by decide +kernel, by decide +kernel⟩, Or.inl ⟨wd_424, _, _, _, wd_432⟩⟩
theorem di_X5_changePlace_7 : hk_dis yX5_changePlace 7 m_X5_changePlace 2 := ⟨_, "HonestHouse$Table", rfl, ok_X5_changePlace, rfl, rfl, wd_426, wd_431, wd_424, ⟨by decide +kernel, by decide +kernel⟩, Or.inl ⟨wd_424, _, _, _, wd_432⟩⟩
theorem di_X5_settle_5 : hk_dis yX5_settle 5 m_X5_settle 1 := ⟨_, "HonestHouse$Table", rfl, ok_X5_settle, rfl, rfl, wd_440, wd_439, wd_438, ⟨by decide +kernel, by decide +kernel⟩, Or.inl ⟨wd_438, _, _, _, wd_478⟩⟩
theorem di_X5_settle_2 : hk_dis yX5_settle 2 m_X2_settle 1 := ⟨_, "HonestHouse$Table", rfl, ok_X2_settle, rfl, rfl, wd_440, wd_441, wd_442, ⟨by decide +kernel, by decide +kernel⟩, Or.inl ⟨wd_438, _, _, _, wd_478⟩⟩
theorem di_X5_settle_3 : hk_dis yX5_settle 3 m_X5_settle 1 := ⟨_, "HonestHouse$Table", rfl, ok_X5_settle, rfl, rfl, wd_440, wd_456, wd_438, ⟨by decide +kernel, by decide +kernel⟩, Or.inl ⟨wd_438, _, _, _, wd_478⟩⟩
theorem di_X5_settle_7 : hk_dis yX5_settle 7 m_X7_settle 1 := ⟨_, "HonestHouse$Table", rfl, ok_X7_settle, rfl, rfl, wd_440, wd_457, wd_458, ⟨by decide +kernel, by decide +kernel⟩, Or.inl ⟨wd_438, _, _, _, wd_478⟩⟩
theorem di_X5_endAt_5 : hk_dis yX5_endAt 5 m_X5_endAt 1 := ⟨_, "HonestHouse$Table", rfl, ok_X5_endAt, rfl, rfl, wd_482, wd_481, wd_480, ⟨by decide +kernel, by decide +kernel⟩, Or.inl ⟨wd_480, _, _, _, wd_486⟩⟩
theorem di_X5_endAt_2 : hk_dis yX5_endAt 2 m_X5_endAt 1 := ⟨_, "HonestHouse$Table", rfl, ok_X5_endAt, rfl, rfl, wd_482, wd_483, wd_480, ⟨by decide +kernel, by decide +kernel⟩, Or.inl ⟨wd_480, _, _, _, wd_486⟩⟩
theorem di_X5_endAt_3 : hk_dis yX5_endAt 3 m_X5_endAt 1 := ⟨_, "HonestHouse$Table", rfl, ok_X5_endAt, rfl, rfl, wd_482, wd_484, wd_480, ⟨by decide +kernel, by decide +kernel⟩, Or.inl ⟨wd_480, _, _, _, wd_486⟩⟩
theorem di_X5_endAt_7 : hk_dis yX5_endAt 7 m_X5_endAt 1 := ⟨_, "HonestHouse$Table", rfl, ok_X5_endAt, rfl, rfl, wd_482, wd_485, wd_480, ⟨by decide +kernel, by decide +kernel⟩, Or.inl ⟨wd_480, _, _, _, wd_486⟩⟩
theorem di_X5_profit_5 : hk_dis yX5_profit 5 m_X5_profit 3 := ⟨_, "HonestHouse$Table", rfl, ok_X5_profit, rfl, rfl, wd_512, wd_511, wd_510, ⟨by decide +kernel, by decide +kernel⟩, Or.inl ⟨wd_510, _, _, _, wd_516⟩⟩
theorem di_X5_profit_2 : hk_dis yX5_profit 2 m_X5_profit 3 := ⟨_, "HonestHouse$Table", rfl, ok_X5_profit, rfl, rfl, wd_512, wd_513, wd_510, ⟨by decide +kernel, by decide +kernel⟩, Or.inl ⟨wd_510, _, _, _, wd_516⟩⟩
theorem di_X5_profit_3 : hk_dis yX5_profit 3 m_X5_profit 3 := ⟨_, "HonestHouse$Table", rfl, ok_X5_profit, rfl, rfl, wd_512, wd_514, wd_510, ⟨by decide +kernel, by decide +kernel⟩, Or.inl ⟨wd_510, _, _, _, wd_516⟩⟩
theorem di_X5_profit_7 : hk_dis yX5_profit 7 m_X5_profit 3 := ⟨_, "HonestHouse$Table", rfl, ok_X5_profit, rfl, rfl, wd_512, wd_515, wd_510, ⟨by decide +kernel, by decide +kernel⟩, Or.inl ⟨wd_510, _, _, _, wd_516⟩⟩
theorem di_X5_paymentAt_5 : hk_dis yX5_paymentAt 5 m_X5_paymentAt 2 := ⟨_, "HonestHouse$Table", rfl, ok_X5_paymentAt, rfl, rfl, wd_522, wd_521, wd_520, ⟨by decide +kernel, by decide +kernel⟩, Or.inl ⟨wd_520, _, _, _, wd_528⟩⟩
theorem di_X5_paymentAt_2 : hk_dis yX5_paymentAt 2 m_X5_paymentAt 2 := ⟨_, "HonestHouse$Table", rfl, ok_X5_paymentAt, rfl, rfl, wd_522, wd_523, wd_520, ⟨by decide +kernel, by decide +kernel⟩, Or.inl ⟨wd_520, _, _, _, wd_528⟩⟩
theorem di_X5_paymentAt_3 : hk_dis yX5_paymentAt 3 m_X3_paymentAt 2 := ⟨_, "HonestHouse$Table", rfl, ok_X3_paymentAt, rfl, rfl, wd_522, wd_524, wd_525, ⟨by decide +kernel, by decide +kernel⟩, Or.inl ⟨wd_520, _, _, _, wd_528⟩⟩
theorem di_X5_paymentAt_7 : hk_dis yX5_paymentAt 7 m_X3_paymentAt 2 := ⟨_, "HonestHouse$Table", rfl, ok_X3_paymentAt, rfl, rfl, wd_522, wd_527, wd_525, ⟨by decide +kernel, by decide +kernel⟩, Or.inl ⟨wd_520, _, _, _, wd_528⟩⟩
theorem di_X3_changeEnd_3 : hk_dis ⟨"HonestHouse$Paid", "changeEnd", "(II)I"⟩ 3 m_X5_changeEnd 2 := ⟨_, "HonestHouse$Table", rfl, ok_X5_changeEnd, rfl, rfl, wd_693, wd_695, wd_360, ⟨by decide +kernel, by decide +kernel⟩, Or.inl ⟨wd_360, _, _, _, wd_370⟩⟩
theorem di_X3_changeEnd_7 : hk_dis ⟨"HonestHouse$Paid", "changeEnd", "(II)I"⟩ 7 m_X7_changeEnd 2 := ⟨_, "HonestHouse$Table", rfl, ok_X7_changeEnd, rfl, rfl, wd_693, wd_696, wd_368, ⟨by decide +kernel, by decide +kernel⟩, Or.inl ⟨wd_360, _, _, _, wd_370⟩⟩
theorem di_X3_endAt_3 : hk_dis ⟨"HonestHouse$Paid", "endAt", "(I)I"⟩ 3 m_X5_endAt 1 := ⟨_, "HonestHouse$Table", rfl, ok_X5_endAt, rfl, rfl, wd_703, wd_705, wd_480, ⟨by decide +kernel, by decide +kernel⟩, Or.inl ⟨wd_480, _, _, _, wd_486⟩⟩
theorem di_X3_endAt_7 : hk_dis ⟨"HonestHouse$Paid", "endAt", "(I)I"⟩ 7 m_X5_endAt 1 := ⟨_, "HonestHouse$Table", rfl, ok_X5_endAt, rfl, rfl, wd_703, wd_706, wd_480, ⟨by decide +kernel, by decide +kernel⟩, Or.inl ⟨wd_480, _, _, _, wd_486⟩⟩
theorem di_X5_heft_5 : hk_dis yX5_heft 5 m_X5_heft 0 := ⟨_, "HonestHouse$Table", rfl, ok_X5_heft, rfl, rfl, wd_872, wd_871, wd_870, ⟨by decide +kernel, by decide +kernel⟩, Or.inl ⟨wd_870, _, _, _, wd_885⟩⟩
theorem di_X5_heft_2 : hk_dis yX5_heft 2 m_X2_heft 0 := ⟨_, "HonestHouse$Table", rfl, ok_X2_heft, rfl, rfl, wd_872, wd_873, wd_874, ⟨by decide +kernel, by decide +kernel⟩, Or.inl ⟨wd_870, _, _, _, wd_885⟩⟩
theorem di_X5_heft_3 : hk_dis yX5_heft 3 m_X3_heft 0 := ⟨_, "HonestHouse$Table", rfl, ok_X3_heft, rfl, rfl, wd_872, wd_877, wd_878, ⟨by decide +kernel, by decide +kernel⟩, Or.inl ⟨wd_870, _, _, _, wd_885⟩⟩
theorem di_X5_heft_7 : hk_dis yX5_heft 7 m_X7_heft 0 := ⟨_, "HonestHouse$Table", rfl, ok_X7_heft, rfl, rfl, wd_872, wd_881, wd_882, ⟨by decide +kernel, by decide +kernel⟩, Or.inl ⟨wd_870, _, _, _, wd_885⟩⟩
theorem di_X5_fail_5 : hk_dis yX5_fail 5 m_X5_fail 0 := ⟨_, "HonestHouse$Table", rfl, ok_X5_fail, rfl, rfl, wd_938, wd_937, wd_936, ⟨by decide +kernel, by decide +kernel⟩, Or.inl ⟨wd_936, _, _, _, wd_1016⟩⟩
theorem di_X5_fail_2 : hk_dis yX5_fail 2 m_X2_fail 0 := ⟨_, "HonestHouse$Table", rfl, ok_X2_fail, rfl, rfl, wd_938, wd_939, wd_940, ⟨by decide +kernel, by decide +kernel⟩, Or.inl ⟨wd_936, _, _, _, wd_1016⟩⟩
theorem di_X5_fail_3 : hk_dis yX5_fail 3 m_X3_fail 0 := ⟨_, "HonestHouse$Table", rfl, ok_X3_fail, rfl, rfl, wd_938, wd_1009, wd_1010, ⟨by decide +kernel, by decide +kernel⟩, Or.inl ⟨wd_936, _, _, _, wd_1016⟩⟩
theorem di_X5_fail_7 : hk_dis yX5_fail 7 m_X3_fail 0 := ⟨_, "HonestHouse$Table", rfl, ok_X3_fail, rfl, rfl, wd_938, wd_1015, wd_1010, ⟨by decide +kernel, by decide +kernel⟩, Or.inl ⟨wd_936, _, _, _, wd_1016⟩⟩
theorem di_X3_changePayment_3 : hk_dis yX3_changePayment 3 m_X3_changePayment 3 := ⟨_, "HonestHouse$Paid", rfl, ok_X3_changePayment, rfl, rfl, wd_1501, wd_1502, wd_385, ⟨by decide +kernel, by decide +kernel⟩, Or.inl ⟨wd_385, _, _, _, wd_386⟩⟩
theorem di_X3_changePayment_7 : hk_dis yX3_changePayment 7 m_X7_changePayment 3 := ⟨_, "HonestHouse$Paid", rfl, ok_X7_changePayment, rfl, rfl, wd_1501, wd_1503, wd_388, ⟨by decide +kernel, by decide +kernel⟩, Or.inl ⟨wd_385, _, _, _, wd_386⟩⟩
theorem su_X2_heft_X5_heft : hk_sup RX2 m_X5_heft 0 := ⟨ok_X5_heft, rfl, by decide +kernel, wd_872, wd_336, wd_870⟩
theorem su_X3_heft_X5_heft : hk_sup RX3 m_X5_heft 0 := ⟨ok_X5_heft, rfl, by decide +kernel, wd_872, wd_296, wd_870⟩
theorem su_X7_heft_X3_heft : hk_sup RX7 m_X3_heft 0 := ⟨ok_X3_heft, rfl, by decide +kernel, wd_1504, wd_319, wd_878⟩
theorem fl_X8_9_8 : hk_fl RX8 9 8 0 := ⟨_, _, _, _, "HonestHouse$Wishes", cl_8, by decide +kernel, wd_38, Or.inl rfl⟩
theorem fw_X8_9_8 : hk_fw RX8 9 8 0 (tyX8 0) true := ⟨_, _, _, _, "HonestHouse$Wishes", cl_8, by decide +kernel, wd_38, Or.inl rfl, rfl, rfl, fun _ => rfl⟩
theorem fl_X3_13_8 : hk_fl RX3 13 8 0 := ⟨_, _, _, _, "HonestHouse$Wishes", cl_8, by decide +kernel, wd_39, Or.inl rfl⟩
theorem fl_X0_40_8 : hk_fl RX0 40 8 0 := ⟨_, _, _, _, "HonestHouse$Wishes", cl_8, by decide +kernel, wd_40, Or.inl rfl⟩
theorem fl_X2_35_8 : hk_fl RX2 35 8 0 := ⟨_, _, _, _, "HonestHouse$Wishes", cl_8, by decide +kernel, wd_41, Or.inl rfl⟩
theorem fl_X7_51_8 : hk_fl RX7 51 8 0 := ⟨_, _, _, _, "HonestHouse$Wishes", cl_8, by decide +kernel, wd_42, Or.inl rfl⟩
theorem fl_X8_15_8 : hk_fl RX8 15 8 1 := ⟨_, _, _, _, "HonestHouse$Wishes", cl_8, by decide +kernel, wd_43, Or.inl rfl⟩
theorem fw_X8_15_8 : hk_fw RX8 15 8 1 (tyX8 1) true := ⟨_, _, _, _, "HonestHouse$Wishes", cl_8, by decide +kernel, wd_43, Or.inl rfl, rfl, rfl, fun _ => rfl⟩
theorem fl_X6_56_8 : hk_fl RX6 56 8 1 := ⟨_, _, _, _, "HonestHouse$Wishes", cl_8, by decide +kernel, wd_44, Or.inl rfl⟩
theorem fl_X2_48_8 : hk_fl RX2 48 8 1 := ⟨_, _, _, _, "HonestHouse$Wishes", cl_8, by decide +kernel, wd_45, Or.inl rfl⟩
theorem fl_X7_45_8 : hk_fl RX7 45 8 1 := ⟨_, _, _, _, "HonestHouse$Wishes", cl_8, by decide +kernel, wd_46, Or.inl rfl⟩
theorem fl_X0_116_8 : hk_fl RX0 116 8 1 := ⟨_, _, _, _, "HonestHouse$Wishes", cl_8, by decide +kernel, wd_47, Or.inl rfl⟩
theorem fl_X8_18_8 : hk_fl RX8 18 8 2 := ⟨_, _, _, _, "HonestHouse$Wishes", cl_8, by decide +kernel, wd_48, Or.inl rfl⟩
theorem fw_X8_18_8 : hk_fw RX8 18 8 2 (tyX8 2) true := ⟨_, _, _, _, "HonestHouse$Wishes", cl_8, by decide +kernel, wd_48, Or.inl rfl, rfl, rfl, fun _ => rfl⟩
theorem fl_X8_22_8 : hk_fl RX8 22 8 3 := ⟨_, _, _, _, "HonestHouse$Wishes", cl_8, by decide +kernel, wd_49, Or.inl rfl⟩
theorem fw_X8_22_8 : hk_fw RX8 22 8 3 (tyX8 3) true := ⟨_, _, _, _, "HonestHouse$Wishes", cl_8, by decide +kernel, wd_49, Or.inl rfl, rfl, rfl, fun _ => rfl⟩
theorem fl_X0_29_8 : hk_fl RX0 29 8 3 := ⟨_, _, _, _, "HonestHouse$Wishes", cl_8, by decide +kernel, wd_50, Or.inl rfl⟩
theorem fl_X8_25_8 : hk_fl RX8 25 8 4 := ⟨_, _, _, _, "HonestHouse$Wishes", cl_8, by decide +kernel, wd_51, Or.inl rfl⟩
theorem fw_X8_25_8 : hk_fw RX8 25 8 4 (tyX8 4) false := ⟨_, _, _, _, "HonestHouse$Wishes", cl_8, by decide +kernel, wd_51, Or.inl rfl, rfl, rfl, fun h => by cases h⟩
theorem fl_X9_69_8 : hk_fl RX9 69 8 4 := ⟨_, _, _, _, "HonestHouse$Wishes", cl_8, by decide +kernel, wd_52, Or.inl rfl⟩
theorem fl_X6_29_8 : hk_fl RX6 29 8 4 := ⟨_, _, _, _, "HonestHouse$Wishes", cl_8, by decide +kernel, wd_53, Or.inl rfl⟩
theorem fl_X0_95_8 : hk_fl RX0 95 8 4 := ⟨_, _, _, _, "HonestHouse$Wishes", cl_8, by decide +kernel, wd_54, Or.inl rfl⟩
theorem fl_X3_7_8 : hk_fl RX3 7 8 5 := ⟨_, _, _, _, "HonestHouse$Wishes", cl_8, by decide +kernel, wd_55, Or.inl rfl⟩
theorem fl_X5_19_8 : hk_fl RX5 19 8 5 := ⟨_, _, _, _, "HonestHouse$Wishes", cl_8, by decide +kernel, wd_56, Or.inl rfl⟩
theorem fl_X0_52_8 : hk_fl RX0 52 8 5 := ⟨_, _, _, _, "HonestHouse$Wishes", cl_8, by decide +kernel, wd_57, Or.inl rfl⟩
theorem fl_X8_28_8 : hk_fl RX8 28 8 5 := ⟨_, _, _, _, "HonestHouse$Wishes", cl_8, by decide +kernel, wd_58, Or.inl rfl⟩
theorem fw_X8_28_8 : hk_fw RX8 28 8 5 (tyX8 5) false := ⟨_, _, _, _, "HonestHouse$Wishes", cl_8, by decide +kernel, wd_58, Or.inl rfl, rfl, rfl, fun h => by cases h⟩
theorem fl_X9_162_8 : hk_fl RX9 162 8 5 := ⟨_, _, _, _, "HonestHouse$Wishes", cl_8, by decide +kernel, wd_59, Or.inl rfl⟩
theorem fl_X0_9_0 : hk_fl RX0 9 0 0 := ⟨_, _, _, _, "HonestHouse$Heap", cl_0, by decide +kernel, wd_82, Or.inl rfl⟩
theorem fw_X0_9_0 : hk_fw RX0 9 0 0 (tyX0 0) true := ⟨_, _, _, _, "HonestHouse$Heap", cl_0, by decide +kernel, wd_82, Or.inl rfl, rfl, rfl, fun _ => rfl⟩
theorem fl_X0_15_0 : hk_fl RX0 15 0 1 := ⟨_, _, _, _, "HonestHouse$Heap", cl_0, by decide +kernel, wd_83, Or.inl rfl⟩
theorem fw_X0_15_0 : hk_fw RX0 15 0 1 (tyX0 1) true := ⟨_, _, _, _, "HonestHouse$Heap", cl_0, by decide +kernel, wd_83, Or.inl rfl, rfl, rfl, fun _ => rfl⟩
theorem fl_X0_19_0 : hk_fl RX0 19 0 2 := ⟨_, _, _, _, "HonestHouse$Heap", cl_0, by decide +kernel, wd_84, Or.inl rfl⟩
theorem fw_X0_19_0 : hk_fw RX0 19 0 2 (tyX0 2) true := ⟨_, _, _, _, "HonestHouse$Heap", cl_0, by decide +kernel, wd_84, Or.inl rfl, rfl, rfl, fun _ => rfl⟩
theorem fl_X0_22_0 : hk_fl RX0 22 0 3 := ⟨_, _, _, _, "HonestHouse$Heap", cl_0, by decide +kernel, wd_85, Or.inl rfl⟩
theorem fw_X0_22_0 : hk_fw RX0 22 0 3 (tyX0 3) true := ⟨_, _, _, _, "HonestHouse$Heap", cl_0, by decide +kernel, wd_85, Or.inl rfl, rfl, rfl, fun _ => rfl⟩
theorem fl_X0_25_0 : hk_fl RX0 25 0 4 := ⟨_, _, _, _, "HonestHouse$Heap", cl_0, by decide +kernel, wd_86, Or.inl rfl⟩
theorem fw_X0_25_0 : hk_fw RX0 25 0 4 (tyX0 4) false := ⟨_, _, _, _, "HonestHouse$Heap", cl_0, by decide +kernel, wd_86, Or.inl rfl, rfl, rfl, fun h => by cases h⟩
theorem fl_X0_49_0 : hk_fl RX0 49 0 5 := ⟨_, _, _, _, "HonestHouse$Heap", cl_0, by decide +kernel, wd_87, Or.inl rfl⟩
theorem fw_X0_49_0 : hk_fw RX0 49 0 5 (tyX0 5) false := ⟨_, _, _, _, "HonestHouse$Heap", cl_0, by decide +kernel, wd_87, Or.inl rfl, rfl, rfl, fun h => by cases h⟩
theorem fl_X6_9_6 : hk_fl RX6 9 6 0 := ⟨_, _, _, _, "HonestHouse$Ways", cl_6, by decide +kernel, wd_107, Or.inl rfl⟩
theorem fw_X6_9_6 : hk_fw RX6 9 6 0 (tyX6 0) true := ⟨_, _, _, _, "HonestHouse$Ways", cl_6, by decide +kernel, wd_107, Or.inl rfl, rfl, rfl, fun _ => rfl⟩
theorem fl_X6_15_6 : hk_fl RX6 15 6 1 := ⟨_, _, _, _, "HonestHouse$Ways", cl_6, by decide +kernel, wd_108, Or.inl rfl⟩
theorem fw_X6_15_6 : hk_fw RX6 15 6 1 (tyX6 1) true := ⟨_, _, _, _, "HonestHouse$Ways", cl_6, by decide +kernel, wd_108, Or.inl rfl, rfl, rfl, fun _ => rfl⟩
theorem fl_X9_207_6 : hk_fl RX9 207 6 1 := ⟨_, _, _, _, "HonestHouse$Ways", cl_6, by decide +kernel, wd_109, Or.inl rfl⟩
theorem fl_X6_19_6 : hk_fl RX6 19 6 2 := ⟨_, _, _, _, "HonestHouse$Ways", cl_6, by decide +kernel, wd_110, Or.inl rfl⟩
theorem fw_X6_19_6 : hk_fw RX6 19 6 2 (tyX6 2) true := ⟨_, _, _, _, "HonestHouse$Ways", cl_6, by decide +kernel, wd_110, Or.inl rfl, rfl, rfl, fun _ => rfl⟩
theorem fl_X6_23_6 : hk_fl RX6 23 6 3 := ⟨_, _, _, _, "HonestHouse$Ways", cl_6, by decide +kernel, wd_111, Or.inl rfl⟩
theorem fw_X6_23_6 : hk_fw RX6 23 6 3 (tyX6 3) true := ⟨_, _, _, _, "HonestHouse$Ways", cl_6, by decide +kernel, wd_111, Or.inl rfl, rfl, rfl, fun _ => rfl⟩
theorem fl_X6_26_6 : hk_fl RX6 26 6 4 := ⟨_, _, _, _, "HonestHouse$Ways", cl_6, by decide +kernel, wd_112, Or.inl rfl⟩
theorem fw_X6_26_6 : hk_fw RX6 26 6 4 (tyX6 4) true := ⟨_, _, _, _, "HonestHouse$Ways", cl_6, by decide +kernel, wd_112, Or.inl rfl, rfl, rfl, fun _ => rfl⟩
theorem fl_X1_9_1 : hk_fl RX1 9 1 0 := ⟨_, _, _, _, "HonestHouse$Market", cl_1, by decide +kernel, wd_137, Or.inl rfl⟩
theorem fw_X1_9_1 : hk_fw RX1 9 1 0 (tyX1 0) true := ⟨_, _, _, _, "HonestHouse$Market", cl_1, by decide +kernel, wd_137, Or.inl rfl, rfl, rfl, fun _ => rfl⟩
theorem fl_X1_25_1 : hk_fl RX1 25 1 1 := ⟨_, _, _, _, "HonestHouse$Market", cl_1, by decide +kernel, wd_138, Or.inl rfl⟩
theorem fw_X1_25_1 : hk_fw RX1 25 1 1 (tyX1 1) true := ⟨_, _, _, _, "HonestHouse$Market", cl_1, by decide +kernel, wd_138, Or.inl rfl, rfl, rfl, fun _ => rfl⟩
theorem fl_X9_261_1 : hk_fl RX9 261 1 1 := ⟨_, _, _, _, "HonestHouse$Market", cl_1, by decide +kernel, wd_139, Or.inl rfl⟩
theorem fl_X1_28_1 : hk_fl RX1 28 1 2 := ⟨_, _, _, _, "HonestHouse$Market", cl_1, by decide +kernel, wd_140, Or.inl rfl⟩
theorem fw_X1_28_1 : hk_fw RX1 28 1 2 (tyX1 2) true := ⟨_, _, _, _, "HonestHouse$Market", cl_1, by decide +kernel, wd_140, Or.inl rfl, rfl, rfl, fun _ => rfl⟩
theorem fl_X1_31_1 : hk_fl RX1 31 1 3 := ⟨_, _, _, _, "HonestHouse$Market", cl_1, by decide +kernel, wd_141, Or.inl rfl⟩
theorem fw_X1_31_1 : hk_fw RX1 31 1 3 (tyX1 3) true := ⟨_, _, _, _, "HonestHouse$Market", cl_1, by decide +kernel, wd_141, Or.inl rfl, rfl, rfl, fun _ => rfl⟩
theorem fl_X1_34_1 : hk_fl RX1 34 1 4 := ⟨_, _, _, _, "HonestHouse$Market", cl_1, by decide +kernel, wd_142, Or.inl rfl⟩
theorem fw_X1_34_1 : hk_fw RX1 34 1 4 (tyX1 4) true := ⟨_, _, _, _, "HonestHouse$Market", cl_1, by decide +kernel, wd_142, Or.inl rfl, rfl, rfl, fun _ => rfl⟩
theorem fl_X1_37_1 : hk_fl RX1 37 1 5 := ⟨_, _, _, _, "HonestHouse$Market", cl_1, by decide +kernel, wd_143, Or.inl rfl⟩
theorem fw_X1_37_1 : hk_fw RX1 37 1 5 (tyX1 5) true := ⟨_, _, _, _, "HonestHouse$Market", cl_1, by decide +kernel, wd_143, Or.inl rfl, rfl, rfl, fun _ => rfl⟩
theorem fl_X1_40_1 : hk_fl RX1 40 1 6 := ⟨_, _, _, _, "HonestHouse$Market", cl_1, by decide +kernel, wd_144, Or.inl rfl⟩
theorem fw_X1_40_1 : hk_fw RX1 40 1 6 (tyX1 6) true := ⟨_, _, _, _, "HonestHouse$Market", cl_1, by decide +kernel, wd_144, Or.inl rfl, rfl, rfl, fun _ => rfl⟩
theorem fl_X9_251_1 : hk_fl RX9 251 1 6 := ⟨_, _, _, _, "HonestHouse$Market", cl_1, by decide +kernel, wd_145, Or.inl rfl⟩
theorem fl_X1_43_1 : hk_fl RX1 43 1 7 := ⟨_, _, _, _, "HonestHouse$Market", cl_1, by decide +kernel, wd_146, Or.inl rfl⟩
theorem fw_X1_43_1 : hk_fw RX1 43 1 7 (tyX1 7) true := ⟨_, _, _, _, "HonestHouse$Market", cl_1, by decide +kernel, wd_146, Or.inl rfl, rfl, rfl, fun _ => rfl⟩
theorem fl_X1_46_1 : hk_fl RX1 46 1 8 := ⟨_, _, _, _, "HonestHouse$Market", cl_1, by decide +kernel, wd_147, Or.inl rfl⟩
theorem fw_X1_46_1 : hk_fw RX1 46 1 8 (tyX1 8) true := ⟨_, _, _, _, "HonestHouse$Market", cl_1, by decide +kernel, wd_147, Or.inl rfl, rfl, rfl, fun _ => rfl⟩
theorem fl_X4_15_4 : hk_fl RX4 15 4 0 := ⟨_, _, _, _, "HonestHouse$Shelf", cl_4, by decide +kernel, wd_174, Or.inl rfl⟩
theorem fw_X4_15_4 : hk_fw RX4 15 4 0 (tyX4 0) false := ⟨_, _, _, _, "HonestHouse$Shelf", cl_4, by decide +kernel, wd_174, Or.inl rfl, rfl, rfl, fun h => by cases h⟩
theorem fl_X9_310_4 : hk_fl RX9 310 4 0 := ⟨_, _, _, _, "HonestHouse$Shelf", cl_4, by decide +kernel, wd_175, Or.inl rfl⟩
theorem fl_X4_19_4 : hk_fl RX4 19 4 1 := ⟨_, _, _, _, "HonestHouse$Shelf", cl_4, by decide +kernel, wd_176, Or.inl rfl⟩
theorem fw_X4_19_4 : hk_fw RX4 19 4 1 (tyX4 1) false := ⟨_, _, _, _, "HonestHouse$Shelf", cl_4, by decide +kernel, wd_176, Or.inl rfl, rfl, rfl, fun h => by cases h⟩
theorem fl_X9_330_4 : hk_fl RX9 330 4 1 := ⟨_, _, _, _, "HonestHouse$Shelf", cl_4, by decide +kernel, wd_177, Or.inl rfl⟩
theorem fl_X4_29_4 : hk_fl RX4 29 4 2 := ⟨_, _, _, _, "HonestHouse$Shelf", cl_4, by decide +kernel, wd_178, Or.inl rfl⟩
theorem fw_X4_29_4 : hk_fw RX4 29 4 2 (tyX4 2) false := ⟨_, _, _, _, "HonestHouse$Shelf", cl_4, by decide +kernel, wd_178, Or.inl rfl, rfl, rfl, fun h => by cases h⟩
theorem fl_X9_327_4 : hk_fl RX9 327 4 2 := ⟨_, _, _, _, "HonestHouse$Shelf", cl_4, by decide +kernel, wd_179, Or.inl rfl⟩
theorem fl_X4_31_4 : hk_fl RX4 31 4 3 := ⟨_, _, _, _, "HonestHouse$Shelf", cl_4, by decide +kernel, wd_180, Or.inl rfl⟩
theorem fw_X4_31_4 : hk_fw RX4 31 4 3 (tyX4 3) false := ⟨_, _, _, _, "HonestHouse$Shelf", cl_4, by decide +kernel, wd_180, Or.inl rfl, rfl, rfl, fun h => by cases h⟩
theorem fl_X9_301_4 : hk_fl RX9 301 4 3 := ⟨_, _, _, _, "HonestHouse$Shelf", cl_4, by decide +kernel, wd_181, Or.inl rfl⟩
theorem fl_X4_9_4 : hk_fl RX4 9 4 4 := ⟨_, _, _, _, "HonestHouse$Shelf", cl_4, by decide +kernel, wd_182, Or.inl rfl⟩
theorem fw_X4_9_4 : hk_fw RX4 9 4 4 (tyX4 4) true := ⟨_, _, _, _, "HonestHouse$Shelf", cl_4, by decide +kernel, wd_182, Or.inl rfl, rfl, rfl, fun _ => rfl⟩
theorem fl_X9_306_4 : hk_fl RX9 306 4 4 := ⟨_, _, _, _, "HonestHouse$Shelf", cl_4, by decide +kernel, wd_183, Or.inl rfl⟩
theorem fl_X9_18_9 : hk_fl RX9 18 9 0 := ⟨_, _, _, _, "HonestHouse", cl_9, by decide +kernel, wd_196, Or.inl rfl⟩
theorem fw_X9_18_9 : hk_fw RX9 18 9 0 (tyX9 0) true := ⟨_, _, _, _, "HonestHouse", cl_9, by decide +kernel, wd_196, Or.inl rfl, rfl, rfl, fun _ => rfl⟩
theorem fl_X9_24_9 : hk_fl RX9 24 9 1 := ⟨_, _, _, _, "HonestHouse", cl_9, by decide +kernel, wd_197, Or.inl rfl⟩
theorem fw_X9_24_9 : hk_fw RX9 24 9 1 (tyX9 1) true := ⟨_, _, _, _, "HonestHouse", cl_9, by decide +kernel, wd_197, Or.inl rfl, rfl, rfl, fun _ => rfl⟩
theorem fl_X9_27_9 : hk_fl RX9 27 9 2 := ⟨_, _, _, _, "HonestHouse", cl_9, by decide +kernel, wd_198, Or.inl rfl⟩
theorem fw_X9_27_9 : hk_fw RX9 27 9 2 (tyX9 2) true := ⟨_, _, _, _, "HonestHouse", cl_9, by decide +kernel, wd_198, Or.inl rfl, rfl, rfl, fun _ => rfl⟩
theorem fl_X9_33_9 : hk_fl RX9 33 9 3 := ⟨_, _, _, _, "HonestHouse", cl_9, by decide +kernel, wd_199, Or.inl rfl⟩
theorem fw_X9_33_9 : hk_fw RX9 33 9 3 (tyX9 3) true := ⟨_, _, _, _, "HonestHouse", cl_9, by decide +kernel, wd_199, Or.inl rfl, rfl, rfl, fun _ => rfl⟩
theorem fl_X9_72_9 : hk_fl RX9 72 9 4 := ⟨_, _, _, _, "HonestHouse", cl_9, by decide +kernel, wd_200, Or.inl rfl⟩
theorem fw_X9_72_9 : hk_fw RX9 72 9 4 (tyX9 4) false := ⟨_, _, _, _, "HonestHouse", cl_9, by decide +kernel, wd_200, Or.inl rfl, rfl, rfl, fun h => by cases h⟩
theorem fl_X9_42_9 : hk_fl RX9 42 9 5 := ⟨_, _, _, _, "HonestHouse", cl_9, by decide +kernel, wd_201, Or.inl rfl⟩
theorem fw_X9_42_9 : hk_fw RX9 42 9 5 (tyX9 5) true := ⟨_, _, _, _, "HonestHouse", cl_9, by decide +kernel, wd_201, Or.inl rfl, rfl, rfl, fun _ => rfl⟩
theorem fl_X9_49_9 : hk_fl RX9 49 9 6 := ⟨_, _, _, _, "HonestHouse", cl_9, by decide +kernel, wd_202, Or.inl rfl⟩
theorem fw_X9_49_9 : hk_fw RX9 49 9 6 (tyX9 6) true := ⟨_, _, _, _, "HonestHouse", cl_9, by decide +kernel, wd_202, Or.inl rfl, rfl, rfl, fun _ => rfl⟩
theorem fl_X9_58_9 : hk_fl RX9 58 9 7 := ⟨_, _, _, _, "HonestHouse", cl_9, by decide +kernel, wd_203, Or.inl rfl⟩
theorem fw_X9_58_9 : hk_fw RX9 58 9 7 (tyX9 7) true := ⟨_, _, _, _, "HonestHouse", cl_9, by decide +kernel, wd_203, Or.inl rfl, rfl, rfl, fun _ => rfl⟩
theorem fl_X9_64_9 : hk_fl RX9 64 9 8 := ⟨_, _, _, _, "HonestHouse", cl_9, by decide +kernel, wd_204, Or.inl rfl⟩
theorem fw_X9_64_9 : hk_fw RX9 64 9 8 (tyX9 8) true := ⟨_, _, _, _, "HonestHouse", cl_9, by decide +kernel, wd_204, Or.inl rfl, rfl, rfl, fun _ => rfl⟩
theorem fl_X3_16_3 : hk_fl RX3 16 3 3 := ⟨_, _, _, _, "HonestHouse$Paid", cl_3, by decide +kernel, wd_271, Or.inl rfl⟩
theorem fw_X3_16_3 : hk_fw RX3 16 3 3 (tyX3 3) true := ⟨_, _, _, _, "HonestHouse$Paid", cl_3, by decide +kernel, wd_271, Or.inl rfl, rfl, rfl, fun _ => rfl⟩
theorem fl_X3_16_7 : hk_fl RX3 16 7 0 := ⟨_, _, _, _, "HonestHouse$Paid", cl_7, by decide +kernel, wd_271, Or.inl rfl⟩
theorem fw_X3_16_7 : hk_fw RX3 16 7 0 (tyX7 0) true := ⟨_, _, _, _, "HonestHouse$Paid", cl_7, by decide +kernel, wd_271, Or.inl rfl, rfl, rfl, fun _ => rfl⟩
theorem fl_X7_62_3 : hk_fl RX7 62 3 3 := ⟨_, _, _, _, "HonestHouse$Weighed", cl_3, by decide +kernel, wd_272, Or.inr wd_273⟩
theorem fl_X7_62_7 : hk_fl RX7 62 7 0 := ⟨_, _, _, _, "HonestHouse$Weighed", cl_7, by decide +kernel, wd_272, Or.inr wd_273⟩
theorem fl_X5_9_2 : hk_fl RX5 9 2 0 := ⟨_, _, _, _, "HonestHouse$Table", cl_2, by decide +kernel, wd_274, Or.inl rfl⟩
theorem fw_X5_9_2 : hk_fw RX5 9 2 0 (tyX2 0) true := ⟨_, _, _, _, "HonestHouse$Table", cl_2, by decide +kernel, wd_274, Or.inl rfl, rfl, rfl, fun _ => rfl⟩
theorem fl_X5_9_3 : hk_fl RX5 9 3 0 := ⟨_, _, _, _, "HonestHouse$Table", cl_3, by decide +kernel, wd_274, Or.inl rfl⟩
theorem fw_X5_9_3 : hk_fw RX5 9 3 0 (tyX3 0) true := ⟨_, _, _, _, "HonestHouse$Table", cl_3, by decide +kernel, wd_274, Or.inl rfl, rfl, rfl, fun _ => rfl⟩
theorem fl_X5_9_5 : hk_fl RX5 9 5 0 := ⟨_, _, _, _, "HonestHouse$Table", cl_5, by decide +kernel, wd_274, Or.inl rfl⟩
theorem fw_X5_9_5 : hk_fw RX5 9 5 0 (tyX5 0) true := ⟨_, _, _, _, "HonestHouse$Table", cl_5, by decide +kernel, wd_274, Or.inl rfl, rfl, rfl, fun _ => rfl⟩
theorem fl_X5_9_7 : hk_fl RX5 9 7 1 := ⟨_, _, _, _, "HonestHouse$Table", cl_7, by decide +kernel, wd_274, Or.inl rfl⟩
theorem fw_X5_9_7 : hk_fw RX5 9 7 1 (tyX7 1) true := ⟨_, _, _, _, "HonestHouse$Table", cl_7, by decide +kernel, wd_274, Or.inl rfl, rfl, rfl, fun _ => rfl⟩
theorem fl_X9_383_2 : hk_fl RX9 383 2 0 := ⟨_, _, _, _, "HonestHouse$Table", cl_2, by decide +kernel, wd_275, Or.inl rfl⟩
theorem fl_X9_383_3 : hk_fl RX9 383 3 0 := ⟨_, _, _, _, "HonestHouse$Table", cl_3, by decide +kernel, wd_275, Or.inl rfl⟩
theorem fl_X9_383_5 : hk_fl RX9 383 5 0 := ⟨_, _, _, _, "HonestHouse$Table", cl_5, by decide +kernel, wd_275, Or.inl rfl⟩
theorem fl_X9_383_7 : hk_fl RX9 383 7 1 := ⟨_, _, _, _, "HonestHouse$Table", cl_7, by decide +kernel, wd_275, Or.inl rfl⟩
theorem fl_X5_15_2 : hk_fl RX5 15 2 1 := ⟨_, _, _, _, "HonestHouse$Table", cl_2, by decide +kernel, wd_276, Or.inl rfl⟩
theorem fw_X5_15_2 : hk_fw RX5 15 2 1 (tyX2 1) true := ⟨_, _, _, _, "HonestHouse$Table", cl_2, by decide +kernel, wd_276, Or.inl rfl, rfl, rfl, fun _ => rfl⟩
theorem fl_X5_15_3 : hk_fl RX5 15 3 1 := ⟨_, _, _, _, "HonestHouse$Table", cl_3, by decide +kernel, wd_276, Or.inl rfl⟩
theorem fw_X5_15_3 : hk_fw RX5 15 3 1 (tyX3 1) true := ⟨_, _, _, _, "HonestHouse$Table", cl_3, by decide +kernel, wd_276, Or.inl rfl, rfl, rfl, fun _ => rfl⟩
theorem fl_X5_15_5 : hk_fl RX5 15 5 1 := ⟨_, _, _, _, "HonestHouse$Table", cl_5, by decide +kernel, wd_276, Or.inl rfl⟩
theorem fw_X5_15_5 : hk_fw RX5 15 5 1 (tyX5 1) true := ⟨_, _, _, _, "HonestHouse$Table", cl_5, by decide +kernel, wd_276, Or.inl rfl, rfl, rfl, fun _ => rfl⟩
theorem fl_X5_15_7 : hk_fl RX5 15 7 2 := ⟨_, _, _, _, "HonestHouse$Table", cl_7, by decide +kernel, wd_276, Or.inl rfl⟩
theorem fw_X5_15_7 : hk_fw RX5 15 7 2 (tyX7 2) true := ⟨_, _, _, _, "HonestHouse$Table", cl_7, by decide +kernel, wd_276, Or.inl rfl, rfl, rfl, fun _ => rfl⟩
theorem fl_X3_22_2 : hk_fl RX3 22 2 1 := ⟨_, _, _, _, "HonestHouse$Paid", cl_2, by decide +kernel, wd_277, Or.inr wd_278⟩
theorem fl_X3_22_3 : hk_fl RX3 22 3 1 := ⟨_, _, _, _, "HonestHouse$Paid", cl_3, by decide +kernel, wd_277, Or.inr wd_278⟩
theorem fl_X3_22_5 : hk_fl RX3 22 5 1 := ⟨_, _, _, _, "HonestHouse$Paid", cl_5, by decide +kernel, wd_277, Or.inr wd_278⟩
theorem fl_X3_22_7 : hk_fl RX3 22 7 2 := ⟨_, _, _, _, "HonestHouse$Paid", cl_7, by decide +kernel, wd_277, Or.inr wd_278⟩
theorem fl_X2_31_2 : hk_fl RX2 31 2 1 := ⟨_, _, _, _, "HonestHouse$Middle", cl_2, by decide +kernel, wd_279, Or.inr wd_280⟩
theorem fl_X2_31_3 : hk_fl RX2 31 3 1 := ⟨_, _, _, _, "HonestHouse$Middle", cl_3, by decide +kernel, wd_279, Or.inr wd_280⟩
theorem fl_X2_31_5 : hk_fl RX2 31 5 1 := ⟨_, _, _, _, "HonestHouse$Middle", cl_5, by decide +kernel, wd_279, Or.inr wd_280⟩
theorem fl_X2_31_7 : hk_fl RX2 31 7 2 := ⟨_, _, _, _, "HonestHouse$Middle", cl_7, by decide +kernel, wd_279, Or.inr wd_280⟩
theorem fl_X7_41_2 : hk_fl RX7 41 2 1 := ⟨_, _, _, _, "HonestHouse$Weighed", cl_2, by decide +kernel, wd_281, Or.inr wd_282⟩
theorem fl_X7_41_3 : hk_fl RX7 41 3 1 := ⟨_, _, _, _, "HonestHouse$Weighed", cl_3, by decide +kernel, wd_281, Or.inr wd_282⟩
theorem fl_X7_41_5 : hk_fl RX7 41 5 1 := ⟨_, _, _, _, "HonestHouse$Weighed", cl_5, by decide +kernel, wd_281, Or.inr wd_282⟩
theorem fl_X7_41_7 : hk_fl RX7 41 7 2 := ⟨_, _, _, _, "HonestHouse$Weighed", cl_7, by decide +kernel, wd_281, Or.inr wd_282⟩
theorem fl_X5_24_2 : hk_fl RX5 24 2 2 := ⟨_, _, _, _, "HonestHouse$Table", cl_2, by decide +kernel, wd_283, Or.inl rfl⟩
theorem fw_X5_24_2 : hk_fw RX5 24 2 2 (tyX2 2) true := ⟨_, _, _, _, "HonestHouse$Table", cl_2, by decide +kernel, wd_283, Or.inl rfl, rfl, rfl, fun _ => rfl⟩
theorem fl_X5_24_3 : hk_fl RX5 24 3 2 := ⟨_, _, _, _, "HonestHouse$Table", cl_3, by decide +kernel, wd_283, Or.inl rfl⟩
theorem fw_X5_24_3 : hk_fw RX5 24 3 2 (tyX3 2) true := ⟨_, _, _, _, "HonestHouse$Table", cl_3, by decide +kernel, wd_283, Or.inl rfl, rfl, rfl, fun _ => rfl⟩
theorem fl_X5_24_5 : hk_fl RX5 24 5 2 := ⟨_, _, _, _, "HonestHouse$Table", cl_5, by decide +kernel, wd_283, Or.inl rfl⟩
theorem fw_X5_24_5 : hk_fw RX5 24 5 2 (tyX5 2) true := ⟨_, _, _, _, "HonestHouse$Table", cl_5, by decide +kernel, wd_283, Or.inl rfl, rfl, rfl, fun _ => rfl⟩
theorem fl_X5_24_7 : hk_fl RX5 24 7 3 := ⟨_, _, _, _, "HonestHouse$Table", cl_7, by decide +kernel, wd_283, Or.inl rfl⟩
theorem fw_X5_24_7 : hk_fw RX5 24 7 3 (tyX7 3) true := ⟨_, _, _, _, "HonestHouse$Table", cl_7, by decide +kernel, wd_283, Or.inl rfl, rfl, rfl, fun _ => rfl⟩
theorem fl_X2_18_2 : hk_fl RX2 18 2 2 := ⟨_, _, _, _, "HonestHouse$Middle", cl_2, by decide +kernel, wd_284, Or.inr wd_285⟩
theorem fl_X2_18_3 : hk_fl RX2 18 3 2 := ⟨_, _, _, _, "HonestHouse$Middle", cl_3, by decide +kernel, wd_284, Or.inr wd_285⟩
theorem fl_X2_18_5 : hk_fl RX2 18 5 2 := ⟨_, _, _, _, "HonestHouse$Middle", cl_5, by decide +kernel, wd_284, Or.inr wd_285⟩
theorem fl_X2_18_7 : hk_fl RX2 18 7 3 := ⟨_, _, _, _, "HonestHouse$Middle", cl_7, by decide +kernel, wd_284, Or.inr wd_285⟩
theorem fl_X7_27_2 : hk_fl RX7 27 2 2 := ⟨_, _, _, _, "HonestHouse$Weighed", cl_2, by decide +kernel, wd_286, Or.inr wd_287⟩
theorem fl_X7_27_3 : hk_fl RX7 27 3 2 := ⟨_, _, _, _, "HonestHouse$Weighed", cl_3, by decide +kernel, wd_286, Or.inr wd_287⟩
theorem fl_X7_27_5 : hk_fl RX7 27 5 2 := ⟨_, _, _, _, "HonestHouse$Weighed", cl_5, by decide +kernel, wd_286, Or.inr wd_287⟩
theorem fl_X7_27_7 : hk_fl RX7 27 7 3 := ⟨_, _, _, _, "HonestHouse$Weighed", cl_7, by decide +kernel, wd_286, Or.inr wd_287⟩
theorem fl_X7_9_7 : hk_fl RX7 9 7 4 := ⟨_, _, _, _, "HonestHouse$Weighed", cl_7, by decide +kernel, wd_306, Or.inl rfl⟩
theorem fw_X7_9_7 : hk_fw RX7 9 7 4 (tyX7 4) true := ⟨_, _, _, _, "HonestHouse$Weighed", cl_7, by decide +kernel, wd_306, Or.inl rfl, rfl, rfl, fun _ => rfl⟩
theorem fl_X7_15_7 : hk_fl RX7 15 7 5 := ⟨_, _, _, _, "HonestHouse$Weighed", cl_7, by decide +kernel, wd_307, Or.inl rfl⟩
theorem fw_X7_15_7 : hk_fw RX7 15 7 5 (tyX7 5) true := ⟨_, _, _, _, "HonestHouse$Weighed", cl_7, by decide +kernel, wd_307, Or.inl rfl, rfl, rfl, fun _ => rfl⟩
theorem fl_X7_18_7 : hk_fl RX7 18 7 6 := ⟨_, _, _, _, "HonestHouse$Weighed", cl_7, by decide +kernel, wd_308, Or.inl rfl⟩
theorem fw_X7_18_7 : hk_fw RX7 18 7 6 (tyX7 6) true := ⟨_, _, _, _, "HonestHouse$Weighed", cl_7, by decide +kernel, wd_308, Or.inl rfl, rfl, rfl, fun _ => rfl⟩
theorem fl_X2_9_2 : hk_fl RX2 9 2 3 := ⟨_, _, _, _, "HonestHouse$Middle", cl_2, by decide +kernel, wd_327, Or.inl rfl⟩
theorem fw_X2_9_2 : hk_fw RX2 9 2 3 (tyX2 3) true := ⟨_, _, _, _, "HonestHouse$Middle", cl_2, by decide +kernel, wd_327, Or.inl rfl, rfl, rfl, fun _ => rfl⟩
theorem fl_X2_15_2 : hk_fl RX2 15 2 4 := ⟨_, _, _, _, "HonestHouse$Middle", cl_2, by decide +kernel, wd_328, Or.inl rfl⟩
theorem fw_X2_15_2 : hk_fw RX2 15 2 4 (tyX2 4) true := ⟨_, _, _, _, "HonestHouse$Middle", cl_2, by decide +kernel, wd_328, Or.inl rfl, rfl, rfl, fun _ => rfl⟩
theorem fl_X10_97_10 : hk_fl RX10 97 10 0 := ⟨_, _, _, _, "HonestHouseModel", cl_10, by decide +kernel, wd_1117, Or.inl rfl⟩
theorem fw_X10_97_10 : hk_fw RX10 97 10 0 (tyX10 0) true := ⟨_, _, _, _, "HonestHouseModel", cl_10, by decide +kernel, wd_1117, Or.inl rfl, rfl, rfl, fun _ => rfl⟩
theorem fl_X10_101_10 : hk_fl RX10 101 10 1 := ⟨_, _, _, _, "HonestHouseModel", cl_10, by decide +kernel, wd_1118, Or.inl rfl⟩
theorem fw_X10_101_10 : hk_fw RX10 101 10 1 (tyX10 1) true := ⟨_, _, _, _, "HonestHouseModel", cl_10, by decide +kernel, wd_1118, Or.inl rfl, rfl, rfl, fun _ => rfl⟩
theorem fl_X10_110_10 : hk_fl RX10 110 10 2 := ⟨_, _, _, _, "HonestHouseModel", cl_10, by decide +kernel, wd_1119, Or.inl rfl⟩
theorem fw_X10_110_10 : hk_fw RX10 110 10 2 (tyX10 2) false := ⟨_, _, _, _, "HonestHouseModel", cl_10, by decide +kernel, wd_1119, Or.inl rfl, rfl, rfl, fun h => by cases h⟩
theorem fl_X10_116_10 : hk_fl RX10 116 10 3 := ⟨_, _, _, _, "HonestHouseModel", cl_10, by decide +kernel, wd_1120, Or.inl rfl⟩
theorem fw_X10_116_10 : hk_fw RX10 116 10 3 (tyX10 3) false := ⟨_, _, _, _, "HonestHouseModel", cl_10, by decide +kernel, wd_1120, Or.inl rfl, rfl, rfl, fun h => by cases h⟩
theorem fl_X10_113_10 : hk_fl RX10 113 10 4 := ⟨_, _, _, _, "HonestHouseModel", cl_10, by decide +kernel, wd_1121, Or.inl rfl⟩
theorem fw_X10_113_10 : hk_fw RX10 113 10 4 (tyX10 4) false := ⟨_, _, _, _, "HonestHouseModel", cl_10, by decide +kernel, wd_1121, Or.inl rfl, rfl, rfl, fun h => by cases h⟩
theorem fl_X10_9_10 : hk_fl RX10 9 10 5 := ⟨_, _, _, _, "HonestHouseModel", cl_10, by decide +kernel, wd_1122, Or.inl rfl⟩
theorem fw_X10_9_10 : hk_fw RX10 9 10 5 (tyX10 5) true := ⟨_, _, _, _, "HonestHouseModel", cl_10, by decide +kernel, wd_1122, Or.inl rfl, rfl, rfl, fun _ => rfl⟩
theorem fl_X10_13_10 : hk_fl RX10 13 10 6 := ⟨_, _, _, _, "HonestHouseModel", cl_10, by decide +kernel, wd_1123, Or.inl rfl⟩
theorem fw_X10_13_10 : hk_fw RX10 13 10 6 (tyX10 6) true := ⟨_, _, _, _, "HonestHouseModel", cl_10, by decide +kernel, wd_1123, Or.inl rfl, rfl, rfl, fun _ => rfl⟩
theorem fl_X10_16_10 : hk_fl RX10 16 10 7 := ⟨_, _, _, _, "HonestHouseModel", cl_10, by decide +kernel, wd_1124, Or.inl rfl⟩
theorem fw_X10_16_10 : hk_fw RX10 16 10 7 (tyX10 7) true := ⟨_, _, _, _, "HonestHouseModel", cl_10, by decide +kernel, wd_1124, Or.inl rfl, rfl, rfl, fun _ => rfl⟩
theorem fl_X10_19_10 : hk_fl RX10 19 10 8 := ⟨_, _, _, _, "HonestHouseModel", cl_10, by decide +kernel, wd_1125, Or.inl rfl⟩
theorem fw_X10_19_10 : hk_fw RX10 19 10 8 (tyX10 8) true := ⟨_, _, _, _, "HonestHouseModel", cl_10, by decide +kernel, wd_1125, Or.inl rfl, rfl, rfl, fun _ => rfl⟩
theorem fl_X10_23_10 : hk_fl RX10 23 10 9 := ⟨_, _, _, _, "HonestHouseModel", cl_10, by decide +kernel, wd_1126, Or.inl rfl⟩
theorem fw_X10_23_10 : hk_fw RX10 23 10 9 (tyX10 9) true := ⟨_, _, _, _, "HonestHouseModel", cl_10, by decide +kernel, wd_1126, Or.inl rfl, rfl, rfl, fun _ => rfl⟩
theorem fl_X10_26_10 : hk_fl RX10 26 10 10 := ⟨_, _, _, _, "HonestHouseModel", cl_10, by decide +kernel, wd_1127, Or.inl rfl⟩
theorem fw_X10_26_10 : hk_fw RX10 26 10 10 (tyX10 10) true := ⟨_, _, _, _, "HonestHouseModel", cl_10, by decide +kernel, wd_1127, Or.inl rfl, rfl, rfl, fun _ => rfl⟩
theorem fl_X10_29_10 : hk_fl RX10 29 10 11 := ⟨_, _, _, _, "HonestHouseModel", cl_10, by decide +kernel, wd_1128, Or.inl rfl⟩
theorem fw_X10_29_10 : hk_fw RX10 29 10 11 (tyX10 11) true := ⟨_, _, _, _, "HonestHouseModel", cl_10, by decide +kernel, wd_1128, Or.inl rfl, rfl, rfl, fun _ => rfl⟩
theorem fl_X10_32_10 : hk_fl RX10 32 10 12 := ⟨_, _, _, _, "HonestHouseModel", cl_10, by decide +kernel, wd_1129, Or.inl rfl⟩
theorem fw_X10_32_10 : hk_fw RX10 32 10 12 (tyX10 12) true := ⟨_, _, _, _, "HonestHouseModel", cl_10, by decide +kernel, wd_1129, Or.inl rfl, rfl, rfl, fun _ => rfl⟩
theorem fl_X10_107_10 : hk_fl RX10 107 10 13 := ⟨_, _, _, _, "HonestHouseModel", cl_10, by decide +kernel, wd_1130, Or.inl rfl⟩
theorem fw_X10_107_10 : hk_fw RX10 107 10 13 (tyX10 13) false := ⟨_, _, _, _, "HonestHouseModel", cl_10, by decide +kernel, wd_1130, Or.inl rfl, rfl, rfl, fun h => by cases h⟩
theorem fl_X10_35_10 : hk_fl RX10 35 10 14 := ⟨_, _, _, _, "HonestHouseModel", cl_10, by decide +kernel, wd_1131, Or.inl rfl⟩
theorem fw_X10_35_10 : hk_fw RX10 35 10 14 (tyX10 14) true := ⟨_, _, _, _, "HonestHouseModel", cl_10, by decide +kernel, wd_1131, Or.inl rfl, rfl, rfl, fun _ => rfl⟩
theorem fl_X10_38_10 : hk_fl RX10 38 10 15 := ⟨_, _, _, _, "HonestHouseModel", cl_10, by decide +kernel, wd_1132, Or.inl rfl⟩
theorem fw_X10_38_10 : hk_fw RX10 38 10 15 (tyX10 15) true := ⟨_, _, _, _, "HonestHouseModel", cl_10, by decide +kernel, wd_1132, Or.inl rfl, rfl, rfl, fun _ => rfl⟩
theorem fl_X10_41_10 : hk_fl RX10 41 10 16 := ⟨_, _, _, _, "HonestHouseModel", cl_10, by decide +kernel, wd_1133, Or.inl rfl⟩
theorem fw_X10_41_10 : hk_fw RX10 41 10 16 (tyX10 16) true := ⟨_, _, _, _, "HonestHouseModel", cl_10, by decide +kernel, wd_1133, Or.inl rfl, rfl, rfl, fun _ => rfl⟩
theorem fl_X10_45_10 : hk_fl RX10 45 10 17 := ⟨_, _, _, _, "HonestHouseModel", cl_10, by decide +kernel, wd_1134, Or.inl rfl⟩
theorem fw_X10_45_10 : hk_fw RX10 45 10 17 (tyX10 17) true := ⟨_, _, _, _, "HonestHouseModel", cl_10, by decide +kernel, wd_1134, Or.inl rfl, rfl, rfl, fun _ => rfl⟩
theorem fl_X10_48_10 : hk_fl RX10 48 10 18 := ⟨_, _, _, _, "HonestHouseModel", cl_10, by decide +kernel, wd_1135, Or.inl rfl⟩
theorem fw_X10_48_10 : hk_fw RX10 48 10 18 (tyX10 18) true := ⟨_, _, _, _, "HonestHouseModel", cl_10, by decide +kernel, wd_1135, Or.inl rfl, rfl, rfl, fun _ => rfl⟩
theorem fl_X10_51_10 : hk_fl RX10 51 10 19 := ⟨_, _, _, _, "HonestHouseModel", cl_10, by decide +kernel, wd_1136, Or.inl rfl⟩
theorem fw_X10_51_10 : hk_fw RX10 51 10 19 (tyX10 19) true := ⟨_, _, _, _, "HonestHouseModel", cl_10, by decide +kernel, wd_1136, Or.inl rfl, rfl, rfl, fun _ => rfl⟩
theorem fl_X10_54_10 : hk_fl RX10 54 10 20 := ⟨_, _, _, _, "HonestHouseModel", cl_10, by decide +kernel, wd_1137, Or.inl rfl⟩
theorem fw_X10_54_10 : hk_fw RX10 54 10 20 (tyX10 20) true := ⟨_, _, _, _, "HonestHouseModel", cl_10, by decide +kernel, wd_1137, Or.inl rfl, rfl, rfl, fun _ => rfl⟩
theorem fl_X10_57_10 : hk_fl RX10 57 10 21 := ⟨_, _, _, _, "HonestHouseModel", cl_10, by decide +kernel, wd_1138, Or.inl rfl⟩
theorem fw_X10_57_10 : hk_fw RX10 57 10 21 (tyX10 21) true := ⟨_, _, _, _, "HonestHouseModel", cl_10, by decide +kernel, wd_1138, Or.inl rfl, rfl, rfl, fun _ => rfl⟩
theorem fl_X10_60_10 : hk_fl RX10 60 10 22 := ⟨_, _, _, _, "HonestHouseModel", cl_10, by decide +kernel, wd_1139, Or.inl rfl⟩
theorem fw_X10_60_10 : hk_fw RX10 60 10 22 (tyX10 22) true := ⟨_, _, _, _, "HonestHouseModel", cl_10, by decide +kernel, wd_1139, Or.inl rfl, rfl, rfl, fun _ => rfl⟩
theorem fl_X10_63_10 : hk_fl RX10 63 10 23 := ⟨_, _, _, _, "HonestHouseModel", cl_10, by decide +kernel, wd_1140, Or.inl rfl⟩
theorem fw_X10_63_10 : hk_fw RX10 63 10 23 (tyX10 23) true := ⟨_, _, _, _, "HonestHouseModel", cl_10, by decide +kernel, wd_1140, Or.inl rfl, rfl, rfl, fun _ => rfl⟩
theorem fl_X10_66_10 : hk_fl RX10 66 10 24 := ⟨_, _, _, _, "HonestHouseModel", cl_10, by decide +kernel, wd_1141, Or.inl rfl⟩
theorem fw_X10_66_10 : hk_fw RX10 66 10 24 (tyX10 24) true := ⟨_, _, _, _, "HonestHouseModel", cl_10, by decide +kernel, wd_1141, Or.inl rfl, rfl, rfl, fun _ => rfl⟩
theorem fl_X10_69_10 : hk_fl RX10 69 10 25 := ⟨_, _, _, _, "HonestHouseModel", cl_10, by decide +kernel, wd_1142, Or.inl rfl⟩
theorem fw_X10_69_10 : hk_fw RX10 69 10 25 (tyX10 25) true := ⟨_, _, _, _, "HonestHouseModel", cl_10, by decide +kernel, wd_1142, Or.inl rfl, rfl, rfl, fun _ => rfl⟩
theorem fl_X10_72_10 : hk_fl RX10 72 10 26 := ⟨_, _, _, _, "HonestHouseModel", cl_10, by decide +kernel, wd_1143, Or.inl rfl⟩
theorem fw_X10_72_10 : hk_fw RX10 72 10 26 (tyX10 26) true := ⟨_, _, _, _, "HonestHouseModel", cl_10, by decide +kernel, wd_1143, Or.inl rfl, rfl, rfl, fun _ => rfl⟩
theorem fl_X10_75_10 : hk_fl RX10 75 10 27 := ⟨_, _, _, _, "HonestHouseModel", cl_10, by decide +kernel, wd_1144, Or.inl rfl⟩
theorem fw_X10_75_10 : hk_fw RX10 75 10 27 (tyX10 27) true := ⟨_, _, _, _, "HonestHouseModel", cl_10, by decide +kernel, wd_1144, Or.inl rfl, rfl, rfl, fun _ => rfl⟩
theorem fl_X10_78_10 : hk_fl RX10 78 10 28 := ⟨_, _, _, _, "HonestHouseModel", cl_10, by decide +kernel, wd_1145, Or.inl rfl⟩
theorem fw_X10_78_10 : hk_fw RX10 78 10 28 (tyX10 28) true := ⟨_, _, _, _, "HonestHouseModel", cl_10, by decide +kernel, wd_1145, Or.inl rfl, rfl, rfl, fun _ => rfl⟩
theorem fl_X10_81_10 : hk_fl RX10 81 10 29 := ⟨_, _, _, _, "HonestHouseModel", cl_10, by decide +kernel, wd_1146, Or.inl rfl⟩
theorem fw_X10_81_10 : hk_fw RX10 81 10 29 (tyX10 29) true := ⟨_, _, _, _, "HonestHouseModel", cl_10, by decide +kernel, wd_1146, Or.inl rfl, rfl, rfl, fun _ => rfl⟩
theorem fl_X10_84_10 : hk_fl RX10 84 10 30 := ⟨_, _, _, _, "HonestHouseModel", cl_10, by decide +kernel, wd_1147, Or.inl rfl⟩
theorem fw_X10_84_10 : hk_fw RX10 84 10 30 (tyX10 30) true := ⟨_, _, _, _, "HonestHouseModel", cl_10, by decide +kernel, wd_1147, Or.inl rfl, rfl, rfl, fun _ => rfl⟩
theorem fl_X10_88_10 : hk_fl RX10 88 10 31 := ⟨_, _, _, _, "HonestHouseModel", cl_10, by decide +kernel, wd_1148, Or.inl rfl⟩
theorem fw_X10_88_10 : hk_fw RX10 88 10 31 (tyX10 31) true := ⟨_, _, _, _, "HonestHouseModel", cl_10, by decide +kernel, wd_1148, Or.inl rfl, rfl, rfl, fun _ => rfl⟩
abbrev fs_0 : List Value := [.null, .null, .null, .null, .int 0, .int 0]
theorem nf_0 (G : hk_G) : ∀ j, j < 6 → defaultValue (tyX0 j) = vp_V (fs_0.map (hk_cv G)) j := by
  intro j hj
  match j, hj with
  | 0, _ => rfl
  | 1, _ => rfl
  | 2, _ => rfl
  | 3, _ => rfl
  | 4, _ => rfl
  | 5, _ => rfl
  | j + 6, h => omega
theorem nw_X9_37 : Cond.classLink RX9 37 RX0 ∈ hk_ws ∧ Cond.instantiable RX0 6 ∈ hk_ws ∧ Cond.initialized RX0 ∈ hk_ws := ⟨wd_76, wd_77, wd_4⟩
abbrev fs_1 : List Value := [.int 0, .null, .null, .null, .null, .null, .null, .null, .null]
theorem nf_1 (G : hk_G) : ∀ j, j < 9 → defaultValue (tyX1 j) = vp_V (fs_1.map (hk_cv G)) j := by
  intro j hj
  match j, hj with
  | 0, _ => rfl
  | 1, _ => rfl
  | 2, _ => rfl
  | 3, _ => rfl
  | 4, _ => rfl
  | 5, _ => rfl
  | 6, _ => rfl
  | 7, _ => rfl
  | 8, _ => rfl
  | j + 9, h => omega
theorem nw_X9_53 : Cond.classLink RX9 53 RX1 ∈ hk_ws ∧ Cond.instantiable RX1 9 ∈ hk_ws ∧ Cond.initialized RX1 ∈ hk_ws := ⟨wd_125, wd_126, wd_6⟩
abbrev fs_2 : List Value := [.int 0, .null, .null, .null, .null]
theorem nf_2 (G : hk_G) : ∀ j, j < 5 → defaultValue (tyX2 j) = vp_V (fs_2.map (hk_cv G)) j := by
  intro j hj
  match j, hj with
  | 0, _ => rfl
  | 1, _ => rfl
  | 2, _ => rfl
  | 3, _ => rfl
  | 4, _ => rfl
  | j + 5, h => omega
theorem nw_X9_345 : Cond.classLink RX9 345 RX2 ∈ hk_ws ∧ Cond.instantiable RX2 5 ∈ hk_ws ∧ Cond.initialized RX2 ∈ hk_ws := ⟨wd_320, wd_321, wd_13⟩
abbrev fs_3 : List Value := [.int 0, .null, .null, .null]
theorem nf_3 (G : hk_G) : ∀ j, j < 4 → defaultValue (tyX3 j) = vp_V (fs_3.map (hk_cv G)) j := by
  intro j hj
  match j, hj with
  | 0, _ => rfl
  | 1, _ => rfl
  | 2, _ => rfl
  | 3, _ => rfl
  | j + 4, h => omega
theorem nw_X9_337 : Cond.classLink RX9 337 RX3 ∈ hk_ws ∧ Cond.instantiable RX3 4 ∈ hk_ws ∧ Cond.initialized RX3 ∈ hk_ws := ⟨wd_262, wd_263, wd_10⟩
abbrev fs_4 : List Value := [.int 0, .null, .int 0, .int 0, .null]
theorem nf_4 (G : hk_G) : ∀ j, j < 5 → defaultValue (tyX4 j) = vp_V (fs_4.map (hk_cv G)) j := by
  intro j hj
  match j, hj with
  | 0, _ => rfl
  | 1, _ => rfl
  | 2, _ => rfl
  | 3, _ => rfl
  | 4, _ => rfl
  | j + 5, h => omega
theorem nw_X9_62 : Cond.classLink RX9 62 RX4 ∈ hk_ws ∧ Cond.instantiable RX4 5 ∈ hk_ws ∧ Cond.initialized RX4 ∈ hk_ws := ⟨wd_167, wd_169, wd_7⟩
abbrev fs_5 : List Value := [.int 0, .null, .null]
theorem nf_5 (G : hk_G) : ∀ j, j < 3 → defaultValue (tyX5 j) = vp_V (fs_5.map (hk_cv G)) j := by
  intro j hj
  match j, hj with
  | 0, _ => rfl
  | 1, _ => rfl
  | 2, _ => rfl
  | j + 3, h => omega
theorem nw_X9_31 : Cond.classLink RX9 31 RX5 ∈ hk_ws ∧ Cond.instantiable RX5 3 ∈ hk_ws ∧ Cond.initialized RX5 ∈ hk_ws := ⟨wd_74, wd_337, wd_9⟩
abbrev fs_6 : List Value := [.null, .null, .null, .null, .null]
theorem nf_6 (G : hk_G) : ∀ j, j < 5 → defaultValue (tyX6 j) = vp_V (fs_6.map (hk_cv G)) j := by
  intro j hj
  match j, hj with
  | 0, _ => rfl
  | 1, _ => rfl
  | 2, _ => rfl
  | 3, _ => rfl
  | 4, _ => rfl
  | j + 5, h => omega
theorem nw_X9_46 : Cond.classLink RX9 46 RX6 ∈ hk_ws ∧ Cond.instantiable RX6 5 ∈ hk_ws ∧ Cond.initialized RX6 ∈ hk_ws := ⟨wd_101, wd_102, wd_5⟩
abbrev fs_7 : List Value := [.null, .int 0, .null, .null, .null, .null, .null]
theorem nf_7 (G : hk_G) : ∀ j, j < 7 → defaultValue (tyX7 j) = vp_V (fs_7.map (hk_cv G)) j := by
  intro j hj
  match j, hj with
  | 0, _ => rfl
  | 1, _ => rfl
  | 2, _ => rfl
  | 3, _ => rfl
  | 4, _ => rfl
  | 5, _ => rfl
  | 6, _ => rfl
  | j + 7, h => omega
theorem nw_X9_342 : Cond.classLink RX9 342 RX7 ∈ hk_ws ∧ Cond.instantiable RX7 7 ∈ hk_ws ∧ Cond.initialized RX7 ∈ hk_ws := ⟨wd_297, wd_298, wd_11⟩
abbrev fs_8 : List Value := [.int 0, .int 0, .null, .null, .int 0, .int 0]
theorem nf_8 (G : hk_G) : ∀ j, j < 6 → defaultValue (tyX8 j) = vp_V (fs_8.map (hk_cv G)) j := by
  intro j hj
  match j, hj with
  | 0, _ => rfl
  | 1, _ => rfl
  | 2, _ => rfl
  | 3, _ => rfl
  | 4, _ => rfl
  | 5, _ => rfl
  | j + 6, h => omega
theorem nw_X9_13 : Cond.classLink RX9 13 RX8 ∈ hk_ws ∧ Cond.instantiable RX8 6 ∈ hk_ws ∧ Cond.initialized RX8 ∈ hk_ws := ⟨wd_32, wd_33, wd_3⟩
abbrev fs_9 : List Value := [.int 0, .int 0, .null, .null, .int 0, .null, .null, .null, .null]
theorem nf_9 (G : hk_G) : ∀ j, j < 9 → defaultValue (tyX9 j) = vp_V (fs_9.map (hk_cv G)) j := by
  intro j hj
  match j, hj with
  | 0, _ => rfl
  | 1, _ => rfl
  | 2, _ => rfl
  | 3, _ => rfl
  | 4, _ => rfl
  | 5, _ => rfl
  | 6, _ => rfl
  | 7, _ => rfl
  | 8, _ => rfl
  | j + 9, h => omega
theorem nw_L_8 : Cond.classLink RL 8 RX9 ∈ hk_ws ∧ Cond.instantiable RX9 9 ∈ hk_ws ∧ Cond.initialized RX9 ∈ hk_ws := ⟨wd_21, wd_22, wd_1⟩
abbrev fs_10 : List Value := [.int 0, .int 0, .int 0, .int 0, .int 0, .null, .null, .null, .null, .null, .null, .null, .null, .int 0, .null, .null, .null, .null, .null, .null, .null, .null, .null, .null, .null, .null, .null, .null, .null, .null, .null, .null]
theorem nf_10 (G : hk_G) : ∀ j, j < 32 → defaultValue (tyX10 j) = vp_V (fs_10.map (hk_cv G)) j := by
  intro j hj
  match j, hj with
  | 0, _ => rfl
  | 1, _ => rfl
  | 2, _ => rfl
  | 3, _ => rfl
  | 4, _ => rfl
  | 5, _ => rfl
  | 6, _ => rfl
  | 7, _ => rfl
  | 8, _ => rfl
  | 9, _ => rfl
  | 10, _ => rfl
  | 11, _ => rfl
  | 12, _ => rfl
  | 13, _ => rfl
  | 14, _ => rfl
  | 15, _ => rfl
  | 16, _ => rfl
  | 17, _ => rfl
  | 18, _ => rfl
  | 19, _ => rfl
  | 20, _ => rfl
  | 21, _ => rfl
  | 22, _ => rfl
  | 23, _ => rfl
  | 24, _ => rfl
  | 25, _ => rfl
  | 26, _ => rfl
  | 27, _ => rfl
  | 28, _ => rfl
  | 29, _ => rfl
  | 30, _ => rfl
  | 31, _ => rfl
  | j + 32, h => omega
theorem nw_L_49 : Cond.classLink RL 49 RX10 ∈ hk_ws ∧ Cond.instantiable RX10 32 ∈ hk_ws ∧ Cond.initialized RX10 ∈ hk_ws := ⟨wd_1105, wd_1106, wd_8⟩
theorem th_X9_A : hk_thr RX9 134 138 "java/lang/IllegalArgumentException" := ⟨by decide +kernel, by decide +kernel, wd_1028, wd_17, by decide +kernel, by decide +kernel, by decide +kernel⟩
theorem th_X9_S : hk_thr RX9 211 215 "java/lang/IllegalStateException" := ⟨by decide +kernel, by decide +kernel, wd_934, wd_19, by decide +kernel, by decide +kernel, by decide +kernel⟩
theorem th_X3_S : hk_thr RX3 30 34 "java/lang/IllegalStateException" := ⟨by decide +kernel, by decide +kernel, wd_1012, wd_19, by decide +kernel, by decide +kernel, by decide +kernel⟩
theorem th_X2_S : hk_thr RX2 55 59 "java/lang/IllegalStateException" := ⟨by decide +kernel, by decide +kernel, wd_942, wd_19, by decide +kernel, by decide +kernel, by decide +kernel⟩
theorem oi_ : Cond.instanceMethod Lib.objectInit ∈ hk_ws ∧ Cond.code Lib.objectInit ⟨#[0xb1]⟩ 1 none ∈ hk_ws := ⟨wd_27, wd_28⟩
