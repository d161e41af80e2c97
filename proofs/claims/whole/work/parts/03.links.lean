/-- the words of the tables that any method may lean on -/
def lwg : List Cond := lw_tbl.filter goodWord
theorem lwg_at {w : Cond} (i : Nat) (h : lw_tbl[i]? = some w) (hg : goodWord w = true) : w ∈ lwg := List.mem_filter.mpr ⟨List.mem_of_getElem? h, hg⟩
theorem lwg_good : GoodIn lwg lwg := fun w h => ⟨h, good_of_word (List.mem_filter.mp h).2⟩
theorem sl_X11_putBytes : Cond.selects RX11 yX11_putBytes yX11_putBytes ∈ lwg := lwg_at 0 (by decide +kernel) rfl
theorem sl_X11_refuse : Cond.selects RX11 yX11_refuse yX11_refuse ∈ lwg := lwg_at 1 (by decide +kernel) rfl
theorem sl_X6_advance : Cond.selects RX6 yX6_advance yX6_advance ∈ lwg := lwg_at 2 (by decide +kernel) rfl
theorem sl_X6_advanceWord : Cond.selects RX6 yX6_advanceWord yX6_advanceWord ∈ lwg := lwg_at 3 (by decide +kernel) rfl
theorem sl_X6_advanceWhole : Cond.selects RX6 yX6_advanceWhole yX6_advanceWhole ∈ lwg := lwg_at 4 (by decide +kernel) rfl
theorem sl_X6_takeLine : Cond.selects RX6 yX6_takeLine yX6_takeLine ∈ lwg := lwg_at 5 (by decide +kernel) rfl
theorem sl_X6_spells : Cond.selects RX6 yX6_spells yX6_spells ∈ lwg := lwg_at 6 (by decide +kernel) rfl
theorem sl_X6_takeCounty : Cond.selects RX6 yX6_takeCounty yX6_takeCounty ∈ lwg := lwg_at 7 (by decide +kernel) rfl
theorem sl_X6_fail : Cond.selects RX6 yX6_fail yX6_fail ∈ lwg := lwg_at 8 (by decide +kernel) rfl
theorem sl_X6_takeKeyword : Cond.selects RX6 yX6_takeKeyword yX6_takeKeyword ∈ lwg := lwg_at 9 (by decide +kernel) rfl
theorem sl_X6_isNumber : Cond.selects RX6 yX6_isNumber yX6_isNumber ∈ lwg := lwg_at 10 (by decide +kernel) rfl
theorem sl_X6_begin : Cond.selects RX6 yX6_begin yX6_begin ∈ lwg := lwg_at 11 (by decide +kernel) rfl
theorem sl_X6_takeSleeper : Cond.selects RX6 yX6_takeSleeper yX6_takeSleeper ∈ lwg := lwg_at 12 (by decide +kernel) rfl
theorem sl_X6_isNewName : Cond.selects RX6 yX6_isNewName yX6_isNewName ∈ lwg := lwg_at 13 (by decide +kernel) rfl
theorem sl_X6_isReserved : Cond.selects RX6 yX6_isReserved yX6_isReserved ∈ lwg := lwg_at 14 (by decide +kernel) rfl
theorem sl_X6_kindSpelt : Cond.selects RX6 yX6_kindSpelt yX6_kindSpelt ∈ lwg := lwg_at 15 (by decide +kernel) rfl
theorem sl_X6_takeHelper : Cond.selects RX6 yX6_takeHelper yX6_takeHelper ∈ lwg := lwg_at 16 (by decide +kernel) rfl
theorem sl_X6_takeWordLine : Cond.selects RX6 yX6_takeWordLine yX6_takeWordLine ∈ lwg := lwg_at 17 (by decide +kernel) rfl
theorem sl_X6_takeBefore : Cond.selects RX6 yX6_takeBefore yX6_takeBefore ∈ lwg := lwg_at 18 (by decide +kernel) rfl
theorem sl_X6_isToldWord : Cond.selects RX6 yX6_isToldWord yX6_isToldWord ∈ lwg := lwg_at 19 (by decide +kernel) rfl
theorem sl_X6_takeOrder : Cond.selects RX6 yX6_takeOrder yX6_takeOrder ∈ lwg := lwg_at 20 (by decide +kernel) rfl
theorem sl_X6_takeSeen : Cond.selects RX6 yX6_takeSeen yX6_takeSeen ∈ lwg := lwg_at 21 (by decide +kernel) rfl
theorem sl_X11_grant : Cond.selects RX11 yX11_grant yX11_grant ∈ lwg := lwg_at 22 (by decide +kernel) rfl
theorem sl_X11_isSleeper : Cond.selects RX11 yX11_isSleeper yX11_isSleeper ∈ lwg := lwg_at 23 (by decide +kernel) rfl
theorem sl_X11_isHelper : Cond.selects RX11 yX11_isHelper yX11_isHelper ∈ lwg := lwg_at 24 (by decide +kernel) rfl
theorem sl_X11_freeHands : Cond.selects RX11 yX11_freeHands yX11_freeHands ∈ lwg := lwg_at 25 (by decide +kernel) rfl
theorem sl_X9_bestOf : Cond.selects RX9 yX9_bestOf yX9_bestOf ∈ lwg := lwg_at 26 (by decide +kernel) rfl
theorem sl_X9_tendedFor : Cond.selects RX9 yX9_tendedFor yX9_tendedFor ∈ lwg := lwg_at 27 (by decide +kernel) rfl
theorem sl_X9_follow : Cond.selects RX9 yX9_follow yX9_follow ∈ lwg := lwg_at 28 (by decide +kernel) rfl
theorem sl_X11_isWord : Cond.selects RX11 yX11_isWord yX11_isWord ∈ lwg := lwg_at 29 (by decide +kernel) rfl
theorem sl_X11_toSay : Cond.selects RX11 yX11_toSay yX11_toSay ∈ lwg := lwg_at 30 (by decide +kernel) rfl
theorem sl_X11_unsaid : Cond.selects RX11 yX11_unsaid yX11_unsaid ∈ lwg := lwg_at 31 (by decide +kernel) rfl
theorem sl_X11_grantPart : Cond.selects RX11 yX11_grantPart yX11_grantPart ∈ lwg := lwg_at 32 (by decide +kernel) rfl
theorem sl_X7_addUp : Cond.selects RX7 yX7_addUp yX7_addUp ∈ lwg := lwg_at 33 (by decide +kernel) rfl
theorem sl_X7_weigh : Cond.selects RX7 yX7_weigh yX7_weigh ∈ lwg := lwg_at 34 (by decide +kernel) rfl
theorem sl_X7_firstOfBest : Cond.selects RX7 yX7_firstOfBest yX7_firstOfBest ∈ lwg := lwg_at 35 (by decide +kernel) rfl
theorem sl_X11_canSay : Cond.selects RX11 yX11_canSay yX11_canSay ∈ lwg := lwg_at 36 (by decide +kernel) rfl
theorem sl_X1_chooseSign : Cond.selects RX1 yX1_chooseSign yX1_chooseSign ∈ lwg := lwg_at 37 (by decide +kernel) rfl
theorem sl_X1_mostLeft : Cond.selects RX1 yX1_mostLeft yX1_mostLeft ∈ lwg := lwg_at 38 (by decide +kernel) rfl
theorem sl_X4_isShown : Cond.selects RX4 yX4_isShown yX4_isShown ∈ lwg := lwg_at 39 (by decide +kernel) rfl
theorem sl_X11_harmfulDays : Cond.selects RX11 yX11_harmfulDays yX11_harmfulDays ∈ lwg := lwg_at 40 (by decide +kernel) rfl
theorem sl_X11_deny : Cond.selects RX11 yX11_deny yX11_deny ∈ lwg := lwg_at 41 (by decide +kernel) rfl
theorem sl_X11_allow : Cond.selects RX11 yX11_allow yX11_allow ∈ lwg := lwg_at 42 (by decide +kernel) rfl
theorem sl_X12_good : Cond.selects RX12 yX12_good yX12_good ∈ lwg := lwg_at 44 (by decide +kernel) rfl
theorem sl_X12_no : Cond.selects RX12 yX12_no yX12_no ∈ lwg := lwg_at 45 (by decide +kernel) rfl
theorem sl_X12_goOn : Cond.selects RX12 yX12_goOn yX12_goOn ∈ lwg := lwg_at 46 (by decide +kernel) rfl
theorem sl_X12_look : Cond.selects RX12 yX12_look yX12_look ∈ lwg := lwg_at 47 (by decide +kernel) rfl
theorem sl_X12_readLine : Cond.selects RX12 yX12_readLine yX12_readLine ∈ lwg := lwg_at 48 (by decide +kernel) rfl
theorem sl_X12_isWord : Cond.selects RX12 yX12_isWord yX12_isWord ∈ lwg := lwg_at 49 (by decide +kernel) rfl
theorem sl_X12_countyLine : Cond.selects RX12 yX12_countyLine yX12_countyLine ∈ lwg := lwg_at 50 (by decide +kernel) rfl
theorem sl_X12_wrong : Cond.selects RX12 yX12_wrong yX12_wrong ∈ lwg := lwg_at 51 (by decide +kernel) rfl
theorem sl_X12_after : Cond.selects RX12 yX12_after yX12_after ∈ lwg := lwg_at 52 (by decide +kernel) rfl
theorem sl_X12_must : Cond.selects RX12 yX12_must yX12_must ∈ lwg := lwg_at 53 (by decide +kernel) rfl
theorem sl_X12_takesWord : Cond.selects RX12 yX12_takesWord yX12_takesWord ∈ lwg := lwg_at 54 (by decide +kernel) rfl
theorem sl_X12_number : Cond.selects RX12 yX12_number yX12_number ∈ lwg := lwg_at 55 (by decide +kernel) rfl
theorem sl_X12_numberHere : Cond.selects RX12 yX12_numberHere yX12_numberHere ∈ lwg := lwg_at 56 (by decide +kernel) rfl
theorem sl_X12_begins : Cond.selects RX12 yX12_begins yX12_begins ∈ lwg := lwg_at 57 (by decide +kernel) rfl
theorem sl_X12_sleeperLine : Cond.selects RX12 yX12_sleeperLine yX12_sleeperLine ∈ lwg := lwg_at 58 (by decide +kernel) rfl
theorem sl_X12_newName : Cond.selects RX12 yX12_newName yX12_newName ∈ lwg := lwg_at 59 (by decide +kernel) rfl
theorem sl_X12_mustName : Cond.selects RX12 yX12_mustName yX12_mustName ∈ lwg := lwg_at 60 (by decide +kernel) rfl
theorem sl_X12_find : Cond.selects RX12 yX12_find yX12_find ∈ lwg := lwg_at 61 (by decide +kernel) rfl
theorem sl_X12_awakeLine : Cond.selects RX12 yX12_awakeLine yX12_awakeLine ∈ lwg := lwg_at 62 (by decide +kernel) rfl
theorem sl_X12_wordLine : Cond.selects RX12 yX12_wordLine yX12_wordLine ∈ lwg := lwg_at 63 (by decide +kernel) rfl
theorem sl_X12_beforeLine : Cond.selects RX12 yX12_beforeLine yX12_beforeLine ∈ lwg := lwg_at 64 (by decide +kernel) rfl
theorem sl_X12_wordHere : Cond.selects RX12 yX12_wordHere yX12_wordHere ∈ lwg := lwg_at 65 (by decide +kernel) rfl
theorem sl_X12_orderLine : Cond.selects RX12 yX12_orderLine yX12_orderLine ∈ lwg := lwg_at 66 (by decide +kernel) rfl
theorem sl_X12_laysPassed : Cond.selects RX12 yX12_laysPassed yX12_laysPassed ∈ lwg := lwg_at 67 (by decide +kernel) rfl
theorem sl_X12_lays : Cond.selects RX12 yX12_lays yX12_lays ∈ lwg := lwg_at 68 (by decide +kernel) rfl
theorem sl_X12_seenLine : Cond.selects RX12 yX12_seenLine yX12_seenLine ∈ lwg := lwg_at 69 (by decide +kernel) rfl
theorem sl_X12_countOf : Cond.selects RX12 yX12_countOf yX12_countOf ∈ lwg := lwg_at 70 (by decide +kernel) rfl
theorem sl_X12_reallyOf : Cond.selects RX12 yX12_reallyOf yX12_reallyOf ∈ lwg := lwg_at 71 (by decide +kernel) rfl
theorem sl_X12_isSleeper : Cond.selects RX12 yX12_isSleeper yX12_isSleeper ∈ lwg := lwg_at 72 (by decide +kernel) rfl
theorem sl_X12_canReach : Cond.selects RX12 yX12_canReach yX12_canReach ∈ lwg := lwg_at 73 (by decide +kernel) rfl
theorem sl_X12_isAwake : Cond.selects RX12 yX12_isAwake yX12_isAwake ∈ lwg := lwg_at 74 (by decide +kernel) rfl
theorem sl_X12_tendedOf : Cond.selects RX12 yX12_tendedOf yX12_tendedOf ∈ lwg := lwg_at 75 (by decide +kernel) rfl
theorem sl_X12_harmNow : Cond.selects RX12 yX12_harmNow yX12_harmNow ∈ lwg := lwg_at 76 (by decide +kernel) rfl
theorem sl_X12_harmBy : Cond.selects RX12 yX12_harmBy yX12_harmBy ∈ lwg := lwg_at 77 (by decide +kernel) rfl
theorem sl_X12_kindOf : Cond.selects RX12 yX12_kindOf yX12_kindOf ∈ lwg := lwg_at 78 (by decide +kernel) rfl
theorem sl_X12_frailOf : Cond.selects RX12 yX12_frailOf yX12_frailOf ∈ lwg := lwg_at 79 (by decide +kernel) rfl
theorem sl_X12_harmAll : Cond.selects RX12 yX12_harmAll yX12_harmAll ∈ lwg := lwg_at 80 (by decide +kernel) rfl
theorem sl_X12_seekTending : Cond.selects RX12 yX12_seekTending yX12_seekTending ∈ lwg := lwg_at 81 (by decide +kernel) rfl
theorem sl_X12_tryTending : Cond.selects RX12 yX12_tryTending yX12_tryTending ∈ lwg := lwg_at 82 (by decide +kernel) rfl
theorem sl_X12_isWordThere : Cond.selects RX12 yX12_isWordThere yX12_isWordThere ∈ lwg := lwg_at 83 (by decide +kernel) rfl
theorem sl_X12_oddsOf : Cond.selects RX12 yX12_oddsOf yX12_oddsOf ∈ lwg := lwg_at 84 (by decide +kernel) rfl
theorem sl_X12_unsaid : Cond.selects RX12 yX12_unsaid yX12_unsaid ∈ lwg := lwg_at 85 (by decide +kernel) rfl
theorem sl_X12_oddsIn : Cond.selects RX12 yX12_oddsIn yX12_oddsIn ∈ lwg := lwg_at 86 (by decide +kernel) rfl
theorem sl_X12_isOver : Cond.selects RX12 yX12_isOver yX12_isOver ∈ lwg := lwg_at 87 (by decide +kernel) rfl
theorem sl_X12_seekRows : Cond.selects RX12 yX12_seekRows yX12_seekRows ∈ lwg := lwg_at 88 (by decide +kernel) rfl
theorem sl_X12_tryRows : Cond.selects RX12 yX12_tryRows yX12_tryRows ∈ lwg := lwg_at 89 (by decide +kernel) rfl
theorem sl_X12_minutesOf : Cond.selects RX12 yX12_minutesOf yX12_minutesOf ∈ lwg := lwg_at 90 (by decide +kernel) rfl
theorem sl_X12_minutesWhy : Cond.selects RX12 yX12_minutesWhy yX12_minutesWhy ∈ lwg := lwg_at 91 (by decide +kernel) rfl
theorem sl_X12_wordsIn : Cond.selects RX12 yX12_wordsIn yX12_wordsIn ∈ lwg := lwg_at 92 (by decide +kernel) rfl
theorem sl_X12_canSay : Cond.selects RX12 yX12_canSay yX12_canSay ∈ lwg := lwg_at 93 (by decide +kernel) rfl
theorem sl_X12_seekFits : Cond.selects RX12 yX12_seekFits yX12_seekFits ∈ lwg := lwg_at 94 (by decide +kernel) rfl
theorem sl_X12_allOrders : Cond.selects RX12 yX12_allOrders yX12_allOrders ∈ lwg := lwg_at 95 (by decide +kernel) rfl
theorem sl_X12_doesFit : Cond.selects RX12 yX12_doesFit yX12_doesFit ∈ lwg := lwg_at 96 (by decide +kernel) rfl
theorem sl_X12_isSo : Cond.selects RX12 yX12_isSo yX12_isSo ∈ lwg := lwg_at 97 (by decide +kernel) rfl
theorem sl_X12_doneTo : Cond.selects RX12 yX12_doneTo yX12_doneTo ∈ lwg := lwg_at 98 (by decide +kernel) rfl
theorem sl_X12_isSign : Cond.selects RX12 yX12_isSign yX12_isSign ∈ lwg := lwg_at 99 (by decide +kernel) rfl
theorem sl_X12_askOf : Cond.selects RX12 yX12_askOf yX12_askOf ∈ lwg := lwg_at 100 (by decide +kernel) rfl
theorem sl_X12_wasSeen : Cond.selects RX12 yX12_wasSeen yX12_wasSeen ∈ lwg := lwg_at 101 (by decide +kernel) rfl
theorem sl_X12_firstOf : Cond.selects RX12 yX12_firstOf yX12_firstOf ∈ lwg := lwg_at 102 (by decide +kernel) rfl
theorem sl_X12_leavesBy : Cond.selects RX12 yX12_leavesBy yX12_leavesBy ∈ lwg := lwg_at 103 (by decide +kernel) rfl
theorem sl_X12_doAlike : Cond.selects RX12 yX12_doAlike yX12_doAlike ∈ lwg := lwg_at 104 (by decide +kernel) rfl
theorem sl_X12_worthWhy : Cond.selects RX12 yX12_worthWhy yX12_worthWhy ∈ lwg := lwg_at 105 (by decide +kernel) rfl
theorem sl_X12_seekRests : Cond.selects RX12 yX12_seekRests yX12_seekRests ∈ lwg := lwg_at 106 (by decide +kernel) rfl
theorem sl_X12_winterWhy : Cond.selects RX12 yX12_winterWhy yX12_winterWhy ∈ lwg := lwg_at 107 (by decide +kernel) rfl
theorem sl_X12_isNot : Cond.selects RX12 yX12_isNot yX12_isNot ∈ lwg := lwg_at 108 (by decide +kernel) rfl
theorem sl_X12_note : Cond.selects RX12 yX12_note yX12_note ∈ lwg := lwg_at 109 (by decide +kernel) rfl
theorem nk_L : Cond.initialized RL ∈ lwg := lwg_at 110 (by decide +kernel) rfl
theorem nk_X11 : Cond.initialized RX11 ∈ lwg := lwg_at 111 (by decide +kernel) rfl
theorem nk_X0 : Cond.initialized RX0 ∈ lwg := lwg_at 112 (by decide +kernel) rfl
theorem nk_X8 : Cond.initialized RX8 ∈ lwg := lwg_at 113 (by decide +kernel) rfl
theorem nk_X2 : Cond.initialized RX2 ∈ lwg := lwg_at 114 (by decide +kernel) rfl
theorem nk_X10 : Cond.initialized RX10 ∈ lwg := lwg_at 115 (by decide +kernel) rfl
theorem nk_X4 : Cond.initialized RX4 ∈ lwg := lwg_at 116 (by decide +kernel) rfl
theorem nk_X6 : Cond.initialized RX6 ∈ lwg := lwg_at 117 (by decide +kernel) rfl
theorem nk_X3 : Cond.initialized RX3 ∈ lwg := lwg_at 118 (by decide +kernel) rfl
theorem nk_X5 : Cond.initialized RX5 ∈ lwg := lwg_at 119 (by decide +kernel) rfl
theorem nk_X9 : Cond.initialized RX9 ∈ lwg := lwg_at 120 (by decide +kernel) rfl
theorem nk_X7 : Cond.initialized RX7 ∈ lwg := lwg_at 121 (by decide +kernel) rfl
theorem nk_X1 : Cond.initialized RX1 ∈ lwg := lwg_at 122 (by decide +kernel) rfl
theorem nk_X12 : Cond.initialized RX12 ∈ lwg := lwg_at 123 (by decide +kernel) rfl
theorem nk_J0 : Cond.initialized RJ0 ∈ lwg := lwg_at 124 (by decide +kernel) rfl
theorem nk_J1 : Cond.initialized RJ1 ∈ lwg := lwg_at 125 (by decide +kernel) rfl
theorem nk_J3 : Cond.initialized RJ3 ∈ lwg := lwg_at 126 (by decide +kernel) rfl
theorem nk_J9 : Cond.initialized RJ9 ∈ lwg := lwg_at 128 (by decide +kernel) rfl
theorem nk_J6 : Cond.initialized RJ6 ∈ lwg := lwg_at 129 (by decide +kernel) rfl
theorem ck_L_8 : Cond.classLink RL 8 RX11 ∈ lwg := lwg_at 134 (by decide +kernel) rfl
theorem ik_X11 : Cond.instantiable RX11 13 ∈ lwg := lwg_at 135 (by decide +kernel) rfl
theorem lk_L_15 : Cond.methodLink RL 15 yX11_init ∈ lwg := lwg_at 136 (by decide +kernel) rfl
theorem im_X11_init : Cond.instanceMethod yX11_init ∈ lwg := lwg_at 137 (by decide +kernel) rfl
set_option maxRecDepth 40000 in
theorem cd_X11_init : Cond.code yX11_init cX11_init 1 none ∈ lwg := lwg_at 138 rfl rfl
theorem lk_X11_1 : Cond.methodLink RX11 1 objectInit ∈ lwg := lwg_at 139 (by decide +kernel) rfl
theorem im_objectInit : Cond.instanceMethod objectInit ∈ lwg := lwg_at 140 (by decide +kernel) rfl
set_option maxRecDepth 40000 in
theorem cd_objectInit : Cond.code objectInit ⟨#[0xb1]⟩ 1 none ∈ lwg := lwg_at 141 rfl rfl
theorem ck_X11_13 : Cond.classLink RX11 13 RX0 ∈ lwg := lwg_at 142 (by decide +kernel) rfl
theorem ik_X0 : Cond.instantiable RX0 7 ∈ lwg := lwg_at 143 (by decide +kernel) rfl
theorem ln_X11_15 : Cond.methodLinkNest RX11 15 yX0_init "SleepWords" ∈ lw_tbl := List.mem_of_getElem? (i := 144) (by decide +kernel)
theorem im_X0_init : Cond.instanceMethod yX0_init ∈ lwg := lwg_at 145 (by decide +kernel) rfl
set_option maxRecDepth 40000 in
theorem cd_X0_init : Cond.code yX0_init cX0_init 1 none ∈ lwg := lwg_at 146 rfl rfl
theorem lk_X0_3 : Cond.methodLink RX0 3 objectInit ∈ lwg := lwg_at 147 (by decide +kernel) rfl
theorem ck_X0_9 : Cond.classLink RX0 9 RX8 ∈ lwg := lwg_at 148 (by decide +kernel) rfl
theorem ik_X8 : Cond.instantiable RX8 5 ∈ lwg := lwg_at 149 (by decide +kernel) rfl
theorem ln_X0_11 : Cond.methodLinkNest RX0 11 yX8_init "SleepWords" ∈ lw_tbl := List.mem_of_getElem? (i := 150) (by decide +kernel)
theorem im_X8_init : Cond.instanceMethod yX8_init ∈ lwg := lwg_at 151 (by decide +kernel) rfl
set_option maxRecDepth 40000 in
theorem cd_X8_init : Cond.code yX8_init cX8_init 1 none ∈ lwg := lwg_at 152 rfl rfl
theorem lk_X8_3 : Cond.methodLink RX8 3 objectInit ∈ lwg := lwg_at 153 (by decide +kernel) rfl
theorem fk_X0_50 : Cond.fieldLink RX0 50 "SleepWords$Sleepers" "count" "I" ∈ lwg := lwg_at 154 (by decide +kernel) rfl
theorem fk_X9_48 : Cond.fieldLink RX9 48 "SleepWords$Sleepers" "count" "I" ∈ lwg := lwg_at 155 (by decide +kernel) rfl
theorem fk_X6_55 : Cond.fieldLink RX6 55 "SleepWords$Sleepers" "count" "I" ∈ lwg := lwg_at 156 (by decide +kernel) rfl
theorem fk_X8_25 : Cond.fieldLink RX8 25 "SleepWords$Sleepers" "count" "I" ∈ lwg := lwg_at 157 (by decide +kernel) rfl
theorem fk_X11_103 : Cond.fieldLink RX11 103 "SleepWords$Sleepers" "count" "I" ∈ lwg := lwg_at 158 (by decide +kernel) rfl
theorem fk_X8_9 : Cond.fieldLink RX8 9 "SleepWords$Sleepers" "name" "[J" ∈ lwg := lwg_at 159 (by decide +kernel) rfl
theorem fk_X0_62 : Cond.fieldLink RX0 62 "SleepWords$Sleepers" "name" "[J" ∈ lwg := lwg_at 160 (by decide +kernel) rfl
theorem fk_X6_194 : Cond.fieldLink RX6 194 "SleepWords$Sleepers" "name" "[J" ∈ lwg := lwg_at 161 (by decide +kernel) rfl
theorem fk_X8_15 : Cond.fieldLink RX8 15 "SleepWords$Sleepers" "kind" "[I" ∈ lwg := lwg_at 162 (by decide +kernel) rfl
theorem fk_X0_92 : Cond.fieldLink RX0 92 "SleepWords$Sleepers" "kind" "[I" ∈ lwg := lwg_at 163 (by decide +kernel) rfl
theorem fk_X11_129 : Cond.fieldLink RX11 129 "SleepWords$Sleepers" "kind" "[I" ∈ lwg := lwg_at 164 (by decide +kernel) rfl
theorem fk_X6_201 : Cond.fieldLink RX6 201 "SleepWords$Sleepers" "kind" "[I" ∈ lwg := lwg_at 165 (by decide +kernel) rfl
theorem fk_X8_19 : Cond.fieldLink RX8 19 "SleepWords$Sleepers" "house" "[I" ∈ lwg := lwg_at 166 (by decide +kernel) rfl
theorem fk_X0_75 : Cond.fieldLink RX0 75 "SleepWords$Sleepers" "house" "[I" ∈ lwg := lwg_at 167 (by decide +kernel) rfl
theorem fk_X11_133 : Cond.fieldLink RX11 133 "SleepWords$Sleepers" "house" "[I" ∈ lwg := lwg_at 168 (by decide +kernel) rfl
theorem fk_X6_207 : Cond.fieldLink RX6 207 "SleepWords$Sleepers" "house" "[I" ∈ lwg := lwg_at 169 (by decide +kernel) rfl
theorem fk_X8_22 : Cond.fieldLink RX8 22 "SleepWords$Sleepers" "frail" "[I" ∈ lwg := lwg_at 170 (by decide +kernel) rfl
theorem fk_X11_136 : Cond.fieldLink RX11 136 "SleepWords$Sleepers" "frail" "[I" ∈ lwg := lwg_at 171 (by decide +kernel) rfl
theorem fk_X6_212 : Cond.fieldLink RX6 212 "SleepWords$Sleepers" "frail" "[I" ∈ lwg := lwg_at 172 (by decide +kernel) rfl
theorem ac_byte : Cond.arrayClass .byte ∈ lwg := lwg_at 184 (by decide +kernel) rfl
theorem ac_long : Cond.arrayClass .long ∈ lwg := lwg_at 185 (by decide +kernel) rfl
theorem ac_int : Cond.arrayClass .int ∈ lwg := lwg_at 186 (by decide +kernel) rfl
theorem ck_X0_18 : Cond.classLink RX0 18 RX2 ∈ lwg := lwg_at 187 (by decide +kernel) rfl
theorem ik_X2 : Cond.instantiable RX2 5 ∈ lwg := lwg_at 188 (by decide +kernel) rfl
theorem ln_X0_20 : Cond.methodLinkNest RX0 20 yX2_init "SleepWords" ∈ lw_tbl := List.mem_of_getElem? (i := 189) (by decide +kernel)
theorem im_X2_init : Cond.instanceMethod yX2_init ∈ lwg := lwg_at 190 (by decide +kernel) rfl
set_option maxRecDepth 40000 in
theorem cd_X2_init : Cond.code yX2_init cX2_init 1 none ∈ lwg := lwg_at 191 rfl rfl
theorem lk_X2_3 : Cond.methodLink RX2 3 objectInit ∈ lwg := lwg_at 192 (by decide +kernel) rfl
theorem fk_X9_32 : Cond.fieldLink RX9 32 "SleepWords$Helpers" "count" "I" ∈ lwg := lwg_at 193 (by decide +kernel) rfl
theorem fk_X0_53 : Cond.fieldLink RX0 53 "SleepWords$Helpers" "count" "I" ∈ lwg := lwg_at 194 (by decide +kernel) rfl
theorem fk_X6_128 : Cond.fieldLink RX6 128 "SleepWords$Helpers" "count" "I" ∈ lwg := lwg_at 195 (by decide +kernel) rfl
theorem fk_X11_207 : Cond.fieldLink RX11 207 "SleepWords$Helpers" "count" "I" ∈ lwg := lwg_at 196 (by decide +kernel) rfl
theorem fk_X2_9 : Cond.fieldLink RX2 9 "SleepWords$Helpers" "name" "[J" ∈ lwg := lwg_at 197 (by decide +kernel) rfl
theorem fk_X0_66 : Cond.fieldLink RX0 66 "SleepWords$Helpers" "name" "[J" ∈ lwg := lwg_at 198 (by decide +kernel) rfl
theorem fk_X6_222 : Cond.fieldLink RX6 222 "SleepWords$Helpers" "name" "[J" ∈ lwg := lwg_at 199 (by decide +kernel) rfl
theorem fk_X2_15 : Cond.fieldLink RX2 15 "SleepWords$Helpers" "house" "[I" ∈ lwg := lwg_at 200 (by decide +kernel) rfl
theorem fk_X0_71 : Cond.fieldLink RX0 71 "SleepWords$Helpers" "house" "[I" ∈ lwg := lwg_at 201 (by decide +kernel) rfl
theorem fk_X11_155 : Cond.fieldLink RX11 155 "SleepWords$Helpers" "house" "[I" ∈ lwg := lwg_at 202 (by decide +kernel) rfl
theorem fk_X6_223 : Cond.fieldLink RX6 223 "SleepWords$Helpers" "house" "[I" ∈ lwg := lwg_at 203 (by decide +kernel) rfl
theorem fk_X2_19 : Cond.fieldLink RX2 19 "SleepWords$Helpers" "hands" "[I" ∈ lwg := lwg_at 204 (by decide +kernel) rfl
theorem fk_X9_37 : Cond.fieldLink RX9 37 "SleepWords$Helpers" "hands" "[I" ∈ lwg := lwg_at 205 (by decide +kernel) rfl
theorem fk_X11_158 : Cond.fieldLink RX11 158 "SleepWords$Helpers" "hands" "[I" ∈ lwg := lwg_at 206 (by decide +kernel) rfl
theorem fk_X6_226 : Cond.fieldLink RX6 226 "SleepWords$Helpers" "hands" "[I" ∈ lwg := lwg_at 207 (by decide +kernel) rfl
theorem fk_X2_22 : Cond.fieldLink RX2 22 "SleepWords$Helpers" "reach" "[I" ∈ lwg := lwg_at 208 (by decide +kernel) rfl
theorem fk_X0_82 : Cond.fieldLink RX0 82 "SleepWords$Helpers" "reach" "[I" ∈ lwg := lwg_at 209 (by decide +kernel) rfl
theorem fk_X11_161 : Cond.fieldLink RX11 161 "SleepWords$Helpers" "reach" "[I" ∈ lwg := lwg_at 210 (by decide +kernel) rfl
theorem fk_X6_230 : Cond.fieldLink RX6 230 "SleepWords$Helpers" "reach" "[I" ∈ lwg := lwg_at 211 (by decide +kernel) rfl
theorem ck_X0_25 : Cond.classLink RX0 25 RX10 ∈ lwg := lwg_at 223 (by decide +kernel) rfl
theorem ik_X10 : Cond.instantiable RX10 7 ∈ lwg := lwg_at 224 (by decide +kernel) rfl
theorem ln_X0_27 : Cond.methodLinkNest RX0 27 yX10_init "SleepWords" ∈ lw_tbl := List.mem_of_getElem? (i := 225) (by decide +kernel)
theorem im_X10_init : Cond.instanceMethod yX10_init ∈ lwg := lwg_at 226 (by decide +kernel) rfl
set_option maxRecDepth 40000 in
theorem cd_X10_init : Cond.code yX10_init cX10_init 1 none ∈ lwg := lwg_at 227 rfl rfl
theorem lk_X10_3 : Cond.methodLink RX10 3 objectInit ∈ lwg := lwg_at 228 (by decide +kernel) rfl
theorem fk_X10_28 : Cond.fieldLink RX10 28 "SleepWords$Words" "count" "I" ∈ lwg := lwg_at 229 (by decide +kernel) rfl
theorem fk_X7_31 : Cond.fieldLink RX7 31 "SleepWords$Words" "count" "I" ∈ lwg := lwg_at 230 (by decide +kernel) rfl
theorem fk_X0_54 : Cond.fieldLink RX0 54 "SleepWords$Words" "count" "I" ∈ lwg := lwg_at 231 (by decide +kernel) rfl
theorem fk_X6_138 : Cond.fieldLink RX6 138 "SleepWords$Words" "count" "I" ∈ lwg := lwg_at 232 (by decide +kernel) rfl
theorem fk_X11_266 : Cond.fieldLink RX11 266 "SleepWords$Words" "count" "I" ∈ lwg := lwg_at 233 (by decide +kernel) rfl
theorem fk_X0_55 : Cond.fieldLink RX0 55 "SleepWords$Words" "befores" "I" ∈ lwg := lwg_at 234 (by decide +kernel) rfl
theorem fk_X10_36 : Cond.fieldLink RX10 36 "SleepWords$Words" "befores" "I" ∈ lwg := lwg_at 235 (by decide +kernel) rfl
theorem fk_X6_144 : Cond.fieldLink RX6 144 "SleepWords$Words" "befores" "I" ∈ lwg := lwg_at 236 (by decide +kernel) rfl
theorem fk_X11_378 : Cond.fieldLink RX11 378 "SleepWords$Words" "befores" "I" ∈ lwg := lwg_at 237 (by decide +kernel) rfl
theorem fk_X10_9 : Cond.fieldLink RX10 9 "SleepWords$Words" "name" "[J" ∈ lwg := lwg_at 238 (by decide +kernel) rfl
theorem fk_X6_232 : Cond.fieldLink RX6 232 "SleepWords$Words" "name" "[J" ∈ lwg := lwg_at 239 (by decide +kernel) rfl
theorem fk_X10_15 : Cond.fieldLink RX10 15 "SleepWords$Words" "odds" "[I" ∈ lwg := lwg_at 240 (by decide +kernel) rfl
theorem fk_X7_56 : Cond.fieldLink RX7 56 "SleepWords$Words" "odds" "[I" ∈ lwg := lwg_at 241 (by decide +kernel) rfl
theorem fk_X11_215 : Cond.fieldLink RX11 215 "SleepWords$Words" "odds" "[I" ∈ lwg := lwg_at 242 (by decide +kernel) rfl
theorem fk_X6_235 : Cond.fieldLink RX6 235 "SleepWords$Words" "odds" "[I" ∈ lwg := lwg_at 243 (by decide +kernel) rfl
theorem fk_X10_19 : Cond.fieldLink RX10 19 "SleepWords$Words" "minutes" "[I" ∈ lwg := lwg_at 244 (by decide +kernel) rfl
theorem fk_X7_57 : Cond.fieldLink RX7 57 "SleepWords$Words" "minutes" "[I" ∈ lwg := lwg_at 245 (by decide +kernel) rfl
theorem fk_X11_220 : Cond.fieldLink RX11 220 "SleepWords$Words" "minutes" "[I" ∈ lwg := lwg_at 246 (by decide +kernel) rfl
theorem fk_X6_239 : Cond.fieldLink RX6 239 "SleepWords$Words" "minutes" "[I" ∈ lwg := lwg_at 247 (by decide +kernel) rfl
theorem fk_X10_22 : Cond.fieldLink RX10 22 "SleepWords$Words" "toldBefore" "[I" ∈ lwg := lwg_at 248 (by decide +kernel) rfl
theorem fk_X6_241 : Cond.fieldLink RX6 241 "SleepWords$Words" "toldBefore" "[I" ∈ lwg := lwg_at 249 (by decide +kernel) rfl
theorem fk_X10_25 : Cond.fieldLink RX10 25 "SleepWords$Words" "before" "[I" ∈ lwg := lwg_at 250 (by decide +kernel) rfl
theorem fk_X7_58 : Cond.fieldLink RX7 58 "SleepWords$Words" "before" "[I" ∈ lwg := lwg_at 251 (by decide +kernel) rfl
theorem fk_X11_229 : Cond.fieldLink RX11 229 "SleepWords$Words" "before" "[I" ∈ lwg := lwg_at 252 (by decide +kernel) rfl
theorem fk_X6_244 : Cond.fieldLink RX6 244 "SleepWords$Words" "before" "[I" ∈ lwg := lwg_at 253 (by decide +kernel) rfl
theorem ck_X0_32 : Cond.classLink RX0 32 RX4 ∈ lwg := lwg_at 269 (by decide +kernel) rfl
theorem ik_X4 : Cond.instantiable RX4 7 ∈ lwg := lwg_at 270 (by decide +kernel) rfl
theorem ln_X0_34 : Cond.methodLinkNest RX0 34 yX4_init "SleepWords" ∈ lw_tbl := List.mem_of_getElem? (i := 271) (by decide +kernel)
theorem im_X4_init : Cond.instanceMethod yX4_init ∈ lwg := lwg_at 272 (by decide +kernel) rfl
set_option maxRecDepth 40000 in
theorem cd_X4_init : Cond.code yX4_init cX4_init 1 none ∈ lwg := lwg_at 273 rfl rfl
theorem lk_X4_3 : Cond.methodLink RX4 3 objectInit ∈ lwg := lwg_at 274 (by decide +kernel) rfl
theorem fk_X4_28 : Cond.fieldLink RX4 28 "SleepWords$Orders" "count" "I" ∈ lwg := lwg_at 275 (by decide +kernel) rfl
theorem fk_X1_30 : Cond.fieldLink RX1 30 "SleepWords$Orders" "count" "I" ∈ lwg := lwg_at 276 (by decide +kernel) rfl
theorem fk_X0_58 : Cond.fieldLink RX0 58 "SleepWords$Orders" "count" "I" ∈ lwg := lwg_at 277 (by decide +kernel) rfl
theorem fk_X6_154 : Cond.fieldLink RX6 154 "SleepWords$Orders" "count" "I" ∈ lwg := lwg_at 278 (by decide +kernel) rfl
theorem fk_X11_293 : Cond.fieldLink RX11 293 "SleepWords$Orders" "count" "I" ∈ lwg := lwg_at 279 (by decide +kernel) rfl
theorem fk_X4_9 : Cond.fieldLink RX4 9 "SleepWords$Orders" "sign" "[J" ∈ lwg := lwg_at 280 (by decide +kernel) rfl
theorem fk_X1_57 : Cond.fieldLink RX1 57 "SleepWords$Orders" "sign" "[J" ∈ lwg := lwg_at 281 (by decide +kernel) rfl
theorem fk_X6_261 : Cond.fieldLink RX6 261 "SleepWords$Orders" "sign" "[J" ∈ lwg := lwg_at 282 (by decide +kernel) rfl
theorem fk_X4_15 : Cond.fieldLink RX4 15 "SleepWords$Orders" "deed" "[J" ∈ lwg := lwg_at 283 (by decide +kernel) rfl
theorem fk_X6_264 : Cond.fieldLink RX6 264 "SleepWords$Orders" "deed" "[J" ∈ lwg := lwg_at 284 (by decide +kernel) rfl
theorem fk_X4_18 : Cond.fieldLink RX4 18 "SleepWords$Orders" "rank" "[I" ∈ lwg := lwg_at 285 (by decide +kernel) rfl
theorem fk_X6_273 : Cond.fieldLink RX6 273 "SleepWords$Orders" "rank" "[I" ∈ lwg := lwg_at 286 (by decide +kernel) rfl
theorem fk_X0_59 : Cond.fieldLink RX0 59 "SleepWords$Orders" "seenCount" "I" ∈ lwg := lwg_at 287 (by decide +kernel) rfl
theorem fk_X4_32 : Cond.fieldLink RX4 32 "SleepWords$Orders" "seenCount" "I" ∈ lwg := lwg_at 288 (by decide +kernel) rfl
theorem fk_X6_160 : Cond.fieldLink RX6 160 "SleepWords$Orders" "seenCount" "I" ∈ lwg := lwg_at 289 (by decide +kernel) rfl
theorem fk_X11_381 : Cond.fieldLink RX11 381 "SleepWords$Orders" "seenCount" "I" ∈ lwg := lwg_at 290 (by decide +kernel) rfl
theorem fk_X4_22 : Cond.fieldLink RX4 22 "SleepWords$Orders" "seenSign" "[J" ∈ lwg := lwg_at 291 (by decide +kernel) rfl
theorem fk_X6_278 : Cond.fieldLink RX6 278 "SleepWords$Orders" "seenSign" "[J" ∈ lwg := lwg_at 292 (by decide +kernel) rfl
theorem fk_X4_25 : Cond.fieldLink RX4 25 "SleepWords$Orders" "seenDeed" "[J" ∈ lwg := lwg_at 293 (by decide +kernel) rfl
theorem fk_X6_281 : Cond.fieldLink RX6 281 "SleepWords$Orders" "seenDeed" "[J" ∈ lwg := lwg_at 294 (by decide +kernel) rfl
theorem fk_X0_39 : Cond.fieldLink RX0 39 "SleepWords$County" "told" "Z" ∈ lwg := lwg_at 310 (by decide +kernel) rfl
theorem fk_X11_114 : Cond.fieldLink RX11 114 "SleepWords$County" "told" "Z" ∈ lwg := lwg_at 311 (by decide +kernel) rfl
theorem fk_X6_166 : Cond.fieldLink RX6 166 "SleepWords$County" "told" "Z" ∈ lwg := lwg_at 312 (by decide +kernel) rfl
theorem fk_X0_43 : Cond.fieldLink RX0 43 "SleepWords$County" "lacks" "I" ∈ lwg := lwg_at 313 (by decide +kernel) rfl
theorem fk_X6_185 : Cond.fieldLink RX6 185 "SleepWords$County" "lacks" "I" ∈ lwg := lwg_at 314 (by decide +kernel) rfl
theorem fk_X11_375 : Cond.fieldLink RX11 375 "SleepWords$County" "lacks" "I" ∈ lwg := lwg_at 315 (by decide +kernel) rfl
theorem fk_X0_47 : Cond.fieldLink RX0 47 "SleepWords$County" "snow" "I" ∈ lwg := lwg_at 316 (by decide +kernel) rfl
theorem fk_X6_189 : Cond.fieldLink RX6 189 "SleepWords$County" "snow" "I" ∈ lwg := lwg_at 317 (by decide +kernel) rfl
theorem fk_X11_326 : Cond.fieldLink RX11 326 "SleepWords$County" "snow" "I" ∈ lwg := lwg_at 318 (by decide +kernel) rfl
theorem fk_X0_12 : Cond.fieldLink RX0 12 "SleepWords$County" "sleepers" "LSleepWords$Sleepers;" ∈ lwg := lwg_at 319 (by decide +kernel) rfl
theorem fk_X9_44 : Cond.fieldLink RX9 44 "SleepWords$County" "sleepers" "LSleepWords$Sleepers;" ∈ lwg := lwg_at 320 (by decide +kernel) rfl
theorem fk_X6_51 : Cond.fieldLink RX6 51 "SleepWords$County" "sleepers" "LSleepWords$Sleepers;" ∈ lwg := lwg_at 321 (by decide +kernel) rfl
theorem fk_X11_99 : Cond.fieldLink RX11 99 "SleepWords$County" "sleepers" "LSleepWords$Sleepers;" ∈ lwg := lwg_at 322 (by decide +kernel) rfl
theorem fk_X0_21 : Cond.fieldLink RX0 21 "SleepWords$County" "helpers" "LSleepWords$Helpers;" ∈ lwg := lwg_at 323 (by decide +kernel) rfl
theorem fk_X9_26 : Cond.fieldLink RX9 26 "SleepWords$County" "helpers" "LSleepWords$Helpers;" ∈ lwg := lwg_at 324 (by decide +kernel) rfl
theorem fk_X11_151 : Cond.fieldLink RX11 151 "SleepWords$County" "helpers" "LSleepWords$Helpers;" ∈ lwg := lwg_at 325 (by decide +kernel) rfl
theorem fk_X6_124 : Cond.fieldLink RX6 124 "SleepWords$County" "helpers" "LSleepWords$Helpers;" ∈ lwg := lwg_at 326 (by decide +kernel) rfl
theorem fk_X0_28 : Cond.fieldLink RX0 28 "SleepWords$County" "words" "LSleepWords$Words;" ∈ lwg := lwg_at 327 (by decide +kernel) rfl
theorem fk_X6_134 : Cond.fieldLink RX6 134 "SleepWords$County" "words" "LSleepWords$Words;" ∈ lwg := lwg_at 328 (by decide +kernel) rfl
theorem fk_X11_211 : Cond.fieldLink RX11 211 "SleepWords$County" "words" "LSleepWords$Words;" ∈ lwg := lwg_at 329 (by decide +kernel) rfl
theorem fk_X0_35 : Cond.fieldLink RX0 35 "SleepWords$County" "orders" "LSleepWords$Orders;" ∈ lwg := lwg_at 330 (by decide +kernel) rfl
theorem fk_X6_150 : Cond.fieldLink RX6 150 "SleepWords$County" "orders" "LSleepWords$Orders;" ∈ lwg := lwg_at 331 (by decide +kernel) rfl
theorem fk_X11_273 : Cond.fieldLink RX11 273 "SleepWords$County" "orders" "LSleepWords$Orders;" ∈ lwg := lwg_at 332 (by decide +kernel) rfl
theorem ck_X11_23 : Cond.classLink RX11 23 RX6 ∈ lwg := lwg_at 348 (by decide +kernel) rfl
theorem ik_X6 : Cond.instantiable RX6 10 ∈ lwg := lwg_at 349 (by decide +kernel) rfl
theorem ln_X11_25 : Cond.methodLinkNest RX11 25 yX6_init "SleepWords" ∈ lw_tbl := List.mem_of_getElem? (i := 350) (by decide +kernel)
theorem im_X6_init : Cond.instanceMethod yX6_init ∈ lwg := lwg_at 351 (by decide +kernel) rfl
set_option maxRecDepth 40000 in
theorem cd_X6_init : Cond.code yX6_init cX6_init 1 none ∈ lwg := lwg_at 352 rfl rfl
theorem lk_X6_3 : Cond.methodLink RX6 3 objectInit ∈ lwg := lwg_at 353 (by decide +kernel) rfl
theorem fk_X6_9 : Cond.fieldLink RX6 9 "SleepWords$Reade\x72" "text" "[B" ∈ lwg := lwg_at 354 (by decide +kernel) rfl
theorem fk_X6_15 : Cond.fieldLink RX6 15 "SleepWords$Reade\x72" "length" "I" ∈ lwg := lwg_at 355 (by decide +kernel) rfl
theorem fk_X6_19 : Cond.fieldLink RX6 19 "SleepWords$Reade\x72" "into" "LSleepWords$County;" ∈ lwg := lwg_at 356 (by decide +kernel) rfl
theorem fk_X6_28 : Cond.fieldLink RX6 28 "SleepWords$Reade\x72" "place" "I" ∈ lwg := lwg_at 357 (by decide +kernel) rfl
theorem fk_X6_60 : Cond.fieldLink RX6 60 "SleepWords$Reade\x72" "start" "I" ∈ lwg := lwg_at 358 (by decide +kernel) rfl
theorem fk_X6_44 : Cond.fieldLink RX6 44 "SleepWords$Reade\x72" "sort" "I" ∈ lwg := lwg_at 359 (by decide +kernel) rfl
theorem fk_X6_76 : Cond.fieldLink RX6 76 "SleepWords$Reade\x72" "letters" "J" ∈ lwg := lwg_at 360 (by decide +kernel) rfl
theorem fk_X6_80 : Cond.fieldLink RX6 80 "SleepWords$Reade\x72" "numbe\x72" "I" ∈ lwg := lwg_at 361 (by decide +kernel) rfl
theorem fk_X6_31 : Cond.fieldLink RX6 31 "SleepWords$Reade\x72" "fault" "I" ∈ lwg := lwg_at 362 (by decide +kernel) rfl
theorem fk_X11_81 : Cond.fieldLink RX11 81 "SleepWords$Reade\x72" "fault" "I" ∈ lwg := lwg_at 363 (by decide +kernel) rfl
theorem fk_X6_34 : Cond.fieldLink RX6 34 "SleepWords$Reade\x72" "faultPlace" "I" ∈ lwg := lwg_at 364 (by decide +kernel) rfl
theorem fk_X11_85 : Cond.fieldLink RX11 85 "SleepWords$Reade\x72" "faultPlace" "I" ∈ lwg := lwg_at 365 (by decide +kernel) rfl
theorem ck_X11_30 : Cond.classLink RX11 30 RX3 ∈ lwg := lwg_at 387 (by decide +kernel) rfl
theorem ik_X3 : Cond.instantiable RX3 6 ∈ lwg := lwg_at 388 (by decide +kernel) rfl
theorem ln_X11_32 : Cond.methodLinkNest RX11 32 yX3_init "SleepWords" ∈ lw_tbl := List.mem_of_getElem? (i := 389) (by decide +kernel)
theorem im_X3_init : Cond.instanceMethod yX3_init ∈ lwg := lwg_at 390 (by decide +kernel) rfl
set_option maxRecDepth 40000 in
theorem cd_X3_init : Cond.code yX3_init cX3_init 1 none ∈ lwg := lwg_at 391 rfl rfl
theorem lk_X3_3 : Cond.methodLink RX3 3 objectInit ∈ lwg := lwg_at 392 (by decide +kernel) rfl
theorem fk_X3_18 : Cond.fieldLink RX3 18 "SleepWords$Now" "day" "I" ∈ lwg := lwg_at 393 (by decide +kernel) rfl
theorem fk_X11_343 : Cond.fieldLink RX11 343 "SleepWords$Now" "day" "I" ∈ lwg := lwg_at 394 (by decide +kernel) rfl
theorem fk_X3_22 : Cond.fieldLink RX3 22 "SleepWords$Now" "seed" "I" ∈ lwg := lwg_at 395 (by decide +kernel) rfl
theorem fk_X11_349 : Cond.fieldLink RX11 349 "SleepWords$Now" "seed" "I" ∈ lwg := lwg_at 396 (by decide +kernel) rfl
theorem fk_X3_25 : Cond.fieldLink RX3 25 "SleepWords$Now" "said" "I" ∈ lwg := lwg_at 397 (by decide +kernel) rfl
theorem fk_X11_223 : Cond.fieldLink RX11 223 "SleepWords$Now" "said" "I" ∈ lwg := lwg_at 398 (by decide +kernel) rfl
theorem fk_X3_28 : Cond.fieldLink RX3 28 "SleepWords$Now" "woken" "Z" ∈ lwg := lwg_at 399 (by decide +kernel) rfl
theorem fk_X11_170 : Cond.fieldLink RX11 170 "SleepWords$Now" "woken" "Z" ∈ lwg := lwg_at 400 (by decide +kernel) rfl
theorem fk_X3_9 : Cond.fieldLink RX3 9 "SleepWords$Now" "harm" "[I" ∈ lwg := lwg_at 401 (by decide +kernel) rfl
theorem fk_X11_139 : Cond.fieldLink RX11 139 "SleepWords$Now" "harm" "[I" ∈ lwg := lwg_at 402 (by decide +kernel) rfl
theorem fk_X3_15 : Cond.fieldLink RX3 15 "SleepWords$Now" "tende\x72" "[I" ∈ lwg := lwg_at 403 (by decide +kernel) rfl
theorem fk_X11_142 : Cond.fieldLink RX11 142 "SleepWords$Now" "tende\x72" "[I" ∈ lwg := lwg_at 404 (by decide +kernel) rfl
theorem ck_X11_37 : Cond.classLink RX11 37 RX5 ∈ lwg := lwg_at 418 (by decide +kernel) rfl
theorem ik_X5 : Cond.instantiable RX5 5 ∈ lwg := lwg_at 419 (by decide +kernel) rfl
theorem lk_X11_39 : Cond.methodLink RX11 39 yX5_init ∈ lwg := lwg_at 420 (by decide +kernel) rfl
theorem im_X5_init : Cond.instanceMethod yX5_init ∈ lwg := lwg_at 421 (by decide +kernel) rfl
set_option maxRecDepth 40000 in
theorem cd_X5_init : Cond.code yX5_init cX5_init 2 none ∈ lwg := lwg_at 422 rfl rfl
theorem lk_X5_3 : Cond.methodLink RX5 3 objectInit ∈ lwg := lwg_at 423 (by decide +kernel) rfl
theorem ck_X5_9 : Cond.classLink RX5 9 RX3 ∈ lwg := lwg_at 424 (by decide +kernel) rfl
theorem ln_X5_20 : Cond.methodLinkNest RX5 20 yX3_init "SleepWords" ∈ lw_tbl := List.mem_of_getElem? (i := 426) (by decide +kernel)
theorem fk_X5_11 : Cond.fieldLink RX5 11 "SleepWords$Past" "kept" "[LSleepWords$Now;" ∈ lwg := lwg_at 427 (by decide +kernel) rfl
theorem fk_X5_28 : Cond.fieldLink RX5 28 "SleepWords$Past" "top" "I" ∈ lwg := lwg_at 428 (by decide +kernel) rfl
theorem fk_X5_21 : Cond.fieldLink RX5 21 "SleepWords$Past" "count" "I" ∈ lwg := lwg_at 429 (by decide +kernel) rfl
theorem fk_X11_353 : Cond.fieldLink RX11 353 "SleepWords$Past" "count" "I" ∈ lwg := lwg_at 430 (by decide +kernel) rfl
theorem fk_X5_17 : Cond.fieldLink RX5 17 "SleepWords$Past" "images" "[LSleepWords$Now;" ∈ lwg := lwg_at 431 (by decide +kernel) rfl
theorem fk_X5_25 : Cond.fieldLink RX5 25 "SleepWords$Past" "imageCount" "I" ∈ lwg := lwg_at 432 (by decide +kernel) rfl
theorem fk_X11_357 : Cond.fieldLink RX11 357 "SleepWords$Past" "imageCount" "I" ∈ lwg := lwg_at 433 (by decide +kernel) rfl
theorem ck_X11_44 : Cond.classLink RX11 44 RX9 ∈ lwg := lwg_at 445 (by decide +kernel) rfl
theorem ik_X9 : Cond.instantiable RX9 5 ∈ lwg := lwg_at 446 (by decide +kernel) rfl
theorem ln_X11_46 : Cond.methodLinkNest RX11 46 yX9_init "SleepWords" ∈ lw_tbl := List.mem_of_getElem? (i := 447) (by decide +kernel)
theorem im_X9_init : Cond.instanceMethod yX9_init ∈ lwg := lwg_at 448 (by decide +kernel) rfl
set_option maxRecDepth 40000 in
theorem cd_X9_init : Cond.code yX9_init cX9_init 1 none ∈ lwg := lwg_at 449 rfl rfl
theorem lk_X9_3 : Cond.methodLink RX9 3 objectInit ∈ lwg := lwg_at 450 (by decide +kernel) rfl
theorem fk_X9_18 : Cond.fieldLink RX9 18 "SleepWords$Tending" "known" "Z" ∈ lwg := lwg_at 451 (by decide +kernel) rfl
theorem fk_X11_93 : Cond.fieldLink RX11 93 "SleepWords$Tending" "known" "Z" ∈ lwg := lwg_at 452 (by decide +kernel) rfl
theorem fk_X9_22 : Cond.fieldLink RX9 22 "SleepWords$Tending" "allHands" "I" ∈ lwg := lwg_at 453 (by decide +kernel) rfl
theorem fk_X11_191 : Cond.fieldLink RX11 191 "SleepWords$Tending" "allHands" "I" ∈ lwg := lwg_at 454 (by decide +kernel) rfl
theorem fk_X9_80 : Cond.fieldLink RX9 80 "SleepWords$Tending" "tended" "I" ∈ lwg := lwg_at 455 (by decide +kernel) rfl
theorem fk_X11_201 : Cond.fieldLink RX11 201 "SleepWords$Tending" "tended" "I" ∈ lwg := lwg_at 456 (by decide +kernel) rfl
theorem fk_X9_9 : Cond.fieldLink RX9 9 "SleepWords$Tending" "tende\x72" "[I" ∈ lwg := lwg_at 457 (by decide +kernel) rfl
theorem fk_X11_197 : Cond.fieldLink RX11 197 "SleepWords$Tending" "tende\x72" "[I" ∈ lwg := lwg_at 458 (by decide +kernel) rfl
theorem fk_X9_15 : Cond.fieldLink RX9 15 "SleepWords$Tending" "best" "[I" ∈ lwg := lwg_at 459 (by decide +kernel) rfl
theorem ck_X11_51 : Cond.classLink RX11 51 RX7 ∈ lwg := lwg_at 471 (by decide +kernel) rfl
theorem ik_X7 : Cond.instantiable RX7 6 ∈ lwg := lwg_at 472 (by decide +kernel) rfl
theorem ln_X11_53 : Cond.methodLinkNest RX11 53 yX7_init "SleepWords" ∈ lw_tbl := List.mem_of_getElem? (i := 473) (by decide +kernel)
theorem im_X7_init : Cond.instanceMethod yX7_init ∈ lwg := lwg_at 474 (by decide +kernel) rfl
set_option maxRecDepth 40000 in
theorem cd_X7_init : Cond.code yX7_init cX7_init 1 none ∈ lwg := lwg_at 475 rfl rfl
theorem lk_X7_3 : Cond.methodLink RX7 3 objectInit ∈ lwg := lwg_at 476 (by decide +kernel) rfl
theorem fk_X7_27 : Cond.fieldLink RX7 27 "SleepWords$Search" "known" "Z" ∈ lwg := lwg_at 477 (by decide +kernel) rfl
theorem fk_X11_97 : Cond.fieldLink RX11 97 "SleepWords$Search" "known" "Z" ∈ lwg := lwg_at 478 (by decide +kernel) rfl
theorem fk_X7_11 : Cond.fieldLink RX7 11 "SleepWords$Search" "odds" "[I" ∈ lwg := lwg_at 479 (by decide +kernel) rfl
theorem fk_X7_15 : Cond.fieldLink RX7 15 "SleepWords$Search" "minutes" "[I" ∈ lwg := lwg_at 480 (by decide +kernel) rfl
theorem fk_X7_18 : Cond.fieldLink RX7 18 "SleepWords$Search" "needs" "[I" ∈ lwg := lwg_at 481 (by decide +kernel) rfl
theorem fk_X7_21 : Cond.fieldLink RX7 21 "SleepWords$Search" "cost" "[I" ∈ lwg := lwg_at 482 (by decide +kernel) rfl
theorem fk_X7_24 : Cond.fieldLink RX7 24 "SleepWords$Search" "rows" "[I" ∈ lwg := lwg_at 483 (by decide +kernel) rfl
theorem ck_X11_58 : Cond.classLink RX11 58 RX1 ∈ lwg := lwg_at 497 (by decide +kernel) rfl
theorem ik_X1 : Cond.instantiable RX1 8 ∈ lwg := lwg_at 498 (by decide +kernel) rfl
theorem ln_X11_60 : Cond.methodLinkNest RX11 60 yX1_init "SleepWords" ∈ lw_tbl := List.mem_of_getElem? (i := 499) (by decide +kernel)
theorem im_X1_init : Cond.instanceMethod yX1_init ∈ lwg := lwg_at 500 (by decide +kernel) rfl
set_option maxRecDepth 40000 in
theorem cd_X1_init : Cond.code yX1_init cX1_init 1 none ∈ lwg := lwg_at 501 rfl rfl
theorem lk_X1_3 : Cond.methodLink RX1 3 objectInit ∈ lwg := lwg_at 502 (by decide +kernel) rfl
theorem fk_X1_19 : Cond.fieldLink RX1 19 "SleepWords$Fits" "known" "Z" ∈ lwg := lwg_at 503 (by decide +kernel) rfl
theorem fk_X11_98 : Cond.fieldLink RX11 98 "SleepWords$Fits" "known" "Z" ∈ lwg := lwg_at 504 (by decide +kernel) rfl
theorem fk_X1_23 : Cond.fieldLink RX1 23 "SleepWords$Fits" "count" "I" ∈ lwg := lwg_at 505 (by decide +kernel) rfl
theorem fk_X11_280 : Cond.fieldLink RX11 280 "SleepWords$Fits" "count" "I" ∈ lwg := lwg_at 506 (by decide +kernel) rfl
theorem fk_X1_27 : Cond.fieldLink RX1 27 "SleepWords$Fits" "inSome" "I" ∈ lwg := lwg_at 507 (by decide +kernel) rfl
theorem fk_X11_281 : Cond.fieldLink RX11 281 "SleepWords$Fits" "inSome" "I" ∈ lwg := lwg_at 508 (by decide +kernel) rfl
theorem fk_X1_37 : Cond.fieldLink RX1 37 "SleepWords$Fits" "inAll" "I" ∈ lwg := lwg_at 509 (by decide +kernel) rfl
theorem fk_X11_284 : Cond.fieldLink RX11 284 "SleepWords$Fits" "inAll" "I" ∈ lwg := lwg_at 510 (by decide +kernel) rfl
theorem fk_X1_47 : Cond.fieldLink RX1 47 "SleepWords$Fits" "asked" "I" ∈ lwg := lwg_at 511 (by decide +kernel) rfl
theorem fk_X11_287 : Cond.fieldLink RX11 287 "SleepWords$Fits" "asked" "I" ∈ lwg := lwg_at 512 (by decide +kernel) rfl
theorem fk_X1_50 : Cond.fieldLink RX1 50 "SleepWords$Fits" "leaves" "I" ∈ lwg := lwg_at 513 (by decide +kernel) rfl
theorem fk_X11_290 : Cond.fieldLink RX11 290 "SleepWords$Fits" "leaves" "I" ∈ lwg := lwg_at 514 (by decide +kernel) rfl
theorem fk_X1_9 : Cond.fieldLink RX1 9 "SleepWords$Fits" "fitting" "[Z" ∈ lwg := lwg_at 515 (by decide +kernel) rfl
theorem fk_X1_15 : Cond.fieldLink RX1 15 "SleepWords$Fits" "parts" "[I" ∈ lwg := lwg_at 516 (by decide +kernel) rfl
theorem ac_boolean : Cond.arrayClass .boolean ∈ lwg := lwg_at 534 (by decide +kernel) rfl
theorem fk_X11_9 : Cond.fieldLink RX11 9 "SleepWords" "tape" "[B" ∈ lwg := lwg_at 535 (by decide +kernel) rfl
theorem fk_X11_65 : Cond.fieldLink RX11 65 "SleepWords" "tapeLength" "I" ∈ lwg := lwg_at 536 (by decide +kernel) rfl
theorem fk_X11_111 : Cond.fieldLink RX11 111 "SleepWords" "trouble" "I" ∈ lwg := lwg_at 537 (by decide +kernel) rfl
theorem fk_X11_84 : Cond.fieldLink RX11 84 "SleepWords" "fault" "I" ∈ lwg := lwg_at 538 (by decide +kernel) rfl
theorem fk_X11_88 : Cond.fieldLink RX11 88 "SleepWords" "faultPlace" "I" ∈ lwg := lwg_at 539 (by decide +kernel) rfl
theorem fk_X11_16 : Cond.fieldLink RX11 16 "SleepWords" "county" "LSleepWords$County;" ∈ lwg := lwg_at 540 (by decide +kernel) rfl
theorem fk_X11_20 : Cond.fieldLink RX11 20 "SleepWords" "spare" "LSleepWords$County;" ∈ lwg := lwg_at 541 (by decide +kernel) rfl
theorem fk_X11_26 : Cond.fieldLink RX11 26 "SleepWords" "reade\x72" "LSleepWords$Reader;" ∈ lwg := lwg_at 542 (by decide +kernel) rfl
theorem fk_X11_33 : Cond.fieldLink RX11 33 "SleepWords" "now" "LSleepWords$Now;" ∈ lwg := lwg_at 543 (by decide +kernel) rfl
theorem fk_X11_40 : Cond.fieldLink RX11 40 "SleepWords" "past" "LSleepWords$Past;" ∈ lwg := lwg_at 544 (by decide +kernel) rfl
theorem fk_X11_47 : Cond.fieldLink RX11 47 "SleepWords" "tending" "LSleepWords$Tending;" ∈ lwg := lwg_at 545 (by decide +kernel) rfl
theorem fk_X11_54 : Cond.fieldLink RX11 54 "SleepWords" "search" "LSleepWords$Search;" ∈ lwg := lwg_at 546 (by decide +kernel) rfl
theorem fk_X11_61 : Cond.fieldLink RX11 61 "SleepWords" "fits" "LSleepWords$Fits;" ∈ lwg := lwg_at 547 (by decide +kernel) rfl
theorem lk_L_19 : Cond.methodLink RL 19 yX11_feed ∈ lwg := lwg_at 575 (by decide +kernel) rfl
theorem im_X11_feed : Cond.instanceMethod yX11_feed ∈ lwg := lwg_at 576 (by decide +kernel) rfl
theorem sl_X11_feed : Cond.selects RX11 yX11_feed yX11_feed ∈ lwg := lwg_at 577 (by decide +kernel) rfl
set_option maxRecDepth 40000 in
theorem cd_X11_feed : Cond.code yX11_feed cX11_feed 6 (some .int) ∈ lwg := lwg_at 578 rfl rfl
theorem lk_X11_69 : Cond.methodLink RX11 69 yX11_putBytes ∈ lwg := lwg_at 579 (by decide +kernel) rfl
theorem im_X11_putBytes : Cond.instanceMethod yX11_putBytes ∈ lwg := lwg_at 581 (by decide +kernel) rfl
set_option maxRecDepth 40000 in
theorem cd_X11_putBytes : Cond.code yX11_putBytes cX11_putBytes 3 none ∈ lwg := lwg_at 582 rfl rfl
theorem lk_L_24 : Cond.methodLink RL 24 yX11_county ∈ lwg := lwg_at 583 (by decide +kernel) rfl
theorem im_X11_county : Cond.instanceMethod yX11_county ∈ lwg := lwg_at 584 (by decide +kernel) rfl
theorem sl_X11_county : Cond.selects RX11 yX11_county yX11_county ∈ lwg := lwg_at 585 (by decide +kernel) rfl
set_option maxRecDepth 40000 in
theorem cd_X11_county : Cond.code yX11_county cX11_county 3 (some .int) ∈ lwg := lwg_at 586 rfl rfl
theorem lk_X11_73 : Cond.methodLink RX11 73 yX11_refuse ∈ lwg := lwg_at 587 (by decide +kernel) rfl
theorem im_X11_refuse : Cond.instanceMethod yX11_refuse ∈ lwg := lwg_at 589 (by decide +kernel) rfl
set_option maxRecDepth 40000 in
theorem cd_X11_refuse : Cond.code yX11_refuse cX11_refuse 2 (some .int) ∈ lwg := lwg_at 590 rfl rfl
theorem lk_X11_77 : Cond.methodLink RX11 77 yX6_read ∈ lwg := lwg_at 591 (by decide +kernel) rfl
theorem im_X6_read : Cond.instanceMethod yX6_read ∈ lwg := lwg_at 592 (by decide +kernel) rfl
theorem sl_X6_read : Cond.selects RX6 yX6_read yX6_read ∈ lwg := lwg_at 593 (by decide +kernel) rfl
set_option maxRecDepth 40000 in
theorem cd_X6_read : Cond.code yX6_read cX6_read 5 none ∈ lwg := lwg_at 594 rfl rfl
theorem lk_X6_23 : Cond.methodLink RX6 23 yX0_clear ∈ lwg := lwg_at 595 (by decide +kernel) rfl
theorem im_X0_clear : Cond.instanceMethod yX0_clear ∈ lwg := lwg_at 596 (by decide +kernel) rfl
theorem sl_X0_clear : Cond.selects RX0 yX0_clear yX0_clear ∈ lwg := lwg_at 597 (by decide +kernel) rfl
set_option maxRecDepth 40000 in
theorem cd_X0_clear : Cond.code yX0_clear cX0_clear 1 none ∈ lwg := lwg_at 598 rfl rfl
theorem lk_X6_37 : Cond.methodLink RX6 37 yX6_advance ∈ lwg := lwg_at 599 (by decide +kernel) rfl
theorem im_X6_advance : Cond.instanceMethod yX6_advance ∈ lwg := lwg_at 601 (by decide +kernel) rfl
set_option maxRecDepth 40000 in
theorem cd_X6_advance : Cond.code yX6_advance cX6_advance 1 none ∈ lwg := lwg_at 602 rfl rfl
theorem lk_X6_63 : Cond.methodLink RX6 63 yX6_isLetter ∈ lwg := lwg_at 603 (by decide +kernel) rfl
theorem st_X6_isLetter : Cond.static yX6_isLetter ∈ lwg := lwg_at 604 (by decide +kernel) rfl
set_option maxRecDepth 40000 in
theorem cd_X6_isLetter : Cond.code yX6_isLetter cX6_isLetter 1 (some .boolean) ∈ lwg := lwg_at 605 rfl rfl
theorem lk_X6_67 : Cond.methodLink RX6 67 yX6_advanceWord ∈ lwg := lwg_at 606 (by decide +kernel) rfl
theorem im_X6_advanceWord : Cond.instanceMethod yX6_advanceWord ∈ lwg := lwg_at 608 (by decide +kernel) rfl
set_option maxRecDepth 40000 in
theorem cd_X6_advanceWord : Cond.code yX6_advanceWord cX6_advanceWord 1 none ∈ lwg := lwg_at 609 rfl rfl
theorem lk_X6_70 : Cond.methodLink RX6 70 yX6_isDigit ∈ lwg := lwg_at 610 (by decide +kernel) rfl
theorem st_X6_isDigit : Cond.static yX6_isDigit ∈ lwg := lwg_at 611 (by decide +kernel) rfl
set_option maxRecDepth 40000 in
theorem cd_X6_isDigit : Cond.code yX6_isDigit cX6_isDigit 1 (some .boolean) ∈ lwg := lwg_at 612 rfl rfl
theorem lk_X6_73 : Cond.methodLink RX6 73 yX6_advanceWhole ∈ lwg := lwg_at 613 (by decide +kernel) rfl
theorem im_X6_advanceWhole : Cond.instanceMethod yX6_advanceWhole ∈ lwg := lwg_at 615 (by decide +kernel) rfl
set_option maxRecDepth 40000 in
theorem cd_X6_advanceWhole : Cond.code yX6_advanceWhole cX6_advanceWhole 1 none ∈ lwg := lwg_at 616 rfl rfl
theorem lk_X6_40 : Cond.methodLink RX6 40 yX6_takeLine ∈ lwg := lwg_at 617 (by decide +kernel) rfl
theorem im_X6_takeLine : Cond.instanceMethod yX6_takeLine ∈ lwg := lwg_at 619 (by decide +kernel) rfl
set_option maxRecDepth 40000 in
theorem cd_X6_takeLine : Cond.code yX6_takeLine cX6_takeLine 1 (some .boolean) ∈ lwg := lwg_at 620 rfl rfl
theorem lk_X6_94 : Cond.methodLink RX6 94 yX6_spells ∈ lwg := lwg_at 622 (by decide +kernel) rfl
theorem im_X6_spells : Cond.instanceMethod yX6_spells ∈ lwg := lwg_at 624 (by decide +kernel) rfl
set_option maxRecDepth 40000 in
theorem cd_X6_spells : Cond.code yX6_spells cX6_spells 3 (some .boolean) ∈ lwg := lwg_at 625 rfl rfl
theorem lk_X6_83 : Cond.methodLink RX6 83 yJ0_length_8abf5 ∈ lwg := lwg_at 626 (by decide +kernel) rfl
theorem im_J0_length_8abf5 : Cond.instanceMethod yJ0_length_8abf5 ∈ lwg := lwg_at 627 (by decide +kernel) rfl
theorem sl_J0_length_8abf5 : Cond.selects RJ0 yJ0_length_8abf5 yJ0_length_8abf5 ∈ lwg := lwg_at 628 (by decide +kernel) rfl
set_option maxRecDepth 40000 in
theorem cd_J0_length_8abf5 : Cond.code yJ0_length_8abf5 cJ0_length_8abf5 1 (some .int) ∈ lwg := lwg_at 629 rfl rfl
theorem lk_J0_335 : Cond.methodLink RJ0 335 yJ0_coder_7d493 ∈ lwg := lwg_at 630 (by decide +kernel) rfl
theorem im_J0_coder_7d493 : Cond.instanceMethod yJ0_coder_7d493 ∈ lwg := lwg_at 631 (by decide +kernel) rfl
theorem sl_J0_coder_7d493 : Cond.selects RJ0 yJ0_coder_7d493 yJ0_coder_7d493 ∈ lwg := lwg_at 632 (by decide +kernel) rfl
set_option maxRecDepth 40000 in
theorem cd_J0_coder_7d493 : Cond.code yJ0_coder_7d493 cJ0_coder_7d493 1 (some .byte) ∈ lwg := lwg_at 633 rfl rfl
theorem fk_J0_38 : Cond.fieldLink RJ0 38 "java/lang/String" "COMPACT_STRINGS" "Z" ∈ lwg := lwg_at 634 (by decide +kernel) rfl
theorem lk_X6_88 : Cond.methodLink RX6 88 yJ0_charAt_5068e ∈ lwg := lwg_at 636 (by decide +kernel) rfl
theorem im_J0_charAt_5068e : Cond.instanceMethod yJ0_charAt_5068e ∈ lwg := lwg_at 637 (by decide +kernel) rfl
theorem sl_J0_charAt_5068e : Cond.selects RJ0 yJ0_charAt_5068e yJ0_charAt_5068e ∈ lwg := lwg_at 638 (by decide +kernel) rfl
set_option maxRecDepth 40000 in
theorem cd_J0_charAt_5068e : Cond.code yJ0_charAt_5068e cJ0_charAt_5068e 2 (some .char) ∈ lwg := lwg_at 639 rfl rfl
theorem lk_J0_492 : Cond.methodLink RJ0 492 yJ0_isLatin1_aae02 ∈ lwg := lwg_at 640 (by decide +kernel) rfl
theorem im_J0_isLatin1_aae02 : Cond.instanceMethod yJ0_isLatin1_aae02 ∈ lwg := lwg_at 641 (by decide +kernel) rfl
theorem sl_J0_isLatin1_aae02 : Cond.selects RJ0 yJ0_isLatin1_aae02 yJ0_isLatin1_aae02 ∈ lwg := lwg_at 642 (by decide +kernel) rfl
set_option maxRecDepth 40000 in
theorem cd_J0_isLatin1_aae02 : Cond.code yJ0_isLatin1_aae02 cJ0_isLatin1_aae02 1 (some .boolean) ∈ lwg := lwg_at 643 rfl rfl
theorem lk_J0_495 : Cond.methodLink RJ0 495 yJ1_charAt_3b067 ∈ lwg := lwg_at 644 (by decide +kernel) rfl
theorem st_J1_charAt_3b067 : Cond.static yJ1_charAt_3b067 ∈ lwg := lwg_at 645 (by decide +kernel) rfl
set_option maxRecDepth 40000 in
theorem cd_J1_charAt_3b067 : Cond.code yJ1_charAt_3b067 cJ1_charAt_3b067 2 (some .char) ∈ lwg := lwg_at 646 rfl rfl
theorem lk_J1_9 : Cond.methodLink RJ1 9 yJ0_checkIndex_df160 ∈ lwg := lwg_at 647 (by decide +kernel) rfl
theorem st_J0_checkIndex_df160 : Cond.static yJ0_checkIndex_df160 ∈ lwg := lwg_at 648 (by decide +kernel) rfl
set_option maxRecDepth 40000 in
theorem cd_J0_checkIndex_df160 : Cond.code yJ0_checkIndex_df160 cJ0_checkIndex_df160 2 none ∈ lwg := lwg_at 649 rfl rfl
theorem fk_J0_1053 : Cond.fieldLink RJ0 1053 "jdk/internal/util/Preconditions" "SIOOBE_FORMATTER" "Ljava/util/function/BiFunction;" ∈ lwg := lwg_at 650 (by decide +kernel) rfl
theorem lk_J0_1059 : Cond.methodLink RJ0 1059 yJ3_checkIndex_8e157 ∈ lwg := lwg_at 652 (by decide +kernel) rfl
theorem st_J3_checkIndex_8e157 : Cond.static yJ3_checkIndex_8e157 ∈ lwg := lwg_at 653 (by decide +kernel) rfl
set_option maxRecDepth 40000 in
theorem cd_J3_checkIndex_8e157 : Cond.code yJ3_checkIndex_8e157 cJ3_checkIndex_8e157 3 (some .int) ∈ lwg := lwg_at 654 rfl rfl
theorem lk_X6_114 : Cond.methodLink RX6 114 yX6_takeCounty ∈ lwg := lwg_at 674 (by decide +kernel) rfl
theorem im_X6_takeCounty : Cond.instanceMethod yX6_takeCounty ∈ lwg := lwg_at 676 (by decide +kernel) rfl
set_option maxRecDepth 40000 in
theorem cd_X6_takeCounty : Cond.code yX6_takeCounty cX6_takeCounty 1 (some .boolean) ∈ lwg := lwg_at 677 rfl rfl
theorem lk_X6_47 : Cond.methodLink RX6 47 yX6_fail ∈ lwg := lwg_at 678 (by decide +kernel) rfl
theorem im_X6_fail : Cond.instanceMethod yX6_fail ∈ lwg := lwg_at 680 (by decide +kernel) rfl
set_option maxRecDepth 40000 in
theorem cd_X6_fail : Cond.code yX6_fail cX6_fail 2 (some .boolean) ∈ lwg := lwg_at 681 rfl rfl
theorem lk_X6_179 : Cond.methodLink RX6 179 yX6_takeKeyword ∈ lwg := lwg_at 683 (by decide +kernel) rfl
theorem im_X6_takeKeyword : Cond.instanceMethod yX6_takeKeyword ∈ lwg := lwg_at 685 (by decide +kernel) rfl
set_option maxRecDepth 40000 in
theorem cd_X6_takeKeyword : Cond.code yX6_takeKeyword cX6_takeKeyword 2 (some .boolean) ∈ lwg := lwg_at 686 rfl rfl
theorem lk_X6_182 : Cond.methodLink RX6 182 yX6_isNumber ∈ lwg := lwg_at 687 (by decide +kernel) rfl
theorem im_X6_isNumber : Cond.instanceMethod yX6_isNumber ∈ lwg := lwg_at 689 (by decide +kernel) rfl
set_option maxRecDepth 40000 in
theorem cd_X6_isNumber : Cond.code yX6_isNumber cX6_isNumber 3 (some .boolean) ∈ lwg := lwg_at 690 rfl rfl
theorem lk_X6_117 : Cond.methodLink RX6 117 yX6_begin ∈ lwg := lwg_at 693 (by decide +kernel) rfl
theorem im_X6_begin : Cond.instanceMethod yX6_begin ∈ lwg := lwg_at 695 (by decide +kernel) rfl
set_option maxRecDepth 40000 in
theorem cd_X6_begin : Cond.code yX6_begin cX6_begin 3 (some .boolean) ∈ lwg := lwg_at 696 rfl rfl
theorem lk_X6_121 : Cond.methodLink RX6 121 yX6_takeSleeper ∈ lwg := lwg_at 697 (by decide +kernel) rfl
theorem im_X6_takeSleeper : Cond.instanceMethod yX6_takeSleeper ∈ lwg := lwg_at 699 (by decide +kernel) rfl
set_option maxRecDepth 40000 in
theorem cd_X6_takeSleeper : Cond.code yX6_takeSleeper cX6_takeSleeper 4 (some .boolean) ∈ lwg := lwg_at 700 rfl rfl
theorem lk_X6_191 : Cond.methodLink RX6 191 yX6_isNewName ∈ lwg := lwg_at 701 (by decide +kernel) rfl
theorem im_X6_isNewName : Cond.instanceMethod yX6_isNewName ∈ lwg := lwg_at 703 (by decide +kernel) rfl
set_option maxRecDepth 40000 in
theorem cd_X6_isNewName : Cond.code yX6_isNewName cX6_isNewName 1 (some .boolean) ∈ lwg := lwg_at 704 rfl rfl
theorem lk_X6_170 : Cond.methodLink RX6 170 yX6_isReserved ∈ lwg := lwg_at 705 (by decide +kernel) rfl
theorem im_X6_isReserved : Cond.instanceMethod yX6_isReserved ∈ lwg := lwg_at 707 (by decide +kernel) rfl
set_option maxRecDepth 40000 in
theorem cd_X6_isReserved : Cond.code yX6_isReserved cX6_isReserved 1 (some .boolean) ∈ lwg := lwg_at 708 rfl rfl
theorem lk_X6_173 : Cond.methodLink RX6 173 yX0_hasName ∈ lwg := lwg_at 716 (by decide +kernel) rfl
theorem im_X0_hasName : Cond.instanceMethod yX0_hasName ∈ lwg := lwg_at 717 (by decide +kernel) rfl
theorem sl_X0_hasName : Cond.selects RX0 yX0_hasName yX0_hasName ∈ lwg := lwg_at 718 (by decide +kernel) rfl
set_option maxRecDepth 40000 in
theorem cd_X0_hasName : Cond.code yX0_hasName cX0_hasName 4 (some .boolean) ∈ lwg := lwg_at 719 rfl rfl
theorem lk_X0_67 : Cond.methodLink RX0 67 yX10_find ∈ lwg := lwg_at 720 (by decide +kernel) rfl
theorem im_X10_find : Cond.instanceMethod yX10_find ∈ lwg := lwg_at 721 (by decide +kernel) rfl
theorem sl_X10_find : Cond.selects RX10 yX10_find yX10_find ∈ lwg := lwg_at 722 (by decide +kernel) rfl
set_option maxRecDepth 40000 in
theorem cd_X10_find : Cond.code yX10_find cX10_find 4 (some .int) ∈ lwg := lwg_at 723 rfl rfl
theorem lk_X6_198 : Cond.methodLink RX6 198 yX6_kindSpelt ∈ lwg := lwg_at 724 (by decide +kernel) rfl
theorem im_X6_kindSpelt : Cond.instanceMethod yX6_kindSpelt ∈ lwg := lwg_at 726 (by decide +kernel) rfl
set_option maxRecDepth 40000 in
theorem cd_X6_kindSpelt : Cond.code yX6_kindSpelt cX6_kindSpelt 1 (some .int) ∈ lwg := lwg_at 727 rfl rfl
theorem lk_X6_131 : Cond.methodLink RX6 131 yX6_takeHelper ∈ lwg := lwg_at 734 (by decide +kernel) rfl
theorem im_X6_takeHelper : Cond.instanceMethod yX6_takeHelper ∈ lwg := lwg_at 736 (by decide +kernel) rfl
set_option maxRecDepth 40000 in
theorem cd_X6_takeHelper : Cond.code yX6_takeHelper cX6_takeHelper 3 (some .boolean) ∈ lwg := lwg_at 737 rfl rfl
theorem lk_X6_141 : Cond.methodLink RX6 141 yX6_takeWordLine ∈ lwg := lwg_at 740 (by decide +kernel) rfl
theorem im_X6_takeWordLine : Cond.instanceMethod yX6_takeWordLine ∈ lwg := lwg_at 742 (by decide +kernel) rfl
set_option maxRecDepth 40000 in
theorem cd_X6_takeWordLine : Cond.code yX6_takeWordLine cX6_takeWordLine 3 (some .boolean) ∈ lwg := lwg_at 743 rfl rfl
theorem lk_X6_147 : Cond.methodLink RX6 147 yX6_takeBefore ∈ lwg := lwg_at 746 (by decide +kernel) rfl
theorem im_X6_takeBefore : Cond.instanceMethod yX6_takeBefore ∈ lwg := lwg_at 748 (by decide +kernel) rfl
set_option maxRecDepth 40000 in
theorem cd_X6_takeBefore : Cond.code yX6_takeBefore cX6_takeBefore 4 (some .boolean) ∈ lwg := lwg_at 749 rfl rfl
theorem lk_X6_250 : Cond.methodLink RX6 250 yX6_isToldWord ∈ lwg := lwg_at 750 (by decide +kernel) rfl
theorem im_X6_isToldWord : Cond.instanceMethod yX6_isToldWord ∈ lwg := lwg_at 752 (by decide +kernel) rfl
set_option maxRecDepth 40000 in
theorem cd_X6_isToldWord : Cond.code yX6_isToldWord cX6_isToldWord 1 (some .boolean) ∈ lwg := lwg_at 753 rfl rfl
theorem lk_X6_246 : Cond.methodLink RX6 246 yX10_find ∈ lwg := lwg_at 754 (by decide +kernel) rfl
theorem ln_X6_253 : Cond.methodLinkNest RX6 253 yX11_bit "SleepWords" ∈ lw_tbl := List.mem_of_getElem? (i := 755) (by decide +kernel)
theorem st_X11_bit : Cond.static yX11_bit ∈ lwg := lwg_at 756 (by decide +kernel) rfl
set_option maxRecDepth 40000 in
theorem cd_X11_bit : Cond.code yX11_bit cX11_bit 1 (some .int) ∈ lwg := lwg_at 757 rfl rfl
theorem lk_X6_257 : Cond.methodLink RX6 257 yX10_putBefore ∈ lwg := lwg_at 758 (by decide +kernel) rfl
theorem im_X10_putBefore : Cond.instanceMethod yX10_putBefore ∈ lwg := lwg_at 759 (by decide +kernel) rfl
theorem sl_X10_putBefore : Cond.selects RX10 yX10_putBefore yX10_putBefore ∈ lwg := lwg_at 760 (by decide +kernel) rfl
set_option maxRecDepth 40000 in
theorem cd_X10_putBefore : Cond.code yX10_putBefore cX10_putBefore 5 none ∈ lwg := lwg_at 761 rfl rfl
theorem ln_X10_32 : Cond.methodLinkNest RX10 32 yX11_bit "SleepWords" ∈ lw_tbl := List.mem_of_getElem? (i := 762) (by decide +kernel)
theorem lk_X6_157 : Cond.methodLink RX6 157 yX6_takeOrder ∈ lwg := lwg_at 763 (by decide +kernel) rfl
theorem im_X6_takeOrder : Cond.instanceMethod yX6_takeOrder ∈ lwg := lwg_at 765 (by decide +kernel) rfl
set_option maxRecDepth 40000 in
theorem cd_X6_takeOrder : Cond.code yX6_takeOrder cX6_takeOrder 3 (some .boolean) ∈ lwg := lwg_at 766 rfl rfl
theorem lk_X6_269 : Cond.methodLink RX6 269 yX4_hasRank ∈ lwg := lwg_at 768 (by decide +kernel) rfl
theorem im_X4_hasRank : Cond.instanceMethod yX4_hasRank ∈ lwg := lwg_at 769 (by decide +kernel) rfl
theorem sl_X4_hasRank : Cond.selects RX4 yX4_hasRank yX4_hasRank ∈ lwg := lwg_at 770 (by decide +kernel) rfl
set_option maxRecDepth 40000 in
theorem cd_X4_hasRank : Cond.code yX4_hasRank cX4_hasRank 5 (some .boolean) ∈ lwg := lwg_at 771 rfl rfl
theorem lk_X6_163 : Cond.methodLink RX6 163 yX6_takeSeen ∈ lwg := lwg_at 772 (by decide +kernel) rfl
theorem im_X6_takeSeen : Cond.instanceMethod yX6_takeSeen ∈ lwg := lwg_at 774 (by decide +kernel) rfl
set_option maxRecDepth 40000 in
theorem cd_X6_takeSeen : Cond.code yX6_takeSeen cX6_takeSeen 3 (some .boolean) ∈ lwg := lwg_at 775 rfl rfl
theorem lk_X6_275 : Cond.methodLink RX6 275 yX4_wasSeen ∈ lwg := lwg_at 776 (by decide +kernel) rfl
theorem im_X4_wasSeen : Cond.instanceMethod yX4_wasSeen ∈ lwg := lwg_at 777 (by decide +kernel) rfl
theorem sl_X4_wasSeen : Cond.selects RX4 yX4_wasSeen yX4_wasSeen ∈ lwg := lwg_at 778 (by decide +kernel) rfl
set_option maxRecDepth 40000 in
theorem cd_X4_wasSeen : Cond.code yX4_wasSeen cX4_wasSeen 4 (some .boolean) ∈ lwg := lwg_at 779 rfl rfl
theorem lk_X11_89 : Cond.methodLink RX11 89 yX3_reset ∈ lwg := lwg_at 780 (by decide +kernel) rfl
theorem im_X3_reset : Cond.instanceMethod yX3_reset ∈ lwg := lwg_at 781 (by decide +kernel) rfl
theorem sl_X3_reset : Cond.selects RX3 yX3_reset yX3_reset ∈ lwg := lwg_at 782 (by decide +kernel) rfl
set_option maxRecDepth 40000 in
theorem cd_X3_reset : Cond.code yX3_reset cX3_reset 2 none ∈ lwg := lwg_at 783 rfl rfl
theorem lk_X3_32 : Cond.methodLink RX3 32 yX3_tendNobody ∈ lwg := lwg_at 784 (by decide +kernel) rfl
theorem im_X3_tendNobody : Cond.instanceMethod yX3_tendNobody ∈ lwg := lwg_at 785 (by decide +kernel) rfl
theorem sl_X3_tendNobody : Cond.selects RX3 yX3_tendNobody yX3_tendNobody ∈ lwg := lwg_at 786 (by decide +kernel) rfl
set_option maxRecDepth 40000 in
theorem cd_X3_tendNobody : Cond.code yX3_tendNobody cX3_tendNobody 2 none ∈ lwg := lwg_at 787 rfl rfl
theorem lk_X11_92 : Cond.methodLink RX11 92 yX5_reset ∈ lwg := lwg_at 788 (by decide +kernel) rfl
theorem im_X5_reset : Cond.instanceMethod yX5_reset ∈ lwg := lwg_at 789 (by decide +kernel) rfl
theorem sl_X5_reset : Cond.selects RX5 yX5_reset yX5_reset ∈ lwg := lwg_at 790 (by decide +kernel) rfl
set_option maxRecDepth 40000 in
theorem cd_X5_reset : Cond.code yX5_reset cX5_reset 1 none ∈ lwg := lwg_at 791 rfl rfl
theorem lk_X11_108 : Cond.methodLink RX11 108 yX11_grant ∈ lwg := lwg_at 792 (by decide +kernel) rfl
theorem im_X11_grant : Cond.instanceMethod yX11_grant ∈ lwg := lwg_at 794 (by decide +kernel) rfl
set_option maxRecDepth 40000 in
theorem cd_X11_grant : Cond.code yX11_grant cX11_grant 2 (some .int) ∈ lwg := lwg_at 795 rfl rfl
theorem lk_L_28 : Cond.methodLink RL 28 yX11_fault ∈ lwg := lwg_at 796 (by decide +kernel) rfl
theorem im_X11_fault : Cond.instanceMethod yX11_fault ∈ lwg := lwg_at 797 (by decide +kernel) rfl
theorem sl_X11_fault : Cond.selects RX11 yX11_fault yX11_fault ∈ lwg := lwg_at 798 (by decide +kernel) rfl
set_option maxRecDepth 40000 in
theorem cd_X11_fault : Cond.code yX11_fault cX11_fault 1 (some .int) ∈ lwg := lwg_at 799 rfl rfl
theorem lk_L_33 : Cond.methodLink RL 33 yX11_where ∈ lwg := lwg_at 800 (by decide +kernel) rfl
theorem im_X11_where : Cond.instanceMethod yX11_where ∈ lwg := lwg_at 801 (by decide +kernel) rfl
theorem sl_X11_where : Cond.selects RX11 yX11_where yX11_where ∈ lwg := lwg_at 802 (by decide +kernel) rfl
set_option maxRecDepth 40000 in
theorem cd_X11_where : Cond.code yX11_where cX11_where 1 (some .int) ∈ lwg := lwg_at 803 rfl rfl
theorem lk_L_37 : Cond.methodLink RL 37 yX11_counts ∈ lwg := lwg_at 804 (by decide +kernel) rfl
theorem im_X11_counts : Cond.instanceMethod yX11_counts ∈ lwg := lwg_at 805 (by decide +kernel) rfl
theorem sl_X11_counts : Cond.selects RX11 yX11_counts yX11_counts ∈ lwg := lwg_at 806 (by decide +kernel) rfl
set_option maxRecDepth 40000 in
theorem cd_X11_counts : Cond.code yX11_counts cX11_counts 2 (some .int) ∈ lwg := lwg_at 807 rfl rfl
theorem kk_X11_117 : Cond.constant RX11 117 99999 ∈ lwg := lwg_at 808 (by decide +kernel) rfl
theorem lk_X11_118 : Cond.methodLink RX11 118 yX0_toldFor ∈ lwg := lwg_at 809 (by decide +kernel) rfl
theorem im_X0_toldFor : Cond.instanceMethod yX0_toldFor ∈ lwg := lwg_at 810 (by decide +kernel) rfl
theorem sl_X0_toldFor : Cond.selects RX0 yX0_toldFor yX0_toldFor ∈ lwg := lwg_at 811 (by decide +kernel) rfl
set_option maxRecDepth 40000 in
theorem cd_X0_toldFor : Cond.code yX0_toldFor cX0_toldFor 6 (some .int) ∈ lwg := lwg_at 812 rfl rfl
theorem lk_L_41 : Cond.methodLink RL 41 yX11_really ∈ lwg := lwg_at 813 (by decide +kernel) rfl
theorem im_X11_really : Cond.instanceMethod yX11_really ∈ lwg := lwg_at 814 (by decide +kernel) rfl
theorem sl_X11_really : Cond.selects RX11 yX11_really yX11_really ∈ lwg := lwg_at 815 (by decide +kernel) rfl
set_option maxRecDepth 40000 in
theorem cd_X11_really : Cond.code yX11_really cX11_really 2 (some .int) ∈ lwg := lwg_at 816 rfl rfl
theorem kk_X11_121 : Cond.constant RX11 121 999999 ∈ lwg := lwg_at 817 (by decide +kernel) rfl
theorem lk_X11_122 : Cond.methodLink RX11 122 yX0_thingsFor ∈ lwg := lwg_at 818 (by decide +kernel) rfl
theorem im_X0_thingsFor : Cond.instanceMethod yX0_thingsFor ∈ lwg := lwg_at 819 (by decide +kernel) rfl
theorem sl_X0_thingsFor : Cond.selects RX0 yX0_thingsFor yX0_thingsFor ∈ lwg := lwg_at 820 (by decide +kernel) rfl
set_option maxRecDepth 40000 in
theorem cd_X0_thingsFor : Cond.code yX0_thingsFor cX0_thingsFor 6 (some .int) ∈ lwg := lwg_at 821 rfl rfl
theorem lk_L_45 : Cond.methodLink RL 45 yX11_sum ∈ lwg := lwg_at 822 (by decide +kernel) rfl
theorem im_X11_sum : Cond.instanceMethod yX11_sum ∈ lwg := lwg_at 823 (by decide +kernel) rfl
theorem sl_X11_sum : Cond.selects RX11 yX11_sum yX11_sum ∈ lwg := lwg_at 824 (by decide +kernel) rfl
set_option maxRecDepth 40000 in
theorem cd_X11_sum : Cond.code yX11_sum cX11_sum 5 (some .int) ∈ lwg := lwg_at 825 rfl rfl
theorem lk_L_50 : Cond.methodLink RL 50 yX11_sleeper ∈ lwg := lwg_at 826 (by decide +kernel) rfl
theorem im_X11_sleeper : Cond.instanceMethod yX11_sleeper ∈ lwg := lwg_at 827 (by decide +kernel) rfl
theorem sl_X11_sleeper : Cond.selects RX11 yX11_sleeper yX11_sleeper ∈ lwg := lwg_at 828 (by decide +kernel) rfl
set_option maxRecDepth 40000 in
theorem cd_X11_sleeper : Cond.code yX11_sleeper cX11_sleeper 3 (some .int) ∈ lwg := lwg_at 829 rfl rfl
theorem lk_X11_125 : Cond.methodLink RX11 125 yX11_isSleeper ∈ lwg := lwg_at 830 (by decide +kernel) rfl
theorem im_X11_isSleeper : Cond.instanceMethod yX11_isSleeper ∈ lwg := lwg_at 832 (by decide +kernel) rfl
set_option maxRecDepth 40000 in
theorem cd_X11_isSleeper : Cond.code yX11_isSleeper cX11_isSleeper 2 (some .boolean) ∈ lwg := lwg_at 833 rfl rfl
theorem lk_X11_145 : Cond.methodLink RX11 145 yX0_tendersOf ∈ lwg := lwg_at 834 (by decide +kernel) rfl
theorem im_X0_tendersOf : Cond.instanceMethod yX0_tendersOf ∈ lwg := lwg_at 835 (by decide +kernel) rfl
theorem sl_X0_tendersOf : Cond.selects RX0 yX0_tendersOf yX0_tendersOf ∈ lwg := lwg_at 836 (by decide +kernel) rfl
set_option maxRecDepth 40000 in
theorem cd_X0_tendersOf : Cond.code yX0_tendersOf cX0_tendersOf 4 (some .int) ∈ lwg := lwg_at 837 rfl rfl
theorem lk_X0_85 : Cond.methodLink RX0 85 yX0_reaches ∈ lwg := lwg_at 838 (by decide +kernel) rfl
theorem im_X0_reaches : Cond.instanceMethod yX0_reaches ∈ lwg := lwg_at 839 (by decide +kernel) rfl
theorem sl_X0_reaches : Cond.selects RX0 yX0_reaches yX0_reaches ∈ lwg := lwg_at 840 (by decide +kernel) rfl
set_option maxRecDepth 40000 in
theorem cd_X0_reaches : Cond.code yX0_reaches cX0_reaches 3 (some .boolean) ∈ lwg := lwg_at 841 rfl rfl
theorem lk_X0_76 : Cond.methodLink RX0 76 yJ9_abs_0f7a4 ∈ lwg := lwg_at 842 (by decide +kernel) rfl
theorem st_J9_abs_0f7a4 : Cond.static yJ9_abs_0f7a4 ∈ lwg := lwg_at 843 (by decide +kernel) rfl
set_option maxRecDepth 40000 in
theorem cd_J9_abs_0f7a4 : Cond.code yJ9_abs_0f7a4 cJ9_abs_0f7a4 1 (some .int) ∈ lwg := lwg_at 844 rfl rfl
theorem ln_X0_89 : Cond.methodLinkNest RX0 89 yX11_bit "SleepWords" ∈ lw_tbl := List.mem_of_getElem? (i := 845) (by decide +kernel)
theorem lk_L_54 : Cond.methodLink RL 54 yX11_awake ∈ lwg := lwg_at 846 (by decide +kernel) rfl
theorem im_X11_awake : Cond.instanceMethod yX11_awake ∈ lwg := lwg_at 847 (by decide +kernel) rfl
theorem sl_X11_awake : Cond.selects RX11 yX11_awake yX11_awake ∈ lwg := lwg_at 848 (by decide +kernel) rfl
set_option maxRecDepth 40000 in
theorem cd_X11_awake : Cond.code yX11_awake cX11_awake 3 (some .int) ∈ lwg := lwg_at 849 rfl rfl
theorem lk_X11_148 : Cond.methodLink RX11 148 yX11_isHelper ∈ lwg := lwg_at 850 (by decide +kernel) rfl
theorem im_X11_isHelper : Cond.instanceMethod yX11_isHelper ∈ lwg := lwg_at 852 (by decide +kernel) rfl
set_option maxRecDepth 40000 in
theorem cd_X11_isHelper : Cond.code yX11_isHelper cX11_isHelper 2 (some .boolean) ∈ lwg := lwg_at 853 rfl rfl
theorem lk_X11_164 : Cond.methodLink RX11 164 yX3_tendedByOne ∈ lwg := lwg_at 854 (by decide +kernel) rfl
theorem im_X3_tendedByOne : Cond.instanceMethod yX3_tendedByOne ∈ lwg := lwg_at 855 (by decide +kernel) rfl
theorem sl_X3_tendedByOne : Cond.selects RX3 yX3_tendedByOne yX3_tendedByOne ∈ lwg := lwg_at 856 (by decide +kernel) rfl
set_option maxRecDepth 40000 in
theorem cd_X3_tendedByOne : Cond.code yX3_tendedByOne cX3_tendedByOne 4 (some .int) ∈ lwg := lwg_at 857 rfl rfl
theorem ln_X3_35 : Cond.methodLinkNest RX3 35 yX11_bit "SleepWords" ∈ lw_tbl := List.mem_of_getElem? (i := 858) (by decide +kernel)
theorem lk_X11_167 : Cond.methodLink RX11 167 yX11_freeHands ∈ lwg := lwg_at 859 (by decide +kernel) rfl
theorem im_X11_freeHands : Cond.instanceMethod yX11_freeHands ∈ lwg := lwg_at 861 (by decide +kernel) rfl
set_option maxRecDepth 40000 in
theorem cd_X11_freeHands : Cond.code yX11_freeHands cX11_freeHands 2 (some .int) ∈ lwg := lwg_at 862 rfl rfl
theorem lk_X11_248 : Cond.methodLink RX11 248 yJ6_bitCount_0f7a4 ∈ lwg := lwg_at 863 (by decide +kernel) rfl
theorem st_J6_bitCount_0f7a4 : Cond.static yJ6_bitCount_0f7a4 ∈ lwg := lwg_at 864 (by decide +kernel) rfl
set_option maxRecDepth 40000 in
theorem cd_J6_bitCount_0f7a4 : Cond.code yJ6_bitCount_0f7a4 cJ6_bitCount_0f7a4 1 (some .int) ∈ lwg := lwg_at 865 rfl rfl
theorem kk_J6_265 : Cond.constant RJ6 265 1431655765 ∈ lwg := lwg_at 866 (by decide +kernel) rfl
theorem kk_J6_266 : Cond.constant RJ6 266 858993459 ∈ lwg := lwg_at 867 (by decide +kernel) rfl
theorem kk_J6_267 : Cond.constant RJ6 267 252645135 ∈ lwg := lwg_at 868 (by decide +kernel) rfl
theorem lk_L_58 : Cond.methodLink RL 58 yX11_harmOf ∈ lwg := lwg_at 869 (by decide +kernel) rfl
theorem im_X11_harmOf : Cond.instanceMethod yX11_harmOf ∈ lwg := lwg_at 870 (by decide +kernel) rfl
theorem sl_X11_harmOf : Cond.selects RX11 yX11_harmOf yX11_harmOf ∈ lwg := lwg_at 871 (by decide +kernel) rfl
set_option maxRecDepth 40000 in
theorem cd_X11_harmOf : Cond.code yX11_harmOf cX11_harmOf 2 (some .int) ∈ lwg := lwg_at 872 rfl rfl
theorem lk_X11_173 : Cond.methodLink RX11 173 yX3_tendedBits ∈ lwg := lwg_at 873 (by decide +kernel) rfl
theorem im_X3_tendedBits : Cond.instanceMethod yX3_tendedBits ∈ lwg := lwg_at 874 (by decide +kernel) rfl
theorem sl_X3_tendedBits : Cond.selects RX3 yX3_tendedBits yX3_tendedBits ∈ lwg := lwg_at 875 (by decide +kernel) rfl
set_option maxRecDepth 40000 in
theorem cd_X3_tendedBits : Cond.code yX3_tendedBits cX3_tendedBits 3 (some .int) ∈ lwg := lwg_at 876 rfl rfl
theorem lk_X11_177 : Cond.methodLink RX11 177 yX0_dayHarm ∈ lwg := lwg_at 877 (by decide +kernel) rfl
theorem im_X0_dayHarm : Cond.instanceMethod yX0_dayHarm ∈ lwg := lwg_at 878 (by decide +kernel) rfl
theorem sl_X0_dayHarm : Cond.selects RX0 yX0_dayHarm yX0_dayHarm ∈ lwg := lwg_at 879 (by decide +kernel) rfl
set_option maxRecDepth 40000 in
theorem cd_X0_dayHarm : Cond.code yX0_dayHarm cX0_dayHarm 3 (some .int) ∈ lwg := lwg_at 880 rfl rfl
theorem lk_X0_95 : Cond.methodLink RX0 95 yX8_anySheep ∈ lwg := lwg_at 881 (by decide +kernel) rfl
theorem im_X8_anySheep : Cond.instanceMethod yX8_anySheep ∈ lwg := lwg_at 882 (by decide +kernel) rfl
theorem sl_X8_anySheep : Cond.selects RX8 yX8_anySheep yX8_anySheep ∈ lwg := lwg_at 883 (by decide +kernel) rfl
set_option maxRecDepth 40000 in
theorem cd_X8_anySheep : Cond.code yX8_anySheep cX8_anySheep 3 (some .boolean) ∈ lwg := lwg_at 884 rfl rfl
theorem ln_X8_29 : Cond.methodLinkNest RX8 29 yX11_bit "SleepWords" ∈ lw_tbl := List.mem_of_getElem? (i := 885) (by decide +kernel)
theorem lk_X0_99 : Cond.methodLink RX0 99 yX8_weight ∈ lwg := lwg_at 886 (by decide +kernel) rfl
theorem im_X8_weight : Cond.instanceMethod yX8_weight ∈ lwg := lwg_at 887 (by decide +kernel) rfl
theorem sl_X8_weight : Cond.selects RX8 yX8_weight yX8_weight ∈ lwg := lwg_at 888 (by decide +kernel) rfl
set_option maxRecDepth 40000 in
theorem cd_X8_weight : Cond.code yX8_weight cX8_weight 2 (some .int) ∈ lwg := lwg_at 889 rfl rfl
theorem lk_L_62 : Cond.methodLink RL 62 yX11_harm ∈ lwg := lwg_at 890 (by decide +kernel) rfl
theorem im_X11_harm : Cond.instanceMethod yX11_harm ∈ lwg := lwg_at 891 (by decide +kernel) rfl
theorem sl_X11_harm : Cond.selects RX11 yX11_harm yX11_harm ∈ lwg := lwg_at 892 (by decide +kernel) rfl
set_option maxRecDepth 40000 in
theorem cd_X11_harm : Cond.code yX11_harm cX11_harm 1 (some .int) ∈ lwg := lwg_at 893 rfl rfl
theorem lk_X11_181 : Cond.methodLink RX11 181 yX0_dayHarmOfAll ∈ lwg := lwg_at 894 (by decide +kernel) rfl
theorem im_X0_dayHarmOfAll : Cond.instanceMethod yX0_dayHarmOfAll ∈ lwg := lwg_at 895 (by decide +kernel) rfl
theorem sl_X0_dayHarmOfAll : Cond.selects RX0 yX0_dayHarmOfAll yX0_dayHarmOfAll ∈ lwg := lwg_at 896 (by decide +kernel) rfl
set_option maxRecDepth 40000 in
theorem cd_X0_dayHarmOfAll : Cond.code yX0_dayHarmOfAll cX0_dayHarmOfAll 4 (some .int) ∈ lwg := lwg_at 897 rfl rfl
theorem lk_X0_102 : Cond.methodLink RX0 102 yX0_dayHarm ∈ lwg := lwg_at 898 (by decide +kernel) rfl
theorem lk_L_66 : Cond.methodLink RL 66 yX11_harmed ∈ lwg := lwg_at 899 (by decide +kernel) rfl
theorem im_X11_harmed : Cond.instanceMethod yX11_harmed ∈ lwg := lwg_at 900 (by decide +kernel) rfl
theorem sl_X11_harmed : Cond.selects RX11 yX11_harmed yX11_harmed ∈ lwg := lwg_at 901 (by decide +kernel) rfl
set_option maxRecDepth 40000 in
theorem cd_X11_harmed : Cond.code yX11_harmed cX11_harmed 1 (some .int) ∈ lwg := lwg_at 902 rfl rfl
theorem lk_X11_184 : Cond.methodLink RX11 184 yX3_allHarm ∈ lwg := lwg_at 903 (by decide +kernel) rfl
theorem im_X3_allHarm : Cond.instanceMethod yX3_allHarm ∈ lwg := lwg_at 904 (by decide +kernel) rfl
theorem sl_X3_allHarm : Cond.selects RX3 yX3_allHarm yX3_allHarm ∈ lwg := lwg_at 905 (by decide +kernel) rfl
set_option maxRecDepth 40000 in
theorem cd_X3_allHarm : Cond.code yX3_allHarm cX3_allHarm 3 (some .int) ∈ lwg := lwg_at 906 rfl rfl
theorem lk_L_70 : Cond.methodLink RL 70 yX11_worst ∈ lwg := lwg_at 907 (by decide +kernel) rfl
theorem im_X11_worst : Cond.instanceMethod yX11_worst ∈ lwg := lwg_at 908 (by decide +kernel) rfl
theorem sl_X11_worst : Cond.selects RX11 yX11_worst yX11_worst ∈ lwg := lwg_at 909 (by decide +kernel) rfl
set_option maxRecDepth 40000 in
theorem cd_X11_worst : Cond.code yX11_worst cX11_worst 4 (some .int) ∈ lwg := lwg_at 910 rfl rfl
theorem lk_L_74 : Cond.methodLink RL 74 yX11_tending ∈ lwg := lwg_at 911 (by decide +kernel) rfl
theorem im_X11_tending : Cond.instanceMethod yX11_tending ∈ lwg := lwg_at 912 (by decide +kernel) rfl
theorem sl_X11_tending : Cond.selects RX11 yX11_tending yX11_tending ∈ lwg := lwg_at 913 (by decide +kernel) rfl
set_option maxRecDepth 40000 in
theorem cd_X11_tending : Cond.code yX11_tending cX11_tending 1 (some .int) ∈ lwg := lwg_at 914 rfl rfl
theorem lk_X11_187 : Cond.methodLink RX11 187 yX9_learn ∈ lwg := lwg_at 915 (by decide +kernel) rfl
theorem im_X9_learn : Cond.instanceMethod yX9_learn ∈ lwg := lwg_at 916 (by decide +kernel) rfl
theorem sl_X9_learn : Cond.selects RX9 yX9_learn yX9_learn ∈ lwg := lwg_at 917 (by decide +kernel) rfl
set_option maxRecDepth 40000 in
theorem cd_X9_learn : Cond.code yX9_learn cX9_learn 6 none ∈ lwg := lwg_at 918 rfl rfl
theorem ln_X9_40 : Cond.methodLinkNest RX9 40 yX11_handsAt "SleepWords" ∈ lw_tbl := List.mem_of_getElem? (i := 919) (by decide +kernel)
theorem st_X11_handsAt : Cond.static yX11_handsAt ∈ lwg := lwg_at 920 (by decide +kernel) rfl
set_option maxRecDepth 40000 in
theorem cd_X11_handsAt : Cond.code yX11_handsAt cX11_handsAt 2 (some .int) ∈ lwg := lwg_at 921 rfl rfl
theorem lk_X9_51 : Cond.methodLink RX9 51 yX9_bestOf ∈ lwg := lwg_at 922 (by decide +kernel) rfl
theorem im_X9_bestOf : Cond.instanceMethod yX9_bestOf ∈ lwg := lwg_at 924 (by decide +kernel) rfl
set_option maxRecDepth 40000 in
theorem cd_X9_bestOf : Cond.code yX9_bestOf cX9_bestOf 6 (some .int) ∈ lwg := lwg_at 925 rfl rfl
theorem lk_X9_59 : Cond.methodLink RX9 59 yX9_canTake ∈ lwg := lwg_at 926 (by decide +kernel) rfl
theorem st_X9_canTake : Cond.static yX9_canTake ∈ lwg := lwg_at 927 (by decide +kernel) rfl
set_option maxRecDepth 40000 in
theorem cd_X9_canTake : Cond.code yX9_canTake cX9_canTake 4 (some .boolean) ∈ lwg := lwg_at 928 rfl rfl
theorem lk_X9_72 : Cond.methodLink RX9 72 yX0_reaches ∈ lwg := lwg_at 929 (by decide +kernel) rfl
theorem lk_X9_63 : Cond.methodLink RX9 63 yX9_tendedFor ∈ lwg := lwg_at 930 (by decide +kernel) rfl
theorem im_X9_tendedFor : Cond.instanceMethod yX9_tendedFor ∈ lwg := lwg_at 932 (by decide +kernel) rfl
set_option maxRecDepth 40000 in
theorem cd_X9_tendedFor : Cond.code yX9_tendedFor cX9_tendedFor 5 (some .int) ∈ lwg := lwg_at 933 rfl rfl
theorem lk_X9_76 : Cond.methodLink RX9 76 yX8_weight ∈ lwg := lwg_at 934 (by decide +kernel) rfl
theorem lk_X9_67 : Cond.methodLink RX9 67 yJ9_max_7cf53 ∈ lwg := lwg_at 935 (by decide +kernel) rfl
theorem st_J9_max_7cf53 : Cond.static yJ9_max_7cf53 ∈ lwg := lwg_at 936 (by decide +kernel) rfl
set_option maxRecDepth 40000 in
theorem cd_J9_max_7cf53 : Cond.code yJ9_max_7cf53 cJ9_max_7cf53 2 (some .int) ∈ lwg := lwg_at 937 rfl rfl
theorem lk_X9_55 : Cond.methodLink RX9 55 yX9_follow ∈ lwg := lwg_at 938 (by decide +kernel) rfl
theorem im_X9_follow : Cond.instanceMethod yX9_follow ∈ lwg := lwg_at 940 (by decide +kernel) rfl
set_option maxRecDepth 40000 in
theorem cd_X9_follow : Cond.code yX9_follow cX9_follow 5 none ∈ lwg := lwg_at 941 rfl rfl
theorem ln_X9_83 : Cond.methodLinkNest RX9 83 yX11_bit "SleepWords" ∈ lw_tbl := List.mem_of_getElem? (i := 942) (by decide +kernel)
theorem lk_X11_194 : Cond.methodLink RX11 194 yX9_greatest ∈ lwg := lwg_at 943 (by decide +kernel) rfl
theorem im_X9_greatest : Cond.instanceMethod yX9_greatest ∈ lwg := lwg_at 944 (by decide +kernel) rfl
theorem sl_X9_greatest : Cond.selects RX9 yX9_greatest yX9_greatest ∈ lwg := lwg_at 945 (by decide +kernel) rfl
set_option maxRecDepth 40000 in
theorem cd_X9_greatest : Cond.code yX9_greatest cX9_greatest 2 (some .int) ∈ lwg := lwg_at 946 rfl rfl
theorem lk_L_78 : Cond.methodLink RL 78 yX11_tendedBy ∈ lwg := lwg_at 947 (by decide +kernel) rfl
theorem im_X11_tendedBy : Cond.instanceMethod yX11_tendedBy ∈ lwg := lwg_at 948 (by decide +kernel) rfl
theorem sl_X11_tendedBy : Cond.selects RX11 yX11_tendedBy yX11_tendedBy ∈ lwg := lwg_at 949 (by decide +kernel) rfl
set_option maxRecDepth 40000 in
theorem cd_X11_tendedBy : Cond.code yX11_tendedBy cX11_tendedBy 2 (some .int) ∈ lwg := lwg_at 950 rfl rfl
theorem lk_L_82 : Cond.methodLink RL 82 yX11_left ∈ lwg := lwg_at 951 (by decide +kernel) rfl
theorem im_X11_left : Cond.instanceMethod yX11_left ∈ lwg := lwg_at 952 (by decide +kernel) rfl
theorem sl_X11_left : Cond.selects RX11 yX11_left yX11_left ∈ lwg := lwg_at 953 (by decide +kernel) rfl
set_option maxRecDepth 40000 in
theorem cd_X11_left : Cond.code yX11_left cX11_left 1 (some .int) ∈ lwg := lwg_at 954 rfl rfl
theorem lk_X11_198 : Cond.methodLink RX11 198 yX11_fullBits ∈ lwg := lwg_at 955 (by decide +kernel) rfl
theorem st_X11_fullBits : Cond.static yX11_fullBits ∈ lwg := lwg_at 956 (by decide +kernel) rfl
set_option maxRecDepth 40000 in
theorem cd_X11_fullBits : Cond.code yX11_fullBits cX11_fullBits 1 (some .int) ∈ lwg := lwg_at 957 rfl rfl
theorem lk_L_86 : Cond.methodLink RL 86 yX11_worthOf ∈ lwg := lwg_at 958 (by decide +kernel) rfl
theorem im_X11_worthOf : Cond.instanceMethod yX11_worthOf ∈ lwg := lwg_at 959 (by decide +kernel) rfl
theorem sl_X11_worthOf : Cond.selects RX11 yX11_worthOf yX11_worthOf ∈ lwg := lwg_at 960 (by decide +kernel) rfl
set_option maxRecDepth 40000 in
theorem cd_X11_worthOf : Cond.code yX11_worthOf cX11_worthOf 3 (some .int) ∈ lwg := lwg_at 961 rfl rfl
theorem lk_X11_204 : Cond.methodLink RX11 204 yX11_handsAt ∈ lwg := lwg_at 962 (by decide +kernel) rfl
theorem lk_L_90 : Cond.methodLink RL 90 yX11_bestHand ∈ lwg := lwg_at 963 (by decide +kernel) rfl
theorem im_X11_bestHand : Cond.instanceMethod yX11_bestHand ∈ lwg := lwg_at 964 (by decide +kernel) rfl
theorem sl_X11_bestHand : Cond.selects RX11 yX11_bestHand yX11_bestHand ∈ lwg := lwg_at 965 (by decide +kernel) rfl
set_option maxRecDepth 40000 in
theorem cd_X11_bestHand : Cond.code yX11_bestHand cX11_bestHand 5 (some .int) ∈ lwg := lwg_at 966 rfl rfl
theorem lk_L_94 : Cond.methodLink RL 94 yX11_word ∈ lwg := lwg_at 967 (by decide +kernel) rfl
theorem im_X11_word : Cond.instanceMethod yX11_word ∈ lwg := lwg_at 968 (by decide +kernel) rfl
theorem sl_X11_word : Cond.selects RX11 yX11_word yX11_word ∈ lwg := lwg_at 969 (by decide +kernel) rfl
set_option maxRecDepth 40000 in
theorem cd_X11_word : Cond.code yX11_word cX11_word 3 (some .int) ∈ lwg := lwg_at 970 rfl rfl
theorem lk_X11_208 : Cond.methodLink RX11 208 yX11_isWord ∈ lwg := lwg_at 971 (by decide +kernel) rfl
theorem im_X11_isWord : Cond.instanceMethod yX11_isWord ∈ lwg := lwg_at 973 (by decide +kernel) rfl
set_option maxRecDepth 40000 in
theorem cd_X11_isWord : Cond.code yX11_isWord cX11_isWord 2 (some .boolean) ∈ lwg := lwg_at 974 rfl rfl
theorem lk_X11_226 : Cond.methodLink RX11 226 yX11_bit ∈ lwg := lwg_at 975 (by decide +kernel) rfl
theorem lk_L_98 : Cond.methodLink RL 98 yX11_chance ∈ lwg := lwg_at 976 (by decide +kernel) rfl
theorem im_X11_chance : Cond.instanceMethod yX11_chance ∈ lwg := lwg_at 977 (by decide +kernel) rfl
theorem sl_X11_chance : Cond.selects RX11 yX11_chance yX11_chance ∈ lwg := lwg_at 978 (by decide +kernel) rfl
set_option maxRecDepth 40000 in
theorem cd_X11_chance : Cond.code yX11_chance cX11_chance 3 (some .long) ∈ lwg := lwg_at 979 rfl rfl
theorem lk_X11_232 : Cond.methodLink RX11 232 yX11_toSay ∈ lwg := lwg_at 980 (by decide +kernel) rfl
theorem im_X11_toSay : Cond.instanceMethod yX11_toSay ∈ lwg := lwg_at 982 (by decide +kernel) rfl
set_option maxRecDepth 40000 in
theorem cd_X11_toSay : Cond.code yX11_toSay cX11_toSay 1 (some .int) ∈ lwg := lwg_at 983 rfl rfl
theorem lk_X11_267 : Cond.methodLink RX11 267 yX11_unsaid ∈ lwg := lwg_at 984 (by decide +kernel) rfl
theorem im_X11_unsaid : Cond.instanceMethod yX11_unsaid ∈ lwg := lwg_at 986 (by decide +kernel) rfl
set_option maxRecDepth 40000 in
theorem cd_X11_unsaid : Cond.code yX11_unsaid cX11_unsaid 1 (some .int) ∈ lwg := lwg_at 987 rfl rfl
theorem lk_X11_235 : Cond.methodLink RX11 235 yX11_grantPart ∈ lwg := lwg_at 988 (by decide +kernel) rfl
theorem im_X11_grantPart : Cond.instanceMethod yX11_grantPart ∈ lwg := lwg_at 990 (by decide +kernel) rfl
set_option maxRecDepth 40000 in
theorem cd_X11_grantPart : Cond.code yX11_grantPart cX11_grantPart 5 (some .long) ∈ lwg := lwg_at 991 rfl rfl
theorem lk_X11_384 : Cond.methodLink RX11 384 yX11_commonDivisor ∈ lwg := lwg_at 992 (by decide +kernel) rfl
theorem st_X11_commonDivisor : Cond.static yX11_commonDivisor ∈ lwg := lwg_at 993 (by decide +kernel) rfl
set_option maxRecDepth 40000 in
theorem cd_X11_commonDivisor : Cond.code yX11_commonDivisor cX11_commonDivisor 6 (some .int) ∈ lwg := lwg_at 994 rfl rfl
theorem lk_X11_239 : Cond.methodLink RX11 239 yX7_learn ∈ lwg := lwg_at 995 (by decide +kernel) rfl
theorem im_X7_learn : Cond.instanceMethod yX7_learn ∈ lwg := lwg_at 996 (by decide +kernel) rfl
theorem sl_X7_learn : Cond.selects RX7 yX7_learn yX7_learn ∈ lwg := lwg_at 997 (by decide +kernel) rfl
set_option maxRecDepth 40000 in
theorem cd_X7_learn : Cond.code yX7_learn cX7_learn 3 none ∈ lwg := lwg_at 998 rfl rfl
theorem ln_X7_37 : Cond.methodLinkNest RX7 37 yX11_fullBits "SleepWords" ∈ lw_tbl := List.mem_of_getElem? (i := 999) (by decide +kernel)
theorem lk_X7_41 : Cond.methodLink RX7 41 yX7_addUp ∈ lwg := lwg_at 1000 (by decide +kernel) rfl
theorem im_X7_addUp : Cond.instanceMethod yX7_addUp ∈ lwg := lwg_at 1002 (by decide +kernel) rfl
set_option maxRecDepth 40000 in
theorem cd_X7_addUp : Cond.code yX7_addUp cX7_addUp 5 none ∈ lwg := lwg_at 1003 rfl rfl
theorem lk_X7_48 : Cond.methodLink RX7 48 yJ6_numberOfTrailingZeros_0f7a4 ∈ lwg := lwg_at 1004 (by decide +kernel) rfl
theorem st_J6_numberOfTrailingZeros_0f7a4 : Cond.static yJ6_numberOfTrailingZeros_0f7a4 ∈ lwg := lwg_at 1005 (by decide +kernel) rfl
set_option maxRecDepth 40000 in
theorem cd_J6_numberOfTrailingZeros_0f7a4 : Cond.code yJ6_numberOfTrailingZeros_0f7a4 cJ6_numberOfTrailingZeros_0f7a4 2 (some .int) ∈ lwg := lwg_at 1006 rfl rfl
theorem kk_J6_264 : Cond.constant RJ6 264 65536 ∈ lwg := lwg_at 1007 (by decide +kernel) rfl
theorem ln_X7_53 : Cond.methodLinkNest RX7 53 yX11_bit "SleepWords" ∈ lw_tbl := List.mem_of_getElem? (i := 1008) (by decide +kernel)
theorem lk_X7_45 : Cond.methodLink RX7 45 yX7_weigh ∈ lwg := lwg_at 1009 (by decide +kernel) rfl
theorem im_X7_weigh : Cond.instanceMethod yX7_weigh ∈ lwg := lwg_at 1011 (by decide +kernel) rfl
set_option maxRecDepth 40000 in
theorem cd_X7_weigh : Cond.code yX7_weigh cX7_weigh 7 none ∈ lwg := lwg_at 1012 rfl rfl
theorem lk_X7_61 : Cond.methodLink RX7 61 yX7_canBegin ∈ lwg := lwg_at 1013 (by decide +kernel) rfl
theorem st_X7_canBegin : Cond.static yX7_canBegin ∈ lwg := lwg_at 1014 (by decide +kernel) rfl
set_option maxRecDepth 40000 in
theorem cd_X7_canBegin : Cond.code yX7_canBegin cX7_canBegin 3 (some .boolean) ∈ lwg := lwg_at 1015 rfl rfl
theorem lk_X7_65 : Cond.methodLink RX7 65 yX7_costFirst ∈ lwg := lwg_at 1016 (by decide +kernel) rfl
theorem im_X7_costFirst : Cond.instanceMethod yX7_costFirst ∈ lwg := lwg_at 1017 (by decide +kernel) rfl
theorem sl_X7_costFirst : Cond.selects RX7 yX7_costFirst yX7_costFirst ∈ lwg := lwg_at 1018 (by decide +kernel) rfl
set_option maxRecDepth 40000 in
theorem cd_X7_costFirst : Cond.code yX7_costFirst cX7_costFirst 4 (some .int) ∈ lwg := lwg_at 1019 rfl rfl
theorem lk_X11_242 : Cond.methodLink RX11 242 yX7_oddsOf ∈ lwg := lwg_at 1020 (by decide +kernel) rfl
theorem im_X7_oddsOf : Cond.instanceMethod yX7_oddsOf ∈ lwg := lwg_at 1021 (by decide +kernel) rfl
theorem sl_X7_oddsOf : Cond.selects RX7 yX7_oddsOf yX7_oddsOf ∈ lwg := lwg_at 1022 (by decide +kernel) rfl
set_option maxRecDepth 40000 in
theorem cd_X7_oddsOf : Cond.code yX7_oddsOf cX7_oddsOf 2 (some .int) ∈ lwg := lwg_at 1023 rfl rfl
theorem lk_L_103 : Cond.methodLink RL 103 yX11_mean ∈ lwg := lwg_at 1024 (by decide +kernel) rfl
theorem im_X11_mean : Cond.instanceMethod yX11_mean ∈ lwg := lwg_at 1025 (by decide +kernel) rfl
theorem sl_X11_mean : Cond.selects RX11 yX11_mean yX11_mean ∈ lwg := lwg_at 1026 (by decide +kernel) rfl
set_option maxRecDepth 40000 in
theorem cd_X11_mean : Cond.code yX11_mean cX11_mean 2 (some .long) ∈ lwg := lwg_at 1027 rfl rfl
theorem lk_X11_245 : Cond.methodLink RX11 245 yX7_leastCost ∈ lwg := lwg_at 1028 (by decide +kernel) rfl
theorem im_X7_leastCost : Cond.instanceMethod yX7_leastCost ∈ lwg := lwg_at 1029 (by decide +kernel) rfl
theorem sl_X7_leastCost : Cond.selects RX7 yX7_leastCost yX7_leastCost ∈ lwg := lwg_at 1030 (by decide +kernel) rfl
set_option maxRecDepth 40000 in
theorem cd_X7_leastCost : Cond.code yX7_leastCost cX7_leastCost 2 (some .int) ∈ lwg := lwg_at 1031 rfl rfl
theorem lk_L_108 : Cond.methodLink RL 108 yX11_searchAt ∈ lwg := lwg_at 1032 (by decide +kernel) rfl
theorem im_X11_searchAt : Cond.instanceMethod yX11_searchAt ∈ lwg := lwg_at 1033 (by decide +kernel) rfl
theorem sl_X11_searchAt : Cond.selects RX11 yX11_searchAt yX11_searchAt ∈ lwg := lwg_at 1034 (by decide +kernel) rfl
set_option maxRecDepth 40000 in
theorem cd_X11_searchAt : Cond.code yX11_searchAt cX11_searchAt 2 (some .int) ∈ lwg := lwg_at 1035 rfl rfl
theorem lk_X11_253 : Cond.methodLink RX11 253 yX7_rowAt ∈ lwg := lwg_at 1036 (by decide +kernel) rfl
theorem im_X7_rowAt : Cond.instanceMethod yX7_rowAt ∈ lwg := lwg_at 1037 (by decide +kernel) rfl
theorem sl_X7_rowAt : Cond.selects RX7 yX7_rowAt yX7_rowAt ∈ lwg := lwg_at 1038 (by decide +kernel) rfl
set_option maxRecDepth 40000 in
theorem cd_X7_rowAt : Cond.code yX7_rowAt cX7_rowAt 7 (some .int) ∈ lwg := lwg_at 1039 rfl rfl
theorem lk_X7_69 : Cond.methodLink RX7 69 yX7_firstOfBest ∈ lwg := lwg_at 1040 (by decide +kernel) rfl
theorem im_X7_firstOfBest : Cond.instanceMethod yX7_firstOfBest ∈ lwg := lwg_at 1042 (by decide +kernel) rfl
set_option maxRecDepth 40000 in
theorem cd_X7_firstOfBest : Cond.code yX7_firstOfBest cX7_firstOfBest 4 (some .int) ∈ lwg := lwg_at 1043 rfl rfl
theorem lk_L_112 : Cond.methodLink RL 112 yX11_meanFirst ∈ lwg := lwg_at 1044 (by decide +kernel) rfl
theorem im_X11_meanFirst : Cond.instanceMethod yX11_meanFirst ∈ lwg := lwg_at 1045 (by decide +kernel) rfl
theorem sl_X11_meanFirst : Cond.selects RX11 yX11_meanFirst yX11_meanFirst ∈ lwg := lwg_at 1046 (by decide +kernel) rfl
set_option maxRecDepth 40000 in
theorem cd_X11_meanFirst : Cond.code yX11_meanFirst cX11_meanFirst 3 (some .long) ∈ lwg := lwg_at 1047 rfl rfl
theorem lk_X11_257 : Cond.methodLink RX11 257 yX11_canSay ∈ lwg := lwg_at 1048 (by decide +kernel) rfl
theorem im_X11_canSay : Cond.instanceMethod yX11_canSay ∈ lwg := lwg_at 1050 (by decide +kernel) rfl
set_option maxRecDepth 40000 in
theorem cd_X11_canSay : Cond.code yX11_canSay cX11_canSay 2 (some .boolean) ∈ lwg := lwg_at 1051 rfl rfl
theorem lk_X11_260 : Cond.methodLink RX11 260 yX7_costFirst ∈ lwg := lwg_at 1052 (by decide +kernel) rfl
theorem lk_L_116 : Cond.methodLink RL 116 yX11_within ∈ lwg := lwg_at 1053 (by decide +kernel) rfl
theorem im_X11_within : Cond.instanceMethod yX11_within ∈ lwg := lwg_at 1054 (by decide +kernel) rfl
theorem sl_X11_within : Cond.selects RX11 yX11_within yX11_within ∈ lwg := lwg_at 1055 (by decide +kernel) rfl
set_option maxRecDepth 40000 in
theorem cd_X11_within : Cond.code yX11_within cX11_within 4 (some .long) ∈ lwg := lwg_at 1056 rfl rfl
theorem lk_X11_263 : Cond.methodLink RX11 263 yX7_likeliestIn ∈ lwg := lwg_at 1057 (by decide +kernel) rfl
theorem im_X7_likeliestIn : Cond.instanceMethod yX7_likeliestIn ∈ lwg := lwg_at 1058 (by decide +kernel) rfl
theorem sl_X7_likeliestIn : Cond.selects RX7 yX7_likeliestIn yX7_likeliestIn ∈ lwg := lwg_at 1059 (by decide +kernel) rfl
set_option maxRecDepth 40000 in
theorem cd_X7_likeliestIn : Cond.code yX7_likeliestIn cX7_likeliestIn 6 (some .int) ∈ lwg := lwg_at 1060 rfl rfl
theorem lk_L_120 : Cond.methodLink RL 120 yX11_withinWords ∈ lwg := lwg_at 1061 (by decide +kernel) rfl
theorem im_X11_withinWords : Cond.instanceMethod yX11_withinWords ∈ lwg := lwg_at 1062 (by decide +kernel) rfl
theorem sl_X11_withinWords : Cond.selects RX11 yX11_withinWords yX11_withinWords ∈ lwg := lwg_at 1063 (by decide +kernel) rfl
set_option maxRecDepth 40000 in
theorem cd_X11_withinWords : Cond.code yX11_withinWords cX11_withinWords 2 (some .int) ∈ lwg := lwg_at 1064 rfl rfl
theorem lk_L_124 : Cond.methodLink RL 124 yX11_next ∈ lwg := lwg_at 1065 (by decide +kernel) rfl
theorem im_X11_next : Cond.instanceMethod yX11_next ∈ lwg := lwg_at 1066 (by decide +kernel) rfl
theorem sl_X11_next : Cond.selects RX11 yX11_next yX11_next ∈ lwg := lwg_at 1067 (by decide +kernel) rfl
set_option maxRecDepth 40000 in
theorem cd_X11_next : Cond.code yX11_next cX11_next 3 (some .int) ∈ lwg := lwg_at 1068 rfl rfl
theorem lk_L_128 : Cond.methodLink RL 128 yX11_rows ∈ lwg := lwg_at 1069 (by decide +kernel) rfl
theorem im_X11_rows : Cond.instanceMethod yX11_rows ∈ lwg := lwg_at 1070 (by decide +kernel) rfl
theorem sl_X11_rows : Cond.selects RX11 yX11_rows yX11_rows ∈ lwg := lwg_at 1071 (by decide +kernel) rfl
set_option maxRecDepth 40000 in
theorem cd_X11_rows : Cond.code yX11_rows cX11_rows 1 (some .int) ∈ lwg := lwg_at 1072 rfl rfl
theorem lk_X11_270 : Cond.methodLink RX11 270 yX7_rowsOf ∈ lwg := lwg_at 1073 (by decide +kernel) rfl
theorem im_X7_rowsOf : Cond.instanceMethod yX7_rowsOf ∈ lwg := lwg_at 1074 (by decide +kernel) rfl
theorem sl_X7_rowsOf : Cond.selects RX7 yX7_rowsOf yX7_rowsOf ∈ lwg := lwg_at 1075 (by decide +kernel) rfl
set_option maxRecDepth 40000 in
theorem cd_X7_rowsOf : Cond.code yX7_rowsOf cX7_rowsOf 2 (some .int) ∈ lwg := lwg_at 1076 rfl rfl
theorem lk_L_132 : Cond.methodLink RL 132 yX11_fits ∈ lwg := lwg_at 1077 (by decide +kernel) rfl
theorem im_X11_fits : Cond.instanceMethod yX11_fits ∈ lwg := lwg_at 1078 (by decide +kernel) rfl
theorem sl_X11_fits : Cond.selects RX11 yX11_fits yX11_fits ∈ lwg := lwg_at 1079 (by decide +kernel) rfl
set_option maxRecDepth 40000 in
theorem cd_X11_fits : Cond.code yX11_fits cX11_fits 1 (some .int) ∈ lwg := lwg_at 1080 rfl rfl
theorem lk_X11_277 : Cond.methodLink RX11 277 yX1_learn ∈ lwg := lwg_at 1081 (by decide +kernel) rfl
theorem im_X1_learn : Cond.instanceMethod yX1_learn ∈ lwg := lwg_at 1082 (by decide +kernel) rfl
theorem sl_X1_learn : Cond.selects RX1 yX1_learn yX1_learn ∈ lwg := lwg_at 1083 (by decide +kernel) rfl
set_option maxRecDepth 40000 in
theorem cd_X1_learn : Cond.code yX1_learn cX1_learn 3 none ∈ lwg := lwg_at 1084 rfl rfl
theorem ln_X1_33 : Cond.methodLinkNest RX1 33 yX11_fullBits "SleepWords" ∈ lw_tbl := List.mem_of_getElem? (i := 1085) (by decide +kernel)
theorem lk_X1_40 : Cond.methodLink RX1 40 yX4_firstUnlike ∈ lwg := lwg_at 1086 (by decide +kernel) rfl
theorem im_X4_firstUnlike : Cond.instanceMethod yX4_firstUnlike ∈ lwg := lwg_at 1087 (by decide +kernel) rfl
theorem sl_X4_firstUnlike : Cond.selects RX4 yX4_firstUnlike yX4_firstUnlike ∈ lwg := lwg_at 1088 (by decide +kernel) rfl
set_option maxRecDepth 40000 in
theorem cd_X4_firstUnlike : Cond.code yX4_firstUnlike cX4_firstUnlike 3 (some .int) ∈ lwg := lwg_at 1089 rfl rfl
theorem lk_X4_39 : Cond.methodLink RX4 39 yX4_deedBy ∈ lwg := lwg_at 1090 (by decide +kernel) rfl
theorem im_X4_deedBy : Cond.instanceMethod yX4_deedBy ∈ lwg := lwg_at 1091 (by decide +kernel) rfl
theorem sl_X4_deedBy : Cond.selects RX4 yX4_deedBy yX4_deedBy ∈ lwg := lwg_at 1092 (by decide +kernel) rfl
set_option maxRecDepth 40000 in
theorem cd_X4_deedBy : Cond.code yX4_deedBy cX4_deedBy 8 (some .long) ∈ lwg := lwg_at 1093 rfl rfl
theorem ln_X4_35 : Cond.methodLinkNest RX4 35 yX11_bit "SleepWords" ∈ lw_tbl := List.mem_of_getElem? (i := 1094) (by decide +kernel)
theorem lk_X1_43 : Cond.methodLink RX1 43 yX1_chooseSign ∈ lwg := lwg_at 1095 (by decide +kernel) rfl
theorem im_X1_chooseSign : Cond.instanceMethod yX1_chooseSign ∈ lwg := lwg_at 1097 (by decide +kernel) rfl
set_option maxRecDepth 40000 in
theorem cd_X1_chooseSign : Cond.code yX1_chooseSign cX1_chooseSign 4 none ∈ lwg := lwg_at 1098 rfl rfl
theorem lk_X1_53 : Cond.methodLink RX1 53 yX4_isFirstOfSign ∈ lwg := lwg_at 1099 (by decide +kernel) rfl
theorem im_X4_isFirstOfSign : Cond.instanceMethod yX4_isFirstOfSign ∈ lwg := lwg_at 1100 (by decide +kernel) rfl
theorem sl_X4_isFirstOfSign : Cond.selects RX4 yX4_isFirstOfSign yX4_isFirstOfSign ∈ lwg := lwg_at 1101 (by decide +kernel) rfl
set_option maxRecDepth 40000 in
theorem cd_X4_isFirstOfSign : Cond.code yX4_isFirstOfSign cX4_isFirstOfSign 3 (some .boolean) ∈ lwg := lwg_at 1102 rfl rfl
theorem lk_X1_61 : Cond.methodLink RX1 61 yX4_wasSeen ∈ lwg := lwg_at 1103 (by decide +kernel) rfl
theorem lk_X1_65 : Cond.methodLink RX1 65 yX1_mostLeft ∈ lwg := lwg_at 1104 (by decide +kernel) rfl
theorem im_X1_mostLeft : Cond.instanceMethod yX1_mostLeft ∈ lwg := lwg_at 1106 (by decide +kernel) rfl
set_option maxRecDepth 40000 in
theorem cd_X1_mostLeft : Cond.code yX1_mostLeft cX1_mostLeft 6 (some .int) ∈ lwg := lwg_at 1107 rfl rfl
theorem lk_X1_69 : Cond.methodLink RX1 69 yX4_deedBy ∈ lwg := lwg_at 1108 (by decide +kernel) rfl
theorem lk_X1_73 : Cond.methodLink RX1 73 yX4_firstOfDeed ∈ lwg := lwg_at 1109 (by decide +kernel) rfl
theorem im_X4_firstOfDeed : Cond.instanceMethod yX4_firstOfDeed ∈ lwg := lwg_at 1110 (by decide +kernel) rfl
theorem sl_X4_firstOfDeed : Cond.selects RX4 yX4_firstOfDeed yX4_firstOfDeed ∈ lwg := lwg_at 1111 (by decide +kernel) rfl
set_option maxRecDepth 40000 in
theorem cd_X4_firstOfDeed : Cond.code yX4_firstOfDeed cX4_firstOfDeed 6 (some .int) ∈ lwg := lwg_at 1112 rfl rfl
theorem lk_X1_77 : Cond.methodLink RX1 77 yJ9_max_7cf53 ∈ lwg := lwg_at 1113 (by decide +kernel) rfl
theorem lk_L_136 : Cond.methodLink RL 136 yX11_could ∈ lwg := lwg_at 1114 (by decide +kernel) rfl
theorem im_X11_could : Cond.instanceMethod yX11_could ∈ lwg := lwg_at 1115 (by decide +kernel) rfl
theorem sl_X11_could : Cond.selects RX11 yX11_could yX11_could ∈ lwg := lwg_at 1116 (by decide +kernel) rfl
set_option maxRecDepth 40000 in
theorem cd_X11_could : Cond.code yX11_could cX11_could 1 (some .int) ∈ lwg := lwg_at 1117 rfl rfl
theorem lk_L_140 : Cond.methodLink RL 140 yX11_surely ∈ lwg := lwg_at 1118 (by decide +kernel) rfl
theorem im_X11_surely : Cond.instanceMethod yX11_surely ∈ lwg := lwg_at 1119 (by decide +kernel) rfl
theorem sl_X11_surely : Cond.selects RX11 yX11_surely yX11_surely ∈ lwg := lwg_at 1120 (by decide +kernel) rfl
set_option maxRecDepth 40000 in
theorem cd_X11_surely : Cond.code yX11_surely cX11_surely 1 (some .int) ∈ lwg := lwg_at 1121 rfl rfl
theorem lk_L_144 : Cond.methodLink RL 144 yX11_ask ∈ lwg := lwg_at 1122 (by decide +kernel) rfl
theorem im_X11_ask : Cond.instanceMethod yX11_ask ∈ lwg := lwg_at 1123 (by decide +kernel) rfl
theorem sl_X11_ask : Cond.selects RX11 yX11_ask yX11_ask ∈ lwg := lwg_at 1124 (by decide +kernel) rfl
set_option maxRecDepth 40000 in
theorem cd_X11_ask : Cond.code yX11_ask cX11_ask 1 (some .int) ∈ lwg := lwg_at 1125 rfl rfl
theorem lk_L_148 : Cond.methodLink RL 148 yX11_askLeaves ∈ lwg := lwg_at 1126 (by decide +kernel) rfl
theorem im_X11_askLeaves : Cond.instanceMethod yX11_askLeaves ∈ lwg := lwg_at 1127 (by decide +kernel) rfl
theorem sl_X11_askLeaves : Cond.selects RX11 yX11_askLeaves yX11_askLeaves ∈ lwg := lwg_at 1128 (by decide +kernel) rfl
set_option maxRecDepth 40000 in
theorem cd_X11_askLeaves : Cond.code yX11_askLeaves cX11_askLeaves 1 (some .int) ∈ lwg := lwg_at 1129 rfl rfl
theorem lk_L_152 : Cond.methodLink RL 152 yX11_judge ∈ lwg := lwg_at 1130 (by decide +kernel) rfl
theorem im_X11_judge : Cond.instanceMethod yX11_judge ∈ lwg := lwg_at 1131 (by decide +kernel) rfl
theorem sl_X11_judge : Cond.selects RX11 yX11_judge yX11_judge ∈ lwg := lwg_at 1132 (by decide +kernel) rfl
set_option maxRecDepth 40000 in
theorem cd_X11_judge : Cond.code yX11_judge cX11_judge 1 (some .int) ∈ lwg := lwg_at 1133 rfl rfl
theorem lk_X11_296 : Cond.methodLink RX11 296 yX4_firstUnlike ∈ lwg := lwg_at 1134 (by decide +kernel) rfl
theorem lk_L_156 : Cond.methodLink RL 156 yX11_together ∈ lwg := lwg_at 1135 (by decide +kernel) rfl
theorem im_X11_together : Cond.instanceMethod yX11_together ∈ lwg := lwg_at 1136 (by decide +kernel) rfl
theorem sl_X11_together : Cond.selects RX11 yX11_together yX11_together ∈ lwg := lwg_at 1137 (by decide +kernel) rfl
set_option maxRecDepth 40000 in
theorem cd_X11_together : Cond.code yX11_together cX11_together 2 (some .int) ∈ lwg := lwg_at 1138 rfl rfl
theorem lk_X11_299 : Cond.methodLink RX11 299 yX4_doneTogether ∈ lwg := lwg_at 1139 (by decide +kernel) rfl
theorem im_X4_doneTogether : Cond.instanceMethod yX4_doneTogether ∈ lwg := lwg_at 1140 (by decide +kernel) rfl
theorem sl_X4_doneTogether : Cond.selects RX4 yX4_doneTogether yX4_doneTogether ∈ lwg := lwg_at 1141 (by decide +kernel) rfl
set_option maxRecDepth 40000 in
theorem cd_X4_doneTogether : Cond.code yX4_doneTogether cX4_doneTogether 5 (some .int) ∈ lwg := lwg_at 1142 rfl rfl
theorem lk_X4_43 : Cond.methodLink RX4 43 yX4_isShown ∈ lwg := lwg_at 1143 (by decide +kernel) rfl
theorem im_X4_isShown : Cond.instanceMethod yX4_isShown ∈ lwg := lwg_at 1145 (by decide +kernel) rfl
set_option maxRecDepth 40000 in
theorem cd_X4_isShown : Cond.code yX4_isShown cX4_isShown 5 (some .boolean) ∈ lwg := lwg_at 1146 rfl rfl
theorem lk_L_160 : Cond.methodLink RL 160 yX11_clash ∈ lwg := lwg_at 1147 (by decide +kernel) rfl
theorem im_X11_clash : Cond.instanceMethod yX11_clash ∈ lwg := lwg_at 1148 (by decide +kernel) rfl
theorem sl_X11_clash : Cond.selects RX11 yX11_clash yX11_clash ∈ lwg := lwg_at 1149 (by decide +kernel) rfl
set_option maxRecDepth 40000 in
theorem cd_X11_clash : Cond.code yX11_clash cX11_clash 1 (some .int) ∈ lwg := lwg_at 1150 rfl rfl
theorem lk_X11_302 : Cond.methodLink RX11 302 yX4_firstClash ∈ lwg := lwg_at 1151 (by decide +kernel) rfl
theorem im_X4_firstClash : Cond.instanceMethod yX4_firstClash ∈ lwg := lwg_at 1152 (by decide +kernel) rfl
theorem sl_X4_firstClash : Cond.selects RX4 yX4_firstClash yX4_firstClash ∈ lwg := lwg_at 1153 (by decide +kernel) rfl
set_option maxRecDepth 40000 in
theorem cd_X4_firstClash : Cond.code yX4_firstClash cX4_firstClash 3 (some .int) ∈ lwg := lwg_at 1154 rfl rfl
theorem lk_L_164 : Cond.methodLink RL 164 yX11_envoys ∈ lwg := lwg_at 1155 (by decide +kernel) rfl
theorem im_X11_envoys : Cond.instanceMethod yX11_envoys ∈ lwg := lwg_at 1156 (by decide +kernel) rfl
theorem sl_X11_envoys : Cond.selects RX11 yX11_envoys yX11_envoys ∈ lwg := lwg_at 1157 (by decide +kernel) rfl
set_option maxRecDepth 40000 in
theorem cd_X11_envoys : Cond.code yX11_envoys cX11_envoys 5 (some .int) ∈ lwg := lwg_at 1158 rfl rfl
theorem lk_X11_305 : Cond.methodLink RX11 305 yX11_isWorth ∈ lwg := lwg_at 1159 (by decide +kernel) rfl
theorem st_X11_isWorth : Cond.static yX11_isWorth ∈ lwg := lwg_at 1160 (by decide +kernel) rfl
set_option maxRecDepth 40000 in
theorem cd_X11_isWorth : Cond.code yX11_isWorth cX11_isWorth 1 (some .boolean) ∈ lwg := lwg_at 1161 rfl rfl
theorem lk_X11_308 : Cond.methodLink RX11 308 yX11_gain ∈ lwg := lwg_at 1162 (by decide +kernel) rfl
theorem st_X11_gain : Cond.static yX11_gain ∈ lwg := lwg_at 1163 (by decide +kernel) rfl
set_option maxRecDepth 40000 in
theorem cd_X11_gain : Cond.code yX11_gain cX11_gain 5 (some .int) ∈ lwg := lwg_at 1164 rfl rfl
theorem lk_L_169 : Cond.methodLink RL 169 yX11_rests ∈ lwg := lwg_at 1165 (by decide +kernel) rfl
theorem im_X11_rests : Cond.instanceMethod yX11_rests ∈ lwg := lwg_at 1166 (by decide +kernel) rfl
theorem sl_X11_rests : Cond.selects RX11 yX11_rests yX11_rests ∈ lwg := lwg_at 1167 (by decide +kernel) rfl
set_option maxRecDepth 40000 in
theorem cd_X11_rests : Cond.code yX11_rests cX11_rests 5 (some .int) ∈ lwg := lwg_at 1168 rfl rfl
theorem lk_X11_312 : Cond.methodLink RX11 312 yX11_isRest ∈ lwg := lwg_at 1169 (by decide +kernel) rfl
theorem st_X11_isRest : Cond.static yX11_isRest ∈ lwg := lwg_at 1170 (by decide +kernel) rfl
set_option maxRecDepth 40000 in
theorem cd_X11_isRest : Cond.code yX11_isRest cX11_isRest 6 (some .boolean) ∈ lwg := lwg_at 1171 rfl rfl
theorem lk_L_173 : Cond.methodLink RL 173 yX11_rest ∈ lwg := lwg_at 1172 (by decide +kernel) rfl
theorem im_X11_rest : Cond.instanceMethod yX11_rest ∈ lwg := lwg_at 1173 (by decide +kernel) rfl
theorem sl_X11_rest : Cond.selects RX11 yX11_rest yX11_rest ∈ lwg := lwg_at 1174 (by decide +kernel) rfl
set_option maxRecDepth 40000 in
theorem cd_X11_rest : Cond.code yX11_rest cX11_rest 4 (some .int) ∈ lwg := lwg_at 1175 rfl rfl
theorem lk_L_177 : Cond.methodLink RL 177 yX11_winters ∈ lwg := lwg_at 1176 (by decide +kernel) rfl
theorem im_X11_winters : Cond.instanceMethod yX11_winters ∈ lwg := lwg_at 1177 (by decide +kernel) rfl
theorem sl_X11_winters : Cond.selects RX11 yX11_winters yX11_winters ∈ lwg := lwg_at 1178 (by decide +kernel) rfl
set_option maxRecDepth 40000 in
theorem cd_X11_winters : Cond.code yX11_winters cX11_winters 3 (some .int) ∈ lwg := lwg_at 1179 rfl rfl
theorem lk_X11_316 : Cond.methodLink RX11 316 yX11_isWinter ∈ lwg := lwg_at 1180 (by decide +kernel) rfl
theorem st_X11_isWinter : Cond.static yX11_isWinter ∈ lwg := lwg_at 1181 (by decide +kernel) rfl
set_option maxRecDepth 40000 in
theorem cd_X11_isWinter : Cond.code yX11_isWinter cX11_isWinter 2 (some .boolean) ∈ lwg := lwg_at 1182 rfl rfl
theorem kk_X11_352 : Cond.constant RX11 352 65536 ∈ lwg := lwg_at 1183 (by decide +kernel) rfl
theorem lk_X11_320 : Cond.methodLink RX11 320 yX11_harmfulDays ∈ lwg := lwg_at 1184 (by decide +kernel) rfl
theorem im_X11_harmfulDays : Cond.instanceMethod yX11_harmfulDays ∈ lwg := lwg_at 1186 (by decide +kernel) rfl
set_option maxRecDepth 40000 in
theorem cd_X11_harmfulDays : Cond.code yX11_harmfulDays cX11_harmfulDays 6 (some .int) ∈ lwg := lwg_at 1187 rfl rfl
theorem lk_X11_323 : Cond.methodLink RX11 323 yX11_drawAfter ∈ lwg := lwg_at 1188 (by decide +kernel) rfl
theorem st_X11_drawAfter : Cond.static yX11_drawAfter ∈ lwg := lwg_at 1189 (by decide +kernel) rfl
set_option maxRecDepth 40000 in
theorem cd_X11_drawAfter : Cond.code yX11_drawAfter cX11_drawAfter 1 (some .int) ∈ lwg := lwg_at 1190 rfl rfl
theorem kk_X11_387 : Cond.constant RX11 387 65537 ∈ lwg := lwg_at 1191 (by decide +kernel) rfl
theorem lk_L_181 : Cond.methodLink RL 181 yX11_wintersOf ∈ lwg := lwg_at 1192 (by decide +kernel) rfl
theorem im_X11_wintersOf : Cond.instanceMethod yX11_wintersOf ∈ lwg := lwg_at 1193 (by decide +kernel) rfl
theorem sl_X11_wintersOf : Cond.selects RX11 yX11_wintersOf yX11_wintersOf ∈ lwg := lwg_at 1194 (by decide +kernel) rfl
set_option maxRecDepth 40000 in
theorem cd_X11_wintersOf : Cond.code yX11_wintersOf cX11_wintersOf 4 (some .int) ∈ lwg := lwg_at 1195 rfl rfl
theorem lk_L_186 : Cond.methodLink RL 186 yX11_above ∈ lwg := lwg_at 1196 (by decide +kernel) rfl
theorem im_X11_above : Cond.instanceMethod yX11_above ∈ lwg := lwg_at 1197 (by decide +kernel) rfl
theorem sl_X11_above : Cond.selects RX11 yX11_above yX11_above ∈ lwg := lwg_at 1198 (by decide +kernel) rfl
set_option maxRecDepth 40000 in
theorem cd_X11_above : Cond.code yX11_above cX11_above 8 (some .int) ∈ lwg := lwg_at 1199 rfl rfl
theorem lk_L_190 : Cond.methodLink RL 190 yX11_tend ∈ lwg := lwg_at 1200 (by decide +kernel) rfl
theorem im_X11_tend : Cond.instanceMethod yX11_tend ∈ lwg := lwg_at 1201 (by decide +kernel) rfl
theorem sl_X11_tend : Cond.selects RX11 yX11_tend yX11_tend ∈ lwg := lwg_at 1202 (by decide +kernel) rfl
set_option maxRecDepth 40000 in
theorem cd_X11_tend : Cond.code yX11_tend cX11_tend 3 (some .boolean) ∈ lwg := lwg_at 1203 rfl rfl
theorem lk_X11_329 : Cond.methodLink RX11 329 yX11_deny ∈ lwg := lwg_at 1204 (by decide +kernel) rfl
theorem im_X11_deny : Cond.instanceMethod yX11_deny ∈ lwg := lwg_at 1206 (by decide +kernel) rfl
set_option maxRecDepth 40000 in
theorem cd_X11_deny : Cond.code yX11_deny cX11_deny 2 (some .boolean) ∈ lwg := lwg_at 1207 rfl rfl
theorem lk_X11_332 : Cond.methodLink RX11 332 yX0_reaches ∈ lwg := lwg_at 1208 (by decide +kernel) rfl
theorem lk_X11_335 : Cond.methodLink RX11 335 yX5_keep ∈ lwg := lwg_at 1209 (by decide +kernel) rfl
theorem im_X5_keep : Cond.instanceMethod yX5_keep ∈ lwg := lwg_at 1210 (by decide +kernel) rfl
theorem sl_X5_keep : Cond.selects RX5 yX5_keep yX5_keep ∈ lwg := lwg_at 1211 (by decide +kernel) rfl
set_option maxRecDepth 40000 in
theorem cd_X5_keep : Cond.code yX5_keep cX5_keep 2 none ∈ lwg := lwg_at 1212 rfl rfl
theorem lk_X5_31 : Cond.methodLink RX5 31 yX3_copyFrom ∈ lwg := lwg_at 1213 (by decide +kernel) rfl
theorem im_X3_copyFrom : Cond.instanceMethod yX3_copyFrom ∈ lwg := lwg_at 1214 (by decide +kernel) rfl
theorem sl_X3_copyFrom : Cond.selects RX3 yX3_copyFrom yX3_copyFrom ∈ lwg := lwg_at 1215 (by decide +kernel) rfl
set_option maxRecDepth 40000 in
theorem cd_X3_copyFrom : Cond.code yX3_copyFrom cX3_copyFrom 3 none ∈ lwg := lwg_at 1216 rfl rfl
theorem lk_X5_35 : Cond.methodLink RX5 35 yJ9_min_7cf53 ∈ lwg := lwg_at 1217 (by decide +kernel) rfl
theorem st_J9_min_7cf53 : Cond.static yJ9_min_7cf53 ∈ lwg := lwg_at 1218 (by decide +kernel) rfl
set_option maxRecDepth 40000 in
theorem cd_J9_min_7cf53 : Cond.code yJ9_min_7cf53 cJ9_min_7cf53 2 (some .int) ∈ lwg := lwg_at 1219 rfl rfl
theorem lk_X11_339 : Cond.methodLink RX11 339 yX11_allow ∈ lwg := lwg_at 1220 (by decide +kernel) rfl
theorem im_X11_allow : Cond.instanceMethod yX11_allow ∈ lwg := lwg_at 1222 (by decide +kernel) rfl
set_option maxRecDepth 40000 in
theorem cd_X11_allow : Cond.code yX11_allow cX11_allow 1 (some .boolean) ∈ lwg := lwg_at 1223 rfl rfl
theorem lk_L_195 : Cond.methodLink RL 195 yX11_day ∈ lwg := lwg_at 1224 (by decide +kernel) rfl
theorem im_X11_day : Cond.instanceMethod yX11_day ∈ lwg := lwg_at 1225 (by decide +kernel) rfl
theorem sl_X11_day : Cond.selects RX11 yX11_day yX11_day ∈ lwg := lwg_at 1226 (by decide +kernel) rfl
set_option maxRecDepth 40000 in
theorem cd_X11_day : Cond.code yX11_day cX11_day 4 (some .int) ∈ lwg := lwg_at 1227 rfl rfl
theorem lk_X11_346 : Cond.methodLink RX11 346 yX3_tendNobody ∈ lwg := lwg_at 1228 (by decide +kernel) rfl
theorem lk_L_199 : Cond.methodLink RL 199 yX11_say ∈ lwg := lwg_at 1229 (by decide +kernel) rfl
theorem im_X11_say : Cond.instanceMethod yX11_say ∈ lwg := lwg_at 1230 (by decide +kernel) rfl
theorem sl_X11_say : Cond.selects RX11 yX11_say yX11_say ∈ lwg := lwg_at 1231 (by decide +kernel) rfl
set_option maxRecDepth 40000 in
theorem cd_X11_say : Cond.code yX11_say cX11_say 3 (some .int) ∈ lwg := lwg_at 1232 rfl rfl
theorem lk_L_203 : Cond.methodLink RL 203 yX11_seed ∈ lwg := lwg_at 1233 (by decide +kernel) rfl
theorem im_X11_seed : Cond.instanceMethod yX11_seed ∈ lwg := lwg_at 1234 (by decide +kernel) rfl
theorem sl_X11_seed : Cond.selects RX11 yX11_seed yX11_seed ∈ lwg := lwg_at 1235 (by decide +kernel) rfl
set_option maxRecDepth 40000 in
theorem cd_X11_seed : Cond.code yX11_seed cX11_seed 2 (some .boolean) ∈ lwg := lwg_at 1236 rfl rfl
theorem lk_L_208 : Cond.methodLink RL 208 yX11_undo ∈ lwg := lwg_at 1237 (by decide +kernel) rfl
theorem im_X11_undo : Cond.instanceMethod yX11_undo ∈ lwg := lwg_at 1238 (by decide +kernel) rfl
theorem sl_X11_undo : Cond.selects RX11 yX11_undo yX11_undo ∈ lwg := lwg_at 1239 (by decide +kernel) rfl
set_option maxRecDepth 40000 in
theorem cd_X11_undo : Cond.code yX11_undo cX11_undo 1 (some .boolean) ∈ lwg := lwg_at 1240 rfl rfl
theorem lk_X11_354 : Cond.methodLink RX11 354 yX5_takeBack ∈ lwg := lwg_at 1241 (by decide +kernel) rfl
theorem im_X5_takeBack : Cond.instanceMethod yX5_takeBack ∈ lwg := lwg_at 1242 (by decide +kernel) rfl
theorem sl_X5_takeBack : Cond.selects RX5 yX5_takeBack yX5_takeBack ∈ lwg := lwg_at 1243 (by decide +kernel) rfl
set_option maxRecDepth 40000 in
theorem cd_X5_takeBack : Cond.code yX5_takeBack cX5_takeBack 2 none ∈ lwg := lwg_at 1244 rfl rfl
theorem lk_L_213 : Cond.methodLink RL 213 yX11_image ∈ lwg := lwg_at 1245 (by decide +kernel) rfl
theorem im_X11_image : Cond.instanceMethod yX11_image ∈ lwg := lwg_at 1246 (by decide +kernel) rfl
theorem sl_X11_image : Cond.selects RX11 yX11_image yX11_image ∈ lwg := lwg_at 1247 (by decide +kernel) rfl
set_option maxRecDepth 40000 in
theorem cd_X11_image : Cond.code yX11_image cX11_image 1 (some .int) ∈ lwg := lwg_at 1248 rfl rfl
theorem lk_X11_360 : Cond.methodLink RX11 360 yX5_keepImage ∈ lwg := lwg_at 1249 (by decide +kernel) rfl
theorem im_X5_keepImage : Cond.instanceMethod yX5_keepImage ∈ lwg := lwg_at 1250 (by decide +kernel) rfl
theorem sl_X5_keepImage : Cond.selects RX5 yX5_keepImage yX5_keepImage ∈ lwg := lwg_at 1251 (by decide +kernel) rfl
set_option maxRecDepth 40000 in
theorem cd_X5_keepImage : Cond.code yX5_keepImage cX5_keepImage 2 (some .int) ∈ lwg := lwg_at 1252 rfl rfl
theorem lk_L_217 : Cond.methodLink RL 217 yX11_back ∈ lwg := lwg_at 1253 (by decide +kernel) rfl
theorem im_X11_back : Cond.instanceMethod yX11_back ∈ lwg := lwg_at 1254 (by decide +kernel) rfl
theorem sl_X11_back : Cond.selects RX11 yX11_back yX11_back ∈ lwg := lwg_at 1255 (by decide +kernel) rfl
set_option maxRecDepth 40000 in
theorem cd_X11_back : Cond.code yX11_back cX11_back 2 (some .boolean) ∈ lwg := lwg_at 1256 rfl rfl
theorem lk_X11_364 : Cond.methodLink RX11 364 yX5_goBack ∈ lwg := lwg_at 1257 (by decide +kernel) rfl
theorem im_X5_goBack : Cond.instanceMethod yX5_goBack ∈ lwg := lwg_at 1258 (by decide +kernel) rfl
theorem sl_X5_goBack : Cond.selects RX5 yX5_goBack yX5_goBack ∈ lwg := lwg_at 1259 (by decide +kernel) rfl
set_option maxRecDepth 40000 in
theorem cd_X5_goBack : Cond.code yX5_goBack cX5_goBack 3 none ∈ lwg := lwg_at 1260 rfl rfl
theorem lk_L_230 : Cond.methodLink RL 230 yX11_size ∈ lwg := lwg_at 1261 (by decide +kernel) rfl
theorem im_X11_size : Cond.instanceMethod yX11_size ∈ lwg := lwg_at 1262 (by decide +kernel) rfl
theorem sl_X11_size : Cond.selects RX11 yX11_size yX11_size ∈ lwg := lwg_at 1263 (by decide +kernel) rfl
set_option maxRecDepth 40000 in
theorem cd_X11_size : Cond.code yX11_size cX11_size 2 (some .int) ∈ lwg := lwg_at 1264 rfl rfl
theorem lk_L_234 : Cond.methodLink RL 234 yX11_trouble ∈ lwg := lwg_at 1265 (by decide +kernel) rfl
theorem im_X11_trouble : Cond.instanceMethod yX11_trouble ∈ lwg := lwg_at 1266 (by decide +kernel) rfl
theorem sl_X11_trouble : Cond.selects RX11 yX11_trouble yX11_trouble ∈ lwg := lwg_at 1267 (by decide +kernel) rfl
set_option maxRecDepth 40000 in
theorem cd_X11_trouble : Cond.code yX11_trouble cX11_trouble 1 (some .int) ∈ lwg := lwg_at 1268 rfl rfl
theorem lk_L_221 : Cond.methodLink RL 221 yL_led ∈ lwg := lwg_at 1269 (by decide +kernel) rfl
theorem st_L_led : Cond.static yL_led ∈ lwg := lwg_at 1270 (by decide +kernel) rfl
theorem lk_L_7 : Cond.methodLink RL 7 yX11_led ∈ lwg := lwg_at 1273 (by decide +kernel) rfl
theorem im_X11_led : Cond.instanceMethod yX11_led ∈ lwg := lwg_at 1274 (by decide +kernel) rfl
theorem sl_X11_led : Cond.selects RX11 yX11_led yX11_led ∈ lwg := lwg_at 1275 (by decide +kernel) rfl
set_option maxRecDepth 40000 in
theorem cd_X11_led : Cond.code yX11_led cX11_led 4 (some .int) ∈ lwg := lwg_at 1276 rfl rfl
theorem ck_L_16 : Cond.classLink RL 16 RX12 ∈ lwg := lwg_at 1342 (by decide +kernel) rfl
theorem ik_X12 : Cond.instantiable RX12 38 ∈ lwg := lwg_at 1343 (by decide +kernel) rfl
theorem lk_L_18 : Cond.methodLink RL 18 yX12_init ∈ lwg := lwg_at 1344 (by decide +kernel) rfl
theorem im_X12_init : Cond.instanceMethod yX12_init ∈ lwg := lwg_at 1345 (by decide +kernel) rfl
set_option maxRecDepth 40000 in
theorem cd_X12_init : Cond.code yX12_init cX12_init 1 none ∈ lwg := lwg_at 1346 rfl rfl
theorem lk_X12_1 : Cond.methodLink RX12 1 objectInit ∈ lwg := lwg_at 1347 (by decide +kernel) rfl
theorem fk_X12_53 : Cond.fieldLink RX12 53 "SleepWordsModel" "thrown" "I" ∈ lwg := lwg_at 1348 (by decide +kernel) rfl
theorem fk_X12_7 : Cond.fieldLink RX12 7 "SleepWordsModel" "tape" "[I" ∈ lwg := lwg_at 1349 (by decide +kernel) rfl
theorem fk_X12_59 : Cond.fieldLink RX12 59 "SleepWordsModel" "taped" "I" ∈ lwg := lwg_at 1350 (by decide +kernel) rfl
theorem fk_X12_62 : Cond.fieldLink RX12 62 "SleepWordsModel" "size" "I" ∈ lwg := lwg_at 1351 (by decide +kernel) rfl
theorem fk_X12_72 : Cond.fieldLink RX12 72 "SleepWordsModel" "at" "I" ∈ lwg := lwg_at 1352 (by decide +kernel) rfl
theorem fk_X12_65 : Cond.fieldLink RX12 65 "SleepWordsModel" "end" "I" ∈ lwg := lwg_at 1353 (by decide +kernel) rfl
theorem fk_X12_81 : Cond.fieldLink RX12 81 "SleepWordsModel" "token" "I" ∈ lwg := lwg_at 1354 (by decide +kernel) rfl
theorem fk_X12_78 : Cond.fieldLink RX12 78 "SleepWordsModel" "whole" "I" ∈ lwg := lwg_at 1355 (by decide +kernel) rfl
theorem fk_X12_75 : Cond.fieldLink RX12 75 "SleepWordsModel" "nameSize" "I" ∈ lwg := lwg_at 1356 (by decide +kernel) rfl
theorem fk_X12_95 : Cond.fieldLink RX12 95 "SleepWordsModel" "fault" "I" ∈ lwg := lwg_at 1357 (by decide +kernel) rfl
theorem fk_X12_13 : Cond.fieldLink RX12 13 "SleepWordsModel" "place" "I" ∈ lwg := lwg_at 1358 (by decide +kernel) rfl
theorem fk_X12_56 : Cond.fieldLink RX12 56 "SleepWordsModel" "trouble" "I" ∈ lwg := lwg_at 1359 (by decide +kernel) rfl
theorem fk_X12_17 : Cond.fieldLink RX12 17 "SleepWordsModel" "letters" "[I" ∈ lwg := lwg_at 1360 (by decide +kernel) rfl
theorem fk_X12_91 : Cond.fieldLink RX12 91 "SleepWordsModel" "failed" "Z" ∈ lwg := lwg_at 1361 (by decide +kernel) rfl
theorem fk_X12_178 : Cond.fieldLink RX12 178 "SleepWordsModel" "hasCounty" "Z" ∈ lwg := lwg_at 1362 (by decide +kernel) rfl
theorem fk_X12_20 : Cond.fieldLink RX12 20 "SleepWordsModel" "\x72" "[I" ∈ lwg := lwg_at 1363 (by decide +kernel) rfl
theorem fk_X12_23 : Cond.fieldLink RX12 23 "SleepWordsModel" "fresh" "[I" ∈ lwg := lwg_at 1364 (by decide +kernel) rfl
theorem fk_X12_26 : Cond.fieldLink RX12 26 "SleepWordsModel" "st" "[I" ∈ lwg := lwg_at 1365 (by decide +kernel) rfl
theorem fk_X12_29 : Cond.fieldLink RX12 29 "SleepWordsModel" "undone" "[I" ∈ lwg := lwg_at 1366 (by decide +kernel) rfl
theorem fk_X12_32 : Cond.fieldLink RX12 32 "SleepWordsModel" "kept" "[I" ∈ lwg := lwg_at 1367 (by decide +kernel) rfl
theorem fk_X12_181 : Cond.fieldLink RX12 181 "SleepWordsModel" "undos" "I" ∈ lwg := lwg_at 1368 (by decide +kernel) rfl
theorem fk_X12_184 : Cond.fieldLink RX12 184 "SleepWordsModel" "images" "I" ∈ lwg := lwg_at 1369 (by decide +kernel) rfl
theorem fk_X12_35 : Cond.fieldLink RX12 35 "SleepWordsModel" "tends" "[I" ∈ lwg := lwg_at 1370 (by decide +kernel) rfl
theorem fk_X12_38 : Cond.fieldLink RX12 38 "SleepWordsModel" "bestTends" "[I" ∈ lwg := lwg_at 1371 (by decide +kernel) rfl
theorem fk_X12_41 : Cond.fieldLink RX12 41 "SleepWordsModel" "hands" "[I" ∈ lwg := lwg_at 1372 (by decide +kernel) rfl
theorem fk_X12_300 : Cond.fieldLink RX12 300 "SleepWordsModel" "mostTended" "I" ∈ lwg := lwg_at 1373 (by decide +kernel) rfl
theorem fk_X12_44 : Cond.fieldLink RX12 44 "SleepWordsModel" "row" "[I" ∈ lwg := lwg_at 1374 (by decide +kernel) rfl
theorem fk_X12_47 : Cond.fieldLink RX12 47 "SleepWordsModel" "bestRow" "[I" ∈ lwg := lwg_at 1375 (by decide +kernel) rfl
theorem fk_X12_335 : Cond.fieldLink RX12 335 "SleepWordsModel" "leastMean" "I" ∈ lwg := lwg_at 1376 (by decide +kernel) rfl
theorem fk_X12_332 : Cond.fieldLink RX12 332 "SleepWordsModel" "rowMany" "I" ∈ lwg := lwg_at 1377 (by decide +kernel) rfl
theorem fk_X12_367 : Cond.fieldLink RX12 367 "SleepWordsModel" "fitMany" "I" ∈ lwg := lwg_at 1378 (by decide +kernel) rfl
theorem fk_X12_370 : Cond.fieldLink RX12 370 "SleepWordsModel" "someFit" "I" ∈ lwg := lwg_at 1379 (by decide +kernel) rfl
theorem fk_X12_376 : Cond.fieldLink RX12 376 "SleepWordsModel" "allFit" "I" ∈ lwg := lwg_at 1380 (by decide +kernel) rfl
theorem fk_X12_388 : Cond.fieldLink RX12 388 "SleepWordsModel" "leftThen" "I" ∈ lwg := lwg_at 1381 (by decide +kernel) rfl
theorem fk_X12_410 : Cond.fieldLink RX12 410 "SleepWordsModel" "firstRest" "I" ∈ lwg := lwg_at 1382 (by decide +kernel) rfl
theorem fk_X12_50 : Cond.fieldLink RX12 50 "SleepWordsModel" "trial" "[I" ∈ lwg := lwg_at 1383 (by decide +kernel) rfl
theorem fk_X12_420 : Cond.fieldLink RX12 420 "SleepWordsModel" "winterSum" "I" ∈ lwg := lwg_at 1384 (by decide +kernel) rfl
theorem fk_X12_423 : Cond.fieldLink RX12 423 "SleepWordsModel" "aboveDay" "I" ∈ lwg := lwg_at 1385 (by decide +kernel) rfl
theorem lk_L_227 : Cond.methodLink RL 227 yX12_thrown ∈ lwg := lwg_at 1463 (by decide +kernel) rfl
theorem im_X12_thrown : Cond.instanceMethod yX12_thrown ∈ lwg := lwg_at 1464 (by decide +kernel) rfl
theorem sl_X12_thrown : Cond.selects RX12 yX12_thrown yX12_thrown ∈ lwg := lwg_at 1465 (by decide +kernel) rfl
set_option maxRecDepth 40000 in
theorem cd_X12_thrown : Cond.code yX12_thrown cX12_thrown 1 (some .int) ∈ lwg := lwg_at 1466 rfl rfl
theorem lk_L_23 : Cond.methodLink RL 23 yX12_feed ∈ lwg := lwg_at 1467 (by decide +kernel) rfl
theorem im_X12_feed : Cond.instanceMethod yX12_feed ∈ lwg := lwg_at 1468 (by decide +kernel) rfl
theorem sl_X12_feed : Cond.selects RX12 yX12_feed yX12_feed ∈ lwg := lwg_at 1469 (by decide +kernel) rfl
set_option maxRecDepth 40000 in
theorem cd_X12_feed : Cond.code yX12_feed cX12_feed 8 (some .int) ∈ lwg := lwg_at 1470 rfl rfl
theorem lk_L_27 : Cond.methodLink RL 27 yX12_county ∈ lwg := lwg_at 1471 (by decide +kernel) rfl
theorem im_X12_county : Cond.instanceMethod yX12_county ∈ lwg := lwg_at 1472 (by decide +kernel) rfl
theorem sl_X12_county : Cond.selects RX12 yX12_county yX12_county ∈ lwg := lwg_at 1473 (by decide +kernel) rfl
set_option maxRecDepth 40000 in
theorem cd_X12_county : Cond.code yX12_county cX12_county 3 (some .int) ∈ lwg := lwg_at 1474 rfl rfl
theorem lk_X12_165 : Cond.methodLink RX12 165 yX12_good ∈ lwg := lwg_at 1475 (by decide +kernel) rfl
theorem im_X12_good : Cond.instanceMethod yX12_good ∈ lwg := lwg_at 1477 (by decide +kernel) rfl
set_option maxRecDepth 40000 in
theorem cd_X12_good : Cond.code yX12_good cX12_good 1 none ∈ lwg := lwg_at 1478 rfl rfl
theorem lk_X12_146 : Cond.methodLink RX12 146 yX12_in ∈ lwg := lwg_at 1479 (by decide +kernel) rfl
theorem st_X12_in : Cond.static yX12_in ∈ lwg := lwg_at 1480 (by decide +kernel) rfl
set_option maxRecDepth 40000 in
theorem cd_X12_in : Cond.code yX12_in cX12_in 3 (some .boolean) ∈ lwg := lwg_at 1481 rfl rfl
theorem lk_X12_168 : Cond.methodLink RX12 168 yX12_no ∈ lwg := lwg_at 1482 (by decide +kernel) rfl
theorem im_X12_no : Cond.instanceMethod yX12_no ∈ lwg := lwg_at 1484 (by decide +kernel) rfl
set_option maxRecDepth 40000 in
theorem cd_X12_no : Cond.code yX12_no cX12_no 2 (some .int) ∈ lwg := lwg_at 1485 rfl rfl
theorem lk_X12_112 : Cond.methodLink RX12 112 yX12_goOn ∈ lwg := lwg_at 1486 (by decide +kernel) rfl
theorem im_X12_goOn : Cond.instanceMethod yX12_goOn ∈ lwg := lwg_at 1488 (by decide +kernel) rfl
set_option maxRecDepth 40000 in
theorem cd_X12_goOn : Cond.code yX12_goOn cX12_goOn 4 none ∈ lwg := lwg_at 1489 rfl rfl
theorem lk_X12_68 : Cond.methodLink RX12 68 yX12_look ∈ lwg := lwg_at 1490 (by decide +kernel) rfl
theorem im_X12_look : Cond.instanceMethod yX12_look ∈ lwg := lwg_at 1492 (by decide +kernel) rfl
set_option maxRecDepth 40000 in
theorem cd_X12_look : Cond.code yX12_look cX12_look 2 (some .int) ∈ lwg := lwg_at 1493 rfl rfl
theorem lk_X12_84 : Cond.methodLink RX12 84 yX12_isSmall ∈ lwg := lwg_at 1494 (by decide +kernel) rfl
theorem st_X12_isSmall : Cond.static yX12_isSmall ∈ lwg := lwg_at 1495 (by decide +kernel) rfl
set_option maxRecDepth 40000 in
theorem cd_X12_isSmall : Cond.code yX12_isSmall cX12_isSmall 1 (some .boolean) ∈ lwg := lwg_at 1496 rfl rfl
theorem lk_X12_88 : Cond.methodLink RX12 88 yX12_isDigit ∈ lwg := lwg_at 1497 (by decide +kernel) rfl
theorem st_X12_isDigit : Cond.static yX12_isDigit ∈ lwg := lwg_at 1498 (by decide +kernel) rfl
set_option maxRecDepth 40000 in
theorem cd_X12_isDigit : Cond.code yX12_isDigit cX12_isDigit 1 (some .boolean) ∈ lwg := lwg_at 1499 rfl rfl
theorem lk_X12_171 : Cond.methodLink RX12 171 yX12_readLine ∈ lwg := lwg_at 1500 (by decide +kernel) rfl
theorem im_X12_readLine : Cond.instanceMethod yX12_readLine ∈ lwg := lwg_at 1502 (by decide +kernel) rfl
set_option maxRecDepth 40000 in
theorem cd_X12_readLine : Cond.code yX12_readLine cX12_readLine 1 none ∈ lwg := lwg_at 1503 rfl rfl
theorem lk_X12_108 : Cond.methodLink RX12 108 yX12_isWord ∈ lwg := lwg_at 1505 (by decide +kernel) rfl
theorem im_X12_isWord : Cond.instanceMethod yX12_isWord ∈ lwg := lwg_at 1507 (by decide +kernel) rfl
set_option maxRecDepth 40000 in
theorem cd_X12_isWord : Cond.code yX12_isWord cX12_isWord 4 (some .boolean) ∈ lwg := lwg_at 1508 rfl rfl
theorem lk_X12_98 : Cond.methodLink RX12 98 yJ0_length_8abf5 ∈ lwg := lwg_at 1509 (by decide +kernel) rfl
theorem lk_X12_104 : Cond.methodLink RX12 104 yJ0_charAt_5068e ∈ lwg := lwg_at 1510 (by decide +kernel) rfl
theorem lk_X12_187 : Cond.methodLink RX12 187 yX12_countyLine ∈ lwg := lwg_at 1511 (by decide +kernel) rfl
theorem im_X12_countyLine : Cond.instanceMethod yX12_countyLine ∈ lwg := lwg_at 1513 (by decide +kernel) rfl
set_option maxRecDepth 40000 in
theorem cd_X12_countyLine : Cond.code yX12_countyLine cX12_countyLine 2 none ∈ lwg := lwg_at 1514 rfl rfl
theorem lk_X12_118 : Cond.methodLink RX12 118 yX12_wrong ∈ lwg := lwg_at 1515 (by decide +kernel) rfl
theorem im_X12_wrong : Cond.instanceMethod yX12_wrong ∈ lwg := lwg_at 1517 (by decide +kernel) rfl
set_option maxRecDepth 40000 in
theorem cd_X12_wrong : Cond.code yX12_wrong cX12_wrong 3 none ∈ lwg := lwg_at 1518 rfl rfl
theorem lk_X12_214 : Cond.methodLink RX12 214 yX12_after ∈ lwg := lwg_at 1520 (by decide +kernel) rfl
theorem im_X12_after : Cond.instanceMethod yX12_after ∈ lwg := lwg_at 1522 (by decide +kernel) rfl
set_option maxRecDepth 40000 in
theorem cd_X12_after : Cond.code yX12_after cX12_after 4 (some .int) ∈ lwg := lwg_at 1523 rfl rfl
theorem lk_X12_154 : Cond.methodLink RX12 154 yX12_must ∈ lwg := lwg_at 1524 (by decide +kernel) rfl
theorem im_X12_must : Cond.instanceMethod yX12_must ∈ lwg := lwg_at 1526 (by decide +kernel) rfl
set_option maxRecDepth 40000 in
theorem cd_X12_must : Cond.code yX12_must cX12_must 2 none ∈ lwg := lwg_at 1527 rfl rfl
theorem lk_X12_115 : Cond.methodLink RX12 115 yX12_takesWord ∈ lwg := lwg_at 1528 (by decide +kernel) rfl
theorem im_X12_takesWord : Cond.instanceMethod yX12_takesWord ∈ lwg := lwg_at 1530 (by decide +kernel) rfl
set_option maxRecDepth 40000 in
theorem cd_X12_takesWord : Cond.code yX12_takesWord cX12_takesWord 2 (some .boolean) ∈ lwg := lwg_at 1531 rfl rfl
theorem lk_X12_158 : Cond.methodLink RX12 158 yX12_number ∈ lwg := lwg_at 1532 (by decide +kernel) rfl
theorem im_X12_number : Cond.instanceMethod yX12_number ∈ lwg := lwg_at 1534 (by decide +kernel) rfl
set_option maxRecDepth 40000 in
theorem cd_X12_number : Cond.code yX12_number cX12_number 4 (some .int) ∈ lwg := lwg_at 1535 rfl rfl
theorem lk_X12_150 : Cond.methodLink RX12 150 yX12_numberHere ∈ lwg := lwg_at 1536 (by decide +kernel) rfl
theorem im_X12_numberHere : Cond.instanceMethod yX12_numberHere ∈ lwg := lwg_at 1538 (by decide +kernel) rfl
set_option maxRecDepth 40000 in
theorem cd_X12_numberHere : Cond.code yX12_numberHere cX12_numberHere 3 (some .int) ∈ lwg := lwg_at 1539 rfl rfl
theorem lk_X12_190 : Cond.methodLink RX12 190 yX12_begins ∈ lwg := lwg_at 1542 (by decide +kernel) rfl
theorem im_X12_begins : Cond.instanceMethod yX12_begins ∈ lwg := lwg_at 1544 (by decide +kernel) rfl
set_option maxRecDepth 40000 in
theorem cd_X12_begins : Cond.code yX12_begins cX12_begins 3 (some .boolean) ∈ lwg := lwg_at 1545 rfl rfl
theorem lk_X12_194 : Cond.methodLink RX12 194 yX12_sleeperLine ∈ lwg := lwg_at 1546 (by decide +kernel) rfl
theorem im_X12_sleeperLine : Cond.instanceMethod yX12_sleeperLine ∈ lwg := lwg_at 1548 (by decide +kernel) rfl
set_option maxRecDepth 40000 in
theorem cd_X12_sleeperLine : Cond.code yX12_sleeperLine cX12_sleeperLine 3 none ∈ lwg := lwg_at 1549 rfl rfl
theorem lk_X12_220 : Cond.methodLink RX12 220 yX12_newName ∈ lwg := lwg_at 1550 (by decide +kernel) rfl
theorem im_X12_newName : Cond.instanceMethod yX12_newName ∈ lwg := lwg_at 1552 (by decide +kernel) rfl
set_option maxRecDepth 40000 in
theorem cd_X12_newName : Cond.code yX12_newName cX12_newName 3 none ∈ lwg := lwg_at 1553 rfl rfl
theorem lk_X12_140 : Cond.methodLink RX12 140 yX12_mustName ∈ lwg := lwg_at 1554 (by decide +kernel) rfl
theorem im_X12_mustName : Cond.instanceMethod yX12_mustName ∈ lwg := lwg_at 1556 (by decide +kernel) rfl
set_option maxRecDepth 40000 in
theorem cd_X12_mustName : Cond.code yX12_mustName cX12_mustName 2 none ∈ lwg := lwg_at 1557 rfl rfl
theorem lk_X12_143 : Cond.methodLink RX12 143 yX12_find ∈ lwg := lwg_at 1565 (by decide +kernel) rfl
theorem im_X12_find : Cond.instanceMethod yX12_find ∈ lwg := lwg_at 1567 (by decide +kernel) rfl
set_option maxRecDepth 40000 in
theorem cd_X12_find : Cond.code yX12_find cX12_find 4 (some .int) ∈ lwg := lwg_at 1568 rfl rfl
theorem lk_X12_197 : Cond.methodLink RX12 197 yX12_awakeLine ∈ lwg := lwg_at 1575 (by decide +kernel) rfl
theorem im_X12_awakeLine : Cond.instanceMethod yX12_awakeLine ∈ lwg := lwg_at 1577 (by decide +kernel) rfl
set_option maxRecDepth 40000 in
theorem cd_X12_awakeLine : Cond.code yX12_awakeLine cX12_awakeLine 2 none ∈ lwg := lwg_at 1578 rfl rfl
theorem lk_X12_200 : Cond.methodLink RX12 200 yX12_wordLine ∈ lwg := lwg_at 1581 (by decide +kernel) rfl
theorem im_X12_wordLine : Cond.instanceMethod yX12_wordLine ∈ lwg := lwg_at 1583 (by decide +kernel) rfl
set_option maxRecDepth 40000 in
theorem cd_X12_wordLine : Cond.code yX12_wordLine cX12_wordLine 2 none ∈ lwg := lwg_at 1584 rfl rfl
theorem lk_X12_203 : Cond.methodLink RX12 203 yX12_beforeLine ∈ lwg := lwg_at 1587 (by decide +kernel) rfl
theorem im_X12_beforeLine : Cond.instanceMethod yX12_beforeLine ∈ lwg := lwg_at 1589 (by decide +kernel) rfl
set_option maxRecDepth 40000 in
theorem cd_X12_beforeLine : Cond.code yX12_beforeLine cX12_beforeLine 3 none ∈ lwg := lwg_at 1590 rfl rfl
theorem lk_X12_245 : Cond.methodLink RX12 245 yX12_wordHere ∈ lwg := lwg_at 1591 (by decide +kernel) rfl
theorem im_X12_wordHere : Cond.instanceMethod yX12_wordHere ∈ lwg := lwg_at 1593 (by decide +kernel) rfl
set_option maxRecDepth 40000 in
theorem cd_X12_wordHere : Cond.code yX12_wordHere cX12_wordHere 2 (some .int) ∈ lwg := lwg_at 1594 rfl rfl
theorem lk_X12_241 : Cond.methodLink RX12 241 yX12_hasBit ∈ lwg := lwg_at 1595 (by decide +kernel) rfl
theorem st_X12_hasBit : Cond.static yX12_hasBit ∈ lwg := lwg_at 1596 (by decide +kernel) rfl
set_option maxRecDepth 40000 in
theorem cd_X12_hasBit : Cond.code yX12_hasBit cX12_hasBit 2 (some .boolean) ∈ lwg := lwg_at 1597 rfl rfl
theorem lk_X12_248 : Cond.methodLink RX12 248 yX12_allBefore ∈ lwg := lwg_at 1598 (by decide +kernel) rfl
theorem st_X12_allBefore : Cond.static yX12_allBefore ∈ lwg := lwg_at 1599 (by decide +kernel) rfl
set_option maxRecDepth 40000 in
theorem cd_X12_allBefore : Cond.code yX12_allBefore cX12_allBefore 5 (some .int) ∈ lwg := lwg_at 1600 rfl rfl
theorem lk_X12_206 : Cond.methodLink RX12 206 yX12_orderLine ∈ lwg := lwg_at 1601 (by decide +kernel) rfl
theorem im_X12_orderLine : Cond.instanceMethod yX12_orderLine ∈ lwg := lwg_at 1603 (by decide +kernel) rfl
set_option maxRecDepth 40000 in
theorem cd_X12_orderLine : Cond.code yX12_orderLine cX12_orderLine 4 none ∈ lwg := lwg_at 1604 rfl rfl
theorem lk_X12_252 : Cond.methodLink RX12 252 yX12_laysPassed ∈ lwg := lwg_at 1605 (by decide +kernel) rfl
theorem im_X12_laysPassed : Cond.instanceMethod yX12_laysPassed ∈ lwg := lwg_at 1607 (by decide +kernel) rfl
set_option maxRecDepth 40000 in
theorem cd_X12_laysPassed : Cond.code yX12_laysPassed cX12_laysPassed 2 none ∈ lwg := lwg_at 1608 rfl rfl
theorem lk_X12_161 : Cond.methodLink RX12 161 yX12_lays ∈ lwg := lwg_at 1609 (by decide +kernel) rfl
theorem im_X12_lays : Cond.instanceMethod yX12_lays ∈ lwg := lwg_at 1611 (by decide +kernel) rfl
set_option maxRecDepth 40000 in
theorem cd_X12_lays : Cond.code yX12_lays cX12_lays 3 none ∈ lwg := lwg_at 1612 rfl rfl
theorem lk_X12_257 : Cond.methodLink RX12 257 yX12_isSame ∈ lwg := lwg_at 1614 (by decide +kernel) rfl
theorem st_X12_isSame : Cond.static yX12_isSame ∈ lwg := lwg_at 1615 (by decide +kernel) rfl
set_option maxRecDepth 40000 in
theorem cd_X12_isSame : Cond.code yX12_isSame cX12_isSame 5 (some .boolean) ∈ lwg := lwg_at 1616 rfl rfl
theorem lk_X12_209 : Cond.methodLink RX12 209 yX12_seenLine ∈ lwg := lwg_at 1617 (by decide +kernel) rfl
theorem im_X12_seenLine : Cond.instanceMethod yX12_seenLine ∈ lwg := lwg_at 1619 (by decide +kernel) rfl
set_option maxRecDepth 40000 in
theorem cd_X12_seenLine : Cond.code yX12_seenLine cX12_seenLine 3 none ∈ lwg := lwg_at 1620 rfl rfl
theorem lk_X12_174 : Cond.methodLink RX12 174 yX12_copy ∈ lwg := lwg_at 1621 (by decide +kernel) rfl
theorem st_X12_copy : Cond.static yX12_copy ∈ lwg := lwg_at 1622 (by decide +kernel) rfl
set_option maxRecDepth 40000 in
theorem cd_X12_copy : Cond.code yX12_copy cX12_copy 6 none ∈ lwg := lwg_at 1623 rfl rfl
theorem lk_L_32 : Cond.methodLink RL 32 yX12_fault ∈ lwg := lwg_at 1624 (by decide +kernel) rfl
theorem im_X12_fault : Cond.instanceMethod yX12_fault ∈ lwg := lwg_at 1625 (by decide +kernel) rfl
theorem sl_X12_fault : Cond.selects RX12 yX12_fault yX12_fault ∈ lwg := lwg_at 1626 (by decide +kernel) rfl
set_option maxRecDepth 40000 in
theorem cd_X12_fault : Cond.code yX12_fault cX12_fault 1 (some .int) ∈ lwg := lwg_at 1627 rfl rfl
theorem lk_L_36 : Cond.methodLink RL 36 yX12_where ∈ lwg := lwg_at 1628 (by decide +kernel) rfl
theorem im_X12_where : Cond.instanceMethod yX12_where ∈ lwg := lwg_at 1629 (by decide +kernel) rfl
theorem sl_X12_where : Cond.selects RX12 yX12_where yX12_where ∈ lwg := lwg_at 1630 (by decide +kernel) rfl
set_option maxRecDepth 40000 in
theorem cd_X12_where : Cond.code yX12_where cX12_where 1 (some .int) ∈ lwg := lwg_at 1631 rfl rfl
theorem lk_L_40 : Cond.methodLink RL 40 yX12_counts ∈ lwg := lwg_at 1632 (by decide +kernel) rfl
theorem im_X12_counts : Cond.instanceMethod yX12_counts ∈ lwg := lwg_at 1633 (by decide +kernel) rfl
theorem sl_X12_counts : Cond.selects RX12 yX12_counts yX12_counts ∈ lwg := lwg_at 1634 (by decide +kernel) rfl
set_option maxRecDepth 40000 in
theorem cd_X12_counts : Cond.code yX12_counts cX12_counts 2 (some .int) ∈ lwg := lwg_at 1635 rfl rfl
theorem kk_X12_261 : Cond.constant RX12 261 99999 ∈ lwg := lwg_at 1636 (by decide +kernel) rfl
theorem lk_X12_262 : Cond.methodLink RX12 262 yX12_countOf ∈ lwg := lwg_at 1637 (by decide +kernel) rfl
theorem im_X12_countOf : Cond.instanceMethod yX12_countOf ∈ lwg := lwg_at 1639 (by decide +kernel) rfl
set_option maxRecDepth 40000 in
theorem cd_X12_countOf : Cond.code yX12_countOf cX12_countOf 6 (some .int) ∈ lwg := lwg_at 1640 rfl rfl
theorem lk_L_44 : Cond.methodLink RL 44 yX12_really ∈ lwg := lwg_at 1641 (by decide +kernel) rfl
theorem im_X12_really : Cond.instanceMethod yX12_really ∈ lwg := lwg_at 1642 (by decide +kernel) rfl
theorem sl_X12_really : Cond.selects RX12 yX12_really yX12_really ∈ lwg := lwg_at 1643 (by decide +kernel) rfl
set_option maxRecDepth 40000 in
theorem cd_X12_really : Cond.code yX12_really cX12_really 2 (some .int) ∈ lwg := lwg_at 1644 rfl rfl
theorem kk_X12_265 : Cond.constant RX12 265 999999 ∈ lwg := lwg_at 1645 (by decide +kernel) rfl
theorem lk_X12_266 : Cond.methodLink RX12 266 yX12_reallyOf ∈ lwg := lwg_at 1646 (by decide +kernel) rfl
theorem im_X12_reallyOf : Cond.instanceMethod yX12_reallyOf ∈ lwg := lwg_at 1648 (by decide +kernel) rfl
set_option maxRecDepth 40000 in
theorem cd_X12_reallyOf : Cond.code yX12_reallyOf cX12_reallyOf 6 (some .int) ∈ lwg := lwg_at 1649 rfl rfl
theorem lk_L_49 : Cond.methodLink RL 49 yX12_sum ∈ lwg := lwg_at 1650 (by decide +kernel) rfl
theorem im_X12_sum : Cond.instanceMethod yX12_sum ∈ lwg := lwg_at 1651 (by decide +kernel) rfl
theorem sl_X12_sum : Cond.selects RX12 yX12_sum yX12_sum ∈ lwg := lwg_at 1652 (by decide +kernel) rfl
set_option maxRecDepth 40000 in
theorem cd_X12_sum : Cond.code yX12_sum cX12_sum 3 (some .int) ∈ lwg := lwg_at 1653 rfl rfl
theorem lk_L_53 : Cond.methodLink RL 53 yX12_sleeper ∈ lwg := lwg_at 1654 (by decide +kernel) rfl
theorem im_X12_sleeper : Cond.instanceMethod yX12_sleeper ∈ lwg := lwg_at 1655 (by decide +kernel) rfl
theorem sl_X12_sleeper : Cond.selects RX12 yX12_sleeper yX12_sleeper ∈ lwg := lwg_at 1656 (by decide +kernel) rfl
set_option maxRecDepth 40000 in
theorem cd_X12_sleeper : Cond.code yX12_sleeper cX12_sleeper 5 (some .int) ∈ lwg := lwg_at 1657 rfl rfl
theorem lk_X12_275 : Cond.methodLink RX12 275 yX12_isSleeper ∈ lwg := lwg_at 1658 (by decide +kernel) rfl
theorem im_X12_isSleeper : Cond.instanceMethod yX12_isSleeper ∈ lwg := lwg_at 1660 (by decide +kernel) rfl
set_option maxRecDepth 40000 in
theorem cd_X12_isSleeper : Cond.code yX12_isSleeper cX12_isSleeper 2 (some .boolean) ∈ lwg := lwg_at 1661 rfl rfl
theorem lk_X12_278 : Cond.methodLink RX12 278 yX12_canReach ∈ lwg := lwg_at 1662 (by decide +kernel) rfl
theorem im_X12_canReach : Cond.instanceMethod yX12_canReach ∈ lwg := lwg_at 1664 (by decide +kernel) rfl
set_option maxRecDepth 40000 in
theorem cd_X12_canReach : Cond.code yX12_canReach cX12_canReach 4 (some .boolean) ∈ lwg := lwg_at 1665 rfl rfl
theorem lk_L_57 : Cond.methodLink RL 57 yX12_awake ∈ lwg := lwg_at 1666 (by decide +kernel) rfl
theorem im_X12_awake : Cond.instanceMethod yX12_awake ∈ lwg := lwg_at 1667 (by decide +kernel) rfl
theorem sl_X12_awake : Cond.selects RX12 yX12_awake yX12_awake ∈ lwg := lwg_at 1668 (by decide +kernel) rfl
set_option maxRecDepth 40000 in
theorem cd_X12_awake : Cond.code yX12_awake cX12_awake 3 (some .int) ∈ lwg := lwg_at 1669 rfl rfl
theorem lk_X12_281 : Cond.methodLink RX12 281 yX12_isAwake ∈ lwg := lwg_at 1670 (by decide +kernel) rfl
theorem im_X12_isAwake : Cond.instanceMethod yX12_isAwake ∈ lwg := lwg_at 1672 (by decide +kernel) rfl
set_option maxRecDepth 40000 in
theorem cd_X12_isAwake : Cond.code yX12_isAwake cX12_isAwake 2 (some .boolean) ∈ lwg := lwg_at 1673 rfl rfl
theorem lk_X12_284 : Cond.methodLink RX12 284 yX12_tendedOf ∈ lwg := lwg_at 1674 (by decide +kernel) rfl
theorem im_X12_tendedOf : Cond.instanceMethod yX12_tendedOf ∈ lwg := lwg_at 1676 (by decide +kernel) rfl
set_option maxRecDepth 40000 in
theorem cd_X12_tendedOf : Cond.code yX12_tendedOf cX12_tendedOf 4 (some .int) ∈ lwg := lwg_at 1677 rfl rfl
theorem lk_X12_287 : Cond.methodLink RX12 287 yX12_ones ∈ lwg := lwg_at 1678 (by decide +kernel) rfl
theorem st_X12_ones : Cond.static yX12_ones ∈ lwg := lwg_at 1679 (by decide +kernel) rfl
set_option maxRecDepth 40000 in
theorem cd_X12_ones : Cond.code yX12_ones cX12_ones 3 (some .int) ∈ lwg := lwg_at 1680 rfl rfl
theorem lk_L_61 : Cond.methodLink RL 61 yX12_harmOf ∈ lwg := lwg_at 1681 (by decide +kernel) rfl
theorem im_X12_harmOf : Cond.instanceMethod yX12_harmOf ∈ lwg := lwg_at 1682 (by decide +kernel) rfl
theorem sl_X12_harmOf : Cond.selects RX12 yX12_harmOf yX12_harmOf ∈ lwg := lwg_at 1683 (by decide +kernel) rfl
set_option maxRecDepth 40000 in
theorem cd_X12_harmOf : Cond.code yX12_harmOf cX12_harmOf 2 (some .int) ∈ lwg := lwg_at 1684 rfl rfl
theorem lk_X12_294 : Cond.methodLink RX12 294 yX12_harmNow ∈ lwg := lwg_at 1685 (by decide +kernel) rfl
theorem im_X12_harmNow : Cond.instanceMethod yX12_harmNow ∈ lwg := lwg_at 1687 (by decide +kernel) rfl
set_option maxRecDepth 40000 in
theorem cd_X12_harmNow : Cond.code yX12_harmNow cX12_harmNow 2 (some .int) ∈ lwg := lwg_at 1688 rfl rfl
theorem lk_X12_290 : Cond.methodLink RX12 290 yX12_harmBy ∈ lwg := lwg_at 1689 (by decide +kernel) rfl
theorem im_X12_harmBy : Cond.instanceMethod yX12_harmBy ∈ lwg := lwg_at 1691 (by decide +kernel) rfl
set_option maxRecDepth 40000 in
theorem cd_X12_harmBy : Cond.code yX12_harmBy cX12_harmBy 6 (some .int) ∈ lwg := lwg_at 1692 rfl rfl
theorem lk_X12_269 : Cond.methodLink RX12 269 yX12_kindOf ∈ lwg := lwg_at 1693 (by decide +kernel) rfl
theorem im_X12_kindOf : Cond.instanceMethod yX12_kindOf ∈ lwg := lwg_at 1695 (by decide +kernel) rfl
set_option maxRecDepth 40000 in
theorem cd_X12_kindOf : Cond.code yX12_kindOf cX12_kindOf 2 (some .int) ∈ lwg := lwg_at 1696 rfl rfl
theorem lk_X12_272 : Cond.methodLink RX12 272 yX12_frailOf ∈ lwg := lwg_at 1697 (by decide +kernel) rfl
theorem im_X12_frailOf : Cond.instanceMethod yX12_frailOf ∈ lwg := lwg_at 1699 (by decide +kernel) rfl
set_option maxRecDepth 40000 in
theorem cd_X12_frailOf : Cond.code yX12_frailOf cX12_frailOf 3 (some .int) ∈ lwg := lwg_at 1700 rfl rfl
theorem lk_L_65 : Cond.methodLink RL 65 yX12_harm ∈ lwg := lwg_at 1701 (by decide +kernel) rfl
theorem im_X12_harm : Cond.instanceMethod yX12_harm ∈ lwg := lwg_at 1702 (by decide +kernel) rfl
theorem sl_X12_harm : Cond.selects RX12 yX12_harm yX12_harm ∈ lwg := lwg_at 1703 (by decide +kernel) rfl
set_option maxRecDepth 40000 in
theorem cd_X12_harm : Cond.code yX12_harm cX12_harm 1 (some .int) ∈ lwg := lwg_at 1704 rfl rfl
theorem lk_X12_297 : Cond.methodLink RX12 297 yX12_harmAll ∈ lwg := lwg_at 1705 (by decide +kernel) rfl
theorem im_X12_harmAll : Cond.instanceMethod yX12_harmAll ∈ lwg := lwg_at 1707 (by decide +kernel) rfl
set_option maxRecDepth 40000 in
theorem cd_X12_harmAll : Cond.code yX12_harmAll cX12_harmAll 3 (some .int) ∈ lwg := lwg_at 1708 rfl rfl
theorem lk_L_69 : Cond.methodLink RL 69 yX12_harmed ∈ lwg := lwg_at 1709 (by decide +kernel) rfl
theorem im_X12_harmed : Cond.instanceMethod yX12_harmed ∈ lwg := lwg_at 1710 (by decide +kernel) rfl
theorem sl_X12_harmed : Cond.selects RX12 yX12_harmed yX12_harmed ∈ lwg := lwg_at 1711 (by decide +kernel) rfl
set_option maxRecDepth 40000 in
theorem cd_X12_harmed : Cond.code yX12_harmed cX12_harmed 3 (some .int) ∈ lwg := lwg_at 1712 rfl rfl
theorem lk_L_73 : Cond.methodLink RL 73 yX12_worst ∈ lwg := lwg_at 1713 (by decide +kernel) rfl
theorem im_X12_worst : Cond.instanceMethod yX12_worst ∈ lwg := lwg_at 1714 (by decide +kernel) rfl
theorem sl_X12_worst : Cond.selects RX12 yX12_worst yX12_worst ∈ lwg := lwg_at 1715 (by decide +kernel) rfl
set_option maxRecDepth 40000 in
theorem cd_X12_worst : Cond.code yX12_worst cX12_worst 3 (some .int) ∈ lwg := lwg_at 1716 rfl rfl
theorem lk_L_77 : Cond.methodLink RL 77 yX12_tending ∈ lwg := lwg_at 1717 (by decide +kernel) rfl
theorem im_X12_tending : Cond.instanceMethod yX12_tending ∈ lwg := lwg_at 1718 (by decide +kernel) rfl
theorem sl_X12_tending : Cond.selects RX12 yX12_tending yX12_tending ∈ lwg := lwg_at 1719 (by decide +kernel) rfl
set_option maxRecDepth 40000 in
theorem cd_X12_tending : Cond.code yX12_tending cX12_tending 1 (some .int) ∈ lwg := lwg_at 1720 rfl rfl
theorem lk_X12_306 : Cond.methodLink RX12 306 yX12_seekTending ∈ lwg := lwg_at 1721 (by decide +kernel) rfl
theorem im_X12_seekTending : Cond.instanceMethod yX12_seekTending ∈ lwg := lwg_at 1723 (by decide +kernel) rfl
set_option maxRecDepth 40000 in
theorem cd_X12_seekTending : Cond.code yX12_seekTending cX12_seekTending 4 (some .int) ∈ lwg := lwg_at 1724 rfl rfl
theorem lk_X12_303 : Cond.methodLink RX12 303 yX12_tryTending ∈ lwg := lwg_at 1725 (by decide +kernel) rfl
theorem im_X12_tryTending : Cond.instanceMethod yX12_tryTending ∈ lwg := lwg_at 1727 (by decide +kernel) rfl
set_option maxRecDepth 40000 in
theorem cd_X12_tryTending : Cond.code yX12_tryTending cX12_tryTending 4 none ∈ lwg := lwg_at 1728 rfl rfl
theorem lk_L_81 : Cond.methodLink RL 81 yX12_tendedBy ∈ lwg := lwg_at 1729 (by decide +kernel) rfl
theorem im_X12_tendedBy : Cond.instanceMethod yX12_tendedBy ∈ lwg := lwg_at 1730 (by decide +kernel) rfl
theorem sl_X12_tendedBy : Cond.selects RX12 yX12_tendedBy yX12_tendedBy ∈ lwg := lwg_at 1731 (by decide +kernel) rfl
set_option maxRecDepth 40000 in
theorem cd_X12_tendedBy : Cond.code yX12_tendedBy cX12_tendedBy 2 (some .int) ∈ lwg := lwg_at 1732 rfl rfl
theorem lk_L_85 : Cond.methodLink RL 85 yX12_left ∈ lwg := lwg_at 1733 (by decide +kernel) rfl
theorem im_X12_left : Cond.instanceMethod yX12_left ∈ lwg := lwg_at 1734 (by decide +kernel) rfl
theorem sl_X12_left : Cond.selects RX12 yX12_left yX12_left ∈ lwg := lwg_at 1735 (by decide +kernel) rfl
set_option maxRecDepth 40000 in
theorem cd_X12_left : Cond.code yX12_left cX12_left 3 (some .int) ∈ lwg := lwg_at 1736 rfl rfl
theorem lk_L_89 : Cond.methodLink RL 89 yX12_worthOf ∈ lwg := lwg_at 1737 (by decide +kernel) rfl
theorem im_X12_worthOf : Cond.instanceMethod yX12_worthOf ∈ lwg := lwg_at 1738 (by decide +kernel) rfl
theorem sl_X12_worthOf : Cond.selects RX12 yX12_worthOf yX12_worthOf ∈ lwg := lwg_at 1739 (by decide +kernel) rfl
set_option maxRecDepth 40000 in
theorem cd_X12_worthOf : Cond.code yX12_worthOf cX12_worthOf 2 (some .int) ∈ lwg := lwg_at 1740 rfl rfl
theorem lk_L_93 : Cond.methodLink RL 93 yX12_bestHand ∈ lwg := lwg_at 1741 (by decide +kernel) rfl
theorem im_X12_bestHand : Cond.instanceMethod yX12_bestHand ∈ lwg := lwg_at 1742 (by decide +kernel) rfl
theorem sl_X12_bestHand : Cond.selects RX12 yX12_bestHand yX12_bestHand ∈ lwg := lwg_at 1743 (by decide +kernel) rfl
set_option maxRecDepth 40000 in
theorem cd_X12_bestHand : Cond.code yX12_bestHand cX12_bestHand 5 (some .int) ∈ lwg := lwg_at 1744 rfl rfl
theorem lk_L_97 : Cond.methodLink RL 97 yX12_word ∈ lwg := lwg_at 1745 (by decide +kernel) rfl
theorem im_X12_word : Cond.instanceMethod yX12_word ∈ lwg := lwg_at 1746 (by decide +kernel) rfl
theorem sl_X12_word : Cond.selects RX12 yX12_word yX12_word ∈ lwg := lwg_at 1747 (by decide +kernel) rfl
set_option maxRecDepth 40000 in
theorem cd_X12_word : Cond.code yX12_word cX12_word 3 (some .int) ∈ lwg := lwg_at 1748 rfl rfl
theorem lk_X12_312 : Cond.methodLink RX12 312 yX12_isWordThere ∈ lwg := lwg_at 1749 (by decide +kernel) rfl
theorem im_X12_isWordThere : Cond.instanceMethod yX12_isWordThere ∈ lwg := lwg_at 1751 (by decide +kernel) rfl
set_option maxRecDepth 40000 in
theorem cd_X12_isWordThere : Cond.code yX12_isWordThere cX12_isWordThere 2 (some .boolean) ∈ lwg := lwg_at 1752 rfl rfl
theorem lk_L_102 : Cond.methodLink RL 102 yX12_chance ∈ lwg := lwg_at 1753 (by decide +kernel) rfl
theorem im_X12_chance : Cond.instanceMethod yX12_chance ∈ lwg := lwg_at 1754 (by decide +kernel) rfl
theorem sl_X12_chance : Cond.selects RX12 yX12_chance yX12_chance ∈ lwg := lwg_at 1755 (by decide +kernel) rfl
set_option maxRecDepth 40000 in
theorem cd_X12_chance : Cond.code yX12_chance cX12_chance 3 (some .long) ∈ lwg := lwg_at 1756 rfl rfl
theorem lk_X12_315 : Cond.methodLink RX12 315 yX12_lowest ∈ lwg := lwg_at 1757 (by decide +kernel) rfl
theorem st_X12_lowest : Cond.static yX12_lowest ∈ lwg := lwg_at 1758 (by decide +kernel) rfl
set_option maxRecDepth 40000 in
theorem cd_X12_lowest : Cond.code yX12_lowest cX12_lowest 11 (some .long) ∈ lwg := lwg_at 1759 rfl rfl
theorem lk_X12_309 : Cond.methodLink RX12 309 yX12_oddsOf ∈ lwg := lwg_at 1760 (by decide +kernel) rfl
theorem im_X12_oddsOf : Cond.instanceMethod yX12_oddsOf ∈ lwg := lwg_at 1762 (by decide +kernel) rfl
set_option maxRecDepth 40000 in
theorem cd_X12_oddsOf : Cond.code yX12_oddsOf cX12_oddsOf 2 (some .int) ∈ lwg := lwg_at 1763 rfl rfl
theorem lk_X12_319 : Cond.methodLink RX12 319 yX12_unsaid ∈ lwg := lwg_at 1764 (by decide +kernel) rfl
theorem im_X12_unsaid : Cond.instanceMethod yX12_unsaid ∈ lwg := lwg_at 1766 (by decide +kernel) rfl
set_option maxRecDepth 40000 in
theorem cd_X12_unsaid : Cond.code yX12_unsaid cX12_unsaid 1 (some .int) ∈ lwg := lwg_at 1767 rfl rfl
theorem lk_X12_322 : Cond.methodLink RX12 322 yX12_oddsIn ∈ lwg := lwg_at 1768 (by decide +kernel) rfl
theorem im_X12_oddsIn : Cond.instanceMethod yX12_oddsIn ∈ lwg := lwg_at 1770 (by decide +kernel) rfl
set_option maxRecDepth 40000 in
theorem cd_X12_oddsIn : Cond.code yX12_oddsIn cX12_oddsIn 4 (some .int) ∈ lwg := lwg_at 1771 rfl rfl
theorem lk_L_107 : Cond.methodLink RL 107 yX12_mean ∈ lwg := lwg_at 1772 (by decide +kernel) rfl
theorem im_X12_mean : Cond.instanceMethod yX12_mean ∈ lwg := lwg_at 1773 (by decide +kernel) rfl
theorem sl_X12_mean : Cond.selects RX12 yX12_mean yX12_mean ∈ lwg := lwg_at 1774 (by decide +kernel) rfl
set_option maxRecDepth 40000 in
theorem cd_X12_mean : Cond.code yX12_mean cX12_mean 2 (some .long) ∈ lwg := lwg_at 1775 rfl rfl
theorem lk_X12_339 : Cond.methodLink RX12 339 yX12_isOver ∈ lwg := lwg_at 1776 (by decide +kernel) rfl
theorem im_X12_isOver : Cond.instanceMethod yX12_isOver ∈ lwg := lwg_at 1778 (by decide +kernel) rfl
set_option maxRecDepth 40000 in
theorem cd_X12_isOver : Cond.code yX12_isOver cX12_isOver 1 (some .boolean) ∈ lwg := lwg_at 1779 rfl rfl
theorem lk_X12_343 : Cond.methodLink RX12 343 yX12_seekRows ∈ lwg := lwg_at 1780 (by decide +kernel) rfl
theorem im_X12_seekRows : Cond.instanceMethod yX12_seekRows ∈ lwg := lwg_at 1782 (by decide +kernel) rfl
set_option maxRecDepth 40000 in
theorem cd_X12_seekRows : Cond.code yX12_seekRows cX12_seekRows 1 none ∈ lwg := lwg_at 1783 rfl rfl
theorem kk_X12_338 : Cond.constant RX12 338 1000000000 ∈ lwg := lwg_at 1784 (by decide +kernel) rfl
theorem lk_X12_328 : Cond.methodLink RX12 328 yX12_tryRows ∈ lwg := lwg_at 1785 (by decide +kernel) rfl
theorem im_X12_tryRows : Cond.instanceMethod yX12_tryRows ∈ lwg := lwg_at 1787 (by decide +kernel) rfl
set_option maxRecDepth 40000 in
theorem cd_X12_tryRows : Cond.code yX12_tryRows cX12_tryRows 8 none ∈ lwg := lwg_at 1788 rfl rfl
theorem lk_X12_325 : Cond.methodLink RX12 325 yX12_minutesOf ∈ lwg := lwg_at 1789 (by decide +kernel) rfl
theorem im_X12_minutesOf : Cond.instanceMethod yX12_minutesOf ∈ lwg := lwg_at 1791 (by decide +kernel) rfl
set_option maxRecDepth 40000 in
theorem cd_X12_minutesOf : Cond.code yX12_minutesOf cX12_minutesOf 2 (some .int) ∈ lwg := lwg_at 1792 rfl rfl
theorem lk_L_111 : Cond.methodLink RL 111 yX12_searchAt ∈ lwg := lwg_at 1793 (by decide +kernel) rfl
theorem im_X12_searchAt : Cond.instanceMethod yX12_searchAt ∈ lwg := lwg_at 1794 (by decide +kernel) rfl
theorem sl_X12_searchAt : Cond.selects RX12 yX12_searchAt yX12_searchAt ∈ lwg := lwg_at 1795 (by decide +kernel) rfl
set_option maxRecDepth 40000 in
theorem cd_X12_searchAt : Cond.code yX12_searchAt cX12_searchAt 2 (some .int) ∈ lwg := lwg_at 1796 rfl rfl
theorem lk_L_119 : Cond.methodLink RL 119 yX12_within ∈ lwg := lwg_at 1797 (by decide +kernel) rfl
theorem im_X12_within : Cond.instanceMethod yX12_within ∈ lwg := lwg_at 1798 (by decide +kernel) rfl
theorem sl_X12_within : Cond.selects RX12 yX12_within yX12_within ∈ lwg := lwg_at 1799 (by decide +kernel) rfl
set_option maxRecDepth 40000 in
theorem cd_X12_within : Cond.code yX12_within cX12_within 4 (some .long) ∈ lwg := lwg_at 1800 rfl rfl
theorem lk_X12_346 : Cond.methodLink RX12 346 yX12_minutesWhy ∈ lwg := lwg_at 1801 (by decide +kernel) rfl
theorem im_X12_minutesWhy : Cond.instanceMethod yX12_minutesWhy ∈ lwg := lwg_at 1803 (by decide +kernel) rfl
set_option maxRecDepth 40000 in
theorem cd_X12_minutesWhy : Cond.code yX12_minutesWhy cX12_minutesWhy 2 (some .int) ∈ lwg := lwg_at 1804 rfl rfl
theorem lk_X12_349 : Cond.methodLink RX12 349 yX12_wordsIn ∈ lwg := lwg_at 1805 (by decide +kernel) rfl
theorem im_X12_wordsIn : Cond.instanceMethod yX12_wordsIn ∈ lwg := lwg_at 1807 (by decide +kernel) rfl
set_option maxRecDepth 40000 in
theorem cd_X12_wordsIn : Cond.code yX12_wordsIn cX12_wordsIn 7 (some .int) ∈ lwg := lwg_at 1808 rfl rfl
theorem lk_L_123 : Cond.methodLink RL 123 yX12_withinWords ∈ lwg := lwg_at 1809 (by decide +kernel) rfl
theorem im_X12_withinWords : Cond.instanceMethod yX12_withinWords ∈ lwg := lwg_at 1810 (by decide +kernel) rfl
theorem sl_X12_withinWords : Cond.selects RX12 yX12_withinWords yX12_withinWords ∈ lwg := lwg_at 1811 (by decide +kernel) rfl
set_option maxRecDepth 40000 in
theorem cd_X12_withinWords : Cond.code yX12_withinWords cX12_withinWords 3 (some .int) ∈ lwg := lwg_at 1812 rfl rfl
theorem lk_L_127 : Cond.methodLink RL 127 yX12_next ∈ lwg := lwg_at 1813 (by decide +kernel) rfl
theorem im_X12_next : Cond.instanceMethod yX12_next ∈ lwg := lwg_at 1814 (by decide +kernel) rfl
theorem sl_X12_next : Cond.selects RX12 yX12_next yX12_next ∈ lwg := lwg_at 1815 (by decide +kernel) rfl
set_option maxRecDepth 40000 in
theorem cd_X12_next : Cond.code yX12_next cX12_next 3 (some .int) ∈ lwg := lwg_at 1816 rfl rfl
theorem lk_X12_352 : Cond.methodLink RX12 352 yX12_canSay ∈ lwg := lwg_at 1817 (by decide +kernel) rfl
theorem im_X12_canSay : Cond.instanceMethod yX12_canSay ∈ lwg := lwg_at 1819 (by decide +kernel) rfl
set_option maxRecDepth 40000 in
theorem cd_X12_canSay : Cond.code yX12_canSay cX12_canSay 2 (some .boolean) ∈ lwg := lwg_at 1820 rfl rfl
theorem lk_L_115 : Cond.methodLink RL 115 yX12_meanFirst ∈ lwg := lwg_at 1821 (by decide +kernel) rfl
theorem im_X12_meanFirst : Cond.instanceMethod yX12_meanFirst ∈ lwg := lwg_at 1822 (by decide +kernel) rfl
theorem sl_X12_meanFirst : Cond.selects RX12 yX12_meanFirst yX12_meanFirst ∈ lwg := lwg_at 1823 (by decide +kernel) rfl
set_option maxRecDepth 40000 in
theorem cd_X12_meanFirst : Cond.code yX12_meanFirst cX12_meanFirst 3 (some .long) ∈ lwg := lwg_at 1824 rfl rfl
theorem lk_L_131 : Cond.methodLink RL 131 yX12_rows ∈ lwg := lwg_at 1825 (by decide +kernel) rfl
theorem im_X12_rows : Cond.instanceMethod yX12_rows ∈ lwg := lwg_at 1826 (by decide +kernel) rfl
theorem sl_X12_rows : Cond.selects RX12 yX12_rows yX12_rows ∈ lwg := lwg_at 1827 (by decide +kernel) rfl
set_option maxRecDepth 40000 in
theorem cd_X12_rows : Cond.code yX12_rows cX12_rows 1 (some .int) ∈ lwg := lwg_at 1828 rfl rfl
theorem lk_L_135 : Cond.methodLink RL 135 yX12_fits ∈ lwg := lwg_at 1829 (by decide +kernel) rfl
theorem im_X12_fits : Cond.instanceMethod yX12_fits ∈ lwg := lwg_at 1830 (by decide +kernel) rfl
theorem sl_X12_fits : Cond.selects RX12 yX12_fits yX12_fits ∈ lwg := lwg_at 1831 (by decide +kernel) rfl
set_option maxRecDepth 40000 in
theorem cd_X12_fits : Cond.code yX12_fits cX12_fits 1 (some .int) ∈ lwg := lwg_at 1832 rfl rfl
theorem lk_X12_382 : Cond.methodLink RX12 382 yX12_seekFits ∈ lwg := lwg_at 1833 (by decide +kernel) rfl
theorem im_X12_seekFits : Cond.instanceMethod yX12_seekFits ∈ lwg := lwg_at 1835 (by decide +kernel) rfl
set_option maxRecDepth 40000 in
theorem cd_X12_seekFits : Cond.code yX12_seekFits cX12_seekFits 2 none ∈ lwg := lwg_at 1836 rfl rfl
theorem lk_X12_373 : Cond.methodLink RX12 373 yX12_allOrders ∈ lwg := lwg_at 1837 (by decide +kernel) rfl
theorem im_X12_allOrders : Cond.instanceMethod yX12_allOrders ∈ lwg := lwg_at 1839 (by decide +kernel) rfl
set_option maxRecDepth 40000 in
theorem cd_X12_allOrders : Cond.code yX12_allOrders cX12_allOrders 1 (some .int) ∈ lwg := lwg_at 1840 rfl rfl
theorem lk_X12_379 : Cond.methodLink RX12 379 yX12_doesFit ∈ lwg := lwg_at 1841 (by decide +kernel) rfl
theorem im_X12_doesFit : Cond.instanceMethod yX12_doesFit ∈ lwg := lwg_at 1843 (by decide +kernel) rfl
set_option maxRecDepth 40000 in
theorem cd_X12_doesFit : Cond.code yX12_doesFit cX12_doesFit 4 (some .boolean) ∈ lwg := lwg_at 1844 rfl rfl
theorem lk_X12_364 : Cond.methodLink RX12 364 yX12_isSo ∈ lwg := lwg_at 1845 (by decide +kernel) rfl
theorem im_X12_isSo : Cond.instanceMethod yX12_isSo ∈ lwg := lwg_at 1847 (by decide +kernel) rfl
set_option maxRecDepth 40000 in
theorem cd_X12_isSo : Cond.code yX12_isSo cX12_isSo 5 (some .boolean) ∈ lwg := lwg_at 1848 rfl rfl
theorem lk_X12_361 : Cond.methodLink RX12 361 yX12_doneTo ∈ lwg := lwg_at 1849 (by decide +kernel) rfl
theorem im_X12_doneTo : Cond.instanceMethod yX12_doneTo ∈ lwg := lwg_at 1851 (by decide +kernel) rfl
set_option maxRecDepth 40000 in
theorem cd_X12_doneTo : Cond.code yX12_doneTo cX12_doneTo 5 (some .int) ∈ lwg := lwg_at 1852 rfl rfl
theorem lk_X12_355 : Cond.methodLink RX12 355 yX12_isSign ∈ lwg := lwg_at 1853 (by decide +kernel) rfl
theorem im_X12_isSign : Cond.instanceMethod yX12_isSign ∈ lwg := lwg_at 1855 (by decide +kernel) rfl
set_option maxRecDepth 40000 in
theorem cd_X12_isSign : Cond.code yX12_isSign cX12_isSign 3 (some .boolean) ∈ lwg := lwg_at 1856 rfl rfl
theorem lk_X12_358 : Cond.methodLink RX12 358 yX12_rankAt ∈ lwg := lwg_at 1857 (by decide +kernel) rfl
theorem st_X12_rankAt : Cond.static yX12_rankAt ∈ lwg := lwg_at 1858 (by decide +kernel) rfl
set_option maxRecDepth 40000 in
theorem cd_X12_rankAt : Cond.code yX12_rankAt cX12_rankAt 2 (some .int) ∈ lwg := lwg_at 1859 rfl rfl
theorem lk_L_139 : Cond.methodLink RL 139 yX12_could ∈ lwg := lwg_at 1860 (by decide +kernel) rfl
theorem im_X12_could : Cond.instanceMethod yX12_could ∈ lwg := lwg_at 1861 (by decide +kernel) rfl
theorem sl_X12_could : Cond.selects RX12 yX12_could yX12_could ∈ lwg := lwg_at 1862 (by decide +kernel) rfl
set_option maxRecDepth 40000 in
theorem cd_X12_could : Cond.code yX12_could cX12_could 1 (some .int) ∈ lwg := lwg_at 1863 rfl rfl
theorem lk_L_143 : Cond.methodLink RL 143 yX12_surely ∈ lwg := lwg_at 1864 (by decide +kernel) rfl
theorem im_X12_surely : Cond.instanceMethod yX12_surely ∈ lwg := lwg_at 1865 (by decide +kernel) rfl
theorem sl_X12_surely : Cond.selects RX12 yX12_surely yX12_surely ∈ lwg := lwg_at 1866 (by decide +kernel) rfl
set_option maxRecDepth 40000 in
theorem cd_X12_surely : Cond.code yX12_surely cX12_surely 1 (some .int) ∈ lwg := lwg_at 1867 rfl rfl
theorem lk_L_147 : Cond.methodLink RL 147 yX12_ask ∈ lwg := lwg_at 1868 (by decide +kernel) rfl
theorem im_X12_ask : Cond.instanceMethod yX12_ask ∈ lwg := lwg_at 1869 (by decide +kernel) rfl
theorem sl_X12_ask : Cond.selects RX12 yX12_ask yX12_ask ∈ lwg := lwg_at 1870 (by decide +kernel) rfl
set_option maxRecDepth 40000 in
theorem cd_X12_ask : Cond.code yX12_ask cX12_ask 1 (some .int) ∈ lwg := lwg_at 1871 rfl rfl
theorem lk_X12_400 : Cond.methodLink RX12 400 yX12_askOf ∈ lwg := lwg_at 1872 (by decide +kernel) rfl
theorem im_X12_askOf : Cond.instanceMethod yX12_askOf ∈ lwg := lwg_at 1874 (by decide +kernel) rfl
set_option maxRecDepth 40000 in
theorem cd_X12_askOf : Cond.code yX12_askOf cX12_askOf 4 (some .int) ∈ lwg := lwg_at 1875 rfl rfl
theorem lk_X12_391 : Cond.methodLink RX12 391 yX12_wasSeen ∈ lwg := lwg_at 1876 (by decide +kernel) rfl
theorem im_X12_wasSeen : Cond.instanceMethod yX12_wasSeen ∈ lwg := lwg_at 1878 (by decide +kernel) rfl
set_option maxRecDepth 40000 in
theorem cd_X12_wasSeen : Cond.code yX12_wasSeen cX12_wasSeen 3 (some .boolean) ∈ lwg := lwg_at 1879 rfl rfl
theorem lk_X12_394 : Cond.methodLink RX12 394 yX12_firstOf ∈ lwg := lwg_at 1880 (by decide +kernel) rfl
theorem im_X12_firstOf : Cond.instanceMethod yX12_firstOf ∈ lwg := lwg_at 1882 (by decide +kernel) rfl
set_option maxRecDepth 40000 in
theorem cd_X12_firstOf : Cond.code yX12_firstOf cX12_firstOf 3 (some .int) ∈ lwg := lwg_at 1883 rfl rfl
theorem lk_X12_397 : Cond.methodLink RX12 397 yX12_leavesBy ∈ lwg := lwg_at 1884 (by decide +kernel) rfl
theorem im_X12_leavesBy : Cond.instanceMethod yX12_leavesBy ∈ lwg := lwg_at 1886 (by decide +kernel) rfl
set_option maxRecDepth 40000 in
theorem cd_X12_leavesBy : Cond.code yX12_leavesBy cX12_leavesBy 7 (some .int) ∈ lwg := lwg_at 1887 rfl rfl
theorem lk_X12_385 : Cond.methodLink RX12 385 yX12_doAlike ∈ lwg := lwg_at 1888 (by decide +kernel) rfl
theorem im_X12_doAlike : Cond.instanceMethod yX12_doAlike ∈ lwg := lwg_at 1890 (by decide +kernel) rfl
set_option maxRecDepth 40000 in
theorem cd_X12_doAlike : Cond.code yX12_doAlike cX12_doAlike 6 (some .boolean) ∈ lwg := lwg_at 1891 rfl rfl
theorem lk_L_151 : Cond.methodLink RL 151 yX12_askLeaves ∈ lwg := lwg_at 1892 (by decide +kernel) rfl
theorem im_X12_askLeaves : Cond.instanceMethod yX12_askLeaves ∈ lwg := lwg_at 1893 (by decide +kernel) rfl
theorem sl_X12_askLeaves : Cond.selects RX12 yX12_askLeaves yX12_askLeaves ∈ lwg := lwg_at 1894 (by decide +kernel) rfl
set_option maxRecDepth 40000 in
theorem cd_X12_askLeaves : Cond.code yX12_askLeaves cX12_askLeaves 1 (some .int) ∈ lwg := lwg_at 1895 rfl rfl
theorem lk_L_155 : Cond.methodLink RL 155 yX12_judge ∈ lwg := lwg_at 1896 (by decide +kernel) rfl
theorem im_X12_judge : Cond.instanceMethod yX12_judge ∈ lwg := lwg_at 1897 (by decide +kernel) rfl
theorem sl_X12_judge : Cond.selects RX12 yX12_judge yX12_judge ∈ lwg := lwg_at 1898 (by decide +kernel) rfl
set_option maxRecDepth 40000 in
theorem cd_X12_judge : Cond.code yX12_judge cX12_judge 2 (some .int) ∈ lwg := lwg_at 1899 rfl rfl
theorem lk_L_159 : Cond.methodLink RL 159 yX12_together ∈ lwg := lwg_at 1900 (by decide +kernel) rfl
theorem im_X12_together : Cond.instanceMethod yX12_together ∈ lwg := lwg_at 1901 (by decide +kernel) rfl
theorem sl_X12_together : Cond.selects RX12 yX12_together yX12_together ∈ lwg := lwg_at 1902 (by decide +kernel) rfl
set_option maxRecDepth 40000 in
theorem cd_X12_together : Cond.code yX12_together cX12_together 6 (some .int) ∈ lwg := lwg_at 1903 rfl rfl
theorem lk_L_163 : Cond.methodLink RL 163 yX12_clash ∈ lwg := lwg_at 1904 (by decide +kernel) rfl
theorem im_X12_clash : Cond.instanceMethod yX12_clash ∈ lwg := lwg_at 1905 (by decide +kernel) rfl
theorem sl_X12_clash : Cond.selects RX12 yX12_clash yX12_clash ∈ lwg := lwg_at 1906 (by decide +kernel) rfl
set_option maxRecDepth 40000 in
theorem cd_X12_clash : Cond.code yX12_clash cX12_clash 3 (some .int) ∈ lwg := lwg_at 1907 rfl rfl
theorem lk_L_168 : Cond.methodLink RL 168 yX12_envoys ∈ lwg := lwg_at 1908 (by decide +kernel) rfl
theorem im_X12_envoys : Cond.instanceMethod yX12_envoys ∈ lwg := lwg_at 1909 (by decide +kernel) rfl
theorem sl_X12_envoys : Cond.selects RX12 yX12_envoys yX12_envoys ∈ lwg := lwg_at 1910 (by decide +kernel) rfl
set_option maxRecDepth 40000 in
theorem cd_X12_envoys : Cond.code yX12_envoys cX12_envoys 6 (some .int) ∈ lwg := lwg_at 1911 rfl rfl
theorem lk_X12_403 : Cond.methodLink RX12 403 yX12_worthWhy ∈ lwg := lwg_at 1912 (by decide +kernel) rfl
theorem im_X12_worthWhy : Cond.instanceMethod yX12_worthWhy ∈ lwg := lwg_at 1914 (by decide +kernel) rfl
set_option maxRecDepth 40000 in
theorem cd_X12_worthWhy : Cond.code yX12_worthWhy cX12_worthWhy 2 (some .int) ∈ lwg := lwg_at 1915 rfl rfl
theorem lk_X12_406 : Cond.methodLink RX12 406 yX12_envoysOf ∈ lwg := lwg_at 1916 (by decide +kernel) rfl
theorem st_X12_envoysOf : Cond.static yX12_envoysOf ∈ lwg := lwg_at 1917 (by decide +kernel) rfl
set_option maxRecDepth 40000 in
theorem cd_X12_envoysOf : Cond.code yX12_envoysOf cX12_envoysOf 3 (some .int) ∈ lwg := lwg_at 1918 rfl rfl
theorem lk_L_172 : Cond.methodLink RL 172 yX12_rests ∈ lwg := lwg_at 1919 (by decide +kernel) rfl
theorem im_X12_rests : Cond.instanceMethod yX12_rests ∈ lwg := lwg_at 1920 (by decide +kernel) rfl
theorem sl_X12_rests : Cond.selects RX12 yX12_rests yX12_rests ∈ lwg := lwg_at 1921 (by decide +kernel) rfl
set_option maxRecDepth 40000 in
theorem cd_X12_rests : Cond.code yX12_rests cX12_rests 3 (some .int) ∈ lwg := lwg_at 1922 rfl rfl
theorem lk_X12_416 : Cond.methodLink RX12 416 yX12_seekRests ∈ lwg := lwg_at 1923 (by decide +kernel) rfl
theorem im_X12_seekRests : Cond.instanceMethod yX12_seekRests ∈ lwg := lwg_at 1925 (by decide +kernel) rfl
set_option maxRecDepth 40000 in
theorem cd_X12_seekRests : Cond.code yX12_seekRests cX12_seekRests 5 (some .int) ∈ lwg := lwg_at 1926 rfl rfl
theorem lk_X12_413 : Cond.methodLink RX12 413 yX12_isRest ∈ lwg := lwg_at 1927 (by decide +kernel) rfl
theorem st_X12_isRest : Cond.static yX12_isRest ∈ lwg := lwg_at 1928 (by decide +kernel) rfl
set_option maxRecDepth 40000 in
theorem cd_X12_isRest : Cond.code yX12_isRest cX12_isRest 5 (some .boolean) ∈ lwg := lwg_at 1929 rfl rfl
theorem lk_L_176 : Cond.methodLink RL 176 yX12_rest ∈ lwg := lwg_at 1930 (by decide +kernel) rfl
theorem im_X12_rest : Cond.instanceMethod yX12_rest ∈ lwg := lwg_at 1931 (by decide +kernel) rfl
theorem sl_X12_rest : Cond.selects RX12 yX12_rest yX12_rest ∈ lwg := lwg_at 1932 (by decide +kernel) rfl
set_option maxRecDepth 40000 in
theorem cd_X12_rest : Cond.code yX12_rest cX12_rest 3 (some .int) ∈ lwg := lwg_at 1933 rfl rfl
theorem lk_L_180 : Cond.methodLink RL 180 yX12_winters ∈ lwg := lwg_at 1934 (by decide +kernel) rfl
theorem im_X12_winters : Cond.instanceMethod yX12_winters ∈ lwg := lwg_at 1935 (by decide +kernel) rfl
theorem sl_X12_winters : Cond.selects RX12 yX12_winters yX12_winters ∈ lwg := lwg_at 1936 (by decide +kernel) rfl
set_option maxRecDepth 40000 in
theorem cd_X12_winters : Cond.code yX12_winters cX12_winters 4 (some .int) ∈ lwg := lwg_at 1937 rfl rfl
theorem lk_X12_427 : Cond.methodLink RX12 427 yX12_winterWhy ∈ lwg := lwg_at 1938 (by decide +kernel) rfl
theorem im_X12_winterWhy : Cond.instanceMethod yX12_winterWhy ∈ lwg := lwg_at 1940 (by decide +kernel) rfl
set_option maxRecDepth 40000 in
theorem cd_X12_winterWhy : Cond.code yX12_winterWhy cX12_winterWhy 10 (some .int) ∈ lwg := lwg_at 1941 rfl rfl
theorem kk_X12_419 : Cond.constant RX12 419 65536 ∈ lwg := lwg_at 1942 (by decide +kernel) rfl
theorem kk_X12_426 : Cond.constant RX12 426 65537 ∈ lwg := lwg_at 1943 (by decide +kernel) rfl
theorem lk_L_185 : Cond.methodLink RL 185 yX12_wintersOf ∈ lwg := lwg_at 1944 (by decide +kernel) rfl
theorem im_X12_wintersOf : Cond.instanceMethod yX12_wintersOf ∈ lwg := lwg_at 1945 (by decide +kernel) rfl
theorem sl_X12_wintersOf : Cond.selects RX12 yX12_wintersOf yX12_wintersOf ∈ lwg := lwg_at 1946 (by decide +kernel) rfl
set_option maxRecDepth 40000 in
theorem cd_X12_wintersOf : Cond.code yX12_wintersOf cX12_wintersOf 5 (some .int) ∈ lwg := lwg_at 1947 rfl rfl
theorem lk_L_189 : Cond.methodLink RL 189 yX12_above ∈ lwg := lwg_at 1948 (by decide +kernel) rfl
theorem im_X12_above : Cond.instanceMethod yX12_above ∈ lwg := lwg_at 1949 (by decide +kernel) rfl
theorem sl_X12_above : Cond.selects RX12 yX12_above yX12_above ∈ lwg := lwg_at 1950 (by decide +kernel) rfl
set_option maxRecDepth 40000 in
theorem cd_X12_above : Cond.code yX12_above cX12_above 5 (some .int) ∈ lwg := lwg_at 1951 rfl rfl
theorem lk_L_194 : Cond.methodLink RL 194 yX12_tend ∈ lwg := lwg_at 1952 (by decide +kernel) rfl
theorem im_X12_tend : Cond.instanceMethod yX12_tend ∈ lwg := lwg_at 1953 (by decide +kernel) rfl
theorem sl_X12_tend : Cond.selects RX12 yX12_tend yX12_tend ∈ lwg := lwg_at 1954 (by decide +kernel) rfl
set_option maxRecDepth 40000 in
theorem cd_X12_tend : Cond.code yX12_tend cX12_tend 3 (some .boolean) ∈ lwg := lwg_at 1955 rfl rfl
theorem lk_X12_431 : Cond.methodLink RX12 431 yX12_isNot ∈ lwg := lwg_at 1956 (by decide +kernel) rfl
theorem im_X12_isNot : Cond.instanceMethod yX12_isNot ∈ lwg := lwg_at 1958 (by decide +kernel) rfl
set_option maxRecDepth 40000 in
theorem cd_X12_isNot : Cond.code yX12_isNot cX12_isNot 2 (some .boolean) ∈ lwg := lwg_at 1959 rfl rfl
theorem lk_X12_434 : Cond.methodLink RX12 434 yX12_note ∈ lwg := lwg_at 1960 (by decide +kernel) rfl
theorem im_X12_note : Cond.instanceMethod yX12_note ∈ lwg := lwg_at 1962 (by decide +kernel) rfl
set_option maxRecDepth 40000 in
theorem cd_X12_note : Cond.code yX12_note cX12_note 2 none ∈ lwg := lwg_at 1963 rfl rfl
theorem lk_L_198 : Cond.methodLink RL 198 yX12_day ∈ lwg := lwg_at 1964 (by decide +kernel) rfl
theorem im_X12_day : Cond.instanceMethod yX12_day ∈ lwg := lwg_at 1965 (by decide +kernel) rfl
theorem sl_X12_day : Cond.selects RX12 yX12_day yX12_day ∈ lwg := lwg_at 1966 (by decide +kernel) rfl
set_option maxRecDepth 40000 in
theorem cd_X12_day : Cond.code yX12_day cX12_day 3 (some .int) ∈ lwg := lwg_at 1967 rfl rfl
theorem lk_L_202 : Cond.methodLink RL 202 yX12_say ∈ lwg := lwg_at 1968 (by decide +kernel) rfl
theorem im_X12_say : Cond.instanceMethod yX12_say ∈ lwg := lwg_at 1969 (by decide +kernel) rfl
theorem sl_X12_say : Cond.selects RX12 yX12_say yX12_say ∈ lwg := lwg_at 1970 (by decide +kernel) rfl
set_option maxRecDepth 40000 in
theorem cd_X12_say : Cond.code yX12_say cX12_say 3 (some .int) ∈ lwg := lwg_at 1971 rfl rfl
theorem lk_L_207 : Cond.methodLink RL 207 yX12_seed ∈ lwg := lwg_at 1972 (by decide +kernel) rfl
theorem im_X12_seed : Cond.instanceMethod yX12_seed ∈ lwg := lwg_at 1973 (by decide +kernel) rfl
theorem sl_X12_seed : Cond.selects RX12 yX12_seed yX12_seed ∈ lwg := lwg_at 1974 (by decide +kernel) rfl
set_option maxRecDepth 40000 in
theorem cd_X12_seed : Cond.code yX12_seed cX12_seed 2 (some .boolean) ∈ lwg := lwg_at 1975 rfl rfl
theorem lk_L_212 : Cond.methodLink RL 212 yX12_undo ∈ lwg := lwg_at 1976 (by decide +kernel) rfl
theorem im_X12_undo : Cond.instanceMethod yX12_undo ∈ lwg := lwg_at 1977 (by decide +kernel) rfl
theorem sl_X12_undo : Cond.selects RX12 yX12_undo yX12_undo ∈ lwg := lwg_at 1978 (by decide +kernel) rfl
set_option maxRecDepth 40000 in
theorem cd_X12_undo : Cond.code yX12_undo cX12_undo 1 (some .boolean) ∈ lwg := lwg_at 1979 rfl rfl
theorem lk_L_216 : Cond.methodLink RL 216 yX12_image ∈ lwg := lwg_at 1980 (by decide +kernel) rfl
theorem im_X12_image : Cond.instanceMethod yX12_image ∈ lwg := lwg_at 1981 (by decide +kernel) rfl
theorem sl_X12_image : Cond.selects RX12 yX12_image yX12_image ∈ lwg := lwg_at 1982 (by decide +kernel) rfl
set_option maxRecDepth 40000 in
theorem cd_X12_image : Cond.code yX12_image cX12_image 1 (some .int) ∈ lwg := lwg_at 1983 rfl rfl
theorem lk_L_220 : Cond.methodLink RL 220 yX12_back ∈ lwg := lwg_at 1984 (by decide +kernel) rfl
theorem im_X12_back : Cond.instanceMethod yX12_back ∈ lwg := lwg_at 1985 (by decide +kernel) rfl
theorem sl_X12_back : Cond.selects RX12 yX12_back yX12_back ∈ lwg := lwg_at 1986 (by decide +kernel) rfl
set_option maxRecDepth 40000 in
theorem cd_X12_back : Cond.code yX12_back cX12_back 2 (some .boolean) ∈ lwg := lwg_at 1987 rfl rfl
theorem lk_L_226 : Cond.methodLink RL 226 yX12_led ∈ lwg := lwg_at 1988 (by decide +kernel) rfl
theorem im_X12_led : Cond.instanceMethod yX12_led ∈ lwg := lwg_at 1989 (by decide +kernel) rfl
theorem sl_X12_led : Cond.selects RX12 yX12_led yX12_led ∈ lwg := lwg_at 1990 (by decide +kernel) rfl
set_option maxRecDepth 40000 in
theorem cd_X12_led : Cond.code yX12_led cX12_led 4 (some .int) ∈ lwg := lwg_at 1991 rfl rfl
theorem lk_L_233 : Cond.methodLink RL 233 yX12_size ∈ lwg := lwg_at 1992 (by decide +kernel) rfl
theorem im_X12_size : Cond.instanceMethod yX12_size ∈ lwg := lwg_at 1993 (by decide +kernel) rfl
theorem sl_X12_size : Cond.selects RX12 yX12_size yX12_size ∈ lwg := lwg_at 1994 (by decide +kernel) rfl
set_option maxRecDepth 40000 in
theorem cd_X12_size : Cond.code yX12_size cX12_size 2 (some .int) ∈ lwg := lwg_at 1995 rfl rfl
theorem lk_L_237 : Cond.methodLink RL 237 yX12_trouble ∈ lwg := lwg_at 1996 (by decide +kernel) rfl
theorem im_X12_trouble : Cond.instanceMethod yX12_trouble ∈ lwg := lwg_at 1997 (by decide +kernel) rfl
theorem sl_X12_trouble : Cond.selects RX12 yX12_trouble yX12_trouble ∈ lwg := lwg_at 1998 (by decide +kernel) rfl
set_option maxRecDepth 40000 in
theorem cd_X12_trouble : Cond.code yX12_trouble cX12_trouble 1 (some .int) ∈ lwg := lwg_at 1999 rfl rfl
theorem fk_J0_9 : Cond.fieldLink RJ0 9 "java/lang/String" "value" "[B" ∈ lwg := lwg_at 2017 (by decide +kernel) rfl
theorem fk_J0_15 : Cond.fieldLink RJ0 15 "java/lang/String" "code\x72" "B" ∈ lwg := lwg_at 2018 (by decide +kernel) rfl
