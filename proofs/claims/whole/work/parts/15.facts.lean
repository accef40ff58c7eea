set_option maxRecDepth 40000 in
theorem ok_Ca_leaveAll : OkV M_Ca_leaveAll 0 := ⟨⟨by decide +kernel, gd (i := 249) rfl (by decide +kernel), gd (i := 103) (by decide +kernel) (by decide +kernel), by decide +kernel, by decide +kernel, by decide +kernel⟩, gd (i := 247) (by decide +kernel) (by decide +kernel), gd (i := 248) (by decide +kernel) (by decide +kernel)⟩
set_option maxRecDepth 40000 in
theorem ok_Ca_copyFrom : OkV M_Ca_copyFrom 1 := ⟨⟨by decide +kernel, gd (i := 823) rfl (by decide +kernel), gd (i := 103) (by decide +kernel) (by decide +kernel), by decide +kernel, by decide +kernel, by decide +kernel⟩, gd (i := 821) (by decide +kernel) (by decide +kernel), gd (i := 822) (by decide +kernel) (by decide +kernel)⟩
set_option maxRecDepth 40000 in
theorem ok_Ca_passMany : OkV M_Ca_passMany 2 := ⟨⟨by decide +kernel, gd (i := 888) rfl (by decide +kernel), gd (i := 103) (by decide +kernel) (by decide +kernel), by decide +kernel, by decide +kernel, by decide +kernel⟩, gd (i := 886) (by decide +kernel) (by decide +kernel), gd (i := 887) (by decide +kernel) (by decide +kernel)⟩
set_option maxRecDepth 40000 in
theorem ok_Ca_passSome : OkV M_Ca_passSome 2 := ⟨⟨by decide +kernel, gd (i := 892) rfl (by decide +kernel), gd (i := 103) (by decide +kernel) (by decide +kernel), by decide +kernel, by decide +kernel, by decide +kernel⟩, gd (i := 890) (by decide +kernel) (by decide +kernel), gd (i := 891) (by decide +kernel) (by decide +kernel)⟩
set_option maxRecDepth 40000 in
theorem ok_Ca_lookAhead : OkV M_Ca_lookAhead 2 := ⟨⟨by decide +kernel, gd (i := 897) rfl (by decide +kernel), gd (i := 103) (by decide +kernel) (by decide +kernel), by decide +kernel, by decide +kernel, by decide +kernel⟩, gd (i := 896) (by decide +kernel) (by decide +kernel), gd (i := 30) (by decide +kernel) (by decide +kernel)⟩
set_option maxRecDepth 40000 in
theorem ok_Ca_quietAt : OkV M_Ca_quietAt 3 := ⟨⟨by decide +kernel, gd (i := 903) rfl (by decide +kernel), gd (i := 103) (by decide +kernel) (by decide +kernel), by decide +kernel, by decide +kernel, by decide +kernel⟩, gd (i := 902) (by decide +kernel) (by decide +kernel), gd (i := 31) (by decide +kernel) (by decide +kernel)⟩
set_option maxRecDepth 40000 in
theorem ok_Ca_relieveAll : OkV M_Ca_relieveAll 1 := ⟨⟨by decide +kernel, gd (i := 923) rfl (by decide +kernel), gd (i := 103) (by decide +kernel) (by decide +kernel), by decide +kernel, by decide +kernel, by decide +kernel⟩, gd (i := 922) (by decide +kernel) (by decide +kernel), gd (i := 34) (by decide +kernel) (by decide +kernel)⟩
set_option maxRecDepth 40000 in
theorem ok_Ca_fillAll : OkV M_Ca_fillAll 1 := ⟨⟨by decide +kernel, gd (i := 937) rfl (by decide +kernel), gd (i := 103) (by decide +kernel) (by decide +kernel), by decide +kernel, by decide +kernel, by decide +kernel⟩, gd (i := 936) (by decide +kernel) (by decide +kernel), gd (i := 36) (by decide +kernel) (by decide +kernel)⟩
set_option maxRecDepth 40000 in
theorem ok_Ca_runDown : OkV M_Ca_runDown 2 := ⟨⟨by decide +kernel, gd (i := 915) rfl (by decide +kernel), gd (i := 103) (by decide +kernel) (by decide +kernel), by decide +kernel, by decide +kernel, by decide +kernel⟩, gd (i := 913) (by decide +kernel) (by decide +kernel), gd (i := 914) (by decide +kernel) (by decide +kernel)⟩
set_option maxRecDepth 40000 in
theorem ok_Ca_countMinutes : OkV M_Ca_countMinutes 2 := ⟨⟨by decide +kernel, gd (i := 919) rfl (by decide +kernel), gd (i := 103) (by decide +kernel) (by decide +kernel), by decide +kernel, by decide +kernel, by decide +kernel⟩, gd (i := 918) (by decide +kernel) (by decide +kernel), gd (i := 33) (by decide +kernel) (by decide +kernel)⟩
set_option maxRecDepth 40000 in
theorem ok_Ca_comer : OkV M_Ca_comer 2 := ⟨⟨by decide +kernel, gd (i := 907) rfl (by decide +kernel), gd (i := 103) (by decide +kernel) (by decide +kernel), by decide +kernel, by decide +kernel, by decide +kernel⟩, gd (i := 906) (by decide +kernel) (by decide +kernel), gd (i := 32) (by decide +kernel) (by decide +kernel)⟩
set_option maxRecDepth 40000 in
theorem ok_Ca_relieve : OkV M_Ca_relieve 2 := ⟨⟨by decide +kernel, gd (i := 927) rfl (by decide +kernel), gd (i := 103) (by decide +kernel) (by decide +kernel), by decide +kernel, by decide +kernel, by decide +kernel⟩, gd (i := 926) (by decide +kernel) (by decide +kernel), gd (i := 35) (by decide +kernel) (by decide +kernel)⟩
set_option maxRecDepth 40000 in
theorem ok_Ca_stand : OkV M_Ca_stand 2 := ⟨⟨by decide +kernel, gd (i := 731) rfl (by decide +kernel), gd (i := 103) (by decide +kernel) (by decide +kernel), by decide +kernel, by decide +kernel, by decide +kernel⟩, gd (i := 729) (by decide +kernel) (by decide +kernel), gd (i := 730) (by decide +kernel) (by decide +kernel)⟩
set_option maxRecDepth 40000 in
theorem ok_Ca_lieBehindAll : OkV M_Ca_lieBehindAll 1 := ⟨⟨by decide +kernel, gd (i := 719) rfl (by decide +kernel), gd (i := 103) (by decide +kernel) (by decide +kernel), by decide +kernel, by decide +kernel, by decide +kernel⟩, gd (i := 717) (by decide +kernel) (by decide +kernel), gd (i := 718) (by decide +kernel) (by decide +kernel)⟩
set_option maxRecDepth 40000 in
theorem ok_Ca_leaveBed : OkV M_Ca_leaveBed 1 := ⟨⟨by decide +kernel, gd (i := 932) rfl (by decide +kernel), gd (i := 103) (by decide +kernel) (by decide +kernel), by decide +kernel, by decide +kernel, by decide +kernel⟩, gd (i := 930) (by decide +kernel) (by decide +kernel), gd (i := 931) (by decide +kernel) (by decide +kernel)⟩
set_option maxRecDepth 40000 in
theorem ok_Ca_placeInBed : OkV M_Ca_placeInBed 1 := ⟨⟨by decide +kernel, gd (i := 868) rfl (by decide +kernel), gd (i := 103) (by decide +kernel) (by decide +kernel), by decide +kernel, by decide +kernel, by decide +kernel⟩, gd (i := 866) (by decide +kernel) (by decide +kernel), gd (i := 867) (by decide +kernel) (by decide +kernel)⟩
set_option maxRecDepth 40000 in
theorem ok_Ca_exchange : OkV M_Ca_exchange 1 := ⟨⟨by decide +kernel, gd (i := 948) rfl (by decide +kernel), gd (i := 103) (by decide +kernel) (by decide +kernel), by decide +kernel, by decide +kernel, by decide +kernel⟩, gd (i := 946) (by decide +kernel) (by decide +kernel), gd (i := 947) (by decide +kernel) (by decide +kernel)⟩
set_option maxRecDepth 40000 in
theorem ok_Ca_emptyPosts : OkV M_Ca_emptyPosts 1 := ⟨⟨by decide +kernel, gd (i := 1183) rfl (by decide +kernel), gd (i := 103) (by decide +kernel) (by decide +kernel), by decide +kernel, by decide +kernel, by decide +kernel⟩, gd (i := 1181) (by decide +kernel) (by decide +kernel), gd (i := 1182) (by decide +kernel) (by decide +kernel)⟩
set_option maxRecDepth 40000 in
theorem ok_Ca_grains : OkV M_Ca_grains 1 := ⟨⟨by decide +kernel, gd (i := 1187) rfl (by decide +kernel), gd (i := 103) (by decide +kernel) (by decide +kernel), by decide +kernel, by decide +kernel, by decide +kernel⟩, gd (i := 1185) (by decide +kernel) (by decide +kernel), gd (i := 1186) (by decide +kernel) (by decide +kernel)⟩
set_option maxRecDepth 40000 in
theorem ok_Ca_guardsWhoSlept : OkV M_Ca_guardsWhoSlept 1 := ⟨⟨by decide +kernel, gd (i := 1092) rfl (by decide +kernel), gd (i := 103) (by decide +kernel) (by decide +kernel), by decide +kernel, by decide +kernel, by decide +kernel⟩, gd (i := 1090) (by decide +kernel) (by decide +kernel), gd (i := 1091) (by decide +kernel) (by decide +kernel)⟩
set_option maxRecDepth 40000 in
theorem ok_Ca_sleepWanted : OkV M_Ca_sleepWanted 1 := ⟨⟨by decide +kernel, gd (i := 1004) rfl (by decide +kernel), gd (i := 103) (by decide +kernel) (by decide +kernel), by decide +kernel, by decide +kernel, by decide +kernel⟩, gd (i := 1002) (by decide +kernel) (by decide +kernel), gd (i := 1003) (by decide +kernel) (by decide +kernel)⟩
set_option maxRecDepth 40000 in
theorem ok_Ca_longestOnWatch : OkV M_Ca_longestOnWatch 1 := ⟨⟨by decide +kernel, gd (i := 1100) rfl (by decide +kernel), gd (i := 103) (by decide +kernel) (by decide +kernel), by decide +kernel, by decide +kernel, by decide +kernel⟩, gd (i := 1098) (by decide +kernel) (by decide +kernel), gd (i := 1099) (by decide +kernel) (by decide +kernel)⟩
set_option maxRecDepth 40000 in
theorem ok_Dr_forgetFound : OkV M_Dr_forgetFound 0 := ⟨⟨by decide +kernel, gd (i := 836) rfl (by decide +kernel), gd (i := 107) (by decide +kernel) (by decide +kernel), by decide +kernel, by decide +kernel, by decide +kernel⟩, gd (i := 834) (by decide +kernel) (by decide +kernel), gd (i := 835) (by decide +kernel) (by decide +kernel)⟩
set_option maxRecDepth 40000 in
theorem ok_Dr_asItIs : OkV M_Dr_asItIs 2 := ⟨⟨by decide +kernel, gd (i := 995) rfl (by decide +kernel), gd (i := 107) (by decide +kernel) (by decide +kernel), by decide +kernel, by decide +kernel, by decide +kernel⟩, gd (i := 993) (by decide +kernel) (by decide +kernel), gd (i := 994) (by decide +kernel) (by decide +kernel)⟩
set_option maxRecDepth 40000 in
theorem ok_Dr_findFirst : OkV M_Dr_findFirst 3 := ⟨⟨by decide +kernel, gd (i := 1014) rfl (by decide +kernel), gd (i := 107) (by decide +kernel) (by decide +kernel), by decide +kernel, by decide +kernel, by decide +kernel⟩, gd (i := 1012) (by decide +kernel) (by decide +kernel), gd (i := 1013) (by decide +kernel) (by decide +kernel)⟩
set_option maxRecDepth 40000 in
theorem ok_Dr_tryOne : OkV M_Dr_tryOne 3 := ⟨⟨by decide +kernel, gd (i := 1018) rfl (by decide +kernel), gd (i := 107) (by decide +kernel) (by decide +kernel), by decide +kernel, by decide +kernel, by decide +kernel⟩, gd (i := 1017) (by decide +kernel) (by decide +kernel), gd (i := 38) (by decide +kernel) (by decide +kernel)⟩
set_option maxRecDepth 40000 in
theorem ok_Dr_findTwo : OkV M_Dr_findTwo 2 := ⟨⟨by decide +kernel, gd (i := 1029) rfl (by decide +kernel), gd (i := 107) (by decide +kernel) (by decide +kernel), by decide +kernel, by decide +kernel, by decide +kernel⟩, gd (i := 1027) (by decide +kernel) (by decide +kernel), gd (i := 1028) (by decide +kernel) (by decide +kernel)⟩
set_option maxRecDepth 40000 in
theorem ok_Dr_tryTwo : OkV M_Dr_tryTwo 4 := ⟨⟨by decide +kernel, gd (i := 1033) rfl (by decide +kernel), gd (i := 107) (by decide +kernel) (by decide +kernel), by decide +kernel, by decide +kernel, by decide +kernel⟩, gd (i := 1032) (by decide +kernel) (by decide +kernel), gd (i := 39) (by decide +kernel) (by decide +kernel)⟩
set_option maxRecDepth 40000 in
theorem ok_Dr_mostThatIsSooner : OkS M_Dr_mostThatIsSooner 1 := ⟨⟨by decide +kernel, gd (i := 1021) rfl (by decide +kernel), gd (i := 107) (by decide +kernel) (by decide +kernel), by decide +kernel, by decide +kernel, by decide +kernel⟩, gd (i := 1020) (by decide +kernel) (by decide +kernel)⟩
set_option maxRecDepth 40000 in
theorem ok_Dr_soonest : OkV M_Dr_soonest 2 := ⟨⟨by decide +kernel, gd (i := 1000) rfl (by decide +kernel), gd (i := 107) (by decide +kernel) (by decide +kernel), by decide +kernel, by decide +kernel, by decide +kernel⟩, gd (i := 999) (by decide +kernel) (by decide +kernel), gd (i := 37) (by decide +kernel) (by decide +kernel)⟩
set_option maxRecDepth 40000 in
theorem ok_Ga_findRests : OkV M_Ga_findRests 4 := ⟨⟨by decide +kernel, gd (i := 1109) rfl (by decide +kernel), gd (i := 108) (by decide +kernel) (by decide +kernel), by decide +kernel, by decide +kernel, by decide +kernel⟩, gd (i := 1107) (by decide +kernel) (by decide +kernel), gd (i := 1108) (by decide +kernel) (by decide +kernel)⟩
set_option maxRecDepth 40000 in
theorem ok_Ga_players : OkS M_Ga_players 2 := ⟨⟨by decide +kernel, gd (i := 1112) rfl (by decide +kernel), gd (i := 108) (by decide +kernel) (by decide +kernel), by decide +kernel, by decide +kernel, by decide +kernel⟩, gd (i := 1111) (by decide +kernel) (by decide +kernel)⟩
set_option maxRecDepth 40000 in
theorem ok_Ga_putPinches : OkV M_Ga_putPinches 3 := ⟨⟨by decide +kernel, gd (i := 1117) rfl (by decide +kernel), gd (i := 108) (by decide +kernel) (by decide +kernel), by decide +kernel, by decide +kernel, by decide +kernel⟩, gd (i := 1116) (by decide +kernel) (by decide +kernel), gd (i := 41) (by decide +kernel) (by decide +kernel)⟩
set_option maxRecDepth 40000 in
theorem ok_Ga_noteSleeps : OkV M_Ga_noteSleeps 3 := ⟨⟨by decide +kernel, gd (i := 1124) rfl (by decide +kernel), gd (i := 108) (by decide +kernel) (by decide +kernel), by decide +kernel, by decide +kernel, by decide +kernel⟩, gd (i := 1123) (by decide +kernel) (by decide +kernel), gd (i := 42) (by decide +kernel) (by decide +kernel)⟩
set_option maxRecDepth 40000 in
theorem ok_Ga_isAtRest : OkV M_Ga_isAtRest 3 := ⟨⟨by decide +kernel, gd (i := 1128) rfl (by decide +kernel), gd (i := 108) (by decide +kernel) (by decide +kernel), by decide +kernel, by decide +kernel, by decide +kernel⟩, gd (i := 1127) (by decide +kernel) (by decide +kernel), gd (i := 43) (by decide +kernel) (by decide +kernel)⟩
set_option maxRecDepth 40000 in
theorem ok_Hi_keep : OkV M_Hi_keep 1 := ⟨⟨by decide +kernel, gd (i := 880) rfl (by decide +kernel), gd (i := 105) (by decide +kernel) (by decide +kernel), by decide +kernel, by decide +kernel, by decide +kernel⟩, gd (i := 878) (by decide +kernel) (by decide +kernel), gd (i := 879) (by decide +kernel) (by decide +kernel)⟩
set_option maxRecDepth 40000 in
theorem ok_Hi_giveBack : OkV M_Hi_giveBack 1 := ⟨⟨by decide +kernel, gd (i := 976) rfl (by decide +kernel), gd (i := 105) (by decide +kernel) (by decide +kernel), by decide +kernel, by decide +kernel, by decide +kernel⟩, gd (i := 974) (by decide +kernel) (by decide +kernel), gd (i := 975) (by decide +kernel) (by decide +kernel)⟩
set_option maxRecDepth 40000 in
theorem ok_La_clear : OkV M_La_clear 0 := ⟨⟨by decide +kernel, gd (i := 674) rfl (by decide +kernel), gd (i := 102) (by decide +kernel) (by decide +kernel), by decide +kernel, by decide +kernel, by decide +kernel⟩, gd (i := 672) (by decide +kernel) (by decide +kernel), gd (i := 673) (by decide +kernel) (by decide +kernel)⟩
set_option maxRecDepth 40000 in
theorem ok_La_useVariable : OkV M_La_useVariable 1 := ⟨⟨by decide +kernel, gd (i := 764) rfl (by decide +kernel), gd (i := 102) (by decide +kernel) (by decide +kernel), by decide +kernel, by decide +kernel, by decide +kernel⟩, gd (i := 762) (by decide +kernel) (by decide +kernel), gd (i := 763) (by decide +kernel) (by decide +kernel)⟩
set_option maxRecDepth 40000 in
theorem ok_La_useInt : OkV M_La_useInt 1 := ⟨⟨by decide +kernel, gd (i := 756) rfl (by decide +kernel), gd (i := 102) (by decide +kernel) (by decide +kernel), by decide +kernel, by decide +kernel, by decide +kernel⟩, gd (i := 754) (by decide +kernel) (by decide +kernel), gd (i := 755) (by decide +kernel) (by decide +kernel)⟩
set_option maxRecDepth 40000 in
theorem ok_La_addStep : OkV M_La_addStep 3 := ⟨⟨by decide +kernel, gd (i := 678) rfl (by decide +kernel), gd (i := 102) (by decide +kernel) (by decide +kernel), by decide +kernel, by decide +kernel, by decide +kernel⟩, gd (i := 676) (by decide +kernel) (by decide +kernel), gd (i := 677) (by decide +kernel) (by decide +kernel)⟩
set_option maxRecDepth 40000 in
theorem ok_La_aimHere : OkV M_La_aimHere 1 := ⟨⟨by decide +kernel, gd (i := 787) rfl (by decide +kernel), gd (i := 102) (by decide +kernel) (by decide +kernel), by decide +kernel, by decide +kernel, by decide +kernel⟩, gd (i := 785) (by decide +kernel) (by decide +kernel), gd (i := 786) (by decide +kernel) (by decide +kernel)⟩
set_option maxRecDepth 40000 in
theorem ok_La_copyFrom : OkV M_La_copyFrom 1 := ⟨⟨by decide +kernel, gd (i := 818) rfl (by decide +kernel), gd (i := 102) (by decide +kernel) (by decide +kernel), by decide +kernel, by decide +kernel, by decide +kernel⟩, gd (i := 816) (by decide +kernel) (by decide +kernel), gd (i := 817) (by decide +kernel) (by decide +kernel)⟩
set_option maxRecDepth 40000 in
theorem ok_La_value : OkV M_La_value 6 := ⟨⟨by decide +kernel, gd (i := 803) rfl (by decide +kernel), gd (i := 102) (by decide +kernel) (by decide +kernel), by decide +kernel, by decide +kernel, by decide +kernel⟩, gd (i := 801) (by decide +kernel) (by decide +kernel), gd (i := 802) (by decide +kernel) (by decide +kernel)⟩
set_option maxRecDepth 40000 in
theorem ok_Ou_goThrough : OkV M_Ou_goThrough 3 := ⟨⟨by decide +kernel, gd (i := 1065) rfl (by decide +kernel), gd (i := 106) (by decide +kernel) (by decide +kernel), by decide +kernel, by decide +kernel, by decide +kernel⟩, gd (i := 1063) (by decide +kernel) (by decide +kernel), gd (i := 1064) (by decide +kernel) (by decide +kernel)⟩
set_option maxRecDepth 40000 in
theorem ok_Ou_minutesToOut : OkV M_Ou_minutesToOut 3 := ⟨⟨by decide +kernel, gd (i := 984) rfl (by decide +kernel), gd (i := 106) (by decide +kernel) (by decide +kernel), by decide +kernel, by decide +kernel, by decide +kernel⟩, gd (i := 982) (by decide +kernel) (by decide +kernel), gd (i := 983) (by decide +kernel) (by decide +kernel)⟩
set_option maxRecDepth 40000 in
theorem ok_Ou_minutesToBed : OkV M_Ou_minutesToBed 3 := ⟨⟨by decide +kernel, gd (i := 1051) rfl (by decide +kernel), gd (i := 106) (by decide +kernel) (by decide +kernel), by decide +kernel, by decide +kernel, by decide +kernel⟩, gd (i := 1049) (by decide +kernel) (by decide +kernel), gd (i := 1050) (by decide +kernel) (by decide +kernel)⟩
set_option maxRecDepth 40000 in
theorem ok_Ou_fewestGrains : OkV M_Ou_fewestGrains 4 := ⟨⟨by decide +kernel, gd (i := 1041) rfl (by decide +kernel), gd (i := 106) (by decide +kernel) (by decide +kernel), by decide +kernel, by decide +kernel, by decide +kernel⟩, gd (i := 1039) (by decide +kernel) (by decide +kernel), gd (i := 1040) (by decide +kernel) (by decide +kernel)⟩
set_option maxRecDepth 40000 in
theorem ok_Ou_isNotOut : OkV M_Ou_isNotOut 5 := ⟨⟨by decide +kernel, gd (i := 1045) rfl (by decide +kernel), gd (i := 106) (by decide +kernel) (by decide +kernel), by decide +kernel, by decide +kernel, by decide +kernel⟩, gd (i := 1044) (by decide +kernel) (by decide +kernel), gd (i := 40) (by decide +kernel) (by decide +kernel)⟩
set_option maxRecDepth 40000 in
theorem ok_Ou_sleepless : OkV M_Ou_sleepless 2 := ⟨⟨by decide +kernel, gd (i := 1070) rfl (by decide +kernel), gd (i := 106) (by decide +kernel) (by decide +kernel), by decide +kernel, by decide +kernel, by decide +kernel⟩, gd (i := 1068) (by decide +kernel) (by decide +kernel), gd (i := 1069) (by decide +kernel) (by decide +kernel)⟩
set_option maxRecDepth 40000 in
theorem ok_Ou_spreadOfSleep : OkV M_Ou_spreadOfSleep 1 := ⟨⟨by decide +kernel, gd (i := 1078) rfl (by decide +kernel), gd (i := 106) (by decide +kernel) (by decide +kernel), by decide +kernel, by decide +kernel, by decide +kernel⟩, gd (i := 1076) (by decide +kernel) (by decide +kernel), gd (i := 1077) (by decide +kernel) (by decide +kernel)⟩
set_option maxRecDepth 40000 in
theorem ok_Ou_findWorst : OkV M_Ou_findWorst 3 := ⟨⟨by decide +kernel, gd (i := 1087) rfl (by decide +kernel), gd (i := 106) (by decide +kernel) (by decide +kernel), by decide +kernel, by decide +kernel, by decide +kernel⟩, gd (i := 1085) (by decide +kernel) (by decide +kernel), gd (i := 1086) (by decide +kernel) (by decide +kernel)⟩
set_option maxRecDepth 40000 in
theorem ok_Pl_clear : OkV M_Pl_clear 0 := ⟨⟨by decide +kernel, gd (i := 670) rfl (by decide +kernel), gd (i := 101) (by decide +kernel) (by decide +kernel), by decide +kernel, by decide +kernel, by decide +kernel⟩, gd (i := 668) (by decide +kernel) (by decide +kernel), gd (i := 669) (by decide +kernel) (by decide +kernel)⟩
set_option maxRecDepth 40000 in
theorem ok_Pl_settle : OkV M_Pl_settle 0 := ⟨⟨by decide +kernel, gd (i := 799) rfl (by decide +kernel), gd (i := 101) (by decide +kernel) (by decide +kernel), by decide +kernel, by decide +kernel, by decide +kernel⟩, gd (i := 797) (by decide +kernel) (by decide +kernel), gd (i := 798) (by decide +kernel) (by decide +kernel)⟩
set_option maxRecDepth 40000 in
theorem ok_Pl_copyFrom : OkV M_Pl_copyFrom 1 := ⟨⟨by decide +kernel, gd (i := 811) rfl (by decide +kernel), gd (i := 101) (by decide +kernel) (by decide +kernel), by decide +kernel, by decide +kernel, by decide +kernel⟩, gd (i := 809) (by decide +kernel) (by decide +kernel), gd (i := 810) (by decide +kernel) (by decide +kernel)⟩
set_option maxRecDepth 40000 in
theorem ok_Pl_hourOf : OkV M_Pl_hourOf 1 := ⟨⟨by decide +kernel, gd (i := 852) rfl (by decide +kernel), gd (i := 101) (by decide +kernel) (by decide +kernel), by decide +kernel, by decide +kernel, by decide +kernel⟩, gd (i := 850) (by decide +kernel) (by decide +kernel), gd (i := 851) (by decide +kernel) (by decide +kernel)⟩
set_option maxRecDepth 40000 in
theorem ok_Pl_flow : OkV M_Pl_flow 3 := ⟨⟨by decide +kernel, gd (i := 856) rfl (by decide +kernel), gd (i := 101) (by decide +kernel) (by decide +kernel), by decide +kernel, by decide +kernel, by decide +kernel⟩, gd (i := 854) (by decide +kernel) (by decide +kernel), gd (i := 855) (by decide +kernel) (by decide +kernel)⟩
set_option maxRecDepth 40000 in
theorem ok_Re_readText : OkV M_Re_readText 1 := ⟨⟨by decide +kernel, gd (i := 630) rfl (by decide +kernel), gd (i := 100) (by decide +kernel) (by decide +kernel), by decide +kernel, by decide +kernel, by decide +kernel⟩, gd (i := 628) (by decide +kernel) (by decide +kernel), gd (i := 629) (by decide +kernel) (by decide +kernel)⟩
set_option maxRecDepth 40000 in
theorem ok_Re_takeTell : OkV M_Re_takeTell 0 := ⟨⟨by decide +kernel, gd (i := 687) rfl (by decide +kernel), gd (i := 100) (by decide +kernel) (by decide +kernel), by decide +kernel, by decide +kernel, by decide +kernel⟩, gd (i := 686) (by decide +kernel) (by decide +kernel), gd (i := 4) (by decide +kernel) (by decide +kernel)⟩
set_option maxRecDepth 40000 in
theorem ok_Re_takePost : OkV M_Re_takePost 0 := ⟨⟨by decide +kernel, gd (i := 691) rfl (by decide +kernel), gd (i := 100) (by decide +kernel) (by decide +kernel), by decide +kernel, by decide +kernel, by decide +kernel⟩, gd (i := 690) (by decide +kernel) (by decide +kernel), gd (i := 5) (by decide +kernel) (by decide +kernel)⟩
set_option maxRecDepth 40000 in
theorem ok_Re_takeGuard : OkV M_Re_takeGuard 0 := ⟨⟨by decide +kernel, gd (i := 715) rfl (by decide +kernel), gd (i := 100) (by decide +kernel) (by decide +kernel), by decide +kernel, by decide +kernel, by decide +kernel⟩, gd (i := 714) (by decide +kernel) (by decide +kernel), gd (i := 11) (by decide +kernel) (by decide +kernel)⟩
set_option maxRecDepth 40000 in
theorem ok_Re_takePostOf : OkV M_Re_takePostOf 1 := ⟨⟨by decide +kernel, gd (i := 723) rfl (by decide +kernel), gd (i := 100) (by decide +kernel) (by decide +kernel), by decide +kernel, by decide +kernel, by decide +kernel⟩, gd (i := 722) (by decide +kernel) (by decide +kernel), gd (i := 12) (by decide +kernel) (by decide +kernel)⟩
set_option maxRecDepth 40000 in
theorem ok_Re_takeDamp : OkV M_Re_takeDamp 0 := ⟨⟨by decide +kernel, gd (i := 791) rfl (by decide +kernel), gd (i := 100) (by decide +kernel) (by decide +kernel), by decide +kernel, by decide +kernel, by decide +kernel⟩, gd (i := 790) (by decide +kernel) (by decide +kernel), gd (i := 23) (by decide +kernel) (by decide +kernel)⟩
set_option maxRecDepth 40000 in
theorem ok_Re_takeSleep : OkV M_Re_takeSleep 0 := ⟨⟨by decide +kernel, gd (i := 795) rfl (by decide +kernel), gd (i := 100) (by decide +kernel) (by decide +kernel), by decide +kernel, by decide +kernel, by decide +kernel⟩, gd (i := 794) (by decide +kernel) (by decide +kernel), gd (i := 24) (by decide +kernel) (by decide +kernel)⟩
set_option maxRecDepth 40000 in
theorem ok_Re_takeFlow : OkV M_Re_takeFlow 0 := ⟨⟨by decide +kernel, gd (i := 735) rfl (by decide +kernel), gd (i := 100) (by decide +kernel) (by decide +kernel), by decide +kernel, by decide +kernel, by decide +kernel⟩, gd (i := 734) (by decide +kernel) (by decide +kernel), gd (i := 14) (by decide +kernel) (by decide +kernel)⟩
set_option maxRecDepth 40000 in
theorem ok_Re_takeIf : OkV M_Re_takeIf 0 := ⟨⟨by decide +kernel, gd (i := 740) rfl (by decide +kernel), gd (i := 100) (by decide +kernel) (by decide +kernel), by decide +kernel, by decide +kernel, by decide +kernel⟩, gd (i := 739) (by decide +kernel) (by decide +kernel), gd (i := 15) (by decide +kernel) (by decide +kernel)⟩
set_option maxRecDepth 40000 in
theorem ok_Re_addEnd : OkV M_Re_addEnd 0 := ⟨⟨by decide +kernel, gd (i := 783) rfl (by decide +kernel), gd (i := 100) (by decide +kernel) (by decide +kernel), by decide +kernel, by decide +kernel, by decide +kernel⟩, gd (i := 782) (by decide +kernel) (by decide +kernel), gd (i := 22) (by decide +kernel) (by decide +kernel)⟩
set_option maxRecDepth 40000 in
theorem ok_Re_takeSum : OkV M_Re_takeSum 0 := ⟨⟨by decide +kernel, gd (i := 744) rfl (by decide +kernel), gd (i := 100) (by decide +kernel) (by decide +kernel), by decide +kernel, by decide +kernel, by decide +kernel⟩, gd (i := 743) (by decide +kernel) (by decide +kernel), gd (i := 16) (by decide +kernel) (by decide +kernel)⟩
set_option maxRecDepth 40000 in
theorem ok_Re_addUnit : OkV M_Re_addUnit 1 := ⟨⟨by decide +kernel, gd (i := 752) rfl (by decide +kernel), gd (i := 100) (by decide +kernel) (by decide +kernel), by decide +kernel, by decide +kernel, by decide +kernel⟩, gd (i := 751) (by decide +kernel) (by decide +kernel), gd (i := 18) (by decide +kernel) (by decide +kernel)⟩
set_option maxRecDepth 40000 in
theorem ok_Re_pushUnit : OkV M_Re_pushUnit 1 := ⟨⟨by decide +kernel, gd (i := 760) rfl (by decide +kernel), gd (i := 100) (by decide +kernel) (by decide +kernel), by decide +kernel, by decide +kernel, by decide +kernel⟩, gd (i := 759) (by decide +kernel) (by decide +kernel), gd (i := 19) (by decide +kernel) (by decide +kernel)⟩
set_option maxRecDepth 40000 in
theorem ok_Re_popUnit : OkV M_Re_popUnit 0 := ⟨⟨by decide +kernel, gd (i := 775) rfl (by decide +kernel), gd (i := 100) (by decide +kernel) (by decide +kernel), by decide +kernel, by decide +kernel, by decide +kernel⟩, gd (i := 774) (by decide +kernel) (by decide +kernel), gd (i := 21) (by decide +kernel) (by decide +kernel)⟩
set_option maxRecDepth 40000 in
theorem ok_Re_letWait : OkV M_Re_letWait 1 := ⟨⟨by decide +kernel, gd (i := 748) rfl (by decide +kernel), gd (i := 100) (by decide +kernel) (by decide +kernel), by decide +kernel, by decide +kernel, by decide +kernel⟩, gd (i := 747) (by decide +kernel) (by decide +kernel), gd (i := 17) (by decide +kernel) (by decide +kernel)⟩
set_option maxRecDepth 40000 in
theorem ok_Re_release : OkV M_Re_release 1 := ⟨⟨by decide +kernel, gd (i := 771) rfl (by decide +kernel), gd (i := 100) (by decide +kernel) (by decide +kernel), by decide +kernel, by decide +kernel, by decide +kernel⟩, gd (i := 770) (by decide +kernel) (by decide +kernel), gd (i := 20) (by decide +kernel) (by decide +kernel)⟩
set_option maxRecDepth 40000 in
theorem ok_Re_rank : OkS M_Re_rank 1 := ⟨⟨by decide +kernel, gd (i := 767) rfl (by decide +kernel), gd (i := 100) (by decide +kernel) (by decide +kernel), by decide +kernel, by decide +kernel, by decide +kernel⟩, gd (i := 766) (by decide +kernel) (by decide +kernel)⟩
set_option maxRecDepth 40000 in
theorem ok_Re_opOf : OkS M_Re_opOf 1 := ⟨⟨by decide +kernel, gd (i := 778) rfl (by decide +kernel), gd (i := 100) (by decide +kernel) (by decide +kernel), by decide +kernel, by decide +kernel, by decide +kernel⟩, gd (i := 777) (by decide +kernel) (by decide +kernel)⟩
set_option maxRecDepth 40000 in
theorem ok_Re_takeNewName : OkV M_Re_takeNewName 0 := ⟨⟨by decide +kernel, gd (i := 703) rfl (by decide +kernel), gd (i := 100) (by decide +kernel) (by decide +kernel), by decide +kernel, by decide +kernel, by decide +kernel⟩, gd (i := 702) (by decide +kernel) (by decide +kernel), gd (i := 8) (by decide +kernel) (by decide +kernel)⟩
set_option maxRecDepth 40000 in
theorem ok_Re_takeInt : OkV M_Re_takeInt 1 := ⟨⟨by decide +kernel, gd (i := 711) rfl (by decide +kernel), gd (i := 100) (by decide +kernel) (by decide +kernel), by decide +kernel, by decide +kernel, by decide +kernel⟩, gd (i := 710) (by decide +kernel) (by decide +kernel), gd (i := 10) (by decide +kernel) (by decide +kernel)⟩
set_option maxRecDepth 40000 in
theorem ok_Re_postNamed : OkV M_Re_postNamed 1 := ⟨⟨by decide +kernel, gd (i := 727) rfl (by decide +kernel), gd (i := 100) (by decide +kernel) (by decide +kernel), by decide +kernel, by decide +kernel, by decide +kernel⟩, gd (i := 726) (by decide +kernel) (by decide +kernel), gd (i := 13) (by decide +kernel) (by decide +kernel)⟩
set_option maxRecDepth 40000 in
theorem ok_Re_kind : OkV M_Re_kind 0 := ⟨⟨by decide +kernel, gd (i := 683) rfl (by decide +kernel), gd (i := 100) (by decide +kernel) (by decide +kernel), by decide +kernel, by decide +kernel, by decide +kernel⟩, gd (i := 682) (by decide +kernel) (by decide +kernel), gd (i := 3) (by decide +kernel) (by decide +kernel)⟩
set_option maxRecDepth 40000 in
theorem ok_Re_take : OkV M_Re_take 1 := ⟨⟨by decide +kernel, gd (i := 699) rfl (by decide +kernel), gd (i := 100) (by decide +kernel) (by decide +kernel), by decide +kernel, by decide +kernel, by decide +kernel⟩, gd (i := 698) (by decide +kernel) (by decide +kernel), gd (i := 7) (by decide +kernel) (by decide +kernel)⟩
set_option maxRecDepth 40000 in
theorem ok_Re_refuse : OkV M_Re_refuse 1 := ⟨⟨by decide +kernel, gd (i := 695) rfl (by decide +kernel), gd (i := 100) (by decide +kernel) (by decide +kernel), by decide +kernel, by decide +kernel, by decide +kernel⟩, gd (i := 694) (by decide +kernel) (by decide +kernel), gd (i := 6) (by decide +kernel) (by decide +kernel)⟩
set_option maxRecDepth 40000 in
theorem ok_Re_note : OkV M_Re_note 2 := ⟨⟨by decide +kernel, gd (i := 707) rfl (by decide +kernel), gd (i := 100) (by decide +kernel) (by decide +kernel), by decide +kernel, by decide +kernel, by decide +kernel⟩, gd (i := 706) (by decide +kernel) (by decide +kernel), gd (i := 9) (by decide +kernel) (by decide +kernel)⟩
set_option maxRecDepth 40000 in
theorem ok_Ru_add : OkV M_Ru_add 2 := ⟨⟨by decide +kernel, gd (i := 1140) rfl (by decide +kernel), gd (i := 109) (by decide +kernel) (by decide +kernel), by decide +kernel, by decide +kernel, by decide +kernel⟩, gd (i := 1138) (by decide +kernel) (by decide +kernel), gd (i := 1139) (by decide +kernel) (by decide +kernel)⟩
set_option maxRecDepth 40000 in
theorem ok_Ru_clear : OkV M_Ru_clear 0 := ⟨⟨by decide +kernel, gd (i := 828) rfl (by decide +kernel), gd (i := 109) (by decide +kernel) (by decide +kernel), by decide +kernel, by decide +kernel, by decide +kernel⟩, gd (i := 826) (by decide +kernel) (by decide +kernel), gd (i := 827) (by decide +kernel) (by decide +kernel)⟩
set_option maxRecDepth 40000 in
theorem ok_Ru_findWays : OkV M_Ru_findWays 4 := ⟨⟨by decide +kernel, gd (i := 1152) rfl (by decide +kernel), gd (i := 109) (by decide +kernel) (by decide +kernel), by decide +kernel, by decide +kernel, by decide +kernel⟩, gd (i := 1150) (by decide +kernel) (by decide +kernel), gd (i := 1151) (by decide +kernel) (by decide +kernel)⟩
set_option maxRecDepth 40000 in
theorem ok_Ru_setDue : OkV M_Ru_setDue 1 := ⟨⟨by decide +kernel, gd (i := 1156) rfl (by decide +kernel), gd (i := 109) (by decide +kernel) (by decide +kernel), by decide +kernel, by decide +kernel, by decide +kernel⟩, gd (i := 1155) (by decide +kernel) (by decide +kernel), gd (i := 44) (by decide +kernel) (by decide +kernel)⟩
set_option maxRecDepth 40000 in
theorem ok_Ru_isMissed : OkV M_Ru_isMissed 2 := ⟨⟨by decide +kernel, gd (i := 1167) rfl (by decide +kernel), gd (i := 109) (by decide +kernel) (by decide +kernel), by decide +kernel, by decide +kernel, by decide +kernel⟩, gd (i := 1166) (by decide +kernel) (by decide +kernel), gd (i := 46) (by decide +kernel) (by decide +kernel)⟩
set_option maxRecDepth 40000 in
theorem ok_Ru_comesAsDue : OkV M_Ru_comesAsDue 2 := ⟨⟨by decide +kernel, gd (i := 1162) rfl (by decide +kernel), gd (i := 109) (by decide +kernel) (by decide +kernel), by decide +kernel, by decide +kernel, by decide +kernel⟩, gd (i := 1161) (by decide +kernel) (by decide +kernel), gd (i := 45) (by decide +kernel) (by decide +kernel)⟩
set_option maxRecDepth 40000 in
theorem ok_Ta_hasRoomFor : OkV M_Ta_hasRoomFor 1 := ⟨⟨by decide +kernel, gd (i := 613) rfl (by decide +kernel), gd (i := 99) (by decide +kernel) (by decide +kernel), by decide +kernel, by decide +kernel, by decide +kernel⟩, gd (i := 611) (by decide +kernel) (by decide +kernel), gd (i := 612) (by decide +kernel) (by decide +kernel)⟩
set_option maxRecDepth 40000 in
theorem ok_Ta_append : OkV M_Ta_append 1 := ⟨⟨by decide +kernel, gd (i := 617) rfl (by decide +kernel), gd (i := 99) (by decide +kernel) (by decide +kernel), by decide +kernel, by decide +kernel, by decide +kernel⟩, gd (i := 615) (by decide +kernel) (by decide +kernel), gd (i := 616) (by decide +kernel) (by decide +kernel)⟩
set_option maxRecDepth 40000 in
theorem ok_To_cut : OkV M_To_cut 1 := ⟨⟨by decide +kernel, gd (i := 634) rfl (by decide +kernel), gd (i := 104) (by decide +kernel) (by decide +kernel), by decide +kernel, by decide +kernel, by decide +kernel⟩, gd (i := 632) (by decide +kernel) (by decide +kernel), gd (i := 633) (by decide +kernel) (by decide +kernel)⟩
set_option maxRecDepth 40000 in
theorem ok_To_skipBlanks : OkS M_To_skipBlanks 2 := ⟨⟨by decide +kernel, gd (i := 637) rfl (by decide +kernel), gd (i := 104) (by decide +kernel) (by decide +kernel), by decide +kernel, by decide +kernel, by decide +kernel⟩, gd (i := 636) (by decide +kernel) (by decide +kernel)⟩
set_option maxRecDepth 40000 in
theorem ok_To_addToken : OkV M_To_addToken 3 := ⟨⟨by decide +kernel, gd (i := 644) rfl (by decide +kernel), gd (i := 104) (by decide +kernel) (by decide +kernel), by decide +kernel, by decide +kernel, by decide +kernel⟩, gd (i := 643) (by decide +kernel) (by decide +kernel), gd (i := 0) (by decide +kernel) (by decide +kernel)⟩
set_option maxRecDepth 40000 in
theorem ok_To_addWord : OkV M_To_addWord 3 := ⟨⟨by decide +kernel, gd (i := 651) rfl (by decide +kernel), gd (i := 104) (by decide +kernel) (by decide +kernel), by decide +kernel, by decide +kernel, by decide +kernel⟩, gd (i := 650) (by decide +kernel) (by decide +kernel), gd (i := 1) (by decide +kernel) (by decide +kernel)⟩
set_option maxRecDepth 40000 in
theorem ok_To_addNumber : OkV M_To_addNumber 3 := ⟨⟨by decide +kernel, gd (i := 663) rfl (by decide +kernel), gd (i := 104) (by decide +kernel) (by decide +kernel), by decide +kernel, by decide +kernel, by decide +kernel⟩, gd (i := 662) (by decide +kernel) (by decide +kernel), gd (i := 2) (by decide +kernel) (by decide +kernel)⟩
set_option maxRecDepth 40000 in
theorem ok_To_kindOfWord : OkS M_To_kindOfWord 1 := ⟨⟨by decide +kernel, gd (i := 654) rfl (by decide +kernel), gd (i := 104) (by decide +kernel) (by decide +kernel), by decide +kernel, by decide +kernel, by decide +kernel⟩, gd (i := 653) (by decide +kernel) (by decide +kernel)⟩
set_option maxRecDepth 40000 in
theorem ok_To_isBlank : OkS M_To_isBlank 1 := ⟨⟨by decide +kernel, gd (i := 640) rfl (by decide +kernel), gd (i := 104) (by decide +kernel) (by decide +kernel), by decide +kernel, by decide +kernel, by decide +kernel⟩, gd (i := 639) (by decide +kernel) (by decide +kernel)⟩
set_option maxRecDepth 40000 in
theorem ok_To_isLetter : OkS M_To_isLetter 1 := ⟨⟨by decide +kernel, gd (i := 647) rfl (by decide +kernel), gd (i := 104) (by decide +kernel) (by decide +kernel), by decide +kernel, by decide +kernel, by decide +kernel⟩, gd (i := 646) (by decide +kernel) (by decide +kernel)⟩
set_option maxRecDepth 40000 in
theorem ok_To_isDigit : OkS M_To_isDigit 1 := ⟨⟨by decide +kernel, gd (i := 659) rfl (by decide +kernel), gd (i := 104) (by decide +kernel) (by decide +kernel), by decide +kernel, by decide +kernel, by decide +kernel⟩, gd (i := 658) (by decide +kernel) (by decide +kernel)⟩
set_option maxRecDepth 40000 in
theorem ok_To_isSign : OkS M_To_isSign 1 := ⟨⟨by decide +kernel, gd (i := 666) rfl (by decide +kernel), gd (i := 104) (by decide +kernel) (by decide +kernel), by decide +kernel, by decide +kernel, by decide +kernel⟩, gd (i := 665) (by decide +kernel) (by decide +kernel)⟩
set_option maxRecDepth 40000 in
theorem ok_Sg_feed : OkV M_Sg_feed 5 := ⟨⟨by decide +kernel, gd (i := 609) rfl (by decide +kernel), gd (i := 98) (by decide +kernel) (by decide +kernel), by decide +kernel, by decide +kernel, by decide +kernel⟩, gd (i := 607) (by decide +kernel) (by decide +kernel), gd (i := 608) (by decide +kernel) (by decide +kernel)⟩
set_option maxRecDepth 40000 in
theorem ok_Sg_back : OkV M_Sg_back 1 := ⟨⟨by decide +kernel, gd (i := 622) rfl (by decide +kernel), gd (i := 98) (by decide +kernel) (by decide +kernel), by decide +kernel, by decide +kernel, by decide +kernel⟩, gd (i := 620) (by decide +kernel) (by decide +kernel), gd (i := 621) (by decide +kernel) (by decide +kernel)⟩
set_option maxRecDepth 40000 in
theorem ok_Sg_read : OkV M_Sg_read 0 := ⟨⟨by decide +kernel, gd (i := 626) rfl (by decide +kernel), gd (i := 98) (by decide +kernel) (by decide +kernel), by decide +kernel, by decide +kernel, by decide +kernel⟩, gd (i := 624) (by decide +kernel) (by decide +kernel), gd (i := 625) (by decide +kernel) (by decide +kernel)⟩
set_option maxRecDepth 40000 in
theorem ok_Sg_beginAnew : OkV M_Sg_beginAnew 0 := ⟨⟨by decide +kernel, gd (i := 807) rfl (by decide +kernel), gd (i := 98) (by decide +kernel) (by decide +kernel), by decide +kernel, by decide +kernel, by decide +kernel⟩, gd (i := 806) (by decide +kernel) (by decide +kernel), gd (i := 25) (by decide +kernel) (by decide +kernel)⟩
set_option maxRecDepth 40000 in
theorem ok_Sg_place : OkV M_Sg_place 0 := ⟨⟨by decide +kernel, gd (i := 840) rfl (by decide +kernel), gd (i := 98) (by decide +kernel) (by decide +kernel), by decide +kernel, by decide +kernel, by decide +kernel⟩, gd (i := 838) (by decide +kernel) (by decide +kernel), gd (i := 839) (by decide +kernel) (by decide +kernel)⟩
set_option maxRecDepth 40000 in
theorem ok_Sg_post : OkV M_Sg_post 2 := ⟨⟨by decide +kernel, gd (i := 844) rfl (by decide +kernel), gd (i := 98) (by decide +kernel) (by decide +kernel), by decide +kernel, by decide +kernel, by decide +kernel⟩, gd (i := 842) (by decide +kernel) (by decide +kernel), gd (i := 843) (by decide +kernel) (by decide +kernel)⟩
set_option maxRecDepth 40000 in
theorem ok_Sg_guard : OkV M_Sg_guard 2 := ⟨⟨by decide +kernel, gd (i := 860) rfl (by decide +kernel), gd (i := 98) (by decide +kernel) (by decide +kernel), by decide +kernel, by decide +kernel, by decide +kernel⟩, gd (i := 858) (by decide +kernel) (by decide +kernel), gd (i := 859) (by decide +kernel) (by decide +kernel)⟩
set_option maxRecDepth 40000 in
theorem ok_Sg_run : OkV M_Sg_run 1 := ⟨⟨by decide +kernel, gd (i := 872) rfl (by decide +kernel), gd (i := 98) (by decide +kernel) (by decide +kernel), by decide +kernel, by decide +kernel, by decide +kernel⟩, gd (i := 870) (by decide +kernel) (by decide +kernel), gd (i := 871) (by decide +kernel) (by decide +kernel)⟩
set_option maxRecDepth 40000 in
theorem ok_Sg_turn : OkV M_Sg_turn 1 := ⟨⟨by decide +kernel, gd (i := 944) rfl (by decide +kernel), gd (i := 98) (by decide +kernel) (by decide +kernel), by decide +kernel, by decide +kernel, by decide +kernel⟩, gd (i := 942) (by decide +kernel) (by decide +kernel), gd (i := 943) (by decide +kernel) (by decide +kernel)⟩
set_option maxRecDepth 40000 in
theorem ok_Sg_shake : OkV M_Sg_shake 2 := ⟨⟨by decide +kernel, gd (i := 952) rfl (by decide +kernel), gd (i := 98) (by decide +kernel) (by decide +kernel), by decide +kernel, by decide +kernel, by decide +kernel⟩, gd (i := 950) (by decide +kernel) (by decide +kernel), gd (i := 951) (by decide +kernel) (by decide +kernel)⟩
set_option maxRecDepth 40000 in
theorem ok_Sg_dry : OkV M_Sg_dry 2 := ⟨⟨by decide +kernel, gd (i := 957) rfl (by decide +kernel), gd (i := 98) (by decide +kernel) (by decide +kernel), by decide +kernel, by decide +kernel, by decide +kernel⟩, gd (i := 955) (by decide +kernel) (by decide +kernel), gd (i := 956) (by decide +kernel) (by decide +kernel)⟩
set_option maxRecDepth 40000 in
theorem ok_Sg_pinch : OkV M_Sg_pinch 2 := ⟨⟨by decide +kernel, gd (i := 961) rfl (by decide +kernel), gd (i := 98) (by decide +kernel) (by decide +kernel), by decide +kernel, by decide +kernel, by decide +kernel⟩, gd (i := 959) (by decide +kernel) (by decide +kernel), gd (i := 960) (by decide +kernel) (by decide +kernel)⟩
set_option maxRecDepth 40000 in
theorem ok_Sg_send : OkV M_Sg_send 2 := ⟨⟨by decide +kernel, gd (i := 966) rfl (by decide +kernel), gd (i := 98) (by decide +kernel) (by decide +kernel), by decide +kernel, by decide +kernel, by decide +kernel⟩, gd (i := 964) (by decide +kernel) (by decide +kernel), gd (i := 965) (by decide +kernel) (by decide +kernel)⟩
set_option maxRecDepth 40000 in
theorem ok_Sg_undo : OkV M_Sg_undo 0 := ⟨⟨by decide +kernel, gd (i := 972) rfl (by decide +kernel), gd (i := 98) (by decide +kernel) (by decide +kernel), by decide +kernel, by decide +kernel, by decide +kernel⟩, gd (i := 970) (by decide +kernel) (by decide +kernel), gd (i := 971) (by decide +kernel) (by decide +kernel)⟩
set_option maxRecDepth 40000 in
theorem ok_Sg_out : OkV M_Sg_out 1 := ⟨⟨by decide +kernel, gd (i := 980) rfl (by decide +kernel), gd (i := 98) (by decide +kernel) (by decide +kernel), by decide +kernel, by decide +kernel, by decide +kernel⟩, gd (i := 978) (by decide +kernel) (by decide +kernel), gd (i := 979) (by decide +kernel) (by decide +kernel)⟩
set_option maxRecDepth 40000 in
theorem ok_Sg_slept : OkV M_Sg_slept 0 := ⟨⟨by decide +kernel, gd (i := 991) rfl (by decide +kernel), gd (i := 98) (by decide +kernel) (by decide +kernel), by decide +kernel, by decide +kernel, by decide +kernel⟩, gd (i := 989) (by decide +kernel) (by decide +kernel), gd (i := 990) (by decide +kernel) (by decide +kernel)⟩
set_option maxRecDepth 40000 in
theorem ok_Sg_dryFirst : OkV M_Sg_dryFirst 1 := ⟨⟨by decide +kernel, gd (i := 1010) rfl (by decide +kernel), gd (i := 98) (by decide +kernel) (by decide +kernel), by decide +kernel, by decide +kernel, by decide +kernel⟩, gd (i := 1008) (by decide +kernel) (by decide +kernel), gd (i := 1009) (by decide +kernel) (by decide +kernel)⟩
set_option maxRecDepth 40000 in
theorem ok_Sg_dryTwo : OkV M_Sg_dryTwo 1 := ⟨⟨by decide +kernel, gd (i := 1025) rfl (by decide +kernel), gd (i := 98) (by decide +kernel) (by decide +kernel), by decide +kernel, by decide +kernel, by decide +kernel⟩, gd (i := 1023) (by decide +kernel) (by decide +kernel), gd (i := 1024) (by decide +kernel) (by decide +kernel)⟩
set_option maxRecDepth 40000 in
theorem ok_Sg_bribe : OkV M_Sg_bribe 2 := ⟨⟨by decide +kernel, gd (i := 1037) rfl (by decide +kernel), gd (i := 98) (by decide +kernel) (by decide +kernel), by decide +kernel, by decide +kernel, by decide +kernel⟩, gd (i := 1035) (by decide +kernel) (by decide +kernel), gd (i := 1036) (by decide +kernel) (by decide +kernel)⟩
set_option maxRecDepth 40000 in
theorem ok_Sg_weak : OkV M_Sg_weak 2 := ⟨⟨by decide +kernel, gd (i := 1057) rfl (by decide +kernel), gd (i := 98) (by decide +kernel) (by decide +kernel), by decide +kernel, by decide +kernel, by decide +kernel⟩, gd (i := 1055) (by decide +kernel) (by decide +kernel), gd (i := 1056) (by decide +kernel) (by decide +kernel)⟩
set_option maxRecDepth 40000 in
theorem ok_Sg_never : OkV M_Sg_never 1 := ⟨⟨by decide +kernel, gd (i := 1061) rfl (by decide +kernel), gd (i := 98) (by decide +kernel) (by decide +kernel), by decide +kernel, by decide +kernel, by decide +kernel⟩, gd (i := 1059) (by decide +kernel) (by decide +kernel), gd (i := 1060) (by decide +kernel) (by decide +kernel)⟩
set_option maxRecDepth 40000 in
theorem ok_Sg_spread : OkV M_Sg_spread 1 := ⟨⟨by decide +kernel, gd (i := 1074) rfl (by decide +kernel), gd (i := 98) (by decide +kernel) (by decide +kernel), by decide +kernel, by decide +kernel, by decide +kernel⟩, gd (i := 1072) (by decide +kernel) (by decide +kernel), gd (i := 1073) (by decide +kernel) (by decide +kernel)⟩
set_option maxRecDepth 40000 in
theorem ok_Sg_shakeWorst : OkV M_Sg_shakeWorst 2 := ⟨⟨by decide +kernel, gd (i := 1083) rfl (by decide +kernel), gd (i := 98) (by decide +kernel) (by decide +kernel), by decide +kernel, by decide +kernel, by decide +kernel⟩, gd (i := 1081) (by decide +kernel) (by decide +kernel), gd (i := 1082) (by decide +kernel) (by decide +kernel)⟩
set_option maxRecDepth 40000 in
theorem ok_Sg_longest : OkV M_Sg_longest 1 := ⟨⟨by decide +kernel, gd (i := 1096) rfl (by decide +kernel), gd (i := 98) (by decide +kernel) (by decide +kernel), by decide +kernel, by decide +kernel, by decide +kernel⟩, gd (i := 1094) (by decide +kernel) (by decide +kernel), gd (i := 1095) (by decide +kernel) (by decide +kernel)⟩
set_option maxRecDepth 40000 in
theorem ok_Sg_rests : OkV M_Sg_rests 3 := ⟨⟨by decide +kernel, gd (i := 1105) rfl (by decide +kernel), gd (i := 98) (by decide +kernel) (by decide +kernel), by decide +kernel, by decide +kernel, by decide +kernel⟩, gd (i := 1103) (by decide +kernel) (by decide +kernel), gd (i := 1104) (by decide +kernel) (by decide +kernel)⟩
set_option maxRecDepth 40000 in
theorem ok_Sg_where : OkV M_Sg_where 2 := ⟨⟨by decide +kernel, gd (i := 1132) rfl (by decide +kernel), gd (i := 98) (by decide +kernel) (by decide +kernel), by decide +kernel, by decide +kernel, by decide +kernel⟩, gd (i := 1130) (by decide +kernel) (by decide +kernel), gd (i := 1131) (by decide +kernel) (by decide +kernel)⟩
set_option maxRecDepth 40000 in
theorem ok_Sg_tell : OkV M_Sg_tell 2 := ⟨⟨by decide +kernel, gd (i := 1136) rfl (by decide +kernel), gd (i := 98) (by decide +kernel) (by decide +kernel), by decide +kernel, by decide +kernel, by decide +kernel⟩, gd (i := 1134) (by decide +kernel) (by decide +kernel), gd (i := 1135) (by decide +kernel) (by decide +kernel)⟩
set_option maxRecDepth 40000 in
theorem ok_Sg_forget : OkV M_Sg_forget 0 := ⟨⟨by decide +kernel, gd (i := 1144) rfl (by decide +kernel), gd (i := 98) (by decide +kernel) (by decide +kernel), by decide +kernel, by decide +kernel, by decide +kernel⟩, gd (i := 1142) (by decide +kernel) (by decide +kernel), gd (i := 1143) (by decide +kernel) (by decide +kernel)⟩
set_option maxRecDepth 40000 in
theorem ok_Sg_tampered : OkV M_Sg_tampered 3 := ⟨⟨by decide +kernel, gd (i := 1148) rfl (by decide +kernel), gd (i := 98) (by decide +kernel) (by decide +kernel), by decide +kernel, by decide +kernel, by decide +kernel⟩, gd (i := 1146) (by decide +kernel) (by decide +kernel), gd (i := 1147) (by decide +kernel) (by decide +kernel)⟩
set_option maxRecDepth 40000 in
theorem ok_Sg_hold : OkV M_Sg_hold 1 := ⟨⟨by decide +kernel, gd (i := 1171) rfl (by decide +kernel), gd (i := 98) (by decide +kernel) (by decide +kernel), by decide +kernel, by decide +kernel, by decide +kernel⟩, gd (i := 1169) (by decide +kernel) (by decide +kernel), gd (i := 1170) (by decide +kernel) (by decide +kernel)⟩
set_option maxRecDepth 40000 in
theorem ok_Sg_restore : OkV M_Sg_restore 1 := ⟨⟨by decide +kernel, gd (i := 1175) rfl (by decide +kernel), gd (i := 98) (by decide +kernel) (by decide +kernel), by decide +kernel, by decide +kernel, by decide +kernel⟩, gd (i := 1173) (by decide +kernel) (by decide +kernel), gd (i := 1174) (by decide +kernel) (by decide +kernel)⟩
set_option maxRecDepth 40000 in
theorem ok_Sg_count : OkV M_Sg_count 1 := ⟨⟨by decide +kernel, gd (i := 1179) rfl (by decide +kernel), gd (i := 98) (by decide +kernel) (by decide +kernel), by decide +kernel, by decide +kernel, by decide +kernel⟩, gd (i := 1177) (by decide +kernel) (by decide +kernel), gd (i := 1178) (by decide +kernel) (by decide +kernel)⟩
set_option maxRecDepth 40000 in
theorem ok_Sg_slotsHeld : OkV M_Sg_slotsHeld 0 := ⟨⟨by decide +kernel, gd (i := 1191) rfl (by decide +kernel), gd (i := 98) (by decide +kernel) (by decide +kernel), by decide +kernel, by decide +kernel, by decide +kernel⟩, gd (i := 1190) (by decide +kernel) (by decide +kernel), gd (i := 47) (by decide +kernel) (by decide +kernel)⟩
set_option maxRecDepth 40000 in
theorem ok_Sg_isPost : OkV M_Sg_isPost 1 := ⟨⟨by decide +kernel, gd (i := 848) rfl (by decide +kernel), gd (i := 98) (by decide +kernel) (by decide +kernel), by decide +kernel, by decide +kernel, by decide +kernel⟩, gd (i := 847) (by decide +kernel) (by decide +kernel), gd (i := 27) (by decide +kernel) (by decide +kernel)⟩
set_option maxRecDepth 40000 in
theorem ok_Sg_isGuard : OkV M_Sg_isGuard 1 := ⟨⟨by decide +kernel, gd (i := 864) rfl (by decide +kernel), gd (i := 98) (by decide +kernel) (by decide +kernel), by decide +kernel, by decide +kernel, by decide +kernel⟩, gd (i := 863) (by decide +kernel) (by decide +kernel), gd (i := 28) (by decide +kernel) (by decide +kernel)⟩
set_option maxRecDepth 40000 in
theorem ok_Sg_beginThing : OkV M_Sg_beginThing 0 := ⟨⟨by decide +kernel, gd (i := 876) rfl (by decide +kernel), gd (i := 98) (by decide +kernel) (by decide +kernel), by decide +kernel, by decide +kernel, by decide +kernel⟩, gd (i := 875) (by decide +kernel) (by decide +kernel), gd (i := 29) (by decide +kernel) (by decide +kernel)⟩
set_option maxRecDepth 40000 in
theorem ok_Sg_noteChange : OkV M_Sg_noteChange 0 := ⟨⟨by decide +kernel, gd (i := 832) rfl (by decide +kernel), gd (i := 98) (by decide +kernel) (by decide +kernel), by decide +kernel, by decide +kernel, by decide +kernel⟩, gd (i := 831) (by decide +kernel) (by decide +kernel), gd (i := 26) (by decide +kernel) (by decide +kernel)⟩
set_option maxRecDepth 40000 in
theorem ok_Mo_feed : OkV M_Mo_feed 5 := ⟨⟨by decide +kernel, gd (i := 1392) rfl (by decide +kernel), gd (i := 110) (by decide +kernel) (by decide +kernel), by decide +kernel, by decide +kernel, by decide +kernel⟩, gd (i := 1390) (by decide +kernel) (by decide +kernel), gd (i := 1391) (by decide +kernel) (by decide +kernel)⟩
set_option maxRecDepth 40000 in
theorem ok_Mo_put : OkV M_Mo_put 1 := ⟨⟨by decide +kernel, gd (i := 1396) rfl (by decide +kernel), gd (i := 110) (by decide +kernel) (by decide +kernel), by decide +kernel, by decide +kernel, by decide +kernel⟩, gd (i := 1395) (by decide +kernel) (by decide +kernel), gd (i := 48) (by decide +kernel) (by decide +kernel)⟩
set_option maxRecDepth 40000 in
theorem ok_Mo_back : OkV M_Mo_back 1 := ⟨⟨by decide +kernel, gd (i := 1400) rfl (by decide +kernel), gd (i := 110) (by decide +kernel) (by decide +kernel), by decide +kernel, by decide +kernel, by decide +kernel⟩, gd (i := 1398) (by decide +kernel) (by decide +kernel), gd (i := 1399) (by decide +kernel) (by decide +kernel)⟩
set_option maxRecDepth 40000 in
theorem ok_Mo_byteAt : OkV M_Mo_byteAt 1 := ⟨⟨by decide +kernel, gd (i := 1412) rfl (by decide +kernel), gd (i := 110) (by decide +kernel) (by decide +kernel), by decide +kernel, by decide +kernel, by decide +kernel⟩, gd (i := 1411) (by decide +kernel) (by decide +kernel), gd (i := 50) (by decide +kernel) (by decide +kernel)⟩
set_option maxRecDepth 40000 in
theorem ok_Mo_isDigit : OkS M_Mo_isDigit 1 := ⟨⟨by decide +kernel, gd (i := 1422) rfl (by decide +kernel), gd (i := 110) (by decide +kernel) (by decide +kernel), by decide +kernel, by decide +kernel, by decide +kernel⟩, gd (i := 1421) (by decide +kernel) (by decide +kernel)⟩
set_option maxRecDepth 40000 in
theorem ok_Mo_isLetter : OkS M_Mo_isLetter 1 := ⟨⟨by decide +kernel, gd (i := 1419) rfl (by decide +kernel), gd (i := 110) (by decide +kernel) (by decide +kernel), by decide +kernel, by decide +kernel, by decide +kernel⟩, gd (i := 1418) (by decide +kernel) (by decide +kernel)⟩
set_option maxRecDepth 40000 in
theorem ok_Mo_appends : OkS M_Mo_appends 2 := ⟨⟨by decide +kernel, gd (i := 1204) rfl (by decide +kernel), gd (i := 110) (by decide +kernel) (by decide +kernel), by decide +kernel, by decide +kernel, by decide +kernel⟩, gd (i := 1203) (by decide +kernel) (by decide +kernel)⟩
set_option maxRecDepth 40000 in
theorem ok_Mo_word : OkS M_Mo_word 7 := ⟨⟨by decide +kernel, gd (i := 1201) rfl (by decide +kernel), gd (i := 110) (by decide +kernel) (by decide +kernel), by decide +kernel, by decide +kernel, by decide +kernel⟩, gd (i := 1200) (by decide +kernel) (by decide +kernel)⟩
set_option maxRecDepth 40000 in
theorem ok_Mo_token : OkV M_Mo_token 4 := ⟨⟨by decide +kernel, gd (i := 1416) rfl (by decide +kernel), gd (i := 110) (by decide +kernel) (by decide +kernel), by decide +kernel, by decide +kernel, by decide +kernel⟩, gd (i := 1415) (by decide +kernel) (by decide +kernel), gd (i := 51) (by decide +kernel) (by decide +kernel)⟩
set_option maxRecDepth 40000 in
theorem ok_Mo_cut : OkV M_Mo_cut 0 := ⟨⟨by decide +kernel, gd (i := 1408) rfl (by decide +kernel), gd (i := 110) (by decide +kernel) (by decide +kernel), by decide +kernel, by decide +kernel, by decide +kernel⟩, gd (i := 1407) (by decide +kernel) (by decide +kernel), gd (i := 49) (by decide +kernel) (by decide +kernel)⟩
set_option maxRecDepth 40000 in
theorem ok_Mo_sign : OkV M_Mo_sign 3 := ⟨⟨by decide +kernel, gd (i := 1426) rfl (by decide +kernel), gd (i := 110) (by decide +kernel) (by decide +kernel), by decide +kernel, by decide +kernel, by decide +kernel⟩, gd (i := 1425) (by decide +kernel) (by decide +kernel), gd (i := 52) (by decide +kernel) (by decide +kernel)⟩
set_option maxRecDepth 40000 in
theorem ok_Mo_is : OkV M_Mo_is 1 := ⟨⟨by decide +kernel, gd (i := 1430) rfl (by decide +kernel), gd (i := 110) (by decide +kernel) (by decide +kernel), by decide +kernel, by decide +kernel, by decide +kernel⟩, gd (i := 1429) (by decide +kernel) (by decide +kernel), gd (i := 53) (by decide +kernel) (by decide +kernel)⟩
set_option maxRecDepth 40000 in
theorem ok_Mo_fail : OkV M_Mo_fail 1 := ⟨⟨by decide +kernel, gd (i := 1442) rfl (by decide +kernel), gd (i := 110) (by decide +kernel) (by decide +kernel), by decide +kernel, by decide +kernel, by decide +kernel⟩, gd (i := 1441) (by decide +kernel) (by decide +kernel), gd (i := 56) (by decide +kernel) (by decide +kernel)⟩
set_option maxRecDepth 40000 in
theorem ok_Mo_wrong : OkV M_Mo_wrong 2 := ⟨⟨by decide +kernel, gd (i := 1462) rfl (by decide +kernel), gd (i := 110) (by decide +kernel) (by decide +kernel), by decide +kernel, by decide +kernel, by decide +kernel⟩, gd (i := 1461) (by decide +kernel) (by decide +kernel), gd (i := 61) (by decide +kernel) (by decide +kernel)⟩
set_option maxRecDepth 40000 in
theorem ok_Mo_goesOn : OkV M_Mo_goesOn 0 := ⟨⟨by decide +kernel, gd (i := 1446) rfl (by decide +kernel), gd (i := 110) (by decide +kernel) (by decide +kernel), by decide +kernel, by decide +kernel, by decide +kernel⟩, gd (i := 1445) (by decide +kernel) (by decide +kernel), gd (i := 57) (by decide +kernel) (by decide +kernel)⟩
set_option maxRecDepth 40000 in
theorem ok_Mo_must : OkV M_Mo_must 1 := ⟨⟨by decide +kernel, gd (i := 1458) rfl (by decide +kernel), gd (i := 110) (by decide +kernel) (by decide +kernel), by decide +kernel, by decide +kernel, by decide +kernel⟩, gd (i := 1457) (by decide +kernel) (by decide +kernel), gd (i := 60) (by decide +kernel) (by decide +kernel)⟩
set_option maxRecDepth 40000 in
theorem ok_Mo_read : OkV M_Mo_read 0 := ⟨⟨by decide +kernel, gd (i := 1404) rfl (by decide +kernel), gd (i := 110) (by decide +kernel) (by decide +kernel), by decide +kernel, by decide +kernel, by decide +kernel⟩, gd (i := 1402) (by decide +kernel) (by decide +kernel), gd (i := 1403) (by decide +kernel) (by decide +kernel)⟩
set_option maxRecDepth 40000 in
theorem ok_Mo_place : OkV M_Mo_place 0 := ⟨⟨by decide +kernel, gd (i := 1518) rfl (by decide +kernel), gd (i := 110) (by decide +kernel) (by decide +kernel), by decide +kernel, by decide +kernel, by decide +kernel⟩, gd (i := 1516) (by decide +kernel) (by decide +kernel), gd (i := 1517) (by decide +kernel) (by decide +kernel)⟩
set_option maxRecDepth 40000 in
theorem ok_Mo_roomFor : OkV M_Mo_roomFor 2 := ⟨⟨by decide +kernel, gd (i := 1438) rfl (by decide +kernel), gd (i := 110) (by decide +kernel) (by decide +kernel), by decide +kernel, by decide +kernel, by decide +kernel⟩, gd (i := 1437) (by decide +kernel) (by decide +kernel), gd (i := 55) (by decide +kernel) (by decide +kernel)⟩
set_option maxRecDepth 40000 in
theorem ok_Mo_tell : OkV M_Mo_tell 0 := ⟨⟨by decide +kernel, gd (i := 1434) rfl (by decide +kernel), gd (i := 110) (by decide +kernel) (by decide +kernel), by decide +kernel, by decide +kernel, by decide +kernel⟩, gd (i := 1433) (by decide +kernel) (by decide +kernel), gd (i := 54) (by decide +kernel) (by decide +kernel)⟩
set_option maxRecDepth 40000 in
theorem ok_Mo_named : OkV M_Mo_named 0 := ⟨⟨by decide +kernel, gd (i := 1454) rfl (by decide +kernel), gd (i := 110) (by decide +kernel) (by decide +kernel), by decide +kernel, by decide +kernel, by decide +kernel⟩, gd (i := 1453) (by decide +kernel) (by decide +kernel), gd (i := 59) (by decide +kernel) (by decide +kernel)⟩
set_option maxRecDepth 40000 in
theorem ok_Mo_notes : OkV M_Mo_notes 3 := ⟨⟨by decide +kernel, gd (i := 1470) rfl (by decide +kernel), gd (i := 110) (by decide +kernel) (by decide +kernel), by decide +kernel, by decide +kernel, by decide +kernel⟩, gd (i := 1469) (by decide +kernel) (by decide +kernel), gd (i := 63) (by decide +kernel) (by decide +kernel)⟩
set_option maxRecDepth 40000 in
theorem ok_Mo_bounded : OkV M_Mo_bounded 2 := ⟨⟨by decide +kernel, gd (i := 1466) rfl (by decide +kernel), gd (i := 110) (by decide +kernel) (by decide +kernel), by decide +kernel, by decide +kernel, by decide +kernel⟩, gd (i := 1465) (by decide +kernel) (by decide +kernel), gd (i := 62) (by decide +kernel) (by decide +kernel)⟩
set_option maxRecDepth 40000 in
theorem ok_Mo_tellPost : OkV M_Mo_tellPost 0 := ⟨⟨by decide +kernel, gd (i := 1450) rfl (by decide +kernel), gd (i := 110) (by decide +kernel) (by decide +kernel), by decide +kernel, by decide +kernel, by decide +kernel⟩, gd (i := 1449) (by decide +kernel) (by decide +kernel), gd (i := 58) (by decide +kernel) (by decide +kernel)⟩
set_option maxRecDepth 40000 in
theorem ok_Mo_tellGuard : OkV M_Mo_tellGuard 0 := ⟨⟨by decide +kernel, gd (i := 1474) rfl (by decide +kernel), gd (i := 110) (by decide +kernel) (by decide +kernel), by decide +kernel, by decide +kernel, by decide +kernel⟩, gd (i := 1473) (by decide +kernel) (by decide +kernel), gd (i := 64) (by decide +kernel) (by decide +kernel)⟩
set_option maxRecDepth 40000 in
theorem ok_Mo_atPost : OkV M_Mo_atPost 0 := ⟨⟨by decide +kernel, gd (i := 1478) rfl (by decide +kernel), gd (i := 110) (by decide +kernel) (by decide +kernel), by decide +kernel, by decide +kernel, by decide +kernel⟩, gd (i := 1477) (by decide +kernel) (by decide +kernel), gd (i := 65) (by decide +kernel) (by decide +kernel)⟩
set_option maxRecDepth 40000 in
theorem ok_Mo_tellDamp : OkV M_Mo_tellDamp 0 := ⟨⟨by decide +kernel, gd (i := 1506) rfl (by decide +kernel), gd (i := 110) (by decide +kernel) (by decide +kernel), by decide +kernel, by decide +kernel, by decide +kernel⟩, gd (i := 1505) (by decide +kernel) (by decide +kernel), gd (i := 72) (by decide +kernel) (by decide +kernel)⟩
set_option maxRecDepth 40000 in
theorem ok_Mo_tellLaw : OkV M_Mo_tellLaw 0 := ⟨⟨by decide +kernel, gd (i := 1482) rfl (by decide +kernel), gd (i := 110) (by decide +kernel) (by decide +kernel), by decide +kernel, by decide +kernel, by decide +kernel⟩, gd (i := 1481) (by decide +kernel) (by decide +kernel), gd (i := 66) (by decide +kernel) (by decide +kernel)⟩
set_option maxRecDepth 40000 in
theorem ok_Mo_term : OkV M_Mo_term 0 := ⟨⟨by decide +kernel, gd (i := 1502) rfl (by decide +kernel), gd (i := 110) (by decide +kernel) (by decide +kernel), by decide +kernel, by decide +kernel, by decide +kernel⟩, gd (i := 1501) (by decide +kernel) (by decide +kernel), gd (i := 71) (by decide +kernel) (by decide +kernel)⟩
set_option maxRecDepth 40000 in
theorem ok_Mo_emit : OkV M_Mo_emit 2 := ⟨⟨by decide +kernel, gd (i := 1494) rfl (by decide +kernel), gd (i := 110) (by decide +kernel) (by decide +kernel), by decide +kernel, by decide +kernel, by decide +kernel⟩, gd (i := 1493) (by decide +kernel) (by decide +kernel), gd (i := 69) (by decide +kernel) (by decide +kernel)⟩
set_option maxRecDepth 40000 in
theorem ok_Mo_comesOut : OkV M_Mo_comesOut 1 := ⟨⟨by decide +kernel, gd (i := 1498) rfl (by decide +kernel), gd (i := 110) (by decide +kernel) (by decide +kernel), by decide +kernel, by decide +kernel, by decide +kernel⟩, gd (i := 1497) (by decide +kernel) (by decide +kernel), gd (i := 70) (by decide +kernel) (by decide +kernel)⟩
set_option maxRecDepth 40000 in
theorem ok_Mo_expression : OkV M_Mo_expression 0 := ⟨⟨by decide +kernel, gd (i := 1486) rfl (by decide +kernel), gd (i := 110) (by decide +kernel) (by decide +kernel), by decide +kernel, by decide +kernel, by decide +kernel⟩, gd (i := 1485) (by decide +kernel) (by decide +kernel), gd (i := 67) (by decide +kernel) (by decide +kernel)⟩
set_option maxRecDepth 40000 in
theorem ok_Mo_unit : OkV M_Mo_unit 0 := ⟨⟨by decide +kernel, gd (i := 1490) rfl (by decide +kernel), gd (i := 110) (by decide +kernel) (by decide +kernel), by decide +kernel, by decide +kernel, by decide +kernel⟩, gd (i := 1489) (by decide +kernel) (by decide +kernel), gd (i := 68) (by decide +kernel) (by decide +kernel)⟩
set_option maxRecDepth 40000 in
theorem ok_Mo_termOf : OkV M_Mo_termOf 2 := ⟨⟨by decide +kernel, gd (i := 1541) rfl (by decide +kernel), gd (i := 110) (by decide +kernel) (by decide +kernel), by decide +kernel, by decide +kernel, by decide +kernel⟩, gd (i := 1540) (by decide +kernel) (by decide +kernel), gd (i := 78) (by decide +kernel) (by decide +kernel)⟩
set_option maxRecDepth 40000 in
theorem ok_Mo_in : OkS M_Mo_in 3 := ⟨⟨by decide +kernel, gd (i := 1529) rfl (by decide +kernel), gd (i := 110) (by decide +kernel) (by decide +kernel), by decide +kernel, by decide +kernel, by decide +kernel⟩, gd (i := 1528) (by decide +kernel) (by decide +kernel)⟩
set_option maxRecDepth 40000 in
theorem ok_Mo_isPost : OkV M_Mo_isPost 1 := ⟨⟨by decide +kernel, gd (i := 1526) rfl (by decide +kernel), gd (i := 110) (by decide +kernel) (by decide +kernel), by decide +kernel, by decide +kernel, by decide +kernel⟩, gd (i := 1525) (by decide +kernel) (by decide +kernel), gd (i := 75) (by decide +kernel) (by decide +kernel)⟩
set_option maxRecDepth 40000 in
theorem ok_Mo_isGuard : OkV M_Mo_isGuard 1 := ⟨⟨by decide +kernel, gd (i := 1549) rfl (by decide +kernel), gd (i := 110) (by decide +kernel) (by decide +kernel), by decide +kernel, by decide +kernel, by decide +kernel⟩, gd (i := 1548) (by decide +kernel) (by decide +kernel), gd (i := 79) (by decide +kernel) (by decide +kernel)⟩
set_option maxRecDepth 40000 in
theorem ok_Mo_begins : OkV M_Mo_begins 0 := ⟨⟨by decide +kernel, gd (i := 1510) rfl (by decide +kernel), gd (i := 110) (by decide +kernel) (by decide +kernel), by decide +kernel, by decide +kernel, by decide +kernel⟩, gd (i := 1509) (by decide +kernel) (by decide +kernel), gd (i := 73) (by decide +kernel) (by decide +kernel)⟩
set_option maxRecDepth 40000 in
theorem ok_Mo_copies : OkV M_Mo_copies 0 := ⟨⟨by decide +kernel, gd (i := 1533) rfl (by decide +kernel), gd (i := 110) (by decide +kernel) (by decide +kernel), by decide +kernel, by decide +kernel, by decide +kernel⟩, gd (i := 1532) (by decide +kernel) (by decide +kernel), gd (i := 76) (by decide +kernel) (by decide +kernel)⟩
set_option maxRecDepth 40000 in
theorem ok_Mo_liesDown : OkV M_Mo_liesDown 1 := ⟨⟨by decide +kernel, gd (i := 1514) rfl (by decide +kernel), gd (i := 110) (by decide +kernel) (by decide +kernel), by decide +kernel, by decide +kernel, by decide +kernel⟩, gd (i := 1513) (by decide +kernel) (by decide +kernel), gd (i := 74) (by decide +kernel) (by decide +kernel)⟩
set_option maxRecDepth 40000 in
theorem ok_Mo_getsUp : OkV M_Mo_getsUp 1 := ⟨⟨by decide +kernel, gd (i := 1585) rfl (by decide +kernel), gd (i := 110) (by decide +kernel) (by decide +kernel), by decide +kernel, by decide +kernel, by decide +kernel⟩, gd (i := 1584) (by decide +kernel) (by decide +kernel), gd (i := 87) (by decide +kernel) (by decide +kernel)⟩
set_option maxRecDepth 40000 in
theorem ok_Mo_comes : OkV M_Mo_comes 2 := ⟨⟨by decide +kernel, gd (i := 1581) rfl (by decide +kernel), gd (i := 110) (by decide +kernel) (by decide +kernel), by decide +kernel, by decide +kernel, by decide +kernel⟩, gd (i := 1580) (by decide +kernel) (by decide +kernel), gd (i := 86) (by decide +kernel) (by decide +kernel)⟩
set_option maxRecDepth 40000 in
theorem ok_Mo_flowOf : OkV M_Mo_flowOf 1 := ⟨⟨by decide +kernel, gd (i := 1537) rfl (by decide +kernel), gd (i := 110) (by decide +kernel) (by decide +kernel), by decide +kernel, by decide +kernel, by decide +kernel⟩, gd (i := 1536) (by decide +kernel) (by decide +kernel), gd (i := 77) (by decide +kernel) (by decide +kernel)⟩
set_option maxRecDepth 40000 in
theorem ok_Mo_runs : OkV M_Mo_runs 0 := ⟨⟨by decide +kernel, gd (i := 1573) rfl (by decide +kernel), gd (i := 110) (by decide +kernel) (by decide +kernel), by decide +kernel, by decide +kernel, by decide +kernel⟩, gd (i := 1572) (by decide +kernel) (by decide +kernel), gd (i := 84) (by decide +kernel) (by decide +kernel)⟩
set_option maxRecDepth 40000 in
theorem ok_Mo_relieves : OkV M_Mo_relieves 1 := ⟨⟨by decide +kernel, gd (i := 1577) rfl (by decide +kernel), gd (i := 110) (by decide +kernel) (by decide +kernel), by decide +kernel, by decide +kernel, by decide +kernel⟩, gd (i := 1576) (by decide +kernel) (by decide +kernel), gd (i := 85) (by decide +kernel) (by decide +kernel)⟩
set_option maxRecDepth 40000 in
theorem ok_Mo_minuteGoes : OkV M_Mo_minuteGoes 0 := ⟨⟨by decide +kernel, gd (i := 1569) rfl (by decide +kernel), gd (i := 110) (by decide +kernel) (by decide +kernel), by decide +kernel, by decide +kernel, by decide +kernel⟩, gd (i := 1568) (by decide +kernel) (by decide +kernel), gd (i := 83) (by decide +kernel) (by decide +kernel)⟩
set_option maxRecDepth 40000 in
theorem ok_Mo_postOf : OkV M_Mo_postOf 1 := ⟨⟨by decide +kernel, gd (i := 1553) rfl (by decide +kernel), gd (i := 110) (by decide +kernel) (by decide +kernel), by decide +kernel, by decide +kernel, by decide +kernel⟩, gd (i := 1552) (by decide +kernel) (by decide +kernel), gd (i := 80) (by decide +kernel) (by decide +kernel)⟩
set_option maxRecDepth 40000 in
theorem ok_Mo_placeInBed : OkV M_Mo_placeInBed 1 := ⟨⟨by decide +kernel, gd (i := 1557) rfl (by decide +kernel), gd (i := 110) (by decide +kernel) (by decide +kernel), by decide +kernel, by decide +kernel, by decide +kernel⟩, gd (i := 1556) (by decide +kernel) (by decide +kernel), gd (i := 81) (by decide +kernel) (by decide +kernel)⟩
set_option maxRecDepth 40000 in
theorem ok_Mo_emptyOnes : OkV M_Mo_emptyOnes 0 := ⟨⟨by decide +kernel, gd (i := 1656) rfl (by decide +kernel), gd (i := 110) (by decide +kernel) (by decide +kernel), by decide +kernel, by decide +kernel, by decide +kernel⟩, gd (i := 1655) (by decide +kernel) (by decide +kernel), gd (i := 92) (by decide +kernel) (by decide +kernel)⟩
set_option maxRecDepth 40000 in
theorem ok_Mo_sleptOnes : OkV M_Mo_sleptOnes 0 := ⟨⟨by decide +kernel, gd (i := 1633) rfl (by decide +kernel), gd (i := 110) (by decide +kernel) (by decide +kernel), by decide +kernel, by decide +kernel, by decide +kernel⟩, gd (i := 1632) (by decide +kernel) (by decide +kernel), gd (i := 91) (by decide +kernel) (by decide +kernel)⟩
set_option maxRecDepth 40000 in
theorem ok_Mo_post : OkV M_Mo_post 2 := ⟨⟨by decide +kernel, gd (i := 1522) rfl (by decide +kernel), gd (i := 110) (by decide +kernel) (by decide +kernel), by decide +kernel, by decide +kernel, by decide +kernel⟩, gd (i := 1520) (by decide +kernel) (by decide +kernel), gd (i := 1521) (by decide +kernel) (by decide +kernel)⟩
set_option maxRecDepth 40000 in
theorem ok_Mo_guard : OkV M_Mo_guard 2 := ⟨⟨by decide +kernel, gd (i := 1545) rfl (by decide +kernel), gd (i := 110) (by decide +kernel) (by decide +kernel), by decide +kernel, by decide +kernel, by decide +kernel⟩, gd (i := 1543) (by decide +kernel) (by decide +kernel), gd (i := 1544) (by decide +kernel) (by decide +kernel)⟩
set_option maxRecDepth 40000 in
theorem ok_Mo_keeps : OkV M_Mo_keeps 0 := ⟨⟨by decide +kernel, gd (i := 1589) rfl (by decide +kernel), gd (i := 110) (by decide +kernel) (by decide +kernel), by decide +kernel, by decide +kernel, by decide +kernel⟩, gd (i := 1588) (by decide +kernel) (by decide +kernel), gd (i := 88) (by decide +kernel) (by decide +kernel)⟩
set_option maxRecDepth 40000 in
theorem ok_Mo_goes : OkV M_Mo_goes 1 := ⟨⟨by decide +kernel, gd (i := 1565) rfl (by decide +kernel), gd (i := 110) (by decide +kernel) (by decide +kernel), by decide +kernel, by decide +kernel, by decide +kernel⟩, gd (i := 1564) (by decide +kernel) (by decide +kernel), gd (i := 82) (by decide +kernel) (by decide +kernel)⟩
set_option maxRecDepth 40000 in
theorem ok_Mo_run : OkV M_Mo_run 1 := ⟨⟨by decide +kernel, gd (i := 1561) rfl (by decide +kernel), gd (i := 110) (by decide +kernel) (by decide +kernel), by decide +kernel, by decide +kernel, by decide +kernel⟩, gd (i := 1559) (by decide +kernel) (by decide +kernel), gd (i := 1560) (by decide +kernel) (by decide +kernel)⟩
set_option maxRecDepth 40000 in
theorem ok_Mo_turns : OkV M_Mo_turns 1 := ⟨⟨by decide +kernel, gd (i := 1597) rfl (by decide +kernel), gd (i := 110) (by decide +kernel) (by decide +kernel), by decide +kernel, by decide +kernel, by decide +kernel⟩, gd (i := 1596) (by decide +kernel) (by decide +kernel), gd (i := 89) (by decide +kernel) (by decide +kernel)⟩
set_option maxRecDepth 40000 in
theorem ok_Mo_turn : OkV M_Mo_turn 1 := ⟨⟨by decide +kernel, gd (i := 1593) rfl (by decide +kernel), gd (i := 110) (by decide +kernel) (by decide +kernel), by decide +kernel, by decide +kernel, by decide +kernel⟩, gd (i := 1591) (by decide +kernel) (by decide +kernel), gd (i := 1592) (by decide +kernel) (by decide +kernel)⟩
set_option maxRecDepth 40000 in
theorem ok_Mo_shake : OkV M_Mo_shake 2 := ⟨⟨by decide +kernel, gd (i := 1601) rfl (by decide +kernel), gd (i := 110) (by decide +kernel) (by decide +kernel), by decide +kernel, by decide +kernel, by decide +kernel⟩, gd (i := 1599) (by decide +kernel) (by decide +kernel), gd (i := 1600) (by decide +kernel) (by decide +kernel)⟩
set_option maxRecDepth 40000 in
theorem ok_Mo_dry : OkV M_Mo_dry 2 := ⟨⟨by decide +kernel, gd (i := 1605) rfl (by decide +kernel), gd (i := 110) (by decide +kernel) (by decide +kernel), by decide +kernel, by decide +kernel, by decide +kernel⟩, gd (i := 1603) (by decide +kernel) (by decide +kernel), gd (i := 1604) (by decide +kernel) (by decide +kernel)⟩
set_option maxRecDepth 40000 in
theorem ok_Mo_pinch : OkV M_Mo_pinch 2 := ⟨⟨by decide +kernel, gd (i := 1609) rfl (by decide +kernel), gd (i := 110) (by decide +kernel) (by decide +kernel), by decide +kernel, by decide +kernel, by decide +kernel⟩, gd (i := 1607) (by decide +kernel) (by decide +kernel), gd (i := 1608) (by decide +kernel) (by decide +kernel)⟩
set_option maxRecDepth 40000 in
theorem ok_Mo_send : OkV M_Mo_send 2 := ⟨⟨by decide +kernel, gd (i := 1613) rfl (by decide +kernel), gd (i := 110) (by decide +kernel) (by decide +kernel), by decide +kernel, by decide +kernel, by decide +kernel⟩, gd (i := 1611) (by decide +kernel) (by decide +kernel), gd (i := 1612) (by decide +kernel) (by decide +kernel)⟩
set_option maxRecDepth 40000 in
theorem ok_Mo_undo : OkV M_Mo_undo 0 := ⟨⟨by decide +kernel, gd (i := 1617) rfl (by decide +kernel), gd (i := 110) (by decide +kernel) (by decide +kernel), by decide +kernel, by decide +kernel, by decide +kernel⟩, gd (i := 1615) (by decide +kernel) (by decide +kernel), gd (i := 1616) (by decide +kernel) (by decide +kernel)⟩
set_option maxRecDepth 40000 in
theorem ok_Mo_out : OkV M_Mo_out 1 := ⟨⟨by decide +kernel, gd (i := 1621) rfl (by decide +kernel), gd (i := 110) (by decide +kernel) (by decide +kernel), by decide +kernel, by decide +kernel, by decide +kernel⟩, gd (i := 1619) (by decide +kernel) (by decide +kernel), gd (i := 1620) (by decide +kernel) (by decide +kernel)⟩
set_option maxRecDepth 40000 in
theorem ok_Mo_sleptBy : OkV M_Mo_sleptBy 0 := ⟨⟨by decide +kernel, gd (i := 1629) rfl (by decide +kernel), gd (i := 110) (by decide +kernel) (by decide +kernel), by decide +kernel, by decide +kernel, by decide +kernel⟩, gd (i := 1628) (by decide +kernel) (by decide +kernel), gd (i := 90) (by decide +kernel) (by decide +kernel)⟩
set_option maxRecDepth 40000 in
theorem ok_Mo_orNot : OkS M_Mo_orNot 1 := ⟨⟨by decide +kernel, gd (i := 1636) rfl (by decide +kernel), gd (i := 110) (by decide +kernel) (by decide +kernel), by decide +kernel, by decide +kernel, by decide +kernel⟩, gd (i := 1635) (by decide +kernel) (by decide +kernel)⟩
set_option maxRecDepth 40000 in
theorem ok_Mo_slept : OkV M_Mo_slept 0 := ⟨⟨by decide +kernel, gd (i := 1625) rfl (by decide +kernel), gd (i := 110) (by decide +kernel) (by decide +kernel), by decide +kernel, by decide +kernel, by decide +kernel⟩, gd (i := 1623) (by decide +kernel) (by decide +kernel), gd (i := 1624) (by decide +kernel) (by decide +kernel)⟩
set_option maxRecDepth 40000 in
theorem ok_Mo_dryFirst : OkV M_Mo_dryFirst 1 := ⟨⟨by decide +kernel, gd (i := 1640) rfl (by decide +kernel), gd (i := 110) (by decide +kernel) (by decide +kernel), by decide +kernel, by decide +kernel, by decide +kernel⟩, gd (i := 1638) (by decide +kernel) (by decide +kernel), gd (i := 1639) (by decide +kernel) (by decide +kernel)⟩
set_option maxRecDepth 40000 in
theorem ok_Mo_dryTwo : OkV M_Mo_dryTwo 1 := ⟨⟨by decide +kernel, gd (i := 1644) rfl (by decide +kernel), gd (i := 110) (by decide +kernel) (by decide +kernel), by decide +kernel, by decide +kernel, by decide +kernel⟩, gd (i := 1642) (by decide +kernel) (by decide +kernel), gd (i := 1643) (by decide +kernel) (by decide +kernel)⟩
set_option maxRecDepth 40000 in
theorem ok_Mo_bribe : OkV M_Mo_bribe 2 := ⟨⟨by decide +kernel, gd (i := 1648) rfl (by decide +kernel), gd (i := 110) (by decide +kernel) (by decide +kernel), by decide +kernel, by decide +kernel, by decide +kernel⟩, gd (i := 1646) (by decide +kernel) (by decide +kernel), gd (i := 1647) (by decide +kernel) (by decide +kernel)⟩
set_option maxRecDepth 40000 in
theorem ok_Mo_weak : OkV M_Mo_weak 2 := ⟨⟨by decide +kernel, gd (i := 1652) rfl (by decide +kernel), gd (i := 110) (by decide +kernel) (by decide +kernel), by decide +kernel, by decide +kernel, by decide +kernel⟩, gd (i := 1650) (by decide +kernel) (by decide +kernel), gd (i := 1651) (by decide +kernel) (by decide +kernel)⟩
set_option maxRecDepth 40000 in
theorem ok_Mo_never : OkV M_Mo_never 1 := ⟨⟨by decide +kernel, gd (i := 1660) rfl (by decide +kernel), gd (i := 110) (by decide +kernel) (by decide +kernel), by decide +kernel, by decide +kernel, by decide +kernel⟩, gd (i := 1658) (by decide +kernel) (by decide +kernel), gd (i := 1659) (by decide +kernel) (by decide +kernel)⟩
set_option maxRecDepth 40000 in
theorem ok_Mo_spread : OkV M_Mo_spread 1 := ⟨⟨by decide +kernel, gd (i := 1664) rfl (by decide +kernel), gd (i := 110) (by decide +kernel) (by decide +kernel), by decide +kernel, by decide +kernel, by decide +kernel⟩, gd (i := 1662) (by decide +kernel) (by decide +kernel), gd (i := 1663) (by decide +kernel) (by decide +kernel)⟩
set_option maxRecDepth 40000 in
theorem ok_Mo_shakeWorst : OkV M_Mo_shakeWorst 2 := ⟨⟨by decide +kernel, gd (i := 1668) rfl (by decide +kernel), gd (i := 110) (by decide +kernel) (by decide +kernel), by decide +kernel, by decide +kernel, by decide +kernel⟩, gd (i := 1666) (by decide +kernel) (by decide +kernel), gd (i := 1667) (by decide +kernel) (by decide +kernel)⟩
set_option maxRecDepth 40000 in
theorem ok_Mo_longest : OkV M_Mo_longest 1 := ⟨⟨by decide +kernel, gd (i := 1672) rfl (by decide +kernel), gd (i := 110) (by decide +kernel) (by decide +kernel), by decide +kernel, by decide +kernel, by decide +kernel⟩, gd (i := 1670) (by decide +kernel) (by decide +kernel), gd (i := 1671) (by decide +kernel) (by decide +kernel)⟩
set_option maxRecDepth 40000 in
theorem ok_Mo_where : OkV M_Mo_where 2 := ⟨⟨by decide +kernel, gd (i := 1676) rfl (by decide +kernel), gd (i := 110) (by decide +kernel) (by decide +kernel), by decide +kernel, by decide +kernel, by decide +kernel⟩, gd (i := 1674) (by decide +kernel) (by decide +kernel), gd (i := 1675) (by decide +kernel) (by decide +kernel)⟩
set_option maxRecDepth 40000 in
theorem ok_Mo_fillsPinches : OkV M_Mo_fillsPinches 2 := ⟨⟨by decide +kernel, gd (i := 1684) rfl (by decide +kernel), gd (i := 110) (by decide +kernel) (by decide +kernel), by decide +kernel, by decide +kernel, by decide +kernel⟩, gd (i := 1683) (by decide +kernel) (by decide +kernel), gd (i := 93) (by decide +kernel) (by decide +kernel)⟩
set_option maxRecDepth 40000 in
theorem ok_Mo_isAllowed : OkV M_Mo_isAllowed 1 := ⟨⟨by decide +kernel, gd (i := 1688) rfl (by decide +kernel), gd (i := 110) (by decide +kernel) (by decide +kernel), by decide +kernel, by decide +kernel, by decide +kernel⟩, gd (i := 1687) (by decide +kernel) (by decide +kernel), gd (i := 94) (by decide +kernel) (by decide +kernel)⟩
set_option maxRecDepth 40000 in
theorem ok_Mo_isResting : OkV M_Mo_isResting 1 := ⟨⟨by decide +kernel, gd (i := 1692) rfl (by decide +kernel), gd (i := 110) (by decide +kernel) (by decide +kernel), by decide +kernel, by decide +kernel, by decide +kernel⟩, gd (i := 1691) (by decide +kernel) (by decide +kernel), gd (i := 95) (by decide +kernel) (by decide +kernel)⟩
set_option maxRecDepth 40000 in
theorem ok_Mo_rests : OkV M_Mo_rests 3 := ⟨⟨by decide +kernel, gd (i := 1680) rfl (by decide +kernel), gd (i := 110) (by decide +kernel) (by decide +kernel), by decide +kernel, by decide +kernel, by decide +kernel⟩, gd (i := 1678) (by decide +kernel) (by decide +kernel), gd (i := 1679) (by decide +kernel) (by decide +kernel)⟩
set_option maxRecDepth 40000 in
theorem ok_Mo_tell_ : OkV M_Mo_tell_ 2 := ⟨⟨by decide +kernel, gd (i := 1696) rfl (by decide +kernel), gd (i := 110) (by decide +kernel) (by decide +kernel), by decide +kernel, by decide +kernel, by decide +kernel⟩, gd (i := 1694) (by decide +kernel) (by decide +kernel), gd (i := 1695) (by decide +kernel) (by decide +kernel)⟩
set_option maxRecDepth 40000 in
theorem ok_Mo_forget : OkV M_Mo_forget 0 := ⟨⟨by decide +kernel, gd (i := 1700) rfl (by decide +kernel), gd (i := 110) (by decide +kernel) (by decide +kernel), by decide +kernel, by decide +kernel, by decide +kernel⟩, gd (i := 1698) (by decide +kernel) (by decide +kernel), gd (i := 1699) (by decide +kernel) (by decide +kernel)⟩
set_option maxRecDepth 40000 in
theorem ok_Mo_isSo : OkV M_Mo_isSo 3 := ⟨⟨by decide +kernel, gd (i := 1708) rfl (by decide +kernel), gd (i := 110) (by decide +kernel) (by decide +kernel), by decide +kernel, by decide +kernel, by decide +kernel⟩, gd (i := 1707) (by decide +kernel) (by decide +kernel), gd (i := 96) (by decide +kernel) (by decide +kernel)⟩
set_option maxRecDepth 40000 in
theorem ok_Mo_tampered : OkV M_Mo_tampered 3 := ⟨⟨by decide +kernel, gd (i := 1704) rfl (by decide +kernel), gd (i := 110) (by decide +kernel) (by decide +kernel), by decide +kernel, by decide +kernel, by decide +kernel⟩, gd (i := 1702) (by decide +kernel) (by decide +kernel), gd (i := 1703) (by decide +kernel) (by decide +kernel)⟩
set_option maxRecDepth 40000 in
theorem ok_Mo_hold : OkV M_Mo_hold 1 := ⟨⟨by decide +kernel, gd (i := 1712) rfl (by decide +kernel), gd (i := 110) (by decide +kernel) (by decide +kernel), by decide +kernel, by decide +kernel, by decide +kernel⟩, gd (i := 1710) (by decide +kernel) (by decide +kernel), gd (i := 1711) (by decide +kernel) (by decide +kernel)⟩
set_option maxRecDepth 40000 in
theorem ok_Mo_restore : OkV M_Mo_restore 1 := ⟨⟨by decide +kernel, gd (i := 1716) rfl (by decide +kernel), gd (i := 110) (by decide +kernel) (by decide +kernel), by decide +kernel, by decide +kernel, by decide +kernel⟩, gd (i := 1714) (by decide +kernel) (by decide +kernel), gd (i := 1715) (by decide +kernel) (by decide +kernel)⟩
set_option maxRecDepth 40000 in
theorem ok_Mo_count : OkV M_Mo_count 1 := ⟨⟨by decide +kernel, gd (i := 1720) rfl (by decide +kernel), gd (i := 110) (by decide +kernel) (by decide +kernel), by decide +kernel, by decide +kernel, by decide +kernel⟩, gd (i := 1718) (by decide +kernel) (by decide +kernel), gd (i := 1719) (by decide +kernel) (by decide +kernel)⟩
theorem fl_Sg_10 : FL "SandGuards" 10 11 0 := ⟨_, _, _, k_Sg, by decide, gd (i := 566) (by decide +kernel) (by decide +kernel)⟩
theorem fl_Sg_19 : FL "SandGuards" 19 11 1 := ⟨_, _, _, k_Sg, by decide, gd (i := 567) (by decide +kernel) (by decide +kernel)⟩
theorem fl_Sg_26 : FL "SandGuards" 26 11 2 := ⟨_, _, _, k_Sg, by decide, gd (i := 568) (by decide +kernel) (by decide +kernel)⟩
theorem fl_Sg_33 : FL "SandGuards" 33 11 3 := ⟨_, _, _, k_Sg, by decide, gd (i := 569) (by decide +kernel) (by decide +kernel)⟩
theorem fl_Sg_37 : FL "SandGuards" 37 11 4 := ⟨_, _, _, k_Sg, by decide, gd (i := 570) (by decide +kernel) (by decide +kernel)⟩
theorem fl_Sg_43 : FL "SandGuards" 43 11 5 := ⟨_, _, _, k_Sg, by decide, gd (i := 571) (by decide +kernel) (by decide +kernel)⟩
theorem fl_Sg_47 : FL "SandGuards" 47 11 6 := ⟨_, _, _, k_Sg, by decide, gd (i := 572) (by decide +kernel) (by decide +kernel)⟩
theorem fl_Sg_51 : FL "SandGuards" 51 11 7 := ⟨_, _, _, k_Sg, by decide, gd (i := 573) (by decide +kernel) (by decide +kernel)⟩
theorem fl_Sg_58 : FL "SandGuards" 58 11 8 := ⟨_, _, _, k_Sg, by decide, gd (i := 574) (by decide +kernel) (by decide +kernel)⟩
theorem fl_Sg_65 : FL "SandGuards" 65 11 9 := ⟨_, _, _, k_Sg, by decide, gd (i := 575) (by decide +kernel) (by decide +kernel)⟩
theorem fl_Sg_72 : FL "SandGuards" 72 11 10 := ⟨_, _, _, k_Sg, by decide, gd (i := 576) (by decide +kernel) (by decide +kernel)⟩
theorem fl_Sg_79 : FL "SandGuards" 79 11 11 := ⟨_, _, _, k_Sg, by decide, gd (i := 577) (by decide +kernel) (by decide +kernel)⟩
theorem fl_Sg_83 : FL "SandGuards" 83 11 12 := ⟨_, _, _, k_Sg, by decide, gd (i := 578) (by decide +kernel) (by decide +kernel)⟩
theorem fp_Sg_83 : FP "SandGuards" 83 11 12 .int := ⟨_, _, _, k_Sg, by decide, gd (i := 578) (by decide +kernel) (by decide +kernel), rfl, by decide +kernel⟩
theorem fl_Sg_95 : FL "SandGuards" 95 9 1 := ⟨_, _, _, k_Ta, by decide, gd (i := 131) (by decide +kernel) (by decide +kernel)⟩
theorem fp_Sg_95 : FP "SandGuards" 95 9 1 .int := ⟨_, _, _, k_Ta, by decide, gd (i := 131) (by decide +kernel) (by decide +kernel), rfl, by decide +kernel⟩
theorem fl_Sg_102 : FL "SandGuards" 102 7 2 := ⟨_, _, _, k_Re, by decide, gd (i := 356) (by decide +kernel) (by decide +kernel)⟩
theorem fl_Sg_108 : FL "SandGuards" 108 7 0 := ⟨_, _, _, k_Re, by decide, gd (i := 352) (by decide +kernel) (by decide +kernel)⟩
theorem fl_Sg_113 : FL "SandGuards" 113 7 1 := ⟨_, _, _, k_Re, by decide, gd (i := 354) (by decide +kernel) (by decide +kernel)⟩
theorem fl_Sg_119 : FL "SandGuards" 119 3 0 := ⟨_, _, _, k_Hi, by decide, gd (i := 420) (by decide +kernel) (by decide +kernel)⟩
theorem fp_Sg_119 : FP "SandGuards" 119 3 0 .int := ⟨_, _, _, k_Hi, by decide, gd (i := 420) (by decide +kernel) (by decide +kernel), rfl, by decide +kernel⟩
theorem fl_Sg_129 : FL "SandGuards" 129 0 0 := ⟨_, _, _, k_Ca, by decide, gd (i := 256) (by decide +kernel) (by decide +kernel)⟩
theorem fl_Sg_133 : FL "SandGuards" 133 0 1 := ⟨_, _, _, k_Ca, by decide, gd (i := 260) (by decide +kernel) (by decide +kernel)⟩
theorem fl_Sg_136 : FL "SandGuards" 136 0 2 := ⟨_, _, _, k_Ca, by decide, gd (i := 264) (by decide +kernel) (by decide +kernel)⟩
theorem fl_Sg_139 : FL "SandGuards" 139 0 3 := ⟨_, _, _, k_Ca, by decide, gd (i := 268) (by decide +kernel) (by decide +kernel)⟩
theorem fl_Sg_142 : FL "SandGuards" 142 0 4 := ⟨_, _, _, k_Ca, by decide, gd (i := 270) (by decide +kernel) (by decide +kernel)⟩
theorem fl_Sg_145 : FL "SandGuards" 145 0 12 := ⟨_, _, _, k_Ca, by decide, gd (i := 291) (by decide +kernel) (by decide +kernel)⟩
theorem fl_Sg_156 : FL "SandGuards" 156 0 5 := ⟨_, _, _, k_Ca, by decide, gd (i := 272) (by decide +kernel) (by decide +kernel)⟩
theorem fl_Sg_162 : FL "SandGuards" 162 0 6 := ⟨_, _, _, k_Ca, by decide, gd (i := 275) (by decide +kernel) (by decide +kernel)⟩
theorem fl_Sg_165 : FL "SandGuards" 165 0 7 := ⟨_, _, _, k_Ca, by decide, gd (i := 279) (by decide +kernel) (by decide +kernel)⟩
theorem fl_Sg_168 : FL "SandGuards" 168 0 8 := ⟨_, _, _, k_Ca, by decide, gd (i := 281) (by decide +kernel) (by decide +kernel)⟩
theorem fl_Sg_174 : FL "SandGuards" 174 0 9 := ⟨_, _, _, k_Ca, by decide, gd (i := 284) (by decide +kernel) (by decide +kernel)⟩
theorem fl_Sg_206 : FL "SandGuards" 206 5 0 := ⟨_, _, _, k_Ou, by decide, gd (i := 439) (by decide +kernel) (by decide +kernel)⟩
theorem fl_Sg_221 : FL "SandGuards" 221 1 0 := ⟨_, _, _, k_Dr, by decide, gd (i := 460) (by decide +kernel) (by decide +kernel)⟩
theorem fl_Sg_224 : FL "SandGuards" 224 1 1 := ⟨_, _, _, k_Dr, by decide, gd (i := 462) (by decide +kernel) (by decide +kernel)⟩
theorem fl_Sg_231 : FL "SandGuards" 231 1 2 := ⟨_, _, _, k_Dr, by decide, gd (i := 464) (by decide +kernel) (by decide +kernel)⟩
theorem fl_Sg_234 : FL "SandGuards" 234 1 3 := ⟨_, _, _, k_Dr, by decide, gd (i := 466) (by decide +kernel) (by decide +kernel)⟩
theorem fl_Sg_241 : FL "SandGuards" 241 6 4 := ⟨_, _, _, k_Pl, by decide, gd (i := 209) (by decide +kernel) (by decide +kernel)⟩
theorem fl_Sg_244 : FL "SandGuards" 244 6 3 := ⟨_, _, _, k_Pl, by decide, gd (i := 204) (by decide +kernel) (by decide +kernel)⟩
theorem fl_Sg_260 : FL "SandGuards" 260 5 1 := ⟨_, _, _, k_Ou, by decide, gd (i := 441) (by decide +kernel) (by decide +kernel)⟩
theorem fl_Sg_263 : FL "SandGuards" 263 5 2 := ⟨_, _, _, k_Ou, by decide, gd (i := 443) (by decide +kernel) (by decide +kernel)⟩
theorem fl_Sg_276 : FL "SandGuards" 276 2 1 := ⟨_, _, _, k_Ga, by decide, gd (i := 502) (by decide +kernel) (by decide +kernel)⟩
theorem fl_Sg_277 : FL "SandGuards" 277 2 0 := ⟨_, _, _, k_Ga, by decide, gd (i := 500) (by decide +kernel) (by decide +kernel)⟩
theorem fl_Sg_283 : FL "SandGuards" 283 8 2 := ⟨_, _, _, k_Ru, by decide, gd (i := 537) (by decide +kernel) (by decide +kernel)⟩
theorem fl_Sg_289 : FL "SandGuards" 289 8 1 := ⟨_, _, _, k_Ru, by decide, gd (i := 535) (by decide +kernel) (by decide +kernel)⟩
theorem fl_Sg_290 : FL "SandGuards" 290 8 0 := ⟨_, _, _, k_Ru, by decide, gd (i := 533) (by decide +kernel) (by decide +kernel)⟩
theorem fl_Sg_293 : FL "SandGuards" 293 0 11 := ⟨_, _, _, k_Ca, by decide, gd (i := 287) (by decide +kernel) (by decide +kernel)⟩
theorem fl_Sg_299 : FL "SandGuards" 299 6 6 := ⟨_, _, _, k_Pl, by decide, gd (i := 217) (by decide +kernel) (by decide +kernel)⟩
theorem fl_Sg_302 : FL "SandGuards" 302 6 5 := ⟨_, _, _, k_Pl, by decide, gd (i := 213) (by decide +kernel) (by decide +kernel)⟩
theorem fl_Sg_321 : FL "SandGuards" 321 2 2 := ⟨_, _, _, k_Ga, by decide, gd (i := 504) (by decide +kernel) (by decide +kernel)⟩
theorem fp_Sg_321 : FP "SandGuards" 321 2 2 .boolean := ⟨_, _, _, k_Ga, by decide, gd (i := 504) (by decide +kernel) (by decide +kernel), rfl, by decide +kernel⟩
theorem fl_Ca_9 : FL "SandGuards$Castle" 9 0 0 := ⟨_, _, _, k_Ca, by decide, gd (i := 250) (by decide +kernel) (by decide +kernel)⟩
theorem fl_Ca_15 : FL "SandGuards$Castle" 15 0 1 := ⟨_, _, _, k_Ca, by decide, gd (i := 257) (by decide +kernel) (by decide +kernel)⟩
theorem fl_Ca_18 : FL "SandGuards$Castle" 18 0 2 := ⟨_, _, _, k_Ca, by decide, gd (i := 261) (by decide +kernel) (by decide +kernel)⟩
theorem fl_Ca_21 : FL "SandGuards$Castle" 21 0 3 := ⟨_, _, _, k_Ca, by decide, gd (i := 265) (by decide +kernel) (by decide +kernel)⟩
theorem fl_Ca_25 : FL "SandGuards$Castle" 25 0 4 := ⟨_, _, _, k_Ca, by decide, gd (i := 269) (by decide +kernel) (by decide +kernel)⟩
theorem fl_Ca_28 : FL "SandGuards$Castle" 28 0 5 := ⟨_, _, _, k_Ca, by decide, gd (i := 271) (by decide +kernel) (by decide +kernel)⟩
theorem fl_Ca_31 : FL "SandGuards$Castle" 31 0 6 := ⟨_, _, _, k_Ca, by decide, gd (i := 273) (by decide +kernel) (by decide +kernel)⟩
theorem fl_Ca_34 : FL "SandGuards$Castle" 34 0 7 := ⟨_, _, _, k_Ca, by decide, gd (i := 276) (by decide +kernel) (by decide +kernel)⟩
theorem fl_Ca_37 : FL "SandGuards$Castle" 37 0 8 := ⟨_, _, _, k_Ca, by decide, gd (i := 280) (by decide +kernel) (by decide +kernel)⟩
theorem fl_Ca_40 : FL "SandGuards$Castle" 40 0 9 := ⟨_, _, _, k_Ca, by decide, gd (i := 282) (by decide +kernel) (by decide +kernel)⟩
theorem fl_Ca_43 : FL "SandGuards$Castle" 43 0 10 := ⟨_, _, _, k_Ca, by decide, gd (i := 285) (by decide +kernel) (by decide +kernel)⟩
theorem fl_Ca_46 : FL "SandGuards$Castle" 46 0 14 := ⟨_, _, _, k_Ca, by decide, gd (i := 294) (by decide +kernel) (by decide +kernel)⟩
theorem fl_Ca_52 : FL "SandGuards$Castle" 52 0 11 := ⟨_, _, _, k_Ca, by decide, gd (i := 286) (by decide +kernel) (by decide +kernel)⟩
theorem fp_Ca_52 : FP "SandGuards$Castle" 52 0 11 .int := ⟨_, _, _, k_Ca, by decide, gd (i := 286) (by decide +kernel) (by decide +kernel), rfl, by decide +kernel⟩
theorem fl_Ca_62 : FL "SandGuards$Castle" 62 0 12 := ⟨_, _, _, k_Ca, by decide, gd (i := 289) (by decide +kernel) (by decide +kernel)⟩
theorem fp_Ca_62 : FP "SandGuards$Castle" 62 0 12 .int := ⟨_, _, _, k_Ca, by decide, gd (i := 289) (by decide +kernel) (by decide +kernel), rfl, by decide +kernel⟩
theorem fl_Ca_75 : FL "SandGuards$Castle" 75 6 5 := ⟨_, _, _, k_Pl, by decide, gd (i := 211) (by decide +kernel) (by decide +kernel)⟩
theorem fl_Ca_86 : FL "SandGuards$Castle" 86 6 3 := ⟨_, _, _, k_Pl, by decide, gd (i := 202) (by decide +kernel) (by decide +kernel)⟩
theorem fl_Ca_96 : FL "SandGuards$Castle" 96 0 13 := ⟨_, _, _, k_Ca, by decide, gd (i := 292) (by decide +kernel) (by decide +kernel)⟩
theorem fp_Ca_96 : FP "SandGuards$Castle" 96 0 13 .int := ⟨_, _, _, k_Ca, by decide, gd (i := 292) (by decide +kernel) (by decide +kernel), rfl, by decide +kernel⟩
theorem fl_Ca_99 : FL "SandGuards$Castle" 99 6 4 := ⟨_, _, _, k_Pl, by decide, gd (i := 207) (by decide +kernel) (by decide +kernel)⟩
theorem fl_Ca_120 : FL "SandGuards$Castle" 120 6 2 := ⟨_, _, _, k_Pl, by decide, gd (i := 195) (by decide +kernel) (by decide +kernel)⟩
theorem fl_Ca_124 : FL "SandGuards$Castle" 124 4 0 := ⟨_, _, _, k_La, by decide, gd (i := 159) (by decide +kernel) (by decide +kernel)⟩
theorem fl_Ca_152 : FL "SandGuards$Castle" 152 6 6 := ⟨_, _, _, k_Pl, by decide, gd (i := 216) (by decide +kernel) (by decide +kernel)⟩
theorem fl_Dr_12 : FL "SandGuards$Dryings" 12 1 4 := ⟨_, _, _, k_Dr, by decide, gd (i := 467) (by decide +kernel) (by decide +kernel)⟩
theorem fl_Dr_18 : FL "SandGuards$Dryings" 18 1 6 := ⟨_, _, _, k_Dr, by decide, gd (i := 469) (by decide +kernel) (by decide +kernel)⟩
theorem fp_Dr_18 : FP "SandGuards$Dryings" 18 1 6 .boolean := ⟨_, _, _, k_Dr, by decide, gd (i := 469) (by decide +kernel) (by decide +kernel), rfl, by decide +kernel⟩
theorem fl_Dr_22 : FL "SandGuards$Dryings" 22 1 7 := ⟨_, _, _, k_Dr, by decide, gd (i := 470) (by decide +kernel) (by decide +kernel)⟩
theorem fp_Dr_22 : FP "SandGuards$Dryings" 22 1 7 .boolean := ⟨_, _, _, k_Dr, by decide, gd (i := 470) (by decide +kernel) (by decide +kernel), rfl, by decide +kernel⟩
theorem fl_Dr_25 : FL "SandGuards$Dryings" 25 1 8 := ⟨_, _, _, k_Dr, by decide, gd (i := 471) (by decide +kernel) (by decide +kernel)⟩
theorem fp_Dr_25 : FP "SandGuards$Dryings" 25 1 8 .boolean := ⟨_, _, _, k_Dr, by decide, gd (i := 471) (by decide +kernel) (by decide +kernel), rfl, by decide +kernel⟩
theorem fl_Dr_36 : FL "SandGuards$Dryings" 36 1 5 := ⟨_, _, _, k_Dr, by decide, gd (i := 468) (by decide +kernel) (by decide +kernel)⟩
theorem fp_Dr_36 : FP "SandGuards$Dryings" 36 1 5 .int := ⟨_, _, _, k_Dr, by decide, gd (i := 468) (by decide +kernel) (by decide +kernel), rfl, by decide +kernel⟩
theorem fl_Dr_40 : FL "SandGuards$Dryings" 40 1 0 := ⟨_, _, _, k_Dr, by decide, gd (i := 459) (by decide +kernel) (by decide +kernel)⟩
theorem fp_Dr_40 : FP "SandGuards$Dryings" 40 1 0 .int := ⟨_, _, _, k_Dr, by decide, gd (i := 459) (by decide +kernel) (by decide +kernel), rfl, by decide +kernel⟩
theorem fl_Dr_43 : FL "SandGuards$Dryings" 43 1 1 := ⟨_, _, _, k_Dr, by decide, gd (i := 461) (by decide +kernel) (by decide +kernel)⟩
theorem fp_Dr_43 : FP "SandGuards$Dryings" 43 1 1 .int := ⟨_, _, _, k_Dr, by decide, gd (i := 461) (by decide +kernel) (by decide +kernel), rfl, by decide +kernel⟩
theorem fl_Dr_46 : FL "SandGuards$Dryings" 46 6 3 := ⟨_, _, _, k_Pl, by decide, gd (i := 200) (by decide +kernel) (by decide +kernel)⟩
theorem fl_Dr_51 : FL "SandGuards$Dryings" 51 6 7 := ⟨_, _, _, k_Pl, by decide, gd (i := 219) (by decide +kernel) (by decide +kernel)⟩
theorem fl_Dr_54 : FL "SandGuards$Dryings" 54 0 3 := ⟨_, _, _, k_Ca, by decide, gd (i := 266) (by decide +kernel) (by decide +kernel)⟩
theorem fl_Dr_66 : FL "SandGuards$Dryings" 66 1 2 := ⟨_, _, _, k_Dr, by decide, gd (i := 463) (by decide +kernel) (by decide +kernel)⟩
theorem fp_Dr_66 : FP "SandGuards$Dryings" 66 1 2 .int := ⟨_, _, _, k_Dr, by decide, gd (i := 463) (by decide +kernel) (by decide +kernel), rfl, by decide +kernel⟩
theorem fl_Dr_69 : FL "SandGuards$Dryings" 69 1 3 := ⟨_, _, _, k_Dr, by decide, gd (i := 465) (by decide +kernel) (by decide +kernel)⟩
theorem fp_Dr_69 : FP "SandGuards$Dryings" 69 1 3 .int := ⟨_, _, _, k_Dr, by decide, gd (i := 465) (by decide +kernel) (by decide +kernel), rfl, by decide +kernel⟩
theorem fl_Ga_11 : FL "SandGuards$Game" 11 2 0 := ⟨_, _, _, k_Ga, by decide, gd (i := 499) (by decide +kernel) (by decide +kernel)⟩
theorem fl_Ga_18 : FL "SandGuards$Game" 18 2 3 := ⟨_, _, _, k_Ga, by decide, gd (i := 505) (by decide +kernel) (by decide +kernel)⟩
theorem fl_Ga_22 : FL "SandGuards$Game" 22 2 4 := ⟨_, _, _, k_Ga, by decide, gd (i := 506) (by decide +kernel) (by decide +kernel)⟩
theorem fl_Ga_25 : FL "SandGuards$Game" 25 2 2 := ⟨_, _, _, k_Ga, by decide, gd (i := 503) (by decide +kernel) (by decide +kernel)⟩
theorem fp_Ga_25 : FP "SandGuards$Game" 25 2 2 .boolean := ⟨_, _, _, k_Ga, by decide, gd (i := 503) (by decide +kernel) (by decide +kernel), rfl, by decide +kernel⟩
theorem fl_Ga_29 : FL "SandGuards$Game" 29 2 5 := ⟨_, _, _, k_Ga, by decide, gd (i := 507) (by decide +kernel) (by decide +kernel)⟩
theorem fp_Ga_29 : FP "SandGuards$Game" 29 2 5 .int := ⟨_, _, _, k_Ga, by decide, gd (i := 507) (by decide +kernel) (by decide +kernel), rfl, by decide +kernel⟩
theorem fl_Ga_33 : FL "SandGuards$Game" 33 2 6 := ⟨_, _, _, k_Ga, by decide, gd (i := 508) (by decide +kernel) (by decide +kernel)⟩
theorem fp_Ga_33 : FP "SandGuards$Game" 33 2 6 .int := ⟨_, _, _, k_Ga, by decide, gd (i := 508) (by decide +kernel) (by decide +kernel), rfl, by decide +kernel⟩
theorem fl_Ga_40 : FL "SandGuards$Game" 40 6 3 := ⟨_, _, _, k_Pl, by decide, gd (i := 198) (by decide +kernel) (by decide +kernel)⟩
theorem fl_Ga_61 : FL "SandGuards$Game" 61 2 1 := ⟨_, _, _, k_Ga, by decide, gd (i := 501) (by decide +kernel) (by decide +kernel)⟩
theorem fp_Ga_61 : FP "SandGuards$Game" 61 2 1 .int := ⟨_, _, _, k_Ga, by decide, gd (i := 501) (by decide +kernel) (by decide +kernel), rfl, by decide +kernel⟩
theorem fl_Ga_68 : FL "SandGuards$Game" 68 0 2 := ⟨_, _, _, k_Ca, by decide, gd (i := 262) (by decide +kernel) (by decide +kernel)⟩
theorem fl_Ga_71 : FL "SandGuards$Game" 71 0 0 := ⟨_, _, _, k_Ca, by decide, gd (i := 252) (by decide +kernel) (by decide +kernel)⟩
theorem fl_Ga_83 : FL "SandGuards$Game" 83 0 7 := ⟨_, _, _, k_Ca, by decide, gd (i := 277) (by decide +kernel) (by decide +kernel)⟩
theorem fl_Hi_11 : FL "SandGuards$History" 11 3 1 := ⟨_, _, _, k_Hi, by decide, gd (i := 421) (by decide +kernel) (by decide +kernel)⟩
theorem fl_Hi_16 : FL "SandGuards$History" 16 3 2 := ⟨_, _, _, k_Hi, by decide, gd (i := 422) (by decide +kernel) (by decide +kernel)⟩
theorem fp_Hi_16 : FP "SandGuards$History" 16 3 2 .int := ⟨_, _, _, k_Hi, by decide, gd (i := 422) (by decide +kernel) (by decide +kernel), rfl, by decide +kernel⟩
theorem fl_Hi_24 : FL "SandGuards$History" 24 3 0 := ⟨_, _, _, k_Hi, by decide, gd (i := 419) (by decide +kernel) (by decide +kernel)⟩
theorem fp_Hi_24 : FP "SandGuards$History" 24 3 0 .int := ⟨_, _, _, k_Hi, by decide, gd (i := 419) (by decide +kernel) (by decide +kernel), rfl, by decide +kernel⟩
theorem fl_La_11 : FL "SandGuards$Law" 11 4 2 := ⟨_, _, _, k_La, by decide, gd (i := 162) (by decide +kernel) (by decide +kernel)⟩
theorem fl_La_15 : FL "SandGuards$Law" 15 4 3 := ⟨_, _, _, k_La, by decide, gd (i := 163) (by decide +kernel) (by decide +kernel)⟩
theorem fl_La_18 : FL "SandGuards$Law" 18 4 4 := ⟨_, _, _, k_La, by decide, gd (i := 164) (by decide +kernel) (by decide +kernel)⟩
theorem fl_La_21 : FL "SandGuards$Law" 21 4 5 := ⟨_, _, _, k_La, by decide, gd (i := 165) (by decide +kernel) (by decide +kernel)⟩
theorem fl_La_24 : FL "SandGuards$Law" 24 4 6 := ⟨_, _, _, k_La, by decide, gd (i := 166) (by decide +kernel) (by decide +kernel)⟩
theorem fl_La_27 : FL "SandGuards$Law" 27 4 7 := ⟨_, _, _, k_La, by decide, gd (i := 167) (by decide +kernel) (by decide +kernel)⟩
theorem fp_La_27 : FP "SandGuards$Law" 27 4 7 .int := ⟨_, _, _, k_La, by decide, gd (i := 167) (by decide +kernel) (by decide +kernel), rfl, by decide +kernel⟩
theorem fl_La_31 : FL "SandGuards$Law" 31 4 8 := ⟨_, _, _, k_La, by decide, gd (i := 168) (by decide +kernel) (by decide +kernel)⟩
theorem fp_La_31 : FP "SandGuards$Law" 31 4 8 .int := ⟨_, _, _, k_La, by decide, gd (i := 168) (by decide +kernel) (by decide +kernel), rfl, by decide +kernel⟩
theorem fl_La_34 : FL "SandGuards$Law" 34 4 0 := ⟨_, _, _, k_La, by decide, gd (i := 156) (by decide +kernel) (by decide +kernel)⟩
theorem fp_La_34 : FP "SandGuards$Law" 34 4 0 .boolean := ⟨_, _, _, k_La, by decide, gd (i := 156) (by decide +kernel) (by decide +kernel), rfl, by decide +kernel⟩
theorem fl_La_38 : FL "SandGuards$Law" 38 4 1 := ⟨_, _, _, k_La, by decide, gd (i := 160) (by decide +kernel) (by decide +kernel)⟩
theorem fp_La_38 : FP "SandGuards$Law" 38 4 1 .boolean := ⟨_, _, _, k_La, by decide, gd (i := 160) (by decide +kernel) (by decide +kernel), rfl, by decide +kernel⟩
theorem fl_Ou_12 : FL "SandGuards$Outlook" 12 5 0 := ⟨_, _, _, k_Ou, by decide, gd (i := 438) (by decide +kernel) (by decide +kernel)⟩
theorem fl_Ou_26 : FL "SandGuards$Outlook" 26 0 0 := ⟨_, _, _, k_Ca, by decide, gd (i := 251) (by decide +kernel) (by decide +kernel)⟩
theorem fl_Ou_30 : FL "SandGuards$Outlook" 30 0 12 := ⟨_, _, _, k_Ca, by decide, gd (i := 288) (by decide +kernel) (by decide +kernel)⟩
theorem fp_Ou_30 : FP "SandGuards$Outlook" 30 0 12 .int := ⟨_, _, _, k_Ca, by decide, gd (i := 288) (by decide +kernel) (by decide +kernel), rfl, by decide +kernel⟩
theorem fl_Ou_48 : FL "SandGuards$Outlook" 48 0 9 := ⟨_, _, _, k_Ca, by decide, gd (i := 283) (by decide +kernel) (by decide +kernel)⟩
theorem fl_Ou_61 : FL "SandGuards$Outlook" 61 0 6 := ⟨_, _, _, k_Ca, by decide, gd (i := 274) (by decide +kernel) (by decide +kernel)⟩
theorem fl_Ou_64 : FL "SandGuards$Outlook" 64 6 2 := ⟨_, _, _, k_Pl, by decide, gd (i := 194) (by decide +kernel) (by decide +kernel)⟩
theorem fl_Ou_68 : FL "SandGuards$Outlook" 68 4 0 := ⟨_, _, _, k_La, by decide, gd (i := 158) (by decide +kernel) (by decide +kernel)⟩
theorem fl_Ou_85 : FL "SandGuards$Outlook" 85 6 4 := ⟨_, _, _, k_Pl, by decide, gd (i := 208) (by decide +kernel) (by decide +kernel)⟩
theorem fl_Ou_88 : FL "SandGuards$Outlook" 88 0 7 := ⟨_, _, _, k_Ca, by decide, gd (i := 278) (by decide +kernel) (by decide +kernel)⟩
theorem fl_Ou_94 : FL "SandGuards$Outlook" 94 5 1 := ⟨_, _, _, k_Ou, by decide, gd (i := 440) (by decide +kernel) (by decide +kernel)⟩
theorem fp_Ou_94 : FP "SandGuards$Outlook" 94 5 1 .int := ⟨_, _, _, k_Ou, by decide, gd (i := 440) (by decide +kernel) (by decide +kernel), rfl, by decide +kernel⟩
theorem fl_Ou_97 : FL "SandGuards$Outlook" 97 5 2 := ⟨_, _, _, k_Ou, by decide, gd (i := 442) (by decide +kernel) (by decide +kernel)⟩
theorem fp_Ou_97 : FP "SandGuards$Outlook" 97 5 2 .int := ⟨_, _, _, k_Ou, by decide, gd (i := 442) (by decide +kernel) (by decide +kernel), rfl, by decide +kernel⟩
theorem fl_Ou_100 : FL "SandGuards$Outlook" 100 6 3 := ⟨_, _, _, k_Pl, by decide, gd (i := 203) (by decide +kernel) (by decide +kernel)⟩
theorem fl_Pl_9 : FL "SandGuards$Plan" 9 6 0 := ⟨_, _, _, k_Pl, by decide, gd (i := 189) (by decide +kernel) (by decide +kernel)⟩
theorem fl_Pl_15 : FL "SandGuards$Plan" 15 6 1 := ⟨_, _, _, k_Pl, by decide, gd (i := 191) (by decide +kernel) (by decide +kernel)⟩
theorem fl_Pl_21 : FL "SandGuards$Plan" 21 6 2 := ⟨_, _, _, k_Pl, by decide, gd (i := 193) (by decide +kernel) (by decide +kernel)⟩
theorem fl_Pl_25 : FL "SandGuards$Plan" 25 6 6 := ⟨_, _, _, k_Pl, by decide, gd (i := 214) (by decide +kernel) (by decide +kernel)⟩
theorem fp_Pl_25 : FP "SandGuards$Plan" 25 6 6 .int := ⟨_, _, _, k_Pl, by decide, gd (i := 214) (by decide +kernel) (by decide +kernel), rfl, by decide +kernel⟩
theorem fl_Pl_29 : FL "SandGuards$Plan" 29 6 8 := ⟨_, _, _, k_Pl, by decide, gd (i := 220) (by decide +kernel) (by decide +kernel)⟩
theorem fl_Pl_32 : FL "SandGuards$Plan" 32 6 3 := ⟨_, _, _, k_Pl, by decide, gd (i := 197) (by decide +kernel) (by decide +kernel)⟩
theorem fp_Pl_32 : FP "SandGuards$Plan" 32 6 3 .int := ⟨_, _, _, k_Pl, by decide, gd (i := 197) (by decide +kernel) (by decide +kernel), rfl, by decide +kernel⟩
theorem fl_Pl_35 : FL "SandGuards$Plan" 35 6 4 := ⟨_, _, _, k_Pl, by decide, gd (i := 205) (by decide +kernel) (by decide +kernel)⟩
theorem fp_Pl_35 : FP "SandGuards$Plan" 35 6 4 .int := ⟨_, _, _, k_Pl, by decide, gd (i := 205) (by decide +kernel) (by decide +kernel), rfl, by decide +kernel⟩
theorem fl_Pl_38 : FL "SandGuards$Plan" 38 6 5 := ⟨_, _, _, k_Pl, by decide, gd (i := 210) (by decide +kernel) (by decide +kernel)⟩
theorem fp_Pl_38 : FP "SandGuards$Plan" 38 6 5 .int := ⟨_, _, _, k_Pl, by decide, gd (i := 210) (by decide +kernel) (by decide +kernel), rfl, by decide +kernel⟩
theorem fl_Pl_48 : FL "SandGuards$Plan" 48 4 1 := ⟨_, _, _, k_La, by decide, gd (i := 161) (by decide +kernel) (by decide +kernel)⟩
theorem fl_Pl_52 : FL "SandGuards$Plan" 52 6 7 := ⟨_, _, _, k_Pl, by decide, gd (i := 218) (by decide +kernel) (by decide +kernel)⟩
theorem fp_Pl_52 : FP "SandGuards$Plan" 52 6 7 .boolean := ⟨_, _, _, k_Pl, by decide, gd (i := 218) (by decide +kernel) (by decide +kernel), rfl, by decide +kernel⟩
theorem fl_Pl_55 : FL "SandGuards$Plan" 55 4 0 := ⟨_, _, _, k_La, by decide, gd (i := 157) (by decide +kernel) (by decide +kernel)⟩
theorem fl_Pl_72 : FL "SandGuards$Plan" 72 0 0 := ⟨_, _, _, k_Ca, by decide, gd (i := 255) (by decide +kernel) (by decide +kernel)⟩
theorem fl_Pl_77 : FL "SandGuards$Plan" 77 0 3 := ⟨_, _, _, k_Ca, by decide, gd (i := 267) (by decide +kernel) (by decide +kernel)⟩
theorem fl_Pl_81 : FL "SandGuards$Plan" 81 0 1 := ⟨_, _, _, k_Ca, by decide, gd (i := 259) (by decide +kernel) (by decide +kernel)⟩
theorem fl_Pl_84 : FL "SandGuards$Plan" 84 0 12 := ⟨_, _, _, k_Ca, by decide, gd (i := 290) (by decide +kernel) (by decide +kernel)⟩
theorem fl_Re_14 : FL "SandGuards$Reader" 14 7 0 := ⟨_, _, _, k_Re, by decide, gd (i := 351) (by decide +kernel) (by decide +kernel)⟩
theorem fl_Re_21 : FL "SandGuards$Reader" 21 7 1 := ⟨_, _, _, k_Re, by decide, gd (i := 353) (by decide +kernel) (by decide +kernel)⟩
theorem fl_Re_28 : FL "SandGuards$Reader" 28 7 3 := ⟨_, _, _, k_Re, by decide, gd (i := 357) (by decide +kernel) (by decide +kernel)⟩
theorem fl_Re_32 : FL "SandGuards$Reader" 32 7 4 := ⟨_, _, _, k_Re, by decide, gd (i := 358) (by decide +kernel) (by decide +kernel)⟩
theorem fl_Re_36 : FL "SandGuards$Reader" 36 7 5 := ⟨_, _, _, k_Re, by decide, gd (i := 359) (by decide +kernel) (by decide +kernel)⟩
theorem fl_Re_39 : FL "SandGuards$Reader" 39 7 6 := ⟨_, _, _, k_Re, by decide, gd (i := 360) (by decide +kernel) (by decide +kernel)⟩
theorem fl_Re_43 : FL "SandGuards$Reader" 43 7 8 := ⟨_, _, _, k_Re, by decide, gd (i := 362) (by decide +kernel) (by decide +kernel)⟩
theorem fl_Re_56 : FL "SandGuards$Reader" 56 7 10 := ⟨_, _, _, k_Re, by decide, gd (i := 364) (by decide +kernel) (by decide +kernel)⟩
theorem fp_Re_56 : FP "SandGuards$Reader" 56 7 10 .int := ⟨_, _, _, k_Re, by decide, gd (i := 364) (by decide +kernel) (by decide +kernel), rfl, by decide +kernel⟩
theorem fl_Re_60 : FL "SandGuards$Reader" 60 7 11 := ⟨_, _, _, k_Re, by decide, gd (i := 365) (by decide +kernel) (by decide +kernel)⟩
theorem fp_Re_60 : FP "SandGuards$Reader" 60 7 11 .int := ⟨_, _, _, k_Re, by decide, gd (i := 365) (by decide +kernel) (by decide +kernel), rfl, by decide +kernel⟩
theorem fl_Re_63 : FL "SandGuards$Reader" 63 7 12 := ⟨_, _, _, k_Re, by decide, gd (i := 366) (by decide +kernel) (by decide +kernel)⟩
theorem fp_Re_63 : FP "SandGuards$Reader" 63 7 12 .int := ⟨_, _, _, k_Re, by decide, gd (i := 366) (by decide +kernel) (by decide +kernel), rfl, by decide +kernel⟩
theorem fl_Re_66 : FL "SandGuards$Reader" 66 7 15 := ⟨_, _, _, k_Re, by decide, gd (i := 369) (by decide +kernel) (by decide +kernel)⟩
theorem fp_Re_66 : FP "SandGuards$Reader" 66 7 15 .int := ⟨_, _, _, k_Re, by decide, gd (i := 369) (by decide +kernel) (by decide +kernel), rfl, by decide +kernel⟩
theorem fl_Re_69 : FL "SandGuards$Reader" 69 7 2 := ⟨_, _, _, k_Re, by decide, gd (i := 355) (by decide +kernel) (by decide +kernel)⟩
theorem fp_Re_69 : FP "SandGuards$Reader" 69 7 2 .int := ⟨_, _, _, k_Re, by decide, gd (i := 355) (by decide +kernel) (by decide +kernel), rfl, by decide +kernel⟩
theorem fl_Re_80 : FL "SandGuards$Reader" 80 7 16 := ⟨_, _, _, k_Re, by decide, gd (i := 370) (by decide +kernel) (by decide +kernel)⟩
theorem fp_Re_80 : FP "SandGuards$Reader" 80 7 16 .int := ⟨_, _, _, k_Re, by decide, gd (i := 370) (by decide +kernel) (by decide +kernel), rfl, by decide +kernel⟩
theorem fl_Re_105 : FL "SandGuards$Reader" 105 6 3 := ⟨_, _, _, k_Pl, by decide, gd (i := 199) (by decide +kernel) (by decide +kernel)⟩
theorem fp_Re_105 : FP "SandGuards$Reader" 105 6 3 .int := ⟨_, _, _, k_Pl, by decide, gd (i := 199) (by decide +kernel) (by decide +kernel), rfl, by decide +kernel⟩
theorem fl_Re_114 : FL "SandGuards$Reader" 114 7 14 := ⟨_, _, _, k_Re, by decide, gd (i := 368) (by decide +kernel) (by decide +kernel)⟩
theorem fp_Re_114 : FP "SandGuards$Reader" 114 7 14 .long := ⟨_, _, _, k_Re, by decide, gd (i := 368) (by decide +kernel) (by decide +kernel), rfl, by decide +kernel⟩
theorem fl_Re_121 : FL "SandGuards$Reader" 121 0 0 := ⟨_, _, _, k_Ca, by decide, gd (i := 253) (by decide +kernel) (by decide +kernel)⟩
theorem fl_Re_124 : FL "SandGuards$Reader" 124 7 13 := ⟨_, _, _, k_Re, by decide, gd (i := 367) (by decide +kernel) (by decide +kernel)⟩
theorem fp_Re_124 : FP "SandGuards$Reader" 124 7 13 .int := ⟨_, _, _, k_Re, by decide, gd (i := 367) (by decide +kernel) (by decide +kernel), rfl, by decide +kernel⟩
theorem fl_Re_127 : FL "SandGuards$Reader" 127 0 1 := ⟨_, _, _, k_Ca, by decide, gd (i := 258) (by decide +kernel) (by decide +kernel)⟩
theorem fl_Re_130 : FL "SandGuards$Reader" 130 6 0 := ⟨_, _, _, k_Pl, by decide, gd (i := 190) (by decide +kernel) (by decide +kernel)⟩
theorem fl_Re_133 : FL "SandGuards$Reader" 133 6 4 := ⟨_, _, _, k_Pl, by decide, gd (i := 206) (by decide +kernel) (by decide +kernel)⟩
theorem fp_Re_133 : FP "SandGuards$Reader" 133 6 4 .int := ⟨_, _, _, k_Pl, by decide, gd (i := 206) (by decide +kernel) (by decide +kernel), rfl, by decide +kernel⟩
theorem fl_Re_143 : FL "SandGuards$Reader" 143 10 1 := ⟨_, _, _, k_To, by decide, gd (i := 336) (by decide +kernel) (by decide +kernel)⟩
theorem fl_Re_146 : FL "SandGuards$Reader" 146 10 3 := ⟨_, _, _, k_To, by decide, gd (i := 340) (by decide +kernel) (by decide +kernel)⟩
theorem fl_Re_155 : FL "SandGuards$Reader" 155 0 2 := ⟨_, _, _, k_Ca, by decide, gd (i := 263) (by decide +kernel) (by decide +kernel)⟩
theorem fl_Re_161 : FL "SandGuards$Reader" 161 6 5 := ⟨_, _, _, k_Pl, by decide, gd (i := 212) (by decide +kernel) (by decide +kernel)⟩
theorem fp_Re_161 : FP "SandGuards$Reader" 161 6 5 .int := ⟨_, _, _, k_Pl, by decide, gd (i := 212) (by decide +kernel) (by decide +kernel), rfl, by decide +kernel⟩
theorem fl_Re_164 : FL "SandGuards$Reader" 164 6 1 := ⟨_, _, _, k_Pl, by decide, gd (i := 192) (by decide +kernel) (by decide +kernel)⟩
theorem fl_Re_167 : FL "SandGuards$Reader" 167 6 6 := ⟨_, _, _, k_Pl, by decide, gd (i := 215) (by decide +kernel) (by decide +kernel)⟩
theorem fp_Re_167 : FP "SandGuards$Reader" 167 6 6 .int := ⟨_, _, _, k_Pl, by decide, gd (i := 215) (by decide +kernel) (by decide +kernel), rfl, by decide +kernel⟩
theorem fl_Re_170 : FL "SandGuards$Reader" 170 6 2 := ⟨_, _, _, k_Pl, by decide, gd (i := 196) (by decide +kernel) (by decide +kernel)⟩
theorem fl_Re_196 : FL "SandGuards$Reader" 196 7 7 := ⟨_, _, _, k_Re, by decide, gd (i := 361) (by decide +kernel) (by decide +kernel)⟩
theorem fp_Re_196 : FP "SandGuards$Reader" 196 7 7 .int := ⟨_, _, _, k_Re, by decide, gd (i := 361) (by decide +kernel) (by decide +kernel), rfl, by decide +kernel⟩
theorem fl_Re_199 : FL "SandGuards$Reader" 199 7 9 := ⟨_, _, _, k_Re, by decide, gd (i := 363) (by decide +kernel) (by decide +kernel)⟩
theorem fp_Re_199 : FP "SandGuards$Reader" 199 7 9 .int := ⟨_, _, _, k_Re, by decide, gd (i := 363) (by decide +kernel) (by decide +kernel), rfl, by decide +kernel⟩
theorem fl_Re_215 : FL "SandGuards$Reader" 215 10 2 := ⟨_, _, _, k_To, by decide, gd (i := 338) (by decide +kernel) (by decide +kernel)⟩
theorem fl_Re_230 : FL "SandGuards$Reader" 230 10 0 := ⟨_, _, _, k_To, by decide, gd (i := 334) (by decide +kernel) (by decide +kernel)⟩
theorem fl_Ru_11 : FL "SandGuards$Rumours" 11 8 0 := ⟨_, _, _, k_Ru, by decide, gd (i := 532) (by decide +kernel) (by decide +kernel)⟩
theorem fl_Ru_18 : FL "SandGuards$Rumours" 18 8 3 := ⟨_, _, _, k_Ru, by decide, gd (i := 538) (by decide +kernel) (by decide +kernel)⟩
theorem fl_Ru_22 : FL "SandGuards$Rumours" 22 8 4 := ⟨_, _, _, k_Ru, by decide, gd (i := 539) (by decide +kernel) (by decide +kernel)⟩
theorem fl_Ru_25 : FL "SandGuards$Rumours" 25 8 5 := ⟨_, _, _, k_Ru, by decide, gd (i := 540) (by decide +kernel) (by decide +kernel)⟩
theorem fl_Ru_28 : FL "SandGuards$Rumours" 28 8 6 := ⟨_, _, _, k_Ru, by decide, gd (i := 541) (by decide +kernel) (by decide +kernel)⟩
theorem fl_Ru_31 : FL "SandGuards$Rumours" 31 8 2 := ⟨_, _, _, k_Ru, by decide, gd (i := 536) (by decide +kernel) (by decide +kernel)⟩
theorem fp_Ru_31 : FP "SandGuards$Rumours" 31 8 2 .int := ⟨_, _, _, k_Ru, by decide, gd (i := 536) (by decide +kernel) (by decide +kernel), rfl, by decide +kernel⟩
theorem fl_Ru_35 : FL "SandGuards$Rumours" 35 8 7 := ⟨_, _, _, k_Ru, by decide, gd (i := 542) (by decide +kernel) (by decide +kernel)⟩
theorem fp_Ru_35 : FP "SandGuards$Rumours" 35 8 7 .boolean := ⟨_, _, _, k_Ru, by decide, gd (i := 542) (by decide +kernel) (by decide +kernel), rfl, by decide +kernel⟩
theorem fl_Ru_39 : FL "SandGuards$Rumours" 39 8 8 := ⟨_, _, _, k_Ru, by decide, gd (i := 543) (by decide +kernel) (by decide +kernel)⟩
theorem fp_Ru_39 : FP "SandGuards$Rumours" 39 8 8 .int := ⟨_, _, _, k_Ru, by decide, gd (i := 543) (by decide +kernel) (by decide +kernel), rfl, by decide +kernel⟩
theorem fl_Ru_42 : FL "SandGuards$Rumours" 42 8 9 := ⟨_, _, _, k_Ru, by decide, gd (i := 544) (by decide +kernel) (by decide +kernel)⟩
theorem fp_Ru_42 : FP "SandGuards$Rumours" 42 8 9 .int := ⟨_, _, _, k_Ru, by decide, gd (i := 544) (by decide +kernel) (by decide +kernel), rfl, by decide +kernel⟩
theorem fl_Ru_49 : FL "SandGuards$Rumours" 49 8 1 := ⟨_, _, _, k_Ru, by decide, gd (i := 534) (by decide +kernel) (by decide +kernel)⟩
theorem fp_Ru_49 : FP "SandGuards$Rumours" 49 8 1 .int := ⟨_, _, _, k_Ru, by decide, gd (i := 534) (by decide +kernel) (by decide +kernel), rfl, by decide +kernel⟩
theorem fl_Ru_52 : FL "SandGuards$Rumours" 52 6 3 := ⟨_, _, _, k_Pl, by decide, gd (i := 201) (by decide +kernel) (by decide +kernel)⟩
theorem fl_Ru_61 : FL "SandGuards$Rumours" 61 0 0 := ⟨_, _, _, k_Ca, by decide, gd (i := 254) (by decide +kernel) (by decide +kernel)⟩
theorem fl_Ru_74 : FL "SandGuards$Rumours" 74 0 13 := ⟨_, _, _, k_Ca, by decide, gd (i := 293) (by decide +kernel) (by decide +kernel)⟩
theorem fl_Ta_9 : FL "SandGuards$Tape" 9 9 0 := ⟨_, _, _, k_Ta, by decide, gd (i := 127) (by decide +kernel) (by decide +kernel)⟩
theorem fl_Ta_13 : FL "SandGuards$Tape" 13 9 1 := ⟨_, _, _, k_Ta, by decide, gd (i := 129) (by decide +kernel) (by decide +kernel)⟩
theorem fp_Ta_13 : FP "SandGuards$Tape" 13 9 1 .int := ⟨_, _, _, k_Ta, by decide, gd (i := 129) (by decide +kernel) (by decide +kernel), rfl, by decide +kernel⟩
theorem fl_To_11 : FL "SandGuards$Tokens" 11 10 0 := ⟨_, _, _, k_To, by decide, gd (i := 333) (by decide +kernel) (by decide +kernel)⟩
theorem fl_To_15 : FL "SandGuards$Tokens" 15 10 1 := ⟨_, _, _, k_To, by decide, gd (i := 335) (by decide +kernel) (by decide +kernel)⟩
theorem fl_To_18 : FL "SandGuards$Tokens" 18 10 2 := ⟨_, _, _, k_To, by decide, gd (i := 337) (by decide +kernel) (by decide +kernel)⟩
theorem fl_To_21 : FL "SandGuards$Tokens" 21 10 3 := ⟨_, _, _, k_To, by decide, gd (i := 339) (by decide +kernel) (by decide +kernel)⟩
theorem fl_To_29 : FL "SandGuards$Tokens" 29 9 1 := ⟨_, _, _, k_Ta, by decide, gd (i := 130) (by decide +kernel) (by decide +kernel)⟩
theorem fl_To_39 : FL "SandGuards$Tokens" 39 9 0 := ⟨_, _, _, k_Ta, by decide, gd (i := 128) (by decide +kernel) (by decide +kernel)⟩
theorem fl_Mo_13 : FL "SandGuardsModel" 13 12 1 := ⟨_, _, _, k_Mo, by decide, gd (i := 1206) (by decide +kernel) (by decide +kernel)⟩
theorem fl_Mo_17 : FL "SandGuardsModel" 17 12 3 := ⟨_, _, _, k_Mo, by decide, gd (i := 1208) (by decide +kernel) (by decide +kernel)⟩
theorem fl_Mo_20 : FL "SandGuardsModel" 20 12 5 := ⟨_, _, _, k_Mo, by decide, gd (i := 1210) (by decide +kernel) (by decide +kernel)⟩
theorem fl_Mo_24 : FL "SandGuardsModel" 24 12 6 := ⟨_, _, _, k_Mo, by decide, gd (i := 1211) (by decide +kernel) (by decide +kernel)⟩
theorem fl_Mo_27 : FL "SandGuardsModel" 27 12 7 := ⟨_, _, _, k_Mo, by decide, gd (i := 1212) (by decide +kernel) (by decide +kernel)⟩
theorem fl_Mo_30 : FL "SandGuardsModel" 30 12 8 := ⟨_, _, _, k_Mo, by decide, gd (i := 1213) (by decide +kernel) (by decide +kernel)⟩
theorem fl_Mo_34 : FL "SandGuardsModel" 34 12 9 := ⟨_, _, _, k_Mo, by decide, gd (i := 1214) (by decide +kernel) (by decide +kernel)⟩
theorem fl_Mo_37 : FL "SandGuardsModel" 37 12 17 := ⟨_, _, _, k_Mo, by decide, gd (i := 1222) (by decide +kernel) (by decide +kernel)⟩
theorem fp_Mo_37 : FP "SandGuardsModel" 37 12 17 .int := ⟨_, _, _, k_Mo, by decide, gd (i := 1222) (by decide +kernel) (by decide +kernel), rfl, by decide +kernel⟩
theorem fl_Mo_40 : FL "SandGuardsModel" 40 12 21 := ⟨_, _, _, k_Mo, by decide, gd (i := 1226) (by decide +kernel) (by decide +kernel)⟩
theorem fl_Mo_43 : FL "SandGuardsModel" 43 12 22 := ⟨_, _, _, k_Mo, by decide, gd (i := 1227) (by decide +kernel) (by decide +kernel)⟩
theorem fl_Mo_46 : FL "SandGuardsModel" 46 12 23 := ⟨_, _, _, k_Mo, by decide, gd (i := 1228) (by decide +kernel) (by decide +kernel)⟩
theorem fl_Mo_49 : FL "SandGuardsModel" 49 12 24 := ⟨_, _, _, k_Mo, by decide, gd (i := 1229) (by decide +kernel) (by decide +kernel)⟩
theorem fl_Mo_52 : FL "SandGuardsModel" 52 12 25 := ⟨_, _, _, k_Mo, by decide, gd (i := 1230) (by decide +kernel) (by decide +kernel)⟩
theorem fl_Mo_55 : FL "SandGuardsModel" 55 12 26 := ⟨_, _, _, k_Mo, by decide, gd (i := 1231) (by decide +kernel) (by decide +kernel)⟩
theorem fl_Mo_58 : FL "SandGuardsModel" 58 12 27 := ⟨_, _, _, k_Mo, by decide, gd (i := 1232) (by decide +kernel) (by decide +kernel)⟩
theorem fl_Mo_61 : FL "SandGuardsModel" 61 12 28 := ⟨_, _, _, k_Mo, by decide, gd (i := 1233) (by decide +kernel) (by decide +kernel)⟩
theorem fl_Mo_64 : FL "SandGuardsModel" 64 12 29 := ⟨_, _, _, k_Mo, by decide, gd (i := 1234) (by decide +kernel) (by decide +kernel)⟩
theorem fl_Mo_67 : FL "SandGuardsModel" 67 12 30 := ⟨_, _, _, k_Mo, by decide, gd (i := 1235) (by decide +kernel) (by decide +kernel)⟩
theorem fl_Mo_70 : FL "SandGuardsModel" 70 12 31 := ⟨_, _, _, k_Mo, by decide, gd (i := 1236) (by decide +kernel) (by decide +kernel)⟩
theorem fl_Mo_73 : FL "SandGuardsModel" 73 12 32 := ⟨_, _, _, k_Mo, by decide, gd (i := 1237) (by decide +kernel) (by decide +kernel)⟩
theorem fl_Mo_76 : FL "SandGuardsModel" 76 12 33 := ⟨_, _, _, k_Mo, by decide, gd (i := 1238) (by decide +kernel) (by decide +kernel)⟩
theorem fl_Mo_79 : FL "SandGuardsModel" 79 12 34 := ⟨_, _, _, k_Mo, by decide, gd (i := 1239) (by decide +kernel) (by decide +kernel)⟩
theorem fl_Mo_82 : FL "SandGuardsModel" 82 12 35 := ⟨_, _, _, k_Mo, by decide, gd (i := 1240) (by decide +kernel) (by decide +kernel)⟩
theorem fl_Mo_85 : FL "SandGuardsModel" 85 12 37 := ⟨_, _, _, k_Mo, by decide, gd (i := 1242) (by decide +kernel) (by decide +kernel)⟩
theorem fl_Mo_89 : FL "SandGuardsModel" 89 12 38 := ⟨_, _, _, k_Mo, by decide, gd (i := 1243) (by decide +kernel) (by decide +kernel)⟩
theorem fl_Mo_92 : FL "SandGuardsModel" 92 12 39 := ⟨_, _, _, k_Mo, by decide, gd (i := 1244) (by decide +kernel) (by decide +kernel)⟩
theorem fl_Mo_95 : FL "SandGuardsModel" 95 12 40 := ⟨_, _, _, k_Mo, by decide, gd (i := 1245) (by decide +kernel) (by decide +kernel)⟩
theorem fl_Mo_98 : FL "SandGuardsModel" 98 12 41 := ⟨_, _, _, k_Mo, by decide, gd (i := 1246) (by decide +kernel) (by decide +kernel)⟩
theorem fl_Mo_101 : FL "SandGuardsModel" 101 12 43 := ⟨_, _, _, k_Mo, by decide, gd (i := 1248) (by decide +kernel) (by decide +kernel)⟩
theorem fl_Mo_104 : FL "SandGuardsModel" 104 12 44 := ⟨_, _, _, k_Mo, by decide, gd (i := 1249) (by decide +kernel) (by decide +kernel)⟩
theorem fl_Mo_107 : FL "SandGuardsModel" 107 12 45 := ⟨_, _, _, k_Mo, by decide, gd (i := 1250) (by decide +kernel) (by decide +kernel)⟩
theorem fl_Mo_110 : FL "SandGuardsModel" 110 12 47 := ⟨_, _, _, k_Mo, by decide, gd (i := 1252) (by decide +kernel) (by decide +kernel)⟩
theorem fl_Mo_113 : FL "SandGuardsModel" 113 12 48 := ⟨_, _, _, k_Mo, by decide, gd (i := 1253) (by decide +kernel) (by decide +kernel)⟩
theorem fl_Mo_116 : FL "SandGuardsModel" 116 12 50 := ⟨_, _, _, k_Mo, by decide, gd (i := 1255) (by decide +kernel) (by decide +kernel)⟩
theorem fl_Mo_119 : FL "SandGuardsModel" 119 12 51 := ⟨_, _, _, k_Mo, by decide, gd (i := 1256) (by decide +kernel) (by decide +kernel)⟩
theorem fl_Mo_122 : FL "SandGuardsModel" 122 12 53 := ⟨_, _, _, k_Mo, by decide, gd (i := 1258) (by decide +kernel) (by decide +kernel)⟩
theorem fl_Mo_125 : FL "SandGuardsModel" 125 12 54 := ⟨_, _, _, k_Mo, by decide, gd (i := 1259) (by decide +kernel) (by decide +kernel)⟩
theorem fl_Mo_128 : FL "SandGuardsModel" 128 12 56 := ⟨_, _, _, k_Mo, by decide, gd (i := 1261) (by decide +kernel) (by decide +kernel)⟩
theorem fl_Mo_131 : FL "SandGuardsModel" 131 12 57 := ⟨_, _, _, k_Mo, by decide, gd (i := 1262) (by decide +kernel) (by decide +kernel)⟩
theorem fl_Mo_134 : FL "SandGuardsModel" 134 12 58 := ⟨_, _, _, k_Mo, by decide, gd (i := 1263) (by decide +kernel) (by decide +kernel)⟩
theorem fl_Mo_137 : FL "SandGuardsModel" 137 12 59 := ⟨_, _, _, k_Mo, by decide, gd (i := 1264) (by decide +kernel) (by decide +kernel)⟩
theorem fl_Mo_140 : FL "SandGuardsModel" 140 12 60 := ⟨_, _, _, k_Mo, by decide, gd (i := 1265) (by decide +kernel) (by decide +kernel)⟩
theorem fl_Mo_147 : FL "SandGuardsModel" 147 12 2 := ⟨_, _, _, k_Mo, by decide, gd (i := 1207) (by decide +kernel) (by decide +kernel)⟩
theorem fp_Mo_147 : FP "SandGuardsModel" 147 12 2 .int := ⟨_, _, _, k_Mo, by decide, gd (i := 1207) (by decide +kernel) (by decide +kernel), rfl, by decide +kernel⟩
theorem fl_Mo_154 : FL "SandGuardsModel" 154 12 4 := ⟨_, _, _, k_Mo, by decide, gd (i := 1209) (by decide +kernel) (by decide +kernel)⟩
theorem fp_Mo_154 : FP "SandGuardsModel" 154 12 4 .int := ⟨_, _, _, k_Mo, by decide, gd (i := 1209) (by decide +kernel) (by decide +kernel), rfl, by decide +kernel⟩
theorem fl_Mo_163 : FL "SandGuardsModel" 163 12 10 := ⟨_, _, _, k_Mo, by decide, gd (i := 1215) (by decide +kernel) (by decide +kernel)⟩
theorem fp_Mo_163 : FP "SandGuardsModel" 163 12 10 .int := ⟨_, _, _, k_Mo, by decide, gd (i := 1215) (by decide +kernel) (by decide +kernel), rfl, by decide +kernel⟩
theorem fl_Mo_185 : FL "SandGuardsModel" 185 12 13 := ⟨_, _, _, k_Mo, by decide, gd (i := 1218) (by decide +kernel) (by decide +kernel)⟩
theorem fp_Mo_185 : FP "SandGuardsModel" 185 12 13 .int := ⟨_, _, _, k_Mo, by decide, gd (i := 1218) (by decide +kernel) (by decide +kernel), rfl, by decide +kernel⟩
theorem fl_Mo_188 : FL "SandGuardsModel" 188 12 11 := ⟨_, _, _, k_Mo, by decide, gd (i := 1216) (by decide +kernel) (by decide +kernel)⟩
theorem fp_Mo_188 : FP "SandGuardsModel" 188 12 11 .int := ⟨_, _, _, k_Mo, by decide, gd (i := 1216) (by decide +kernel) (by decide +kernel), rfl, by decide +kernel⟩
theorem fl_Mo_191 : FL "SandGuardsModel" 191 12 14 := ⟨_, _, _, k_Mo, by decide, gd (i := 1219) (by decide +kernel) (by decide +kernel)⟩
theorem fp_Mo_191 : FP "SandGuardsModel" 191 12 14 .int := ⟨_, _, _, k_Mo, by decide, gd (i := 1219) (by decide +kernel) (by decide +kernel), rfl, by decide +kernel⟩
theorem fl_Mo_194 : FL "SandGuardsModel" 194 12 15 := ⟨_, _, _, k_Mo, by decide, gd (i := 1220) (by decide +kernel) (by decide +kernel)⟩
theorem fp_Mo_194 : FP "SandGuardsModel" 194 12 15 .int := ⟨_, _, _, k_Mo, by decide, gd (i := 1220) (by decide +kernel) (by decide +kernel), rfl, by decide +kernel⟩
theorem fl_Mo_197 : FL "SandGuardsModel" 197 12 16 := ⟨_, _, _, k_Mo, by decide, gd (i := 1221) (by decide +kernel) (by decide +kernel)⟩
theorem fp_Mo_197 : FP "SandGuardsModel" 197 12 16 .int := ⟨_, _, _, k_Mo, by decide, gd (i := 1221) (by decide +kernel) (by decide +kernel), rfl, by decide +kernel⟩
theorem fl_Mo_212 : FL "SandGuardsModel" 212 12 12 := ⟨_, _, _, k_Mo, by decide, gd (i := 1217) (by decide +kernel) (by decide +kernel)⟩
theorem fp_Mo_212 : FP "SandGuardsModel" 212 12 12 .int := ⟨_, _, _, k_Mo, by decide, gd (i := 1217) (by decide +kernel) (by decide +kernel), rfl, by decide +kernel⟩
theorem fl_Mo_215 : FL "SandGuardsModel" 215 12 18 := ⟨_, _, _, k_Mo, by decide, gd (i := 1223) (by decide +kernel) (by decide +kernel)⟩
theorem fp_Mo_215 : FP "SandGuardsModel" 215 12 18 .int := ⟨_, _, _, k_Mo, by decide, gd (i := 1223) (by decide +kernel) (by decide +kernel), rfl, by decide +kernel⟩
theorem fl_Mo_218 : FL "SandGuardsModel" 218 12 19 := ⟨_, _, _, k_Mo, by decide, gd (i := 1224) (by decide +kernel) (by decide +kernel)⟩
theorem fp_Mo_218 : FP "SandGuardsModel" 218 12 19 .int := ⟨_, _, _, k_Mo, by decide, gd (i := 1224) (by decide +kernel) (by decide +kernel), rfl, by decide +kernel⟩
theorem fl_Mo_221 : FL "SandGuardsModel" 221 12 20 := ⟨_, _, _, k_Mo, by decide, gd (i := 1225) (by decide +kernel) (by decide +kernel)⟩
theorem fp_Mo_221 : FP "SandGuardsModel" 221 12 20 .int := ⟨_, _, _, k_Mo, by decide, gd (i := 1225) (by decide +kernel) (by decide +kernel), rfl, by decide +kernel⟩
theorem fl_Mo_224 : FL "SandGuardsModel" 224 12 36 := ⟨_, _, _, k_Mo, by decide, gd (i := 1241) (by decide +kernel) (by decide +kernel)⟩
theorem fp_Mo_224 : FP "SandGuardsModel" 224 12 36 .int := ⟨_, _, _, k_Mo, by decide, gd (i := 1241) (by decide +kernel) (by decide +kernel), rfl, by decide +kernel⟩
theorem fl_Mo_227 : FL "SandGuardsModel" 227 12 42 := ⟨_, _, _, k_Mo, by decide, gd (i := 1247) (by decide +kernel) (by decide +kernel)⟩
theorem fp_Mo_227 : FP "SandGuardsModel" 227 12 42 .int := ⟨_, _, _, k_Mo, by decide, gd (i := 1247) (by decide +kernel) (by decide +kernel), rfl, by decide +kernel⟩
theorem fl_Mo_236 : FL "SandGuardsModel" 236 12 52 := ⟨_, _, _, k_Mo, by decide, gd (i := 1257) (by decide +kernel) (by decide +kernel)⟩
theorem fp_Mo_236 : FP "SandGuardsModel" 236 12 52 .int := ⟨_, _, _, k_Mo, by decide, gd (i := 1257) (by decide +kernel) (by decide +kernel), rfl, by decide +kernel⟩
theorem fl_Mo_239 : FL "SandGuardsModel" 239 12 55 := ⟨_, _, _, k_Mo, by decide, gd (i := 1260) (by decide +kernel) (by decide +kernel)⟩
theorem fp_Mo_239 : FP "SandGuardsModel" 239 12 55 .int := ⟨_, _, _, k_Mo, by decide, gd (i := 1260) (by decide +kernel) (by decide +kernel), rfl, by decide +kernel⟩
theorem fl_Mo_285 : FL "SandGuardsModel" 285 12 46 := ⟨_, _, _, k_Mo, by decide, gd (i := 1251) (by decide +kernel) (by decide +kernel)⟩
theorem fp_Mo_285 : FP "SandGuardsModel" 285 12 46 .int := ⟨_, _, _, k_Mo, by decide, gd (i := 1251) (by decide +kernel) (by decide +kernel), rfl, by decide +kernel⟩
theorem fl_Mo_298 : FL "SandGuardsModel" 298 12 49 := ⟨_, _, _, k_Mo, by decide, gd (i := 1254) (by decide +kernel) (by decide +kernel)⟩
theorem fp_Mo_298 : FP "SandGuardsModel" 298 12 49 .boolean := ⟨_, _, _, k_Mo, by decide, gd (i := 1254) (by decide +kernel) (by decide +kernel), rfl, by decide +kernel⟩
theorem lk_Sg_32 : Cond.methodLink "SandGuards" 32 M_Ca_init.1 ∈ lw_gd := gd (i := 409) (by decide +kernel) (by decide +kernel)
theorem lk_Sg_42 : Cond.methodLink "SandGuards" 42 M_Hi_init.1 ∈ lw_gd := gd (i := 412) (by decide +kernel) (by decide +kernel)
theorem lk_Sg_87 : Cond.methodLink "SandGuards" 87 M_Ta_hasRoomFor.1 ∈ lw_gd := gd (i := 610) (by decide +kernel) (by decide +kernel)
theorem lk_Sg_91 : Cond.methodLink "SandGuards" 91 M_Ta_append.1 ∈ lw_gd := gd (i := 614) (by decide +kernel) (by decide +kernel)
theorem lk_Sg_98 : Cond.methodLink "SandGuards" 98 M_Re_readText.1 ∈ lw_gd := gd (i := 627) (by decide +kernel) (by decide +kernel)
theorem lk_Sg_105 : Cond.methodLink "SandGuards" 105 M_Sg_beginAnew.1 ∈ lw_gd := gd (i := 804) (by decide +kernel) (by decide +kernel)
theorem lk_Sg_109 : Cond.methodLink "SandGuards" 109 M_Pl_copyFrom.1 ∈ lw_gd := gd (i := 808) (by decide +kernel) (by decide +kernel)
theorem lk_Sg_116 : Cond.methodLink "SandGuards" 116 M_Ca_copyFrom.1 ∈ lw_gd := gd (i := 820) (by decide +kernel) (by decide +kernel)
theorem lk_Sg_120 : Cond.methodLink "SandGuards" 120 M_Ru_clear.1 ∈ lw_gd := gd (i := 825) (by decide +kernel) (by decide +kernel)
theorem lk_Sg_123 : Cond.methodLink "SandGuards" 123 M_Sg_noteChange.1 ∈ lw_gd := gd (i := 829) (by decide +kernel) (by decide +kernel)
theorem lk_Sg_126 : Cond.methodLink "SandGuards" 126 M_Sg_isPost.1 ∈ lw_gd := gd (i := 845) (by decide +kernel) (by decide +kernel)
theorem lk_Sg_148 : Cond.methodLink "SandGuards" 148 M_Pl_hourOf.1 ∈ lw_gd := gd (i := 849) (by decide +kernel) (by decide +kernel)
theorem lk_Sg_152 : Cond.methodLink "SandGuards" 152 M_Pl_flow.1 ∈ lw_gd := gd (i := 853) (by decide +kernel) (by decide +kernel)
theorem lk_Sg_159 : Cond.methodLink "SandGuards" 159 M_Sg_isGuard.1 ∈ lw_gd := gd (i := 861) (by decide +kernel) (by decide +kernel)
theorem lk_Sg_171 : Cond.methodLink "SandGuards" 171 M_Ca_placeInBed.1 ∈ lw_gd := gd (i := 865) (by decide +kernel) (by decide +kernel)
theorem lk_Sg_177 : Cond.methodLink "SandGuards" 177 M_Sg_beginThing.1 ∈ lw_gd := gd (i := 873) (by decide +kernel) (by decide +kernel)
theorem lk_Sg_180 : Cond.methodLink "SandGuards" 180 M_Ca_passMany.1 ∈ lw_gd := gd (i := 885) (by decide +kernel) (by decide +kernel)
theorem lk_Sg_184 : Cond.methodLink "SandGuards" 184 M_Ca_exchange.1 ∈ lw_gd := gd (i := 945) (by decide +kernel) (by decide +kernel)
set_option maxRecDepth 40000 in
theorem lk_Sg_187 : Cond.methodLink "SandGuards" 187 Lib.Math.min.name ∈ lw_gd ∧ Cond.static Lib.Math.min.name ∈ lw_gd ∧ Cond.initialized "java/lang/Math" ∈ lw_gd ∧ Cond.code Lib.Math.min.name Lib.Math.min.code 2 (some .int) ∈ lw_gd := ⟨gd (i := 953) (by decide +kernel) (by decide +kernel), gd (i := 883) (by decide +kernel) (by decide +kernel), gd (i := 112) (by decide +kernel) (by decide +kernel), gd (i := 884) (by decide +kernel) (by decide +kernel)⟩
theorem lk_Sg_195 : Cond.methodLink "SandGuards" 195 M_Ca_leaveBed.1 ∈ lw_gd := gd (i := 967) (by decide +kernel) (by decide +kernel)
theorem lk_Sg_198 : Cond.methodLink "SandGuards" 198 M_Ca_stand.1 ∈ lw_gd := gd (i := 968) (by decide +kernel) (by decide +kernel)
theorem lk_Sg_202 : Cond.methodLink "SandGuards" 202 M_Hi_giveBack.1 ∈ lw_gd := gd (i := 973) (by decide +kernel) (by decide +kernel)
theorem lk_Sg_209 : Cond.methodLink "SandGuards" 209 M_Ou_minutesToOut.1 ∈ lw_gd := gd (i := 981) (by decide +kernel) (by decide +kernel)
theorem lk_Sg_213 : Cond.methodLink "SandGuards" 213 M_Dr_asItIs.1 ∈ lw_gd := gd (i := 992) (by decide +kernel) (by decide +kernel)
theorem lk_Sg_217 : Cond.methodLink "SandGuards" 217 M_Dr_findFirst.1 ∈ lw_gd := gd (i := 1011) (by decide +kernel) (by decide +kernel)
theorem lk_Sg_227 : Cond.methodLink "SandGuards" 227 M_Dr_findTwo.1 ∈ lw_gd := gd (i := 1026) (by decide +kernel) (by decide +kernel)
theorem lk_Sg_237 : Cond.methodLink "SandGuards" 237 M_Ou_fewestGrains.1 ∈ lw_gd := gd (i := 1038) (by decide +kernel) (by decide +kernel)
theorem lk_Sg_247 : Cond.methodLink "SandGuards" 247 M_Ou_goThrough.1 ∈ lw_gd := gd (i := 1062) (by decide +kernel) (by decide +kernel)
theorem lk_Sg_250 : Cond.methodLink "SandGuards" 250 M_Ou_sleepless.1 ∈ lw_gd := gd (i := 1067) (by decide +kernel) (by decide +kernel)
theorem lk_Sg_253 : Cond.methodLink "SandGuards" 253 M_Ou_spreadOfSleep.1 ∈ lw_gd := gd (i := 1075) (by decide +kernel) (by decide +kernel)
theorem lk_Sg_257 : Cond.methodLink "SandGuards" 257 M_Ou_findWorst.1 ∈ lw_gd := gd (i := 1084) (by decide +kernel) (by decide +kernel)
theorem lk_Sg_266 : Cond.methodLink "SandGuards" 266 M_Ca_longestOnWatch.1 ∈ lw_gd := gd (i := 1097) (by decide +kernel) (by decide +kernel)
theorem lk_Sg_269 : Cond.methodLink "SandGuards" 269 M_Ou_minutesToBed.1 ∈ lw_gd := gd (i := 1101) (by decide +kernel) (by decide +kernel)
theorem lk_Sg_272 : Cond.methodLink "SandGuards" 272 M_Ga_findRests.1 ∈ lw_gd := gd (i := 1106) (by decide +kernel) (by decide +kernel)
theorem lk_Sg_280 : Cond.methodLink "SandGuards" 280 M_Ru_add.1 ∈ lw_gd := gd (i := 1137) (by decide +kernel) (by decide +kernel)
theorem lk_Sg_286 : Cond.methodLink "SandGuards" 286 M_Ru_findWays.1 ∈ lw_gd := gd (i := 1149) (by decide +kernel) (by decide +kernel)
theorem lk_Sg_296 : Cond.methodLink "SandGuards" 296 M_Ca_emptyPosts.1 ∈ lw_gd := gd (i := 1180) (by decide +kernel) (by decide +kernel)
theorem lk_Sg_305 : Cond.methodLink "SandGuards" 305 M_Ca_grains.1 ∈ lw_gd := gd (i := 1184) (by decide +kernel) (by decide +kernel)
theorem lk_Sg_308 : Cond.methodLink "SandGuards" 308 M_Sg_slotsHeld.1 ∈ lw_gd := gd (i := 1188) (by decide +kernel) (by decide +kernel)
theorem lk_Sg_312 : Cond.methodLink "SandGuards" 312 M_Ca_guardsWhoSlept.1 ∈ lw_gd := gd (i := 1192) (by decide +kernel) (by decide +kernel)
theorem lk_Sg_315 : Cond.methodLink "SandGuards" 315 M_Hi_keep.1 ∈ lw_gd := gd (i := 877) (by decide +kernel) (by decide +kernel)
theorem lk_Sg_318 : Cond.methodLink "SandGuards" 318 M_Dr_forgetFound.1 ∈ lw_gd := gd (i := 833) (by decide +kernel) (by decide +kernel)
theorem lk_Ca_49 : Cond.methodLink "SandGuards$Castle" 49 M_Ca_leaveAll.1 ∈ lw_gd := gd (i := 246) (by decide +kernel) (by decide +kernel)
theorem lk_Ca_56 : Cond.methodLink "SandGuards$Castle" 56 arraycopyName ∈ lw_gd ∧ Cond.native arraycopyName ∈ lw_gd ∧ Cond.static arraycopyName ∈ lw_gd ∧ Cond.initialized "java/lang/System" ∈ lw_gd := ⟨gd (i := 824) (by decide +kernel) (by decide +kernel), gd (i := 814) (by decide +kernel) (by decide +kernel), gd (i := 813) (by decide +kernel) (by decide +kernel), gd (i := 111) (by decide +kernel) (by decide +kernel)⟩
theorem lk_Ca_65 : Cond.methodLink "SandGuards$Castle" 65 M_Ca_passSome.1 ∈ lw_gd := gd (i := 889) (by decide +kernel) (by decide +kernel)
set_option maxRecDepth 40000 in
theorem lk_Ca_69 : Cond.methodLink "SandGuards$Castle" 69 Lib.Math.max.name ∈ lw_gd ∧ Cond.static Lib.Math.max.name ∈ lw_gd ∧ Cond.initialized "java/lang/Math" ∈ lw_gd ∧ Cond.code Lib.Math.max.name Lib.Math.max.code 2 (some .int) ∈ lw_gd := ⟨gd (i := 938) (by decide +kernel) (by decide +kernel), gd (i := 939) (by decide +kernel) (by decide +kernel), gd (i := 112) (by decide +kernel) (by decide +kernel), gd (i := 940) (by decide +kernel) (by decide +kernel)⟩
set_option maxRecDepth 40000 in
theorem lk_Ca_80 : Cond.methodLink "SandGuards$Castle" 80 Lib.Math.min.name ∈ lw_gd ∧ Cond.static Lib.Math.min.name ∈ lw_gd ∧ Cond.initialized "java/lang/Math" ∈ lw_gd ∧ Cond.code Lib.Math.min.name Lib.Math.min.code 2 (some .int) ∈ lw_gd := ⟨gd (i := 893) (by decide +kernel) (by decide +kernel), gd (i := 883) (by decide +kernel) (by decide +kernel), gd (i := 112) (by decide +kernel) (by decide +kernel), gd (i := 884) (by decide +kernel) (by decide +kernel)⟩
theorem lk_Ca_83 : Cond.methodLink "SandGuards$Castle" 83 M_Ca_lookAhead.1 ∈ lw_gd := gd (i := 894) (by decide +kernel) (by decide +kernel)
set_option maxRecDepth 40000 in
theorem lk_Ca_89 : Cond.methodLink "SandGuards$Castle" 89 Lib.MathLoose.min_long.x ∈ lw_gd ∧ Cond.static Lib.MathLoose.min_long.x ∈ lw_gd ∧ Cond.initialized "java/lang/Math" ∈ lw_gd ∧ Cond.code Lib.MathLoose.min_long.x Lib.MathLoose.min_long.code 4 (some .long) ∈ lw_gd := ⟨gd (i := 909) (by decide +kernel) (by decide +kernel), gd (i := 910) (by decide +kernel) (by decide +kernel), gd (i := 112) (by decide +kernel) (by decide +kernel), gd (i := 911) (by decide +kernel) (by decide +kernel)⟩
theorem lk_Ca_92 : Cond.methodLink "SandGuards$Castle" 92 M_Ca_runDown.1 ∈ lw_gd := gd (i := 912) (by decide +kernel) (by decide +kernel)
theorem lk_Ca_102 : Cond.methodLink "SandGuards$Castle" 102 M_Ca_countMinutes.1 ∈ lw_gd := gd (i := 916) (by decide +kernel) (by decide +kernel)
theorem lk_Ca_105 : Cond.methodLink "SandGuards$Castle" 105 M_Ca_relieveAll.1 ∈ lw_gd := gd (i := 920) (by decide +kernel) (by decide +kernel)
theorem lk_Ca_109 : Cond.methodLink "SandGuards$Castle" 109 M_Ca_fillAll.1 ∈ lw_gd := gd (i := 934) (by decide +kernel) (by decide +kernel)
theorem lk_Ca_112 : Cond.methodLink "SandGuards$Castle" 112 M_Pl_hourOf.1 ∈ lw_gd := gd (i := 898) (by decide +kernel) (by decide +kernel)
theorem lk_Ca_116 : Cond.methodLink "SandGuards$Castle" 116 M_Pl_flow.1 ∈ lw_gd := gd (i := 899) (by decide +kernel) (by decide +kernel)
theorem lk_Ca_130 : Cond.methodLink "SandGuards$Castle" 130 M_Ca_quietAt.1 ∈ lw_gd := gd (i := 900) (by decide +kernel) (by decide +kernel)
theorem lk_Ca_134 : Cond.methodLink "SandGuards$Castle" 134 M_Ca_comer.1 ∈ lw_gd := gd (i := 904) (by decide +kernel) (by decide +kernel)
theorem lk_Ca_140 : Cond.methodLink "SandGuards$Castle" 140 M_Ca_relieve.1 ∈ lw_gd := gd (i := 924) (by decide +kernel) (by decide +kernel)
theorem lk_Ca_143 : Cond.methodLink "SandGuards$Castle" 143 M_Ca_leaveBed.1 ∈ lw_gd := gd (i := 929) (by decide +kernel) (by decide +kernel)
theorem lk_Ca_146 : Cond.methodLink "SandGuards$Castle" 146 M_Ca_stand.1 ∈ lw_gd := gd (i := 928) (by decide +kernel) (by decide +kernel)
theorem lk_Ca_149 : Cond.methodLink "SandGuards$Castle" 149 M_Ca_lieBehindAll.1 ∈ lw_gd := gd (i := 933) (by decide +kernel) (by decide +kernel)
theorem lk_Dr_11 : Cond.methodLink "SandGuards$Dryings" 11 M_Ca_init.1 ∈ lw_gd := gd (i := 458) (by decide +kernel) (by decide +kernel)
theorem lk_Dr_28 : Cond.methodLink "SandGuards$Dryings" 28 M_Ca_copyFrom.1 ∈ lw_gd := gd (i := 996) (by decide +kernel) (by decide +kernel)
theorem lk_Dr_32 : Cond.methodLink "SandGuards$Dryings" 32 M_Dr_soonest.1 ∈ lw_gd := gd (i := 997) (by decide +kernel) (by decide +kernel)
theorem lk_Dr_58 : Cond.methodLink "SandGuards$Dryings" 58 M_Dr_tryOne.1 ∈ lw_gd := gd (i := 1015) (by decide +kernel) (by decide +kernel)
theorem lk_Dr_62 : Cond.methodLink "SandGuards$Dryings" 62 M_Dr_mostThatIsSooner.1 ∈ lw_gd := gd (i := 1019) (by decide +kernel) (by decide +kernel)
theorem lk_Dr_72 : Cond.methodLink "SandGuards$Dryings" 72 M_Dr_tryTwo.1 ∈ lw_gd := gd (i := 1030) (by decide +kernel) (by decide +kernel)
theorem lk_Dr_76 : Cond.methodLink "SandGuards$Dryings" 76 M_Ca_sleepWanted.1 ∈ lw_gd := gd (i := 1001) (by decide +kernel) (by decide +kernel)
theorem lk_Dr_80 : Cond.methodLink "SandGuards$Dryings" 80 M_Ca_passSome.1 ∈ lw_gd := gd (i := 1005) (by decide +kernel) (by decide +kernel)
set_option maxRecDepth 40000 in
theorem lk_Dr_83 : Cond.methodLink "SandGuards$Dryings" 83 Lib.Math.max.name ∈ lw_gd ∧ Cond.static Lib.Math.max.name ∈ lw_gd ∧ Cond.initialized "java/lang/Math" ∈ lw_gd ∧ Cond.code Lib.Math.max.name Lib.Math.max.code 2 (some .int) ∈ lw_gd := ⟨gd (i := 1006) (by decide +kernel) (by decide +kernel), gd (i := 939) (by decide +kernel) (by decide +kernel), gd (i := 112) (by decide +kernel) (by decide +kernel), gd (i := 940) (by decide +kernel) (by decide +kernel)⟩
theorem lk_Ga_17 : Cond.methodLink "SandGuards$Game" 17 M_Ca_init.1 ∈ lw_gd := gd (i := 498) (by decide +kernel) (by decide +kernel)
theorem lk_Ga_36 : Cond.methodLink "SandGuards$Game" 36 M_Ga_players.1 ∈ lw_gd := gd (i := 1110) (by decide +kernel) (by decide +kernel)
theorem lk_Ga_45 : Cond.methodLink "SandGuards$Game" 45 M_Ca_copyFrom.1 ∈ lw_gd := gd (i := 1113) (by decide +kernel) (by decide +kernel)
theorem lk_Ga_49 : Cond.methodLink "SandGuards$Game" 49 M_Ga_putPinches.1 ∈ lw_gd := gd (i := 1114) (by decide +kernel) (by decide +kernel)
theorem lk_Ga_53 : Cond.methodLink "SandGuards$Game" 53 M_Ca_passMany.1 ∈ lw_gd := gd (i := 1120) (by decide +kernel) (by decide +kernel)
theorem lk_Ga_57 : Cond.methodLink "SandGuards$Game" 57 M_Ga_noteSleeps.1 ∈ lw_gd := gd (i := 1121) (by decide +kernel) (by decide +kernel)
theorem lk_Ga_64 : Cond.methodLink "SandGuards$Game" 64 M_Ga_isAtRest.1 ∈ lw_gd := gd (i := 1125) (by decide +kernel) (by decide +kernel)
set_option maxRecDepth 40000 in
theorem lk_Ga_74 : Cond.methodLink "SandGuards$Game" 74 Lib.Math.min.name ∈ lw_gd ∧ Cond.static Lib.Math.min.name ∈ lw_gd ∧ Cond.initialized "java/lang/Math" ∈ lw_gd ∧ Cond.code Lib.Math.min.name Lib.Math.min.code 2 (some .int) ∈ lw_gd := ⟨gd (i := 1118) (by decide +kernel) (by decide +kernel), gd (i := 883) (by decide +kernel) (by decide +kernel), gd (i := 112) (by decide +kernel) (by decide +kernel), gd (i := 884) (by decide +kernel) (by decide +kernel)⟩
set_option maxRecDepth 40000 in
theorem lk_Ga_80 : Cond.methodLink "SandGuards$Game" 80 Lib.Math.max.name ∈ lw_gd ∧ Cond.static Lib.Math.max.name ∈ lw_gd ∧ Cond.initialized "java/lang/Math" ∈ lw_gd ∧ Cond.code Lib.Math.max.name Lib.Math.max.code 2 (some .int) ∈ lw_gd := ⟨gd (i := 1119) (by decide +kernel) (by decide +kernel), gd (i := 939) (by decide +kernel) (by decide +kernel), gd (i := 112) (by decide +kernel) (by decide +kernel), gd (i := 940) (by decide +kernel) (by decide +kernel)⟩
theorem lk_Hi_15 : Cond.methodLink "SandGuards$History" 15 M_Ca_init.1 ∈ lw_gd := gd (i := 418) (by decide +kernel) (by decide +kernel)
theorem lk_Hi_20 : Cond.methodLink "SandGuards$History" 20 M_Ca_copyFrom.1 ∈ lw_gd := gd (i := 881) (by decide +kernel) (by decide +kernel)
set_option maxRecDepth 40000 in
theorem lk_Hi_27 : Cond.methodLink "SandGuards$History" 27 Lib.Math.min.name ∈ lw_gd ∧ Cond.static Lib.Math.min.name ∈ lw_gd ∧ Cond.initialized "java/lang/Math" ∈ lw_gd ∧ Cond.code Lib.Math.min.name Lib.Math.min.code 2 (some .int) ∈ lw_gd := ⟨gd (i := 882) (by decide +kernel) (by decide +kernel), gd (i := 883) (by decide +kernel) (by decide +kernel), gd (i := 112) (by decide +kernel) (by decide +kernel), gd (i := 884) (by decide +kernel) (by decide +kernel)⟩
theorem lk_La_41 : Cond.methodLink "SandGuards$Law" 41 arraycopyName ∈ lw_gd ∧ Cond.native arraycopyName ∈ lw_gd ∧ Cond.static arraycopyName ∈ lw_gd ∧ Cond.initialized "java/lang/System" ∈ lw_gd := ⟨gd (i := 819) (by decide +kernel) (by decide +kernel), gd (i := 814) (by decide +kernel) (by decide +kernel), gd (i := 813) (by decide +kernel) (by decide +kernel), gd (i := 111) (by decide +kernel) (by decide +kernel)⟩
theorem lk_Ou_11 : Cond.methodLink "SandGuards$Outlook" 11 M_Ca_init.1 ∈ lw_gd := gd (i := 437) (by decide +kernel) (by decide +kernel)
theorem lk_Ou_18 : Cond.methodLink "SandGuards$Outlook" 18 M_Ca_copyFrom.1 ∈ lw_gd := gd (i := 1046) (by decide +kernel) (by decide +kernel)
theorem lk_Ou_22 : Cond.methodLink "SandGuards$Outlook" 22 M_Ca_passMany.1 ∈ lw_gd := gd (i := 1066) (by decide +kernel) (by decide +kernel)
theorem lk_Ou_34 : Cond.methodLink "SandGuards$Outlook" 34 M_Pl_hourOf.1 ∈ lw_gd := gd (i := 985) (by decide +kernel) (by decide +kernel)
theorem lk_Ou_40 : Cond.methodLink "SandGuards$Outlook" 40 M_Pl_flow.1 ∈ lw_gd := gd (i := 986) (by decide +kernel) (by decide +kernel)
theorem lk_Ou_44 : Cond.methodLink "SandGuards$Outlook" 44 M_Ca_runDown.1 ∈ lw_gd := gd (i := 987) (by decide +kernel) (by decide +kernel)
theorem lk_Ou_51 : Cond.methodLink "SandGuards$Outlook" 51 M_Ca_passSome.1 ∈ lw_gd := gd (i := 1052) (by decide +kernel) (by decide +kernel)
set_option maxRecDepth 40000 in
theorem lk_Ou_55 : Cond.methodLink "SandGuards$Outlook" 55 Lib.Math.max.name ∈ lw_gd ∧ Cond.static Lib.Math.max.name ∈ lw_gd ∧ Cond.initialized "java/lang/Math" ∈ lw_gd ∧ Cond.code Lib.Math.max.name Lib.Math.max.code 2 (some .int) ∈ lw_gd := ⟨gd (i := 1053) (by decide +kernel) (by decide +kernel), gd (i := 939) (by decide +kernel) (by decide +kernel), gd (i := 112) (by decide +kernel) (by decide +kernel), gd (i := 940) (by decide +kernel) (by decide +kernel)⟩
theorem lk_Ou_74 : Cond.methodLink "SandGuards$Outlook" 74 M_Ou_isNotOut.1 ∈ lw_gd := gd (i := 1042) (by decide +kernel) (by decide +kernel)
theorem lk_Ou_78 : Cond.methodLink "SandGuards$Outlook" 78 M_Ou_minutesToBed.1 ∈ lw_gd := gd (i := 1048) (by decide +kernel) (by decide +kernel)
theorem lk_Ou_82 : Cond.methodLink "SandGuards$Outlook" 82 M_Ou_minutesToOut.1 ∈ lw_gd := gd (i := 1047) (by decide +kernel) (by decide +kernel)
set_option maxRecDepth 40000 in
theorem lk_Ou_91 : Cond.methodLink "SandGuards$Outlook" 91 Lib.Math.min.name ∈ lw_gd ∧ Cond.static Lib.Math.min.name ∈ lw_gd ∧ Cond.initialized "java/lang/Math" ∈ lw_gd ∧ Cond.code Lib.Math.min.name Lib.Math.min.code 2 (some .int) ∈ lw_gd := ⟨gd (i := 1079) (by decide +kernel) (by decide +kernel), gd (i := 883) (by decide +kernel) (by decide +kernel), gd (i := 112) (by decide +kernel) (by decide +kernel), gd (i := 884) (by decide +kernel) (by decide +kernel)⟩
theorem lk_Ou_103 : Cond.methodLink "SandGuards$Outlook" 103 M_Ca_exchange.1 ∈ lw_gd := gd (i := 1088) (by decide +kernel) (by decide +kernel)
theorem lk_Ou_107 : Cond.methodLink "SandGuards$Outlook" 107 M_Ca_guardsWhoSlept.1 ∈ lw_gd := gd (i := 1089) (by decide +kernel) (by decide +kernel)
theorem lk_Pl_41 : Cond.methodLink "SandGuards$Plan" 41 M_La_clear.1 ∈ lw_gd := gd (i := 671) (by decide +kernel) (by decide +kernel)
theorem lk_Pl_44 : Cond.methodLink "SandGuards$Plan" 44 M_La_addStep.1 ∈ lw_gd := gd (i := 675) (by decide +kernel) (by decide +kernel)
theorem lk_Pl_58 : Cond.methodLink "SandGuards$Plan" 58 M_La_value.1 ∈ lw_gd := gd (i := 800) (by decide +kernel) (by decide +kernel)
theorem lk_Pl_62 : Cond.methodLink "SandGuards$Plan" 62 arraycopyName ∈ lw_gd ∧ Cond.native arraycopyName ∈ lw_gd ∧ Cond.static arraycopyName ∈ lw_gd ∧ Cond.initialized "java/lang/System" ∈ lw_gd := ⟨gd (i := 812) (by decide +kernel) (by decide +kernel), gd (i := 814) (by decide +kernel) (by decide +kernel), gd (i := 813) (by decide +kernel) (by decide +kernel), gd (i := 111) (by decide +kernel) (by decide +kernel)⟩
theorem lk_Pl_68 : Cond.methodLink "SandGuards$Plan" 68 M_La_copyFrom.1 ∈ lw_gd := gd (i := 815) (by decide +kernel) (by decide +kernel)
theorem lk_Re_20 : Cond.methodLink "SandGuards$Reader" 20 M_Ca_init.1 ∈ lw_gd := gd (i := 242) (by decide +kernel) (by decide +kernel)
theorem lk_Re_46 : Cond.methodLink "SandGuards$Reader" 46 M_To_cut.1 ∈ lw_gd := gd (i := 631) (by decide +kernel) (by decide +kernel)
theorem lk_Re_50 : Cond.methodLink "SandGuards$Reader" 50 M_Pl_clear.1 ∈ lw_gd := gd (i := 667) (by decide +kernel) (by decide +kernel)
theorem lk_Re_53 : Cond.methodLink "SandGuards$Reader" 53 M_Ca_leaveAll.1 ∈ lw_gd := gd (i := 679) (by decide +kernel) (by decide +kernel)
theorem lk_Re_72 : Cond.methodLink "SandGuards$Reader" 72 M_Re_kind.1 ∈ lw_gd := gd (i := 680) (by decide +kernel) (by decide +kernel)
theorem lk_Re_76 : Cond.methodLink "SandGuards$Reader" 76 M_Re_takeTell.1 ∈ lw_gd := gd (i := 684) (by decide +kernel) (by decide +kernel)
theorem lk_Re_83 : Cond.methodLink "SandGuards$Reader" 83 M_Pl_settle.1 ∈ lw_gd := gd (i := 796) (by decide +kernel) (by decide +kernel)
theorem lk_Re_86 : Cond.methodLink "SandGuards$Reader" 86 M_Re_takePost.1 ∈ lw_gd := gd (i := 688) (by decide +kernel) (by decide +kernel)
theorem lk_Re_89 : Cond.methodLink "SandGuards$Reader" 89 M_Re_takeGuard.1 ∈ lw_gd := gd (i := 712) (by decide +kernel) (by decide +kernel)
theorem lk_Re_92 : Cond.methodLink "SandGuards$Reader" 92 M_Re_takeFlow.1 ∈ lw_gd := gd (i := 732) (by decide +kernel) (by decide +kernel)
theorem lk_Re_95 : Cond.methodLink "SandGuards$Reader" 95 M_Re_takeDamp.1 ∈ lw_gd := gd (i := 788) (by decide +kernel) (by decide +kernel)
theorem lk_Re_98 : Cond.methodLink "SandGuards$Reader" 98 M_Re_takeSleep.1 ∈ lw_gd := gd (i := 792) (by decide +kernel) (by decide +kernel)
theorem lk_Re_101 : Cond.methodLink "SandGuards$Reader" 101 M_Re_refuse.1 ∈ lw_gd := gd (i := 692) (by decide +kernel) (by decide +kernel)
theorem lk_Re_108 : Cond.methodLink "SandGuards$Reader" 108 M_Re_take.1 ∈ lw_gd := gd (i := 696) (by decide +kernel) (by decide +kernel)
theorem lk_Re_111 : Cond.methodLink "SandGuards$Reader" 111 M_Re_takeNewName.1 ∈ lw_gd := gd (i := 700) (by decide +kernel) (by decide +kernel)
theorem lk_Re_118 : Cond.methodLink "SandGuards$Reader" 118 M_Re_takeInt.1 ∈ lw_gd := gd (i := 708) (by decide +kernel) (by decide +kernel)
theorem lk_Re_136 : Cond.methodLink "SandGuards$Reader" 136 M_Ca_lieBehindAll.1 ∈ lw_gd := gd (i := 716) (by decide +kernel) (by decide +kernel)
theorem lk_Re_140 : Cond.methodLink "SandGuards$Reader" 140 M_Re_takePostOf.1 ∈ lw_gd := gd (i := 720) (by decide +kernel) (by decide +kernel)
theorem lk_Re_147 : Cond.methodLink "SandGuards$Reader" 147 M_Re_postNamed.1 ∈ lw_gd := gd (i := 724) (by decide +kernel) (by decide +kernel)
theorem lk_Re_151 : Cond.methodLink "SandGuards$Reader" 151 M_Re_note.1 ∈ lw_gd := gd (i := 704) (by decide +kernel) (by decide +kernel)
theorem lk_Re_158 : Cond.methodLink "SandGuards$Reader" 158 M_Ca_stand.1 ∈ lw_gd := gd (i := 728) (by decide +kernel) (by decide +kernel)
theorem lk_Re_174 : Cond.methodLink "SandGuards$Reader" 174 M_La_clear.1 ∈ lw_gd := gd (i := 736) (by decide +kernel) (by decide +kernel)
theorem lk_Re_177 : Cond.methodLink "SandGuards$Reader" 177 M_Re_takeIf.1 ∈ lw_gd := gd (i := 737) (by decide +kernel) (by decide +kernel)
theorem lk_Re_180 : Cond.methodLink "SandGuards$Reader" 180 M_Re_takeSum.1 ∈ lw_gd := gd (i := 741) (by decide +kernel) (by decide +kernel)
theorem lk_Re_183 : Cond.methodLink "SandGuards$Reader" 183 M_Re_addEnd.1 ∈ lw_gd := gd (i := 780) (by decide +kernel) (by decide +kernel)
theorem lk_Re_186 : Cond.methodLink "SandGuards$Reader" 186 M_Re_popUnit.1 ∈ lw_gd := gd (i := 772) (by decide +kernel) (by decide +kernel)
theorem lk_Re_189 : Cond.methodLink "SandGuards$Reader" 189 M_La_addStep.1 ∈ lw_gd := gd (i := 779) (by decide +kernel) (by decide +kernel)
theorem lk_Re_193 : Cond.methodLink "SandGuards$Reader" 193 M_La_aimHere.1 ∈ lw_gd := gd (i := 784) (by decide +kernel) (by decide +kernel)
theorem lk_Re_202 : Cond.methodLink "SandGuards$Reader" 202 M_Re_letWait.1 ∈ lw_gd := gd (i := 745) (by decide +kernel) (by decide +kernel)
theorem lk_Re_205 : Cond.methodLink "SandGuards$Reader" 205 M_Re_addUnit.1 ∈ lw_gd := gd (i := 749) (by decide +kernel) (by decide +kernel)
theorem lk_Re_208 : Cond.methodLink "SandGuards$Reader" 208 M_Re_rank.1 ∈ lw_gd := gd (i := 765) (by decide +kernel) (by decide +kernel)
theorem lk_Re_212 : Cond.methodLink "SandGuards$Reader" 212 M_Re_release.1 ∈ lw_gd := gd (i := 768) (by decide +kernel) (by decide +kernel)
theorem lk_Re_218 : Cond.methodLink "SandGuards$Reader" 218 M_La_useInt.1 ∈ lw_gd := gd (i := 753) (by decide +kernel) (by decide +kernel)
theorem lk_Re_221 : Cond.methodLink "SandGuards$Reader" 221 M_Re_pushUnit.1 ∈ lw_gd := gd (i := 757) (by decide +kernel) (by decide +kernel)
theorem lk_Re_224 : Cond.methodLink "SandGuards$Reader" 224 M_La_useVariable.1 ∈ lw_gd := gd (i := 761) (by decide +kernel) (by decide +kernel)
theorem lk_Re_227 : Cond.methodLink "SandGuards$Reader" 227 M_Re_opOf.1 ∈ lw_gd := gd (i := 776) (by decide +kernel) (by decide +kernel)
theorem lk_Ru_17 : Cond.methodLink "SandGuards$Rumours" 17 M_Ca_init.1 ∈ lw_gd := gd (i := 531) (by decide +kernel) (by decide +kernel)
theorem lk_Ru_45 : Cond.methodLink "SandGuards$Rumours" 45 M_Ru_setDue.1 ∈ lw_gd := gd (i := 1153) (by decide +kernel) (by decide +kernel)
theorem lk_Ru_57 : Cond.methodLink "SandGuards$Rumours" 57 M_Ca_copyFrom.1 ∈ lw_gd := gd (i := 1158) (by decide +kernel) (by decide +kernel)
theorem lk_Ru_64 : Cond.methodLink "SandGuards$Rumours" 64 M_Ru_comesAsDue.1 ∈ lw_gd := gd (i := 1159) (by decide +kernel) (by decide +kernel)
set_option maxRecDepth 40000 in
theorem lk_Ru_68 : Cond.methodLink "SandGuards$Rumours" 68 Lib.Math.max.name ∈ lw_gd ∧ Cond.static Lib.Math.max.name ∈ lw_gd ∧ Cond.initialized "java/lang/Math" ∈ lw_gd ∧ Cond.code Lib.Math.max.name Lib.Math.max.code 2 (some .int) ∈ lw_gd := ⟨gd (i := 1157) (by decide +kernel) (by decide +kernel), gd (i := 939) (by decide +kernel) (by decide +kernel), gd (i := 112) (by decide +kernel) (by decide +kernel), gd (i := 940) (by decide +kernel) (by decide +kernel)⟩
theorem lk_Ru_77 : Cond.methodLink "SandGuards$Rumours" 77 M_Ca_passSome.1 ∈ lw_gd := gd (i := 1163) (by decide +kernel) (by decide +kernel)
theorem lk_Ru_81 : Cond.methodLink "SandGuards$Rumours" 81 M_Ru_isMissed.1 ∈ lw_gd := gd (i := 1164) (by decide +kernel) (by decide +kernel)
theorem lk_Ta_17 : Cond.methodLink "SandGuards$Tape" 17 M_Ta_hasRoomFor.1 ∈ lw_gd := gd (i := 618) (by decide +kernel) (by decide +kernel)
theorem lk_To_25 : Cond.methodLink "SandGuards$Tokens" 25 M_To_skipBlanks.1 ∈ lw_gd := gd (i := 635) (by decide +kernel) (by decide +kernel)
theorem lk_To_35 : Cond.methodLink "SandGuards$Tokens" 35 M_To_addToken.1 ∈ lw_gd := gd (i := 641) (by decide +kernel) (by decide +kernel)
theorem lk_To_43 : Cond.methodLink "SandGuards$Tokens" 43 M_To_isBlank.1 ∈ lw_gd := gd (i := 638) (by decide +kernel) (by decide +kernel)
theorem lk_To_47 : Cond.methodLink "SandGuards$Tokens" 47 M_To_isLetter.1 ∈ lw_gd := gd (i := 645) (by decide +kernel) (by decide +kernel)
theorem lk_To_50 : Cond.methodLink "SandGuards$Tokens" 50 M_To_addWord.1 ∈ lw_gd := gd (i := 648) (by decide +kernel) (by decide +kernel)
theorem lk_To_53 : Cond.methodLink "SandGuards$Tokens" 53 M_To_isDigit.1 ∈ lw_gd := gd (i := 657) (by decide +kernel) (by decide +kernel)
theorem lk_To_56 : Cond.methodLink "SandGuards$Tokens" 56 M_To_addNumber.1 ∈ lw_gd := gd (i := 660) (by decide +kernel) (by decide +kernel)
theorem lk_To_59 : Cond.methodLink "SandGuards$Tokens" 59 M_To_isSign.1 ∈ lw_gd := gd (i := 664) (by decide +kernel) (by decide +kernel)
theorem lk_To_62 : Cond.methodLink "SandGuards$Tokens" 62 M_To_kindOfWord.1 ∈ lw_gd := gd (i := 652) (by decide +kernel) (by decide +kernel)
theorem lk_Lw_9 : Cond.methodLink "SandGuardsLaw" 9 M_Sg_init.1 ∈ lw_gd := gd (i := 115) (by decide +kernel) (by decide +kernel)
theorem lk_Lw_12 : Cond.methodLink "SandGuardsLaw" 12 M_Mo_init.1 ∈ lw_gd := gd (i := 1195) (by decide +kernel) (by decide +kernel)
theorem lk_Lw_13 : Cond.methodLink "SandGuardsLaw" 13 M_Sg_feed.1 ∈ lw_gd := gd (i := 606) (by decide +kernel) (by decide +kernel)
theorem lk_Lw_17 : Cond.methodLink "SandGuardsLaw" 17 M_Mo_feed.1 ∈ lw_gd := gd (i := 1389) (by decide +kernel) (by decide +kernel)
theorem lk_Lw_18 : Cond.methodLink "SandGuardsLaw" 18 M_Sg_back.1 ∈ lw_gd := gd (i := 619) (by decide +kernel) (by decide +kernel)
theorem lk_Lw_22 : Cond.methodLink "SandGuardsLaw" 22 M_Mo_back.1 ∈ lw_gd := gd (i := 1397) (by decide +kernel) (by decide +kernel)
theorem lk_Lw_23 : Cond.methodLink "SandGuardsLaw" 23 M_Sg_read.1 ∈ lw_gd := gd (i := 623) (by decide +kernel) (by decide +kernel)
theorem lk_Lw_27 : Cond.methodLink "SandGuardsLaw" 27 M_Mo_read.1 ∈ lw_gd := gd (i := 1401) (by decide +kernel) (by decide +kernel)
theorem lk_Lw_28 : Cond.methodLink "SandGuardsLaw" 28 M_Sg_place.1 ∈ lw_gd := gd (i := 837) (by decide +kernel) (by decide +kernel)
theorem lk_Lw_31 : Cond.methodLink "SandGuardsLaw" 31 M_Mo_place.1 ∈ lw_gd := gd (i := 1515) (by decide +kernel) (by decide +kernel)
theorem lk_Lw_32 : Cond.methodLink "SandGuardsLaw" 32 M_Sg_post.1 ∈ lw_gd := gd (i := 841) (by decide +kernel) (by decide +kernel)
theorem lk_Lw_36 : Cond.methodLink "SandGuardsLaw" 36 M_Mo_post.1 ∈ lw_gd := gd (i := 1519) (by decide +kernel) (by decide +kernel)
theorem lk_Lw_37 : Cond.methodLink "SandGuardsLaw" 37 M_Sg_guard.1 ∈ lw_gd := gd (i := 857) (by decide +kernel) (by decide +kernel)
theorem lk_Lw_40 : Cond.methodLink "SandGuardsLaw" 40 M_Mo_guard.1 ∈ lw_gd := gd (i := 1542) (by decide +kernel) (by decide +kernel)
theorem lk_Lw_41 : Cond.methodLink "SandGuardsLaw" 41 M_Sg_run.1 ∈ lw_gd := gd (i := 869) (by decide +kernel) (by decide +kernel)
theorem lk_Lw_44 : Cond.methodLink "SandGuardsLaw" 44 M_Mo_run.1 ∈ lw_gd := gd (i := 1558) (by decide +kernel) (by decide +kernel)
theorem lk_Lw_45 : Cond.methodLink "SandGuardsLaw" 45 M_Sg_turn.1 ∈ lw_gd := gd (i := 941) (by decide +kernel) (by decide +kernel)
theorem lk_Lw_49 : Cond.methodLink "SandGuardsLaw" 49 M_Mo_turn.1 ∈ lw_gd := gd (i := 1590) (by decide +kernel) (by decide +kernel)
theorem lk_Lw_50 : Cond.methodLink "SandGuardsLaw" 50 M_Sg_shake.1 ∈ lw_gd := gd (i := 949) (by decide +kernel) (by decide +kernel)
theorem lk_Lw_53 : Cond.methodLink "SandGuardsLaw" 53 M_Mo_shake.1 ∈ lw_gd := gd (i := 1598) (by decide +kernel) (by decide +kernel)
theorem lk_Lw_54 : Cond.methodLink "SandGuardsLaw" 54 M_Sg_dry.1 ∈ lw_gd := gd (i := 954) (by decide +kernel) (by decide +kernel)
theorem lk_Lw_58 : Cond.methodLink "SandGuardsLaw" 58 M_Mo_dry.1 ∈ lw_gd := gd (i := 1602) (by decide +kernel) (by decide +kernel)
theorem lk_Lw_59 : Cond.methodLink "SandGuardsLaw" 59 M_Sg_pinch.1 ∈ lw_gd := gd (i := 958) (by decide +kernel) (by decide +kernel)
theorem lk_Lw_62 : Cond.methodLink "SandGuardsLaw" 62 M_Mo_pinch.1 ∈ lw_gd := gd (i := 1606) (by decide +kernel) (by decide +kernel)
theorem lk_Lw_63 : Cond.methodLink "SandGuardsLaw" 63 M_Sg_send.1 ∈ lw_gd := gd (i := 963) (by decide +kernel) (by decide +kernel)
theorem lk_Lw_67 : Cond.methodLink "SandGuardsLaw" 67 M_Mo_send.1 ∈ lw_gd := gd (i := 1610) (by decide +kernel) (by decide +kernel)
theorem lk_Lw_68 : Cond.methodLink "SandGuardsLaw" 68 M_Sg_undo.1 ∈ lw_gd := gd (i := 969) (by decide +kernel) (by decide +kernel)
theorem lk_Lw_72 : Cond.methodLink "SandGuardsLaw" 72 M_Mo_undo.1 ∈ lw_gd := gd (i := 1614) (by decide +kernel) (by decide +kernel)
theorem lk_Lw_73 : Cond.methodLink "SandGuardsLaw" 73 M_Sg_out.1 ∈ lw_gd := gd (i := 977) (by decide +kernel) (by decide +kernel)
theorem lk_Lw_76 : Cond.methodLink "SandGuardsLaw" 76 M_Mo_out.1 ∈ lw_gd := gd (i := 1618) (by decide +kernel) (by decide +kernel)
theorem lk_Lw_77 : Cond.methodLink "SandGuardsLaw" 77 M_Sg_slept.1 ∈ lw_gd := gd (i := 988) (by decide +kernel) (by decide +kernel)
theorem lk_Lw_80 : Cond.methodLink "SandGuardsLaw" 80 M_Mo_slept.1 ∈ lw_gd := gd (i := 1622) (by decide +kernel) (by decide +kernel)
theorem lk_Lw_81 : Cond.methodLink "SandGuardsLaw" 81 M_Sg_dryFirst.1 ∈ lw_gd := gd (i := 1007) (by decide +kernel) (by decide +kernel)
theorem lk_Lw_84 : Cond.methodLink "SandGuardsLaw" 84 M_Mo_dryFirst.1 ∈ lw_gd := gd (i := 1637) (by decide +kernel) (by decide +kernel)
theorem lk_Lw_85 : Cond.methodLink "SandGuardsLaw" 85 M_Sg_dryTwo.1 ∈ lw_gd := gd (i := 1022) (by decide +kernel) (by decide +kernel)
theorem lk_Lw_88 : Cond.methodLink "SandGuardsLaw" 88 M_Mo_dryTwo.1 ∈ lw_gd := gd (i := 1641) (by decide +kernel) (by decide +kernel)
theorem lk_Lw_89 : Cond.methodLink "SandGuardsLaw" 89 M_Sg_bribe.1 ∈ lw_gd := gd (i := 1034) (by decide +kernel) (by decide +kernel)
theorem lk_Lw_92 : Cond.methodLink "SandGuardsLaw" 92 M_Mo_bribe.1 ∈ lw_gd := gd (i := 1645) (by decide +kernel) (by decide +kernel)
theorem lk_Lw_93 : Cond.methodLink "SandGuardsLaw" 93 M_Sg_weak.1 ∈ lw_gd := gd (i := 1054) (by decide +kernel) (by decide +kernel)
theorem lk_Lw_96 : Cond.methodLink "SandGuardsLaw" 96 M_Mo_weak.1 ∈ lw_gd := gd (i := 1649) (by decide +kernel) (by decide +kernel)
theorem lk_Lw_97 : Cond.methodLink "SandGuardsLaw" 97 M_Sg_never.1 ∈ lw_gd := gd (i := 1058) (by decide +kernel) (by decide +kernel)
theorem lk_Lw_100 : Cond.methodLink "SandGuardsLaw" 100 M_Mo_never.1 ∈ lw_gd := gd (i := 1657) (by decide +kernel) (by decide +kernel)
theorem lk_Lw_101 : Cond.methodLink "SandGuardsLaw" 101 M_Sg_spread.1 ∈ lw_gd := gd (i := 1071) (by decide +kernel) (by decide +kernel)
theorem lk_Lw_104 : Cond.methodLink "SandGuardsLaw" 104 M_Mo_spread.1 ∈ lw_gd := gd (i := 1661) (by decide +kernel) (by decide +kernel)
theorem lk_Lw_105 : Cond.methodLink "SandGuardsLaw" 105 M_Sg_shakeWorst.1 ∈ lw_gd := gd (i := 1080) (by decide +kernel) (by decide +kernel)
theorem lk_Lw_108 : Cond.methodLink "SandGuardsLaw" 108 M_Mo_shakeWorst.1 ∈ lw_gd := gd (i := 1665) (by decide +kernel) (by decide +kernel)
theorem lk_Lw_109 : Cond.methodLink "SandGuardsLaw" 109 M_Sg_longest.1 ∈ lw_gd := gd (i := 1093) (by decide +kernel) (by decide +kernel)
theorem lk_Lw_112 : Cond.methodLink "SandGuardsLaw" 112 M_Mo_longest.1 ∈ lw_gd := gd (i := 1669) (by decide +kernel) (by decide +kernel)
theorem lk_Lw_113 : Cond.methodLink "SandGuardsLaw" 113 M_Sg_rests.1 ∈ lw_gd := gd (i := 1102) (by decide +kernel) (by decide +kernel)
theorem lk_Lw_117 : Cond.methodLink "SandGuardsLaw" 117 M_Mo_rests.1 ∈ lw_gd := gd (i := 1677) (by decide +kernel) (by decide +kernel)
theorem lk_Lw_118 : Cond.methodLink "SandGuardsLaw" 118 M_Sg_where.1 ∈ lw_gd := gd (i := 1129) (by decide +kernel) (by decide +kernel)
theorem lk_Lw_121 : Cond.methodLink "SandGuardsLaw" 121 M_Mo_where.1 ∈ lw_gd := gd (i := 1673) (by decide +kernel) (by decide +kernel)
theorem lk_Lw_122 : Cond.methodLink "SandGuardsLaw" 122 M_Sg_tell.1 ∈ lw_gd := gd (i := 1133) (by decide +kernel) (by decide +kernel)
theorem lk_Lw_125 : Cond.methodLink "SandGuardsLaw" 125 M_Mo_tell_.1 ∈ lw_gd := gd (i := 1693) (by decide +kernel) (by decide +kernel)
theorem lk_Lw_126 : Cond.methodLink "SandGuardsLaw" 126 M_Sg_forget.1 ∈ lw_gd := gd (i := 1141) (by decide +kernel) (by decide +kernel)
theorem lk_Lw_129 : Cond.methodLink "SandGuardsLaw" 129 M_Mo_forget.1 ∈ lw_gd := gd (i := 1697) (by decide +kernel) (by decide +kernel)
theorem lk_Lw_130 : Cond.methodLink "SandGuardsLaw" 130 M_Sg_tampered.1 ∈ lw_gd := gd (i := 1145) (by decide +kernel) (by decide +kernel)
theorem lk_Lw_133 : Cond.methodLink "SandGuardsLaw" 133 M_Mo_tampered.1 ∈ lw_gd := gd (i := 1701) (by decide +kernel) (by decide +kernel)
theorem lk_Lw_134 : Cond.methodLink "SandGuardsLaw" 134 M_Sg_hold.1 ∈ lw_gd := gd (i := 1168) (by decide +kernel) (by decide +kernel)
theorem lk_Lw_137 : Cond.methodLink "SandGuardsLaw" 137 M_Mo_hold.1 ∈ lw_gd := gd (i := 1709) (by decide +kernel) (by decide +kernel)
theorem lk_Lw_138 : Cond.methodLink "SandGuardsLaw" 138 M_Sg_restore.1 ∈ lw_gd := gd (i := 1172) (by decide +kernel) (by decide +kernel)
theorem lk_Lw_141 : Cond.methodLink "SandGuardsLaw" 141 M_Mo_restore.1 ∈ lw_gd := gd (i := 1713) (by decide +kernel) (by decide +kernel)
theorem lk_Lw_142 : Cond.methodLink "SandGuardsLaw" 142 M_Sg_count.1 ∈ lw_gd := gd (i := 1176) (by decide +kernel) (by decide +kernel)
theorem lk_Lw_145 : Cond.methodLink "SandGuardsLaw" 145 M_Mo_count.1 ∈ lw_gd := gd (i := 1717) (by decide +kernel) (by decide +kernel)
theorem lk_Mo_143 : Cond.methodLink "SandGuardsModel" 143 M_Mo_word.1 ∈ lw_gd := gd (i := 1199) (by decide +kernel) (by decide +kernel)
theorem lk_Mo_150 : Cond.methodLink "SandGuardsModel" 150 M_Mo_put.1 ∈ lw_gd := gd (i := 1393) (by decide +kernel) (by decide +kernel)
theorem lk_Mo_159 : Cond.methodLink "SandGuardsModel" 159 M_Mo_appends.1 ∈ lw_gd := gd (i := 1202) (by decide +kernel) (by decide +kernel)
theorem lk_Mo_166 : Cond.methodLink "SandGuardsModel" 166 M_Mo_byteAt.1 ∈ lw_gd := gd (i := 1409) (by decide +kernel) (by decide +kernel)
theorem lk_Mo_170 : Cond.methodLink "SandGuardsModel" 170 M_Mo_token.1 ∈ lw_gd := gd (i := 1413) (by decide +kernel) (by decide +kernel)
theorem lk_Mo_174 : Cond.methodLink "SandGuardsModel" 174 M_Mo_isLetter.1 ∈ lw_gd := gd (i := 1417) (by decide +kernel) (by decide +kernel)
theorem lk_Mo_178 : Cond.methodLink "SandGuardsModel" 178 M_Mo_isDigit.1 ∈ lw_gd := gd (i := 1420) (by decide +kernel) (by decide +kernel)
theorem lk_Mo_181 : Cond.methodLink "SandGuardsModel" 181 M_Mo_sign.1 ∈ lw_gd := gd (i := 1423) (by decide +kernel) (by decide +kernel)
theorem lk_Mo_200 : Cond.methodLink "SandGuardsModel" 200 M_Mo_fail.1 ∈ lw_gd := gd (i := 1439) (by decide +kernel) (by decide +kernel)
theorem lk_Mo_203 : Cond.methodLink "SandGuardsModel" 203 M_Mo_is.1 ∈ lw_gd := gd (i := 1427) (by decide +kernel) (by decide +kernel)
theorem lk_Mo_206 : Cond.methodLink "SandGuardsModel" 206 M_Mo_goesOn.1 ∈ lw_gd := gd (i := 1443) (by decide +kernel) (by decide +kernel)
theorem lk_Mo_209 : Cond.methodLink "SandGuardsModel" 209 M_Mo_cut.1 ∈ lw_gd := gd (i := 1405) (by decide +kernel) (by decide +kernel)
theorem lk_Mo_230 : Cond.methodLink "SandGuardsModel" 230 M_Mo_tell.1 ∈ lw_gd := gd (i := 1431) (by decide +kernel) (by decide +kernel)
theorem lk_Mo_233 : Cond.methodLink "SandGuardsModel" 233 M_Mo_begins.1 ∈ lw_gd := gd (i := 1507) (by decide +kernel) (by decide +kernel)
theorem lk_Mo_242 : Cond.methodLink "SandGuardsModel" 242 M_Mo_roomFor.1 ∈ lw_gd := gd (i := 1435) (by decide +kernel) (by decide +kernel)
theorem lk_Mo_246 : Cond.methodLink "SandGuardsModel" 246 M_Mo_tellPost.1 ∈ lw_gd := gd (i := 1447) (by decide +kernel) (by decide +kernel)
theorem lk_Mo_249 : Cond.methodLink "SandGuardsModel" 249 M_Mo_tellGuard.1 ∈ lw_gd := gd (i := 1471) (by decide +kernel) (by decide +kernel)
theorem lk_Mo_252 : Cond.methodLink "SandGuardsModel" 252 M_Mo_must.1 ∈ lw_gd := gd (i := 1455) (by decide +kernel) (by decide +kernel)
theorem lk_Mo_255 : Cond.methodLink "SandGuardsModel" 255 M_Mo_tellLaw.1 ∈ lw_gd := gd (i := 1479) (by decide +kernel) (by decide +kernel)
theorem lk_Mo_258 : Cond.methodLink "SandGuardsModel" 258 M_Mo_tellDamp.1 ∈ lw_gd := gd (i := 1503) (by decide +kernel) (by decide +kernel)
theorem lk_Mo_261 : Cond.methodLink "SandGuardsModel" 261 M_Mo_bounded.1 ∈ lw_gd := gd (i := 1463) (by decide +kernel) (by decide +kernel)
theorem lk_Mo_265 : Cond.methodLink "SandGuardsModel" 265 M_Mo_wrong.1 ∈ lw_gd := gd (i := 1459) (by decide +kernel) (by decide +kernel)
theorem lk_Mo_268 : Cond.methodLink "SandGuardsModel" 268 M_Mo_named.1 ∈ lw_gd := gd (i := 1451) (by decide +kernel) (by decide +kernel)
theorem lk_Mo_272 : Cond.methodLink "SandGuardsModel" 272 M_Mo_notes.1 ∈ lw_gd := gd (i := 1467) (by decide +kernel) (by decide +kernel)
theorem lk_Mo_276 : Cond.methodLink "SandGuardsModel" 276 M_Mo_atPost.1 ∈ lw_gd := gd (i := 1475) (by decide +kernel) (by decide +kernel)
theorem lk_Mo_279 : Cond.methodLink "SandGuardsModel" 279 M_Mo_expression.1 ∈ lw_gd := gd (i := 1483) (by decide +kernel) (by decide +kernel)
theorem lk_Mo_282 : Cond.methodLink "SandGuardsModel" 282 M_Mo_term.1 ∈ lw_gd := gd (i := 1499) (by decide +kernel) (by decide +kernel)
theorem lk_Mo_288 : Cond.methodLink "SandGuardsModel" 288 M_Mo_emit.1 ∈ lw_gd := gd (i := 1491) (by decide +kernel) (by decide +kernel)
theorem lk_Mo_291 : Cond.methodLink "SandGuardsModel" 291 M_Mo_unit.1 ∈ lw_gd := gd (i := 1487) (by decide +kernel) (by decide +kernel)
theorem lk_Mo_294 : Cond.methodLink "SandGuardsModel" 294 M_Mo_comesOut.1 ∈ lw_gd := gd (i := 1495) (by decide +kernel) (by decide +kernel)
theorem lk_Mo_302 : Cond.methodLink "SandGuardsModel" 302 M_Mo_in.1 ∈ lw_gd := gd (i := 1527) (by decide +kernel) (by decide +kernel)
theorem lk_Mo_306 : Cond.methodLink "SandGuardsModel" 306 M_Mo_liesDown.1 ∈ lw_gd := gd (i := 1511) (by decide +kernel) (by decide +kernel)
theorem lk_Mo_309 : Cond.methodLink "SandGuardsModel" 309 M_Mo_termOf.1 ∈ lw_gd := gd (i := 1538) (by decide +kernel) (by decide +kernel)
theorem lk_Mo_312 : Cond.methodLink "SandGuardsModel" 312 M_Mo_flowOf.1 ∈ lw_gd := gd (i := 1534) (by decide +kernel) (by decide +kernel)
theorem lk_Mo_315 : Cond.methodLink "SandGuardsModel" 315 M_Mo_comes.1 ∈ lw_gd := gd (i := 1578) (by decide +kernel) (by decide +kernel)
theorem lk_Mo_318 : Cond.methodLink "SandGuardsModel" 318 M_Mo_getsUp.1 ∈ lw_gd := gd (i := 1582) (by decide +kernel) (by decide +kernel)
theorem lk_Mo_321 : Cond.methodLink "SandGuardsModel" 321 M_Mo_runs.1 ∈ lw_gd := gd (i := 1570) (by decide +kernel) (by decide +kernel)
theorem lk_Mo_324 : Cond.methodLink "SandGuardsModel" 324 M_Mo_relieves.1 ∈ lw_gd := gd (i := 1574) (by decide +kernel) (by decide +kernel)
theorem lk_Mo_327 : Cond.methodLink "SandGuardsModel" 327 M_Mo_isPost.1 ∈ lw_gd := gd (i := 1523) (by decide +kernel) (by decide +kernel)
theorem lk_Mo_330 : Cond.methodLink "SandGuardsModel" 330 M_Mo_copies.1 ∈ lw_gd := gd (i := 1530) (by decide +kernel) (by decide +kernel)
theorem lk_Mo_333 : Cond.methodLink "SandGuardsModel" 333 M_Mo_isGuard.1 ∈ lw_gd := gd (i := 1546) (by decide +kernel) (by decide +kernel)
theorem lk_Mo_336 : Cond.methodLink "SandGuardsModel" 336 M_Mo_postOf.1 ∈ lw_gd := gd (i := 1550) (by decide +kernel) (by decide +kernel)
theorem lk_Mo_339 : Cond.methodLink "SandGuardsModel" 339 M_Mo_placeInBed.1 ∈ lw_gd := gd (i := 1554) (by decide +kernel) (by decide +kernel)
theorem lk_Mo_342 : Cond.methodLink "SandGuardsModel" 342 M_Mo_minuteGoes.1 ∈ lw_gd := gd (i := 1566) (by decide +kernel) (by decide +kernel)
theorem lk_Mo_345 : Cond.methodLink "SandGuardsModel" 345 M_Mo_goes.1 ∈ lw_gd := gd (i := 1562) (by decide +kernel) (by decide +kernel)
theorem lk_Mo_348 : Cond.methodLink "SandGuardsModel" 348 M_Mo_keeps.1 ∈ lw_gd := gd (i := 1586) (by decide +kernel) (by decide +kernel)
theorem lk_Mo_351 : Cond.methodLink "SandGuardsModel" 351 M_Mo_turns.1 ∈ lw_gd := gd (i := 1594) (by decide +kernel) (by decide +kernel)
theorem lk_Mo_354 : Cond.methodLink "SandGuardsModel" 354 M_Mo_sleptOnes.1 ∈ lw_gd := gd (i := 1630) (by decide +kernel) (by decide +kernel)
theorem lk_Mo_357 : Cond.methodLink "SandGuardsModel" 357 M_Mo_sleptBy.1 ∈ lw_gd := gd (i := 1626) (by decide +kernel) (by decide +kernel)
theorem lk_Mo_360 : Cond.methodLink "SandGuardsModel" 360 M_Mo_orNot.1 ∈ lw_gd := gd (i := 1634) (by decide +kernel) (by decide +kernel)
theorem lk_Mo_363 : Cond.methodLink "SandGuardsModel" 363 M_Mo_emptyOnes.1 ∈ lw_gd := gd (i := 1653) (by decide +kernel) (by decide +kernel)
theorem lk_Mo_366 : Cond.methodLink "SandGuardsModel" 366 M_Mo_isAllowed.1 ∈ lw_gd := gd (i := 1685) (by decide +kernel) (by decide +kernel)
theorem lk_Mo_369 : Cond.methodLink "SandGuardsModel" 369 M_Mo_fillsPinches.1 ∈ lw_gd := gd (i := 1681) (by decide +kernel) (by decide +kernel)
theorem lk_Mo_372 : Cond.methodLink "SandGuardsModel" 372 M_Mo_isResting.1 ∈ lw_gd := gd (i := 1689) (by decide +kernel) (by decide +kernel)
theorem lk_Mo_375 : Cond.methodLink "SandGuardsModel" 375 M_Mo_isSo.1 ∈ lw_gd := gd (i := 1705) (by decide +kernel) (by decide +kernel)
theorem w_c139 : Cond.constant "SandGuards$Castle" 139 (Int32.ofInt 2147483647) ∈ lw_gd := gd (i := 908) (by decide +kernel) (by decide +kernel)
theorem w_l193 : Cond.constantLong "SandGuards" 193 (Int64.ofInt 9999) ∈ lw_gd := gd (i := 962) (by decide +kernel) (by decide +kernel)
theorem w_l157 : Cond.constantLong "SandGuardsModel" 157 (Int64.ofInt 27) ∈ lw_gd := gd (i := 1205) (by decide +kernel) (by decide +kernel)
theorem w_words : Cond.fieldLink "SandGuards$Tokens" 66 "SandGuards$Tokens" "WORDS" "[J" ∈ lw_gd := gd (i := 655) (by decide +kernel) (by decide +kernel)
