def sM_0 : List gb_Ce := [.inr (10, [none, some none, some none, none, some none, none, none, some none, some none, some none, some none, some none, some none, none, none, none, none, none, some none, some none, some none, some none, some none, some none, some none, some none, none, none, none, some none, none, none, none, none, none, none, some none, none, some none, none, some none, some none, some none, none, some none, some none, some none, some none, some none, some none, none, some none, some none, none, some none, some none, none, some none, none, some none, some none, none, some none, some none, none, some none, some none, none, none, none, some none])]
def iM_0 : gb_Mem := fun _ _ => 0
def sM_1 : List gb_Ce := [.inr (10, [none, some none, some none, none, some none, none, none, some none, some none, some none, some none, some none, some none, none, none, none, none, none, some none, some none, some none, some none, some none, some none, some none, some none, none, none, none, some none, none, none, none, none, none, none, some none, none, some none, none, some none, some none, some none, none, some none, some none, some none, some none, some none, some none, none, some none, some none, none, some none, some none, none, some none, none, some none, some none, none, some none, some none, none, some none, some none, none, none, none, some none]), .inl (.inl 80)]
def sM_2 : List gb_Ce := [.inr (10, [none, some (some 1), some none, none, some none, none, none, some none, some none, some none, some none, some none, some none, none, none, none, none, none, some none, some none, some none, some none, some none, some none, some none, some none, none, none, none, some none, none, none, none, none, none, none, some none, none, some none, none, some none, some none, some none, none, some none, some none, some none, some none, some none, some none, none, some none, some none, none, some none, some none, none, some none, none, some none, some none, none, some none, some none, none, some none, some none, none, none, none, some none]), .inl (.inl 80)]
def sM_3 : List gb_Ce := [.inr (10, [none, some (some 1), some none, none, some none, none, none, some none, some none, some none, some none, some none, some none, none, none, none, none, none, some none, some none, some none, some none, some none, some none, some none, some none, none, none, none, some none, none, none, none, none, none, none, some none, none, some none, none, some none, some none, some none, none, some none, some none, some none, some none, some none, some none, none, some none, some none, none, some none, some none, none, some none, none, some none, some none, none, some none, some none, none, some none, some none, none, none, none, some none]), .inl (.inl 80), .inl (.inl 480)]
def sM_4 : List gb_Ce := [.inr (10, [none, some (some 1), some (some 2), none, some none, none, none, some none, some none, some none, some none, some none, some none, none, none, none, none, none, some none, some none, some none, some none, some none, some none, some none, some none, none, none, none, some none, none, none, none, none, none, none, some none, none, some none, none, some none, some none, some none, none, some none, some none, some none, some none, some none, some none, none, some none, some none, none, some none, some none, none, some none, none, some none, some none, none, some none, some none, none, some none, some none, none, none, none, some none]), .inl (.inl 80), .inl (.inl 480)]
def sM_5 : List gb_Ce := [.inr (10, [none, some (some 1), some (some 2), none, some none, none, none, some none, some none, some none, some none, some none, some none, none, none, none, none, none, some none, some none, some none, some none, some none, some none, some none, some none, none, none, none, some none, none, none, none, none, none, none, some none, none, some none, none, some none, some none, some none, none, some none, some none, some none, some none, some none, some none, none, some none, some none, none, some none, some none, none, some none, none, some none, some none, none, some none, some none, none, some none, some none, none, none, none, some none]), .inl (.inl 80), .inl (.inl 480), .inl (.inl 80)]
def sM_6 : List gb_Ce := [.inr (10, [none, some (some 1), some (some 2), none, some (some 3), none, none, some none, some none, some none, some none, some none, some none, none, none, none, none, none, some none, some none, some none, some none, some none, some none, some none, some none, none, none, none, some none, none, none, none, none, none, none, some none, none, some none, none, some none, some none, some none, none, some none, some none, some none, some none, some none, some none, none, some none, some none, none, some none, some none, none, some none, none, some none, some none, none, some none, some none, none, some none, some none, none, none, none, some none]), .inl (.inl 80), .inl (.inl 480), .inl (.inl 80)]
def sM_7 : List gb_Ce := [.inr (10, [none, some (some 1), some (some 2), none, some (some 3), none, none, some none, some none, some none, some none, some none, some none, none, none, none, none, none, some none, some none, some none, some none, some none, some none, some none, some none, none, none, none, some none, none, none, none, none, none, none, some none, none, some none, none, some none, some none, some none, none, some none, some none, some none, some none, some none, some none, none, some none, some none, none, some none, some none, none, some none, none, some none, some none, none, some none, some none, none, some none, some none, none, none, none, some none]), .inl (.inl 80), .inl (.inl 480), .inl (.inl 80), .inl (.inl 12)]
def sM_8 : List gb_Ce := [.inr (10, [none, some (some 1), some (some 2), none, some (some 3), none, none, some (some 4), some none, some none, some none, some none, some none, none, none, none, none, none, some none, some none, some none, some none, some none, some none, some none, some none, none, none, none, some none, none, none, none, none, none, none, some none, none, some none, none, some none, some none, some none, none, some none, some none, some none, some none, some none, some none, none, some none, some none, none, some none, some none, none, some none, none, some none, some none, none, some none, some none, none, some none, some none, none, none, none, some none]), .inl (.inl 80), .inl (.inl 480), .inl (.inl 80), .inl (.inl 12)]
def sM_9 : List gb_Ce := [.inr (10, [none, some (some 1), some (some 2), none, some (some 3), none, none, some (some 4), some none, some none, some none, some none, some none, none, none, none, none, none, some none, some none, some none, some none, some none, some none, some none, some none, none, none, none, some none, none, none, none, none, none, none, some none, none, some none, none, some none, some none, some none, none, some none, some none, some none, some none, some none, some none, none, some none, some none, none, some none, some none, none, some none, none, some none, some none, none, some none, some none, none, some none, some none, none, none, none, some none]), .inl (.inl 80), .inl (.inl 480), .inl (.inl 80), .inl (.inl 12), .inl (.inl 12)]
def sM_10 : List gb_Ce := [.inr (10, [none, some (some 1), some (some 2), none, some (some 3), none, none, some (some 4), some (some 5), some none, some none, some none, some none, none, none, none, none, none, some none, some none, some none, some none, some none, some none, some none, some none, none, none, none, some none, none, none, none, none, none, none, some none, none, some none, none, some none, some none, some none, none, some none, some none, some none, some none, some none, some none, none, some none, some none, none, some none, some none, none, some none, none, some none, some none, none, some none, some none, none, some none, some none, none, none, none, some none]), .inl (.inl 80), .inl (.inl 480), .inl (.inl 80), .inl (.inl 12), .inl (.inl 12)]
def sM_11 : List gb_Ce := [.inr (10, [none, some (some 1), some (some 2), none, some (some 3), none, none, some (some 4), some (some 5), some none, some none, some none, some none, none, none, none, none, none, some none, some none, some none, some none, some none, some none, some none, some none, none, none, none, some none, none, none, none, none, none, none, some none, none, some none, none, some none, some none, some none, none, some none, some none, some none, some none, some none, some none, none, some none, some none, none, some none, some none, none, some none, none, some none, some none, none, some none, some none, none, some none, some none, none, none, none, some none]), .inl (.inl 80), .inl (.inl 480), .inl (.inl 80), .inl (.inl 12), .inl (.inl 12), .inl (.inl 12)]
def sM_12 : List gb_Ce := [.inr (10, [none, some (some 1), some (some 2), none, some (some 3), none, none, some (some 4), some (some 5), some (some 6), some none, some none, some none, none, none, none, none, none, some none, some none, some none, some none, some none, some none, some none, some none, none, none, none, some none, none, none, none, none, none, none, some none, none, some none, none, some none, some none, some none, none, some none, some none, some none, some none, some none, some none, none, some none, some none, none, some none, some none, none, some none, none, some none, some none, none, some none, some none, none, some none, some none, none, none, none, some none]), .inl (.inl 80), .inl (.inl 480), .inl (.inl 80), .inl (.inl 12), .inl (.inl 12), .inl (.inl 12)]
def sM_13 : List gb_Ce := [.inr (10, [none, some (some 1), some (some 2), none, some (some 3), none, none, some (some 4), some (some 5), some (some 6), some none, some none, some none, none, none, none, none, none, some none, some none, some none, some none, some none, some none, some none, some none, none, none, none, some none, none, none, none, none, none, none, some none, none, some none, none, some none, some none, some none, none, some none, some none, some none, some none, some none, some none, none, some none, some none, none, some none, some none, none, some none, none, some none, some none, none, some none, some none, none, some none, some none, none, none, none, some none]), .inl (.inl 80), .inl (.inl 480), .inl (.inl 80), .inl (.inl 12), .inl (.inl 12), .inl (.inl 12), .inl (.inl 8)]
def sM_14 : List gb_Ce := [.inr (10, [none, some (some 1), some (some 2), none, some (some 3), none, none, some (some 4), some (some 5), some (some 6), some (some 7), some none, some none, none, none, none, none, none, some none, some none, some none, some none, some none, some none, some none, some none, none, none, none, some none, none, none, none, none, none, none, some none, none, some none, none, some none, some none, some none, none, some none, some none, some none, some none, some none, some none, none, some none, some none, none, some none, some none, none, some none, none, some none, some none, none, some none, some none, none, some none, some none, none, none, none, some none]), .inl (.inl 80), .inl (.inl 480), .inl (.inl 80), .inl (.inl 12), .inl (.inl 12), .inl (.inl 12), .inl (.inl 8)]
def sM_15 : List gb_Ce := [.inr (10, [none, some (some 1), some (some 2), none, some (some 3), none, none, some (some 4), some (some 5), some (some 6), some (some 7), some none, some none, none, none, none, none, none, some none, some none, some none, some none, some none, some none, some none, some none, none, none, none, some none, none, none, none, none, none, none, some none, none, some none, none, some none, some none, some none, none, some none, some none, some none, some none, some none, some none, none, some none, some none, none, some none, some none, none, some none, none, some none, some none, none, some none, some none, none, some none, some none, none, none, none, some none]), .inl (.inl 80), .inl (.inl 480), .inl (.inl 80), .inl (.inl 12), .inl (.inl 12), .inl (.inl 12), .inl (.inl 8), .inl (.inl 600)]
def sM_16 : List gb_Ce := [.inr (10, [none, some (some 1), some (some 2), none, some (some 3), none, none, some (some 4), some (some 5), some (some 6), some (some 7), some (some 8), some none, none, none, none, none, none, some none, some none, some none, some none, some none, some none, some none, some none, none, none, none, some none, none, none, none, none, none, none, some none, none, some none, none, some none, some none, some none, none, some none, some none, some none, some none, some none, some none, none, some none, some none, none, some none, some none, none, some none, none, some none, some none, none, some none, some none, none, some none, some none, none, none, none, some none]), .inl (.inl 80), .inl (.inl 480), .inl (.inl 80), .inl (.inl 12), .inl (.inl 12), .inl (.inl 12), .inl (.inl 8), .inl (.inl 600)]
def sM_17 : List gb_Ce := [.inr (10, [none, some (some 1), some (some 2), none, some (some 3), none, none, some (some 4), some (some 5), some (some 6), some (some 7), some (some 8), some none, none, none, none, none, none, some none, some none, some none, some none, some none, some none, some none, some none, none, none, none, some none, none, none, none, none, none, none, some none, none, some none, none, some none, some none, some none, none, some none, some none, some none, some none, some none, some none, none, some none, some none, none, some none, some none, none, some none, none, some none, some none, none, some none, some none, none, some none, some none, none, none, none, some none]), .inl (.inl 80), .inl (.inl 480), .inl (.inl 80), .inl (.inl 12), .inl (.inl 12), .inl (.inl 12), .inl (.inl 8), .inl (.inl 600), .inl (.inl 400)]
def sM_18 : List gb_Ce := [.inr (10, [none, some (some 1), some (some 2), none, some (some 3), none, none, some (some 4), some (some 5), some (some 6), some (some 7), some (some 8), some (some 9), none, none, none, none, none, some none, some none, some none, some none, some none, some none, some none, some none, none, none, none, some none, none, none, none, none, none, none, some none, none, some none, none, some none, some none, some none, none, some none, some none, some none, some none, some none, some none, none, some none, some none, none, some none, some none, none, some none, none, some none, some none, none, some none, some none, none, some none, some none, none, none, none, some none]), .inl (.inl 80), .inl (.inl 480), .inl (.inl 80), .inl (.inl 12), .inl (.inl 12), .inl (.inl 12), .inl (.inl 8), .inl (.inl 600), .inl (.inl 400)]
def sM_19 : List gb_Ce := [.inr (10, [none, some (some 1), some (some 2), none, some (some 3), none, none, some (some 4), some (some 5), some (some 6), some (some 7), some (some 8), some (some 9), none, none, none, none, none, some none, some none, some none, some none, some none, some none, some none, some none, none, none, none, some none, none, none, none, none, none, none, some none, none, some none, none, some none, some none, some none, none, some none, some none, some none, some none, some none, some none, none, some none, some none, none, some none, some none, none, some none, none, some none, some none, none, some none, some none, none, some none, some none, none, none, none, some none]), .inl (.inl 80), .inl (.inl 480), .inl (.inl 80), .inl (.inl 12), .inl (.inl 12), .inl (.inl 12), .inl (.inl 8), .inl (.inl 600), .inl (.inl 400), .inl (.inl 142)]
def iM_1 : gb_Mem := mw iM_0 10 0 32
def iM_2 : gb_Mem := mw iM_1 10 1 112
def iM_3 : gb_Mem := mw iM_2 10 2 97
def iM_4 : gb_Mem := mw iM_3 10 3 115
def iM_5 : gb_Mem := mw iM_4 10 4 115
def iM_6 : gb_Mem := mw iM_5 10 5 101
def iM_7 : gb_Mem := mw iM_6 10 6 115
def iM_8 : gb_Mem := mw iM_7 10 7 32
def iM_9 : gb_Mem := mw iM_8 10 8 112
def iM_10 : gb_Mem := mw iM_9 10 9 111
def iM_11 : gb_Mem := mw iM_10 10 10 117
def iM_12 : gb_Mem := mw iM_11 10 11 114
def iM_13 : gb_Mem := mw iM_12 10 12 115
def iM_14 : gb_Mem := mw iM_13 10 13 32
def iM_15 : gb_Mem := mw iM_14 10 14 115
def iM_16 : gb_Mem := mw iM_15 10 15 112
def iM_17 : gb_Mem := mw iM_16 10 16 105
def iM_18 : gb_Mem := mw iM_17 10 17 108
def iM_19 : gb_Mem := mw iM_18 10 18 108
def iM_20 : gb_Mem := mw iM_19 10 19 115
def iM_21 : gb_Mem := mw iM_20 10 20 32
def iM_22 : gb_Mem := mw iM_21 10 21 119
def iM_23 : gb_Mem := mw iM_22 10 22 104
def iM_24 : gb_Mem := mw iM_23 10 23 101
def iM_25 : gb_Mem := mw iM_24 10 24 110
def iM_26 : gb_Mem := mw iM_25 10 25 32
def iM_27 : gb_Mem := mw iM_26 10 26 111
def iM_28 : gb_Mem := mw iM_27 10 27 114
def iM_29 : gb_Mem := mw iM_28 10 28 32
def iM_30 : gb_Mem := mw iM_29 10 29 97
def iM_31 : gb_Mem := mw iM_30 10 30 110
def iM_32 : gb_Mem := mw iM_31 10 31 100
def iM_33 : gb_Mem := mw iM_32 10 32 32
def iM_34 : gb_Mem := mw iM_33 10 33 110
def iM_35 : gb_Mem := mw iM_34 10 34 111
def iM_36 : gb_Mem := mw iM_35 10 35 116
def iM_37 : gb_Mem := mw iM_36 10 36 32
def iM_38 : gb_Mem := mw iM_37 10 37 107
def iM_39 : gb_Mem := mw iM_38 10 38 105
def iM_40 : gb_Mem := mw iM_39 10 39 110
def iM_41 : gb_Mem := mw iM_40 10 40 100
def iM_42 : gb_Mem := mw iM_41 10 41 32
def iM_43 : gb_Mem := mw iM_42 10 42 102
def iM_44 : gb_Mem := mw iM_43 10 43 117
def iM_45 : gb_Mem := mw iM_44 10 44 108
def iM_46 : gb_Mem := mw iM_45 10 45 108
def iM_47 : gb_Mem := mw iM_46 10 46 32
def iM_48 : gb_Mem := mw iM_47 10 47 115
def iM_49 : gb_Mem := mw iM_48 10 48 107
def iM_50 : gb_Mem := mw iM_49 10 49 105
def iM_51 : gb_Mem := mw iM_50 10 50 110
def iM_52 : gb_Mem := mw iM_51 10 51 32
def iM_53 : gb_Mem := mw iM_52 10 52 115
def iM_54 : gb_Mem := mw iM_53 10 53 116
def iM_55 : gb_Mem := mw iM_54 10 54 101
def iM_56 : gb_Mem := mw iM_55 10 55 97
def iM_57 : gb_Mem := mw iM_56 10 56 100
def iM_58 : gb_Mem := mw iM_57 10 57 121
def iM_59 : gb_Mem := mw iM_58 10 58 32
def iM_60 : gb_Mem := mw iM_59 10 59 116
def iM_61 : gb_Mem := mw iM_60 10 60 104
def iM_62 : gb_Mem := mw iM_61 10 61 105
def iM_63 : gb_Mem := mw iM_62 10 62 114
def iM_64 : gb_Mem := mw iM_63 10 63 115
def iM_65 : gb_Mem := mw iM_64 10 64 116
def iM_66 : gb_Mem := mw iM_65 10 65 32
def iM_67 : gb_Mem := mw iM_66 10 66 108
def iM_68 : gb_Mem := mw iM_67 10 67 111
def iM_69 : gb_Mem := mw iM_68 10 68 118
def iM_70 : gb_Mem := mw iM_69 10 69 101
def iM_71 : gb_Mem := mw iM_70 10 70 32
def iM_72 : gb_Mem := mw iM_71 10 71 112
def iM_73 : gb_Mem := mw iM_72 10 72 105
def iM_74 : gb_Mem := mw iM_73 10 73 114
def iM_75 : gb_Mem := mw iM_74 10 74 97
def iM_76 : gb_Mem := mw iM_75 10 75 116
def iM_77 : gb_Mem := mw iM_76 10 76 101
def iM_78 : gb_Mem := mw iM_77 10 77 32
def iM_79 : gb_Mem := mw iM_78 10 78 115
def iM_80 : gb_Mem := mw iM_79 10 79 101
def iM_81 : gb_Mem := mw iM_80 10 80 97
def iM_82 : gb_Mem := mw iM_81 10 81 116
def iM_83 : gb_Mem := mw iM_82 10 82 32
def iM_84 : gb_Mem := mw iM_83 10 83 104
def iM_85 : gb_Mem := mw iM_84 10 84 101
def iM_86 : gb_Mem := mw iM_85 10 85 97
def iM_87 : gb_Mem := mw iM_86 10 86 100
def iM_88 : gb_Mem := mw iM_87 10 87 32
def iM_89 : gb_Mem := mw iM_88 10 88 102
def iM_90 : gb_Mem := mw iM_89 10 89 111
def iM_91 : gb_Mem := mw iM_90 10 90 103
def iM_92 : gb_Mem := mw iM_91 10 91 32
def iM_93 : gb_Mem := mw iM_92 10 92 115
def iM_94 : gb_Mem := mw iM_93 10 93 116
def iM_95 : gb_Mem := mw iM_94 10 94 97
def iM_96 : gb_Mem := mw iM_95 10 95 105
def iM_97 : gb_Mem := mw iM_96 10 96 110
def iM_98 : gb_Mem := mw iM_97 10 97 32
def iM_99 : gb_Mem := mw iM_98 10 98 109
def iM_100 : gb_Mem := mw iM_99 10 99 105
def iM_101 : gb_Mem := mw iM_100 10 100 110
def iM_102 : gb_Mem := mw iM_101 10 101 117
def iM_103 : gb_Mem := mw iM_102 10 102 116
def iM_104 : gb_Mem := mw iM_103 10 103 101
def iM_105 : gb_Mem := mw iM_104 10 104 32
def iM_106 : gb_Mem := mw iM_105 10 105 98
def iM_107 : gb_Mem := mw iM_106 10 106 111
def iM_108 : gb_Mem := mw iM_107 10 107 97
def iM_109 : gb_Mem := mw iM_108 10 108 116
def iM_110 : gb_Mem := mw iM_109 10 109 32
def iM_111 : gb_Mem := mw iM_110 10 110 97
def iM_112 : gb_Mem := mw iM_111 10 111 103
def iM_113 : gb_Mem := mw iM_112 10 112 97
def iM_114 : gb_Mem := mw iM_113 10 113 105
def iM_115 : gb_Mem := mw iM_114 10 114 110
def iM_116 : gb_Mem := mw iM_115 10 115 32
def iM_117 : gb_Mem := mw iM_116 10 116 97
def iM_118 : gb_Mem := mw iM_117 10 117 116
def iM_119 : gb_Mem := mw iM_118 10 118 32
def iM_120 : gb_Mem := mw iM_119 10 119 116
def iM_121 : gb_Mem := mw iM_120 10 120 97
def iM_122 : gb_Mem := mw iM_121 10 121 108
def iM_123 : gb_Mem := mw iM_122 10 122 107
def iM_124 : gb_Mem := mw iM_123 10 123 32
def iM_125 : gb_Mem := mw iM_124 10 124 115
def iM_126 : gb_Mem := mw iM_125 10 125 97
def iM_127 : gb_Mem := mw iM_126 10 126 108
def iM_128 : gb_Mem := mw iM_127 10 127 116
def iM_129 : gb_Mem := mw iM_128 10 128 32
def iM_130 : gb_Mem := mw iM_129 10 129 102
def iM_131 : gb_Mem := mw iM_130 10 130 105
def iM_132 : gb_Mem := mw iM_131 10 131 108
def iM_133 : gb_Mem := mw iM_132 10 132 108
def iM_134 : gb_Mem := mw iM_133 10 133 32
def iM_135 : gb_Mem := mw iM_134 10 134 116
def iM_136 : gb_Mem := mw iM_135 10 135 117
def iM_137 : gb_Mem := mw iM_136 10 136 114
def iM_138 : gb_Mem := mw iM_137 10 137 110
def iM_139 : gb_Mem := mw iM_138 10 138 32
def iM_140 : gb_Mem := mw iM_139 10 139 116
def iM_141 : gb_Mem := mw iM_140 10 140 111
def iM_142 : gb_Mem := mw iM_141 10 141 32
def sM_20 : List gb_Ce := [.inr (10, [none, some (some 1), some (some 2), none, some (some 3), none, none, some (some 4), some (some 5), some (some 6), some (some 7), some (some 8), some (some 9), none, none, none, none, none, some (some 10), some none, some none, some none, some none, some none, some none, some none, none, none, none, some none, none, none, none, none, none, none, some none, none, some none, none, some none, some none, some none, none, some none, some none, some none, some none, some none, some none, none, some none, some none, none, some none, some none, none, some none, none, some none, some none, none, some none, some none, none, some none, some none, none, none, none, some none]), .inl (.inl 80), .inl (.inl 480), .inl (.inl 80), .inl (.inl 12), .inl (.inl 12), .inl (.inl 12), .inl (.inl 8), .inl (.inl 600), .inl (.inl 400), .inl (.inl 142)]
def sM_21 : List gb_Ce := [.inr (10, [none, some (some 1), some (some 2), none, some (some 3), none, none, some (some 4), some (some 5), some (some 6), some (some 7), some (some 8), some (some 9), none, none, none, none, none, some (some 10), some none, some none, some none, some none, some none, some none, some none, none, none, none, some none, none, none, none, none, none, none, some none, none, some none, none, some none, some none, some none, none, some none, some none, some none, some none, some none, some none, none, some none, some none, none, some none, some none, none, some none, none, some none, some none, none, some none, some none, none, some none, some none, none, none, none, some none]), .inl (.inl 80), .inl (.inl 480), .inl (.inl 80), .inl (.inl 12), .inl (.inl 12), .inl (.inl 12), .inl (.inl 8), .inl (.inl 600), .inl (.inl 400), .inl (.inl 142), .inl (.inl 2)]
def sM_22 : List gb_Ce := [.inr (10, [none, some (some 1), some (some 2), none, some (some 3), none, none, some (some 4), some (some 5), some (some 6), some (some 7), some (some 8), some (some 9), none, none, none, none, none, some (some 10), some (some 11), some none, some none, some none, some none, some none, some none, none, none, none, some none, none, none, none, none, none, none, some none, none, some none, none, some none, some none, some none, none, some none, some none, some none, some none, some none, some none, none, some none, some none, none, some none, some none, none, some none, none, some none, some none, none, some none, some none, none, some none, some none, none, none, none, some none]), .inl (.inl 80), .inl (.inl 480), .inl (.inl 80), .inl (.inl 12), .inl (.inl 12), .inl (.inl 12), .inl (.inl 8), .inl (.inl 600), .inl (.inl 400), .inl (.inl 142), .inl (.inl 2)]
def sM_23 : List gb_Ce := [.inr (10, [none, some (some 1), some (some 2), none, some (some 3), none, none, some (some 4), some (some 5), some (some 6), some (some 7), some (some 8), some (some 9), none, none, none, none, none, some (some 10), some (some 11), some none, some none, some none, some none, some none, some none, none, none, none, some none, none, none, none, none, none, none, some none, none, some none, none, some none, some none, some none, none, some none, some none, some none, some none, some none, some none, none, some none, some none, none, some none, some none, none, some none, none, some none, some none, none, some none, some none, none, some none, some none, none, none, none, some none]), .inl (.inl 80), .inl (.inl 480), .inl (.inl 80), .inl (.inl 12), .inl (.inl 12), .inl (.inl 12), .inl (.inl 8), .inl (.inl 600), .inl (.inl 400), .inl (.inl 142), .inl (.inl 2), .inl (.inl 48)]
def sM_24 : List gb_Ce := [.inr (10, [none, some (some 1), some (some 2), none, some (some 3), none, none, some (some 4), some (some 5), some (some 6), some (some 7), some (some 8), some (some 9), none, none, none, none, none, some (some 10), some (some 11), some (some 12), some none, some none, some none, some none, some none, none, none, none, some none, none, none, none, none, none, none, some none, none, some none, none, some none, some none, some none, none, some none, some none, some none, some none, some none, some none, none, some none, some none, none, some none, some none, none, some none, none, some none, some none, none, some none, some none, none, some none, some none, none, none, none, some none]), .inl (.inl 80), .inl (.inl 480), .inl (.inl 80), .inl (.inl 12), .inl (.inl 12), .inl (.inl 12), .inl (.inl 8), .inl (.inl 600), .inl (.inl 400), .inl (.inl 142), .inl (.inl 2), .inl (.inl 48)]
def sM_25 : List gb_Ce := [.inr (10, [none, some (some 1), some (some 2), none, some (some 3), none, none, some (some 4), some (some 5), some (some 6), some (some 7), some (some 8), some (some 9), none, none, none, none, none, some (some 10), some (some 11), some (some 12), some none, some none, some none, some none, some none, none, none, none, some none, none, none, none, none, none, none, some none, none, some none, none, some none, some none, some none, none, some none, some none, some none, some none, some none, some none, none, some none, some none, none, some none, some none, none, some none, none, some none, some none, none, some none, some none, none, some none, some none, none, none, none, some none]), .inl (.inl 80), .inl (.inl 480), .inl (.inl 80), .inl (.inl 12), .inl (.inl 12), .inl (.inl 12), .inl (.inl 8), .inl (.inl 600), .inl (.inl 400), .inl (.inl 142), .inl (.inl 2), .inl (.inl 48), .inl (.inl 48)]
def sM_26 : List gb_Ce := [.inr (10, [none, some (some 1), some (some 2), none, some (some 3), none, none, some (some 4), some (some 5), some (some 6), some (some 7), some (some 8), some (some 9), none, none, none, none, none, some (some 10), some (some 11), some (some 12), some (some 13), some none, some none, some none, some none, none, none, none, some none, none, none, none, none, none, none, some none, none, some none, none, some none, some none, some none, none, some none, some none, some none, some none, some none, some none, none, some none, some none, none, some none, some none, none, some none, none, some none, some none, none, some none, some none, none, some none, some none, none, none, none, some none]), .inl (.inl 80), .inl (.inl 480), .inl (.inl 80), .inl (.inl 12), .inl (.inl 12), .inl (.inl 12), .inl (.inl 8), .inl (.inl 600), .inl (.inl 400), .inl (.inl 142), .inl (.inl 2), .inl (.inl 48), .inl (.inl 48)]
def sM_27 : List gb_Ce := [.inr (10, [none, some (some 1), some (some 2), none, some (some 3), none, none, some (some 4), some (some 5), some (some 6), some (some 7), some (some 8), some (some 9), none, none, none, none, none, some (some 10), some (some 11), some (some 12), some (some 13), some none, some none, some none, some none, none, none, none, some none, none, none, none, none, none, none, some none, none, some none, none, some none, some none, some none, none, some none, some none, some none, some none, some none, some none, none, some none, some none, none, some none, some none, none, some none, none, some none, some none, none, some none, some none, none, some none, some none, none, none, none, some none]), .inl (.inl 80), .inl (.inl 480), .inl (.inl 80), .inl (.inl 12), .inl (.inl 12), .inl (.inl 12), .inl (.inl 8), .inl (.inl 600), .inl (.inl 400), .inl (.inl 142), .inl (.inl 2), .inl (.inl 48), .inl (.inl 48), .inl (.inl 48)]
def sM_28 : List gb_Ce := [.inr (10, [none, some (some 1), some (some 2), none, some (some 3), none, none, some (some 4), some (some 5), some (some 6), some (some 7), some (some 8), some (some 9), none, none, none, none, none, some (some 10), some (some 11), some (some 12), some (some 13), some (some 14), some none, some none, some none, none, none, none, some none, none, none, none, none, none, none, some none, none, some none, none, some none, some none, some none, none, some none, some none, some none, some none, some none, some none, none, some none, some none, none, some none, some none, none, some none, none, some none, some none, none, some none, some none, none, some none, some none, none, none, none, some none]), .inl (.inl 80), .inl (.inl 480), .inl (.inl 80), .inl (.inl 12), .inl (.inl 12), .inl (.inl 12), .inl (.inl 8), .inl (.inl 600), .inl (.inl 400), .inl (.inl 142), .inl (.inl 2), .inl (.inl 48), .inl (.inl 48), .inl (.inl 48)]
def sM_29 : List gb_Ce := [.inr (10, [none, some (some 1), some (some 2), none, some (some 3), none, none, some (some 4), some (some 5), some (some 6), some (some 7), some (some 8), some (some 9), none, none, none, none, none, some (some 10), some (some 11), some (some 12), some (some 13), some (some 14), some none, some none, some none, none, none, none, some none, none, none, none, none, none, none, some none, none, some none, none, some none, some none, some none, none, some none, some none, some none, some none, some none, some none, none, some none, some none, none, some none, some none, none, some none, none, some none, some none, none, some none, some none, none, some none, some none, none, none, none, some none]), .inl (.inl 80), .inl (.inl 480), .inl (.inl 80), .inl (.inl 12), .inl (.inl 12), .inl (.inl 12), .inl (.inl 8), .inl (.inl 600), .inl (.inl 400), .inl (.inl 142), .inl (.inl 2), .inl (.inl 48), .inl (.inl 48), .inl (.inl 48), .inl (.inl 48)]
def sM_30 : List gb_Ce := [.inr (10, [none, some (some 1), some (some 2), none, some (some 3), none, none, some (some 4), some (some 5), some (some 6), some (some 7), some (some 8), some (some 9), none, none, none, none, none, some (some 10), some (some 11), some (some 12), some (some 13), some (some 14), some (some 15), some none, some none, none, none, none, some none, none, none, none, none, none, none, some none, none, some none, none, some none, some none, some none, none, some none, some none, some none, some none, some none, some none, none, some none, some none, none, some none, some none, none, some none, none, some none, some none, none, some none, some none, none, some none, some none, none, none, none, some none]), .inl (.inl 80), .inl (.inl 480), .inl (.inl 80), .inl (.inl 12), .inl (.inl 12), .inl (.inl 12), .inl (.inl 8), .inl (.inl 600), .inl (.inl 400), .inl (.inl 142), .inl (.inl 2), .inl (.inl 48), .inl (.inl 48), .inl (.inl 48), .inl (.inl 48)]
def sM_31 : List gb_Ce := [.inr (10, [none, some (some 1), some (some 2), none, some (some 3), none, none, some (some 4), some (some 5), some (some 6), some (some 7), some (some 8), some (some 9), none, none, none, none, none, some (some 10), some (some 11), some (some 12), some (some 13), some (some 14), some (some 15), some none, some none, none, none, none, some none, none, none, none, none, none, none, some none, none, some none, none, some none, some none, some none, none, some none, some none, some none, some none, some none, some none, none, some none, some none, none, some none, some none, none, some none, none, some none, some none, none, some none, some none, none, some none, some none, none, none, none, some none]), .inl (.inl 80), .inl (.inl 480), .inl (.inl 80), .inl (.inl 12), .inl (.inl 12), .inl (.inl 12), .inl (.inl 8), .inl (.inl 600), .inl (.inl 400), .inl (.inl 142), .inl (.inl 2), .inl (.inl 48), .inl (.inl 48), .inl (.inl 48), .inl (.inl 48), .inl (.inl 1200)]
def sM_32 : List gb_Ce := [.inr (10, [none, some (some 1), some (some 2), none, some (some 3), none, none, some (some 4), some (some 5), some (some 6), some (some 7), some (some 8), some (some 9), none, none, none, none, none, some (some 10), some (some 11), some (some 12), some (some 13), some (some 14), some (some 15), some (some 16), some none, none, none, none, some none, none, none, none, none, none, none, some none, none, some none, none, some none, some none, some none, none, some none, some none, some none, some none, some none, some none, none, some none, some none, none, some none, some none, none, some none, none, some none, some none, none, some none, some none, none, some none, some none, none, none, none, some none]), .inl (.inl 80), .inl (.inl 480), .inl (.inl 80), .inl (.inl 12), .inl (.inl 12), .inl (.inl 12), .inl (.inl 8), .inl (.inl 600), .inl (.inl 400), .inl (.inl 142), .inl (.inl 2), .inl (.inl 48), .inl (.inl 48), .inl (.inl 48), .inl (.inl 48), .inl (.inl 1200)]
def sM_33 : List gb_Ce := [.inr (10, [none, some (some 1), some (some 2), none, some (some 3), none, none, some (some 4), some (some 5), some (some 6), some (some 7), some (some 8), some (some 9), none, none, none, none, none, some (some 10), some (some 11), some (some 12), some (some 13), some (some 14), some (some 15), some (some 16), some none, none, none, none, some none, none, none, none, none, none, none, some none, none, some none, none, some none, some none, some none, none, some none, some none, some none, some none, some none, some none, none, some none, some none, none, some none, some none, none, some none, none, some none, some none, none, some none, some none, none, some none, some none, none, none, none, some none]), .inl (.inl 80), .inl (.inl 480), .inl (.inl 80), .inl (.inl 12), .inl (.inl 12), .inl (.inl 12), .inl (.inl 8), .inl (.inl 600), .inl (.inl 400), .inl (.inl 142), .inl (.inl 2), .inl (.inl 48), .inl (.inl 48), .inl (.inl 48), .inl (.inl 48), .inl (.inl 1200), .inl (.inl 1200)]
def sM_34 : List gb_Ce := [.inr (10, [none, some (some 1), some (some 2), none, some (some 3), none, none, some (some 4), some (some 5), some (some 6), some (some 7), some (some 8), some (some 9), none, none, none, none, none, some (some 10), some (some 11), some (some 12), some (some 13), some (some 14), some (some 15), some (some 16), some (some 17), none, none, none, some none, none, none, none, none, none, none, some none, none, some none, none, some none, some none, some none, none, some none, some none, some none, some none, some none, some none, none, some none, some none, none, some none, some none, none, some none, none, some none, some none, none, some none, some none, none, some none, some none, none, none, none, some none]), .inl (.inl 80), .inl (.inl 480), .inl (.inl 80), .inl (.inl 12), .inl (.inl 12), .inl (.inl 12), .inl (.inl 8), .inl (.inl 600), .inl (.inl 400), .inl (.inl 142), .inl (.inl 2), .inl (.inl 48), .inl (.inl 48), .inl (.inl 48), .inl (.inl 48), .inl (.inl 1200), .inl (.inl 1200)]
def sM_35 : List gb_Ce := [.inr (10, [none, some (some 1), some (some 2), none, some (some 3), none, none, some (some 4), some (some 5), some (some 6), some (some 7), some (some 8), some (some 9), none, none, none, none, none, some (some 10), some (some 11), some (some 12), some (some 13), some (some 14), some (some 15), some (some 16), some (some 17), none, none, none, some none, none, none, none, none, none, none, some none, none, some none, none, some none, some none, some none, none, some none, some none, some none, some none, some none, some none, none, some none, some none, none, some none, some none, none, some none, none, some none, some none, none, some none, some none, none, some none, some none, none, none, none, some none]), .inl (.inl 80), .inl (.inl 480), .inl (.inl 80), .inl (.inl 12), .inl (.inl 12), .inl (.inl 12), .inl (.inl 8), .inl (.inl 600), .inl (.inl 400), .inl (.inl 142), .inl (.inl 2), .inl (.inl 48), .inl (.inl 48), .inl (.inl 48), .inl (.inl 48), .inl (.inl 1200), .inl (.inl 1200), .inl (.inl 40)]
def sM_36 : List gb_Ce := [.inr (10, [none, some (some 1), some (some 2), none, some (some 3), none, none, some (some 4), some (some 5), some (some 6), some (some 7), some (some 8), some (some 9), none, none, none, none, none, some (some 10), some (some 11), some (some 12), some (some 13), some (some 14), some (some 15), some (some 16), some (some 17), none, none, none, some (some 18), none, none, none, none, none, none, some none, none, some none, none, some none, some none, some none, none, some none, some none, some none, some none, some none, some none, none, some none, some none, none, some none, some none, none, some none, none, some none, some none, none, some none, some none, none, some none, some none, none, none, none, some none]), .inl (.inl 80), .inl (.inl 480), .inl (.inl 80), .inl (.inl 12), .inl (.inl 12), .inl (.inl 12), .inl (.inl 8), .inl (.inl 600), .inl (.inl 400), .inl (.inl 142), .inl (.inl 2), .inl (.inl 48), .inl (.inl 48), .inl (.inl 48), .inl (.inl 48), .inl (.inl 1200), .inl (.inl 1200), .inl (.inl 40)]
def iM_143 : gb_Mem := mw iM_142 0 34 (-1)
def sM_37 : List gb_Ce := [.inr (10, [none, some (some 1), some (some 2), none, some (some 3), none, none, some (some 4), some (some 5), some (some 6), some (some 7), some (some 8), some (some 9), none, none, none, none, none, some (some 10), some (some 11), some (some 12), some (some 13), some (some 14), some (some 15), some (some 16), some (some 17), none, none, none, some (some 18), none, none, none, none, none, none, some none, none, some none, none, some none, some none, some none, none, some none, some none, some none, some none, some none, some none, none, some none, some none, none, some none, some none, none, some none, none, some none, some none, none, some none, some none, none, some none, some none, none, none, none, some none]), .inl (.inl 80), .inl (.inl 480), .inl (.inl 80), .inl (.inl 12), .inl (.inl 12), .inl (.inl 12), .inl (.inl 8), .inl (.inl 600), .inl (.inl 400), .inl (.inl 142), .inl (.inl 2), .inl (.inl 48), .inl (.inl 48), .inl (.inl 48), .inl (.inl 48), .inl (.inl 1200), .inl (.inl 1200), .inl (.inl 40), .inl (.inl 16)]
def sM_38 : List gb_Ce := [.inr (10, [none, some (some 1), some (some 2), none, some (some 3), none, none, some (some 4), some (some 5), some (some 6), some (some 7), some (some 8), some (some 9), none, none, none, none, none, some (some 10), some (some 11), some (some 12), some (some 13), some (some 14), some (some 15), some (some 16), some (some 17), none, none, none, some (some 18), none, none, none, none, none, none, some (some 19), none, some none, none, some none, some none, some none, none, some none, some none, some none, some none, some none, some none, none, some none, some none, none, some none, some none, none, some none, none, some none, some none, none, some none, some none, none, some none, some none, none, none, none, some none]), .inl (.inl 80), .inl (.inl 480), .inl (.inl 80), .inl (.inl 12), .inl (.inl 12), .inl (.inl 12), .inl (.inl 8), .inl (.inl 600), .inl (.inl 400), .inl (.inl 142), .inl (.inl 2), .inl (.inl 48), .inl (.inl 48), .inl (.inl 48), .inl (.inl 48), .inl (.inl 1200), .inl (.inl 1200), .inl (.inl 40), .inl (.inl 16)]
def sM_39 : List gb_Ce := [.inr (10, [none, some (some 1), some (some 2), none, some (some 3), none, none, some (some 4), some (some 5), some (some 6), some (some 7), some (some 8), some (some 9), none, none, none, none, none, some (some 10), some (some 11), some (some 12), some (some 13), some (some 14), some (some 15), some (some 16), some (some 17), none, none, none, some (some 18), none, none, none, none, none, none, some (some 19), none, some none, none, some none, some none, some none, none, some none, some none, some none, some none, some none, some none, none, some none, some none, none, some none, some none, none, some none, none, some none, some none, none, some none, some none, none, some none, some none, none, none, none, some none]), .inl (.inl 80), .inl (.inl 480), .inl (.inl 80), .inl (.inl 12), .inl (.inl 12), .inl (.inl 12), .inl (.inl 8), .inl (.inl 600), .inl (.inl 400), .inl (.inl 142), .inl (.inl 2), .inl (.inl 48), .inl (.inl 48), .inl (.inl 48), .inl (.inl 48), .inl (.inl 1200), .inl (.inl 1200), .inl (.inl 40), .inl (.inl 16), .inl (.inl 128)]
def sM_40 : List gb_Ce := [.inr (10, [none, some (some 1), some (some 2), none, some (some 3), none, none, some (some 4), some (some 5), some (some 6), some (some 7), some (some 8), some (some 9), none, none, none, none, none, some (some 10), some (some 11), some (some 12), some (some 13), some (some 14), some (some 15), some (some 16), some (some 17), none, none, none, some (some 18), none, none, none, none, none, none, some (some 19), none, some (some 20), none, some none, some none, some none, none, some none, some none, some none, some none, some none, some none, none, some none, some none, none, some none, some none, none, some none, none, some none, some none, none, some none, some none, none, some none, some none, none, none, none, some none]), .inl (.inl 80), .inl (.inl 480), .inl (.inl 80), .inl (.inl 12), .inl (.inl 12), .inl (.inl 12), .inl (.inl 8), .inl (.inl 600), .inl (.inl 400), .inl (.inl 142), .inl (.inl 2), .inl (.inl 48), .inl (.inl 48), .inl (.inl 48), .inl (.inl 48), .inl (.inl 1200), .inl (.inl 1200), .inl (.inl 40), .inl (.inl 16), .inl (.inl 128)]
def sM_41 : List gb_Ce := [.inr (10, [none, some (some 1), some (some 2), none, some (some 3), none, none, some (some 4), some (some 5), some (some 6), some (some 7), some (some 8), some (some 9), none, none, none, none, none, some (some 10), some (some 11), some (some 12), some (some 13), some (some 14), some (some 15), some (some 16), some (some 17), none, none, none, some (some 18), none, none, none, none, none, none, some (some 19), none, some (some 20), none, some none, some none, some none, none, some none, some none, some none, some none, some none, some none, none, some none, some none, none, some none, some none, none, some none, none, some none, some none, none, some none, some none, none, some none, some none, none, none, none, some none]), .inl (.inl 80), .inl (.inl 480), .inl (.inl 80), .inl (.inl 12), .inl (.inl 12), .inl (.inl 12), .inl (.inl 8), .inl (.inl 600), .inl (.inl 400), .inl (.inl 142), .inl (.inl 2), .inl (.inl 48), .inl (.inl 48), .inl (.inl 48), .inl (.inl 48), .inl (.inl 1200), .inl (.inl 1200), .inl (.inl 40), .inl (.inl 16), .inl (.inl 128), .inl (.inl 24)]
def sM_42 : List gb_Ce := [.inr (10, [none, some (some 1), some (some 2), none, some (some 3), none, none, some (some 4), some (some 5), some (some 6), some (some 7), some (some 8), some (some 9), none, none, none, none, none, some (some 10), some (some 11), some (some 12), some (some 13), some (some 14), some (some 15), some (some 16), some (some 17), none, none, none, some (some 18), none, none, none, none, none, none, some (some 19), none, some (some 20), none, some (some 21), some none, some none, none, some none, some none, some none, some none, some none, some none, none, some none, some none, none, some none, some none, none, some none, none, some none, some none, none, some none, some none, none, some none, some none, none, none, none, some none]), .inl (.inl 80), .inl (.inl 480), .inl (.inl 80), .inl (.inl 12), .inl (.inl 12), .inl (.inl 12), .inl (.inl 8), .inl (.inl 600), .inl (.inl 400), .inl (.inl 142), .inl (.inl 2), .inl (.inl 48), .inl (.inl 48), .inl (.inl 48), .inl (.inl 48), .inl (.inl 1200), .inl (.inl 1200), .inl (.inl 40), .inl (.inl 16), .inl (.inl 128), .inl (.inl 24)]
def sM_43 : List gb_Ce := [.inr (10, [none, some (some 1), some (some 2), none, some (some 3), none, none, some (some 4), some (some 5), some (some 6), some (some 7), some (some 8), some (some 9), none, none, none, none, none, some (some 10), some (some 11), some (some 12), some (some 13), some (some 14), some (some 15), some (some 16), some (some 17), none, none, none, some (some 18), none, none, none, none, none, none, some (some 19), none, some (some 20), none, some (some 21), some none, some none, none, some none, some none, some none, some none, some none, some none, none, some none, some none, none, some none, some none, none, some none, none, some none, some none, none, some none, some none, none, some none, some none, none, none, none, some none]), .inl (.inl 80), .inl (.inl 480), .inl (.inl 80), .inl (.inl 12), .inl (.inl 12), .inl (.inl 12), .inl (.inl 8), .inl (.inl 600), .inl (.inl 400), .inl (.inl 142), .inl (.inl 2), .inl (.inl 48), .inl (.inl 48), .inl (.inl 48), .inl (.inl 48), .inl (.inl 1200), .inl (.inl 1200), .inl (.inl 40), .inl (.inl 16), .inl (.inl 128), .inl (.inl 24), .inl (.inl 12)]
def sM_44 : List gb_Ce := [.inr (10, [none, some (some 1), some (some 2), none, some (some 3), none, none, some (some 4), some (some 5), some (some 6), some (some 7), some (some 8), some (some 9), none, none, none, none, none, some (some 10), some (some 11), some (some 12), some (some 13), some (some 14), some (some 15), some (some 16), some (some 17), none, none, none, some (some 18), none, none, none, none, none, none, some (some 19), none, some (some 20), none, some (some 21), some (some 22), some none, none, some none, some none, some none, some none, some none, some none, none, some none, some none, none, some none, some none, none, some none, none, some none, some none, none, some none, some none, none, some none, some none, none, none, none, some none]), .inl (.inl 80), .inl (.inl 480), .inl (.inl 80), .inl (.inl 12), .inl (.inl 12), .inl (.inl 12), .inl (.inl 8), .inl (.inl 600), .inl (.inl 400), .inl (.inl 142), .inl (.inl 2), .inl (.inl 48), .inl (.inl 48), .inl (.inl 48), .inl (.inl 48), .inl (.inl 1200), .inl (.inl 1200), .inl (.inl 40), .inl (.inl 16), .inl (.inl 128), .inl (.inl 24), .inl (.inl 12)]
def sM_45 : List gb_Ce := [.inr (10, [none, some (some 1), some (some 2), none, some (some 3), none, none, some (some 4), some (some 5), some (some 6), some (some 7), some (some 8), some (some 9), none, none, none, none, none, some (some 10), some (some 11), some (some 12), some (some 13), some (some 14), some (some 15), some (some 16), some (some 17), none, none, none, some (some 18), none, none, none, none, none, none, some (some 19), none, some (some 20), none, some (some 21), some (some 22), some none, none, some none, some none, some none, some none, some none, some none, none, some none, some none, none, some none, some none, none, some none, none, some none, some none, none, some none, some none, none, some none, some none, none, none, none, some none]), .inl (.inl 80), .inl (.inl 480), .inl (.inl 80), .inl (.inl 12), .inl (.inl 12), .inl (.inl 12), .inl (.inl 8), .inl (.inl 600), .inl (.inl 400), .inl (.inl 142), .inl (.inl 2), .inl (.inl 48), .inl (.inl 48), .inl (.inl 48), .inl (.inl 48), .inl (.inl 1200), .inl (.inl 1200), .inl (.inl 40), .inl (.inl 16), .inl (.inl 128), .inl (.inl 24), .inl (.inl 12), .inl (.inl 420)]
def sM_46 : List gb_Ce := [.inr (10, [none, some (some 1), some (some 2), none, some (some 3), none, none, some (some 4), some (some 5), some (some 6), some (some 7), some (some 8), some (some 9), none, none, none, none, none, some (some 10), some (some 11), some (some 12), some (some 13), some (some 14), some (some 15), some (some 16), some (some 17), none, none, none, some (some 18), none, none, none, none, none, none, some (some 19), none, some (some 20), none, some (some 21), some (some 22), some (some 23), none, some none, some none, some none, some none, some none, some none, none, some none, some none, none, some none, some none, none, some none, none, some none, some none, none, some none, some none, none, some none, some none, none, none, none, some none]), .inl (.inl 80), .inl (.inl 480), .inl (.inl 80), .inl (.inl 12), .inl (.inl 12), .inl (.inl 12), .inl (.inl 8), .inl (.inl 600), .inl (.inl 400), .inl (.inl 142), .inl (.inl 2), .inl (.inl 48), .inl (.inl 48), .inl (.inl 48), .inl (.inl 48), .inl (.inl 1200), .inl (.inl 1200), .inl (.inl 40), .inl (.inl 16), .inl (.inl 128), .inl (.inl 24), .inl (.inl 12), .inl (.inl 420)]
def sM_47 : List gb_Ce := [.inr (10, [none, some (some 1), some (some 2), none, some (some 3), none, none, some (some 4), some (some 5), some (some 6), some (some 7), some (some 8), some (some 9), none, none, none, none, none, some (some 10), some (some 11), some (some 12), some (some 13), some (some 14), some (some 15), some (some 16), some (some 17), none, none, none, some (some 18), none, none, none, none, none, none, some (some 19), none, some (some 20), none, some (some 21), some (some 22), some (some 23), none, some none, some none, some none, some none, some none, some none, none, some none, some none, none, some none, some none, none, some none, none, some none, some none, none, some none, some none, none, some none, some none, none, none, none, some none]), .inl (.inl 80), .inl (.inl 480), .inl (.inl 80), .inl (.inl 12), .inl (.inl 12), .inl (.inl 12), .inl (.inl 8), .inl (.inl 600), .inl (.inl 400), .inl (.inl 142), .inl (.inl 2), .inl (.inl 48), .inl (.inl 48), .inl (.inl 48), .inl (.inl 48), .inl (.inl 1200), .inl (.inl 1200), .inl (.inl 40), .inl (.inl 16), .inl (.inl 128), .inl (.inl 24), .inl (.inl 12), .inl (.inl 420), .inl (.inl 12)]
def sM_48 : List gb_Ce := [.inr (10, [none, some (some 1), some (some 2), none, some (some 3), none, none, some (some 4), some (some 5), some (some 6), some (some 7), some (some 8), some (some 9), none, none, none, none, none, some (some 10), some (some 11), some (some 12), some (some 13), some (some 14), some (some 15), some (some 16), some (some 17), none, none, none, some (some 18), none, none, none, none, none, none, some (some 19), none, some (some 20), none, some (some 21), some (some 22), some (some 23), none, some (some 24), some none, some none, some none, some none, some none, none, some none, some none, none, some none, some none, none, some none, none, some none, some none, none, some none, some none, none, some none, some none, none, none, none, some none]), .inl (.inl 80), .inl (.inl 480), .inl (.inl 80), .inl (.inl 12), .inl (.inl 12), .inl (.inl 12), .inl (.inl 8), .inl (.inl 600), .inl (.inl 400), .inl (.inl 142), .inl (.inl 2), .inl (.inl 48), .inl (.inl 48), .inl (.inl 48), .inl (.inl 48), .inl (.inl 1200), .inl (.inl 1200), .inl (.inl 40), .inl (.inl 16), .inl (.inl 128), .inl (.inl 24), .inl (.inl 12), .inl (.inl 420), .inl (.inl 12)]
def sM_49 : List gb_Ce := [.inr (10, [none, some (some 1), some (some 2), none, some (some 3), none, none, some (some 4), some (some 5), some (some 6), some (some 7), some (some 8), some (some 9), none, none, none, none, none, some (some 10), some (some 11), some (some 12), some (some 13), some (some 14), some (some 15), some (some 16), some (some 17), none, none, none, some (some 18), none, none, none, none, none, none, some (some 19), none, some (some 20), none, some (some 21), some (some 22), some (some 23), none, some (some 24), some none, some none, some none, some none, some none, none, some none, some none, none, some none, some none, none, some none, none, some none, some none, none, some none, some none, none, some none, some none, none, none, none, some none]), .inl (.inl 80), .inl (.inl 480), .inl (.inl 80), .inl (.inl 12), .inl (.inl 12), .inl (.inl 12), .inl (.inl 8), .inl (.inl 600), .inl (.inl 400), .inl (.inl 142), .inl (.inl 2), .inl (.inl 48), .inl (.inl 48), .inl (.inl 48), .inl (.inl 48), .inl (.inl 1200), .inl (.inl 1200), .inl (.inl 40), .inl (.inl 16), .inl (.inl 128), .inl (.inl 24), .inl (.inl 12), .inl (.inl 420), .inl (.inl 12), .inl (.inl 12)]
def sM_50 : List gb_Ce := [.inr (10, [none, some (some 1), some (some 2), none, some (some 3), none, none, some (some 4), some (some 5), some (some 6), some (some 7), some (some 8), some (some 9), none, none, none, none, none, some (some 10), some (some 11), some (some 12), some (some 13), some (some 14), some (some 15), some (some 16), some (some 17), none, none, none, some (some 18), none, none, none, none, none, none, some (some 19), none, some (some 20), none, some (some 21), some (some 22), some (some 23), none, some (some 24), some (some 25), some none, some none, some none, some none, none, some none, some none, none, some none, some none, none, some none, none, some none, some none, none, some none, some none, none, some none, some none, none, none, none, some none]), .inl (.inl 80), .inl (.inl 480), .inl (.inl 80), .inl (.inl 12), .inl (.inl 12), .inl (.inl 12), .inl (.inl 8), .inl (.inl 600), .inl (.inl 400), .inl (.inl 142), .inl (.inl 2), .inl (.inl 48), .inl (.inl 48), .inl (.inl 48), .inl (.inl 48), .inl (.inl 1200), .inl (.inl 1200), .inl (.inl 40), .inl (.inl 16), .inl (.inl 128), .inl (.inl 24), .inl (.inl 12), .inl (.inl 420), .inl (.inl 12), .inl (.inl 12)]
def sM_51 : List gb_Ce := [.inr (10, [none, some (some 1), some (some 2), none, some (some 3), none, none, some (some 4), some (some 5), some (some 6), some (some 7), some (some 8), some (some 9), none, none, none, none, none, some (some 10), some (some 11), some (some 12), some (some 13), some (some 14), some (some 15), some (some 16), some (some 17), none, none, none, some (some 18), none, none, none, none, none, none, some (some 19), none, some (some 20), none, some (some 21), some (some 22), some (some 23), none, some (some 24), some (some 25), some none, some none, some none, some none, none, some none, some none, none, some none, some none, none, some none, none, some none, some none, none, some none, some none, none, some none, some none, none, none, none, some none]), .inl (.inl 80), .inl (.inl 480), .inl (.inl 80), .inl (.inl 12), .inl (.inl 12), .inl (.inl 12), .inl (.inl 8), .inl (.inl 600), .inl (.inl 400), .inl (.inl 142), .inl (.inl 2), .inl (.inl 48), .inl (.inl 48), .inl (.inl 48), .inl (.inl 48), .inl (.inl 1200), .inl (.inl 1200), .inl (.inl 40), .inl (.inl 16), .inl (.inl 128), .inl (.inl 24), .inl (.inl 12), .inl (.inl 420), .inl (.inl 12), .inl (.inl 12), .inl (.inl 2)]
def sM_52 : List gb_Ce := [.inr (10, [none, some (some 1), some (some 2), none, some (some 3), none, none, some (some 4), some (some 5), some (some 6), some (some 7), some (some 8), some (some 9), none, none, none, none, none, some (some 10), some (some 11), some (some 12), some (some 13), some (some 14), some (some 15), some (some 16), some (some 17), none, none, none, some (some 18), none, none, none, none, none, none, some (some 19), none, some (some 20), none, some (some 21), some (some 22), some (some 23), none, some (some 24), some (some 25), some (some 26), some none, some none, some none, none, some none, some none, none, some none, some none, none, some none, none, some none, some none, none, some none, some none, none, some none, some none, none, none, none, some none]), .inl (.inl 80), .inl (.inl 480), .inl (.inl 80), .inl (.inl 12), .inl (.inl 12), .inl (.inl 12), .inl (.inl 8), .inl (.inl 600), .inl (.inl 400), .inl (.inl 142), .inl (.inl 2), .inl (.inl 48), .inl (.inl 48), .inl (.inl 48), .inl (.inl 48), .inl (.inl 1200), .inl (.inl 1200), .inl (.inl 40), .inl (.inl 16), .inl (.inl 128), .inl (.inl 24), .inl (.inl 12), .inl (.inl 420), .inl (.inl 12), .inl (.inl 12), .inl (.inl 2)]
def sM_53 : List gb_Ce := [.inr (10, [none, some (some 1), some (some 2), none, some (some 3), none, none, some (some 4), some (some 5), some (some 6), some (some 7), some (some 8), some (some 9), none, none, none, none, none, some (some 10), some (some 11), some (some 12), some (some 13), some (some 14), some (some 15), some (some 16), some (some 17), none, none, none, some (some 18), none, none, none, none, none, none, some (some 19), none, some (some 20), none, some (some 21), some (some 22), some (some 23), none, some (some 24), some (some 25), some (some 26), some none, some none, some none, none, some none, some none, none, some none, some none, none, some none, none, some none, some none, none, some none, some none, none, some none, some none, none, none, none, some none]), .inl (.inl 80), .inl (.inl 480), .inl (.inl 80), .inl (.inl 12), .inl (.inl 12), .inl (.inl 12), .inl (.inl 8), .inl (.inl 600), .inl (.inl 400), .inl (.inl 142), .inl (.inl 2), .inl (.inl 48), .inl (.inl 48), .inl (.inl 48), .inl (.inl 48), .inl (.inl 1200), .inl (.inl 1200), .inl (.inl 40), .inl (.inl 16), .inl (.inl 128), .inl (.inl 24), .inl (.inl 12), .inl (.inl 420), .inl (.inl 12), .inl (.inl 12), .inl (.inl 2), .inl (.inl 24)]
def sM_54 : List gb_Ce := [.inr (10, [none, some (some 1), some (some 2), none, some (some 3), none, none, some (some 4), some (some 5), some (some 6), some (some 7), some (some 8), some (some 9), none, none, none, none, none, some (some 10), some (some 11), some (some 12), some (some 13), some (some 14), some (some 15), some (some 16), some (some 17), none, none, none, some (some 18), none, none, none, none, none, none, some (some 19), none, some (some 20), none, some (some 21), some (some 22), some (some 23), none, some (some 24), some (some 25), some (some 26), some (some 27), some none, some none, none, some none, some none, none, some none, some none, none, some none, none, some none, some none, none, some none, some none, none, some none, some none, none, none, none, some none]), .inl (.inl 80), .inl (.inl 480), .inl (.inl 80), .inl (.inl 12), .inl (.inl 12), .inl (.inl 12), .inl (.inl 8), .inl (.inl 600), .inl (.inl 400), .inl (.inl 142), .inl (.inl 2), .inl (.inl 48), .inl (.inl 48), .inl (.inl 48), .inl (.inl 48), .inl (.inl 1200), .inl (.inl 1200), .inl (.inl 40), .inl (.inl 16), .inl (.inl 128), .inl (.inl 24), .inl (.inl 12), .inl (.inl 420), .inl (.inl 12), .inl (.inl 12), .inl (.inl 2), .inl (.inl 24)]
def sM_55 : List gb_Ce := [.inr (10, [none, some (some 1), some (some 2), none, some (some 3), none, none, some (some 4), some (some 5), some (some 6), some (some 7), some (some 8), some (some 9), none, none, none, none, none, some (some 10), some (some 11), some (some 12), some (some 13), some (some 14), some (some 15), some (some 16), some (some 17), none, none, none, some (some 18), none, none, none, none, none, none, some (some 19), none, some (some 20), none, some (some 21), some (some 22), some (some 23), none, some (some 24), some (some 25), some (some 26), some (some 27), some none, some none, none, some none, some none, none, some none, some none, none, some none, none, some none, some none, none, some none, some none, none, some none, some none, none, none, none, some none]), .inl (.inl 80), .inl (.inl 480), .inl (.inl 80), .inl (.inl 12), .inl (.inl 12), .inl (.inl 12), .inl (.inl 8), .inl (.inl 600), .inl (.inl 400), .inl (.inl 142), .inl (.inl 2), .inl (.inl 48), .inl (.inl 48), .inl (.inl 48), .inl (.inl 48), .inl (.inl 1200), .inl (.inl 1200), .inl (.inl 40), .inl (.inl 16), .inl (.inl 128), .inl (.inl 24), .inl (.inl 12), .inl (.inl 420), .inl (.inl 12), .inl (.inl 12), .inl (.inl 2), .inl (.inl 24), .inl (.inl 169)]
def sM_56 : List gb_Ce := [.inr (10, [none, some (some 1), some (some 2), none, some (some 3), none, none, some (some 4), some (some 5), some (some 6), some (some 7), some (some 8), some (some 9), none, none, none, none, none, some (some 10), some (some 11), some (some 12), some (some 13), some (some 14), some (some 15), some (some 16), some (some 17), none, none, none, some (some 18), none, none, none, none, none, none, some (some 19), none, some (some 20), none, some (some 21), some (some 22), some (some 23), none, some (some 24), some (some 25), some (some 26), some (some 27), some (some 28), some none, none, some none, some none, none, some none, some none, none, some none, none, some none, some none, none, some none, some none, none, some none, some none, none, none, none, some none]), .inl (.inl 80), .inl (.inl 480), .inl (.inl 80), .inl (.inl 12), .inl (.inl 12), .inl (.inl 12), .inl (.inl 8), .inl (.inl 600), .inl (.inl 400), .inl (.inl 142), .inl (.inl 2), .inl (.inl 48), .inl (.inl 48), .inl (.inl 48), .inl (.inl 48), .inl (.inl 1200), .inl (.inl 1200), .inl (.inl 40), .inl (.inl 16), .inl (.inl 128), .inl (.inl 24), .inl (.inl 12), .inl (.inl 420), .inl (.inl 12), .inl (.inl 12), .inl (.inl 2), .inl (.inl 24), .inl (.inl 169)]
def sM_57 : List gb_Ce := [.inr (10, [none, some (some 1), some (some 2), none, some (some 3), none, none, some (some 4), some (some 5), some (some 6), some (some 7), some (some 8), some (some 9), none, none, none, none, none, some (some 10), some (some 11), some (some 12), some (some 13), some (some 14), some (some 15), some (some 16), some (some 17), none, none, none, some (some 18), none, none, none, none, none, none, some (some 19), none, some (some 20), none, some (some 21), some (some 22), some (some 23), none, some (some 24), some (some 25), some (some 26), some (some 27), some (some 28), some none, none, some none, some none, none, some none, some none, none, some none, none, some none, some none, none, some none, some none, none, some none, some none, none, none, none, some none]), .inl (.inl 80), .inl (.inl 480), .inl (.inl 80), .inl (.inl 12), .inl (.inl 12), .inl (.inl 12), .inl (.inl 8), .inl (.inl 600), .inl (.inl 400), .inl (.inl 142), .inl (.inl 2), .inl (.inl 48), .inl (.inl 48), .inl (.inl 48), .inl (.inl 48), .inl (.inl 1200), .inl (.inl 1200), .inl (.inl 40), .inl (.inl 16), .inl (.inl 128), .inl (.inl 24), .inl (.inl 12), .inl (.inl 420), .inl (.inl 12), .inl (.inl 12), .inl (.inl 2), .inl (.inl 24), .inl (.inl 169), .inl (.inl 169)]
def sM_58 : List gb_Ce := [.inr (10, [none, some (some 1), some (some 2), none, some (some 3), none, none, some (some 4), some (some 5), some (some 6), some (some 7), some (some 8), some (some 9), none, none, none, none, none, some (some 10), some (some 11), some (some 12), some (some 13), some (some 14), some (some 15), some (some 16), some (some 17), none, none, none, some (some 18), none, none, none, none, none, none, some (some 19), none, some (some 20), none, some (some 21), some (some 22), some (some 23), none, some (some 24), some (some 25), some (some 26), some (some 27), some (some 28), some (some 29), none, some none, some none, none, some none, some none, none, some none, none, some none, some none, none, some none, some none, none, some none, some none, none, none, none, some none]), .inl (.inl 80), .inl (.inl 480), .inl (.inl 80), .inl (.inl 12), .inl (.inl 12), .inl (.inl 12), .inl (.inl 8), .inl (.inl 600), .inl (.inl 400), .inl (.inl 142), .inl (.inl 2), .inl (.inl 48), .inl (.inl 48), .inl (.inl 48), .inl (.inl 48), .inl (.inl 1200), .inl (.inl 1200), .inl (.inl 40), .inl (.inl 16), .inl (.inl 128), .inl (.inl 24), .inl (.inl 12), .inl (.inl 420), .inl (.inl 12), .inl (.inl 12), .inl (.inl 2), .inl (.inl 24), .inl (.inl 169), .inl (.inl 169)]
def sM_59 : List gb_Ce := [.inr (10, [none, some (some 1), some (some 2), none, some (some 3), none, none, some (some 4), some (some 5), some (some 6), some (some 7), some (some 8), some (some 9), none, none, none, none, none, some (some 10), some (some 11), some (some 12), some (some 13), some (some 14), some (some 15), some (some 16), some (some 17), none, none, none, some (some 18), none, none, none, none, none, none, some (some 19), none, some (some 20), none, some (some 21), some (some 22), some (some 23), none, some (some 24), some (some 25), some (some 26), some (some 27), some (some 28), some (some 29), none, some none, some none, none, some none, some none, none, some none, none, some none, some none, none, some none, some none, none, some none, some none, none, none, none, some none]), .inl (.inl 80), .inl (.inl 480), .inl (.inl 80), .inl (.inl 12), .inl (.inl 12), .inl (.inl 12), .inl (.inl 8), .inl (.inl 600), .inl (.inl 400), .inl (.inl 142), .inl (.inl 2), .inl (.inl 48), .inl (.inl 48), .inl (.inl 48), .inl (.inl 48), .inl (.inl 1200), .inl (.inl 1200), .inl (.inl 40), .inl (.inl 16), .inl (.inl 128), .inl (.inl 24), .inl (.inl 12), .inl (.inl 420), .inl (.inl 12), .inl (.inl 12), .inl (.inl 2), .inl (.inl 24), .inl (.inl 169), .inl (.inl 169), .inl (.inl 8)]
def sM_60 : List gb_Ce := [.inr (10, [none, some (some 1), some (some 2), none, some (some 3), none, none, some (some 4), some (some 5), some (some 6), some (some 7), some (some 8), some (some 9), none, none, none, none, none, some (some 10), some (some 11), some (some 12), some (some 13), some (some 14), some (some 15), some (some 16), some (some 17), none, none, none, some (some 18), none, none, none, none, none, none, some (some 19), none, some (some 20), none, some (some 21), some (some 22), some (some 23), none, some (some 24), some (some 25), some (some 26), some (some 27), some (some 28), some (some 29), none, some (some 30), some none, none, some none, some none, none, some none, none, some none, some none, none, some none, some none, none, some none, some none, none, none, none, some none]), .inl (.inl 80), .inl (.inl 480), .inl (.inl 80), .inl (.inl 12), .inl (.inl 12), .inl (.inl 12), .inl (.inl 8), .inl (.inl 600), .inl (.inl 400), .inl (.inl 142), .inl (.inl 2), .inl (.inl 48), .inl (.inl 48), .inl (.inl 48), .inl (.inl 48), .inl (.inl 1200), .inl (.inl 1200), .inl (.inl 40), .inl (.inl 16), .inl (.inl 128), .inl (.inl 24), .inl (.inl 12), .inl (.inl 420), .inl (.inl 12), .inl (.inl 12), .inl (.inl 2), .inl (.inl 24), .inl (.inl 169), .inl (.inl 169), .inl (.inl 8)]
def sM_61 : List gb_Ce := [.inr (10, [none, some (some 1), some (some 2), none, some (some 3), none, none, some (some 4), some (some 5), some (some 6), some (some 7), some (some 8), some (some 9), none, none, none, none, none, some (some 10), some (some 11), some (some 12), some (some 13), some (some 14), some (some 15), some (some 16), some (some 17), none, none, none, some (some 18), none, none, none, none, none, none, some (some 19), none, some (some 20), none, some (some 21), some (some 22), some (some 23), none, some (some 24), some (some 25), some (some 26), some (some 27), some (some 28), some (some 29), none, some (some 30), some none, none, some none, some none, none, some none, none, some none, some none, none, some none, some none, none, some none, some none, none, none, none, some none]), .inl (.inl 80), .inl (.inl 480), .inl (.inl 80), .inl (.inl 12), .inl (.inl 12), .inl (.inl 12), .inl (.inl 8), .inl (.inl 600), .inl (.inl 400), .inl (.inl 142), .inl (.inl 2), .inl (.inl 48), .inl (.inl 48), .inl (.inl 48), .inl (.inl 48), .inl (.inl 1200), .inl (.inl 1200), .inl (.inl 40), .inl (.inl 16), .inl (.inl 128), .inl (.inl 24), .inl (.inl 12), .inl (.inl 420), .inl (.inl 12), .inl (.inl 12), .inl (.inl 2), .inl (.inl 24), .inl (.inl 169), .inl (.inl 169), .inl (.inl 8), .inl (.inl 8)]
def sM_62 : List gb_Ce := [.inr (10, [none, some (some 1), some (some 2), none, some (some 3), none, none, some (some 4), some (some 5), some (some 6), some (some 7), some (some 8), some (some 9), none, none, none, none, none, some (some 10), some (some 11), some (some 12), some (some 13), some (some 14), some (some 15), some (some 16), some (some 17), none, none, none, some (some 18), none, none, none, none, none, none, some (some 19), none, some (some 20), none, some (some 21), some (some 22), some (some 23), none, some (some 24), some (some 25), some (some 26), some (some 27), some (some 28), some (some 29), none, some (some 30), some (some 31), none, some none, some none, none, some none, none, some none, some none, none, some none, some none, none, some none, some none, none, none, none, some none]), .inl (.inl 80), .inl (.inl 480), .inl (.inl 80), .inl (.inl 12), .inl (.inl 12), .inl (.inl 12), .inl (.inl 8), .inl (.inl 600), .inl (.inl 400), .inl (.inl 142), .inl (.inl 2), .inl (.inl 48), .inl (.inl 48), .inl (.inl 48), .inl (.inl 48), .inl (.inl 1200), .inl (.inl 1200), .inl (.inl 40), .inl (.inl 16), .inl (.inl 128), .inl (.inl 24), .inl (.inl 12), .inl (.inl 420), .inl (.inl 12), .inl (.inl 12), .inl (.inl 2), .inl (.inl 24), .inl (.inl 169), .inl (.inl 169), .inl (.inl 8), .inl (.inl 8)]
def sM_63 : List gb_Ce := [.inr (10, [none, some (some 1), some (some 2), none, some (some 3), none, none, some (some 4), some (some 5), some (some 6), some (some 7), some (some 8), some (some 9), none, none, none, none, none, some (some 10), some (some 11), some (some 12), some (some 13), some (some 14), some (some 15), some (some 16), some (some 17), none, none, none, some (some 18), none, none, none, none, none, none, some (some 19), none, some (some 20), none, some (some 21), some (some 22), some (some 23), none, some (some 24), some (some 25), some (some 26), some (some 27), some (some 28), some (some 29), none, some (some 30), some (some 31), none, some none, some none, none, some none, none, some none, some none, none, some none, some none, none, some none, some none, none, none, none, some none]), .inl (.inl 80), .inl (.inl 480), .inl (.inl 80), .inl (.inl 12), .inl (.inl 12), .inl (.inl 12), .inl (.inl 8), .inl (.inl 600), .inl (.inl 400), .inl (.inl 142), .inl (.inl 2), .inl (.inl 48), .inl (.inl 48), .inl (.inl 48), .inl (.inl 48), .inl (.inl 1200), .inl (.inl 1200), .inl (.inl 40), .inl (.inl 16), .inl (.inl 128), .inl (.inl 24), .inl (.inl 12), .inl (.inl 420), .inl (.inl 12), .inl (.inl 12), .inl (.inl 2), .inl (.inl 24), .inl (.inl 169), .inl (.inl 169), .inl (.inl 8), .inl (.inl 8), .inl (.inl 10)]
def sM_64 : List gb_Ce := [.inr (10, [none, some (some 1), some (some 2), none, some (some 3), none, none, some (some 4), some (some 5), some (some 6), some (some 7), some (some 8), some (some 9), none, none, none, none, none, some (some 10), some (some 11), some (some 12), some (some 13), some (some 14), some (some 15), some (some 16), some (some 17), none, none, none, some (some 18), none, none, none, none, none, none, some (some 19), none, some (some 20), none, some (some 21), some (some 22), some (some 23), none, some (some 24), some (some 25), some (some 26), some (some 27), some (some 28), some (some 29), none, some (some 30), some (some 31), none, some (some 32), some none, none, some none, none, some none, some none, none, some none, some none, none, some none, some none, none, none, none, some none]), .inl (.inl 80), .inl (.inl 480), .inl (.inl 80), .inl (.inl 12), .inl (.inl 12), .inl (.inl 12), .inl (.inl 8), .inl (.inl 600), .inl (.inl 400), .inl (.inl 142), .inl (.inl 2), .inl (.inl 48), .inl (.inl 48), .inl (.inl 48), .inl (.inl 48), .inl (.inl 1200), .inl (.inl 1200), .inl (.inl 40), .inl (.inl 16), .inl (.inl 128), .inl (.inl 24), .inl (.inl 12), .inl (.inl 420), .inl (.inl 12), .inl (.inl 12), .inl (.inl 2), .inl (.inl 24), .inl (.inl 169), .inl (.inl 169), .inl (.inl 8), .inl (.inl 8), .inl (.inl 10)]
def sM_65 : List gb_Ce := [.inr (10, [none, some (some 1), some (some 2), none, some (some 3), none, none, some (some 4), some (some 5), some (some 6), some (some 7), some (some 8), some (some 9), none, none, none, none, none, some (some 10), some (some 11), some (some 12), some (some 13), some (some 14), some (some 15), some (some 16), some (some 17), none, none, none, some (some 18), none, none, none, none, none, none, some (some 19), none, some (some 20), none, some (some 21), some (some 22), some (some 23), none, some (some 24), some (some 25), some (some 26), some (some 27), some (some 28), some (some 29), none, some (some 30), some (some 31), none, some (some 32), some none, none, some none, none, some none, some none, none, some none, some none, none, some none, some none, none, none, none, some none]), .inl (.inl 80), .inl (.inl 480), .inl (.inl 80), .inl (.inl 12), .inl (.inl 12), .inl (.inl 12), .inl (.inl 8), .inl (.inl 600), .inl (.inl 400), .inl (.inl 142), .inl (.inl 2), .inl (.inl 48), .inl (.inl 48), .inl (.inl 48), .inl (.inl 48), .inl (.inl 1200), .inl (.inl 1200), .inl (.inl 40), .inl (.inl 16), .inl (.inl 128), .inl (.inl 24), .inl (.inl 12), .inl (.inl 420), .inl (.inl 12), .inl (.inl 12), .inl (.inl 2), .inl (.inl 24), .inl (.inl 169), .inl (.inl 169), .inl (.inl 8), .inl (.inl 8), .inl (.inl 10), .inl (.inl 41)]
def sM_66 : List gb_Ce := [.inr (10, [none, some (some 1), some (some 2), none, some (some 3), none, none, some (some 4), some (some 5), some (some 6), some (some 7), some (some 8), some (some 9), none, none, none, none, none, some (some 10), some (some 11), some (some 12), some (some 13), some (some 14), some (some 15), some (some 16), some (some 17), none, none, none, some (some 18), none, none, none, none, none, none, some (some 19), none, some (some 20), none, some (some 21), some (some 22), some (some 23), none, some (some 24), some (some 25), some (some 26), some (some 27), some (some 28), some (some 29), none, some (some 30), some (some 31), none, some (some 32), some (some 33), none, some none, none, some none, some none, none, some none, some none, none, some none, some none, none, none, none, some none]), .inl (.inl 80), .inl (.inl 480), .inl (.inl 80), .inl (.inl 12), .inl (.inl 12), .inl (.inl 12), .inl (.inl 8), .inl (.inl 600), .inl (.inl 400), .inl (.inl 142), .inl (.inl 2), .inl (.inl 48), .inl (.inl 48), .inl (.inl 48), .inl (.inl 48), .inl (.inl 1200), .inl (.inl 1200), .inl (.inl 40), .inl (.inl 16), .inl (.inl 128), .inl (.inl 24), .inl (.inl 12), .inl (.inl 420), .inl (.inl 12), .inl (.inl 12), .inl (.inl 2), .inl (.inl 24), .inl (.inl 169), .inl (.inl 169), .inl (.inl 8), .inl (.inl 8), .inl (.inl 10), .inl (.inl 41)]
def sM_67 : List gb_Ce := [.inr (10, [none, some (some 1), some (some 2), none, some (some 3), none, none, some (some 4), some (some 5), some (some 6), some (some 7), some (some 8), some (some 9), none, none, none, none, none, some (some 10), some (some 11), some (some 12), some (some 13), some (some 14), some (some 15), some (some 16), some (some 17), none, none, none, some (some 18), none, none, none, none, none, none, some (some 19), none, some (some 20), none, some (some 21), some (some 22), some (some 23), none, some (some 24), some (some 25), some (some 26), some (some 27), some (some 28), some (some 29), none, some (some 30), some (some 31), none, some (some 32), some (some 33), none, some none, none, some none, some none, none, some none, some none, none, some none, some none, none, none, none, some none]), .inl (.inl 80), .inl (.inl 480), .inl (.inl 80), .inl (.inl 12), .inl (.inl 12), .inl (.inl 12), .inl (.inl 8), .inl (.inl 600), .inl (.inl 400), .inl (.inl 142), .inl (.inl 2), .inl (.inl 48), .inl (.inl 48), .inl (.inl 48), .inl (.inl 48), .inl (.inl 1200), .inl (.inl 1200), .inl (.inl 40), .inl (.inl 16), .inl (.inl 128), .inl (.inl 24), .inl (.inl 12), .inl (.inl 420), .inl (.inl 12), .inl (.inl 12), .inl (.inl 2), .inl (.inl 24), .inl (.inl 169), .inl (.inl 169), .inl (.inl 8), .inl (.inl 8), .inl (.inl 10), .inl (.inl 41), .inl (.inl 8)]
def sM_68 : List gb_Ce := [.inr (10, [none, some (some 1), some (some 2), none, some (some 3), none, none, some (some 4), some (some 5), some (some 6), some (some 7), some (some 8), some (some 9), none, none, none, none, none, some (some 10), some (some 11), some (some 12), some (some 13), some (some 14), some (some 15), some (some 16), some (some 17), none, none, none, some (some 18), none, none, none, none, none, none, some (some 19), none, some (some 20), none, some (some 21), some (some 22), some (some 23), none, some (some 24), some (some 25), some (some 26), some (some 27), some (some 28), some (some 29), none, some (some 30), some (some 31), none, some (some 32), some (some 33), none, some (some 34), none, some none, some none, none, some none, some none, none, some none, some none, none, none, none, some none]), .inl (.inl 80), .inl (.inl 480), .inl (.inl 80), .inl (.inl 12), .inl (.inl 12), .inl (.inl 12), .inl (.inl 8), .inl (.inl 600), .inl (.inl 400), .inl (.inl 142), .inl (.inl 2), .inl (.inl 48), .inl (.inl 48), .inl (.inl 48), .inl (.inl 48), .inl (.inl 1200), .inl (.inl 1200), .inl (.inl 40), .inl (.inl 16), .inl (.inl 128), .inl (.inl 24), .inl (.inl 12), .inl (.inl 420), .inl (.inl 12), .inl (.inl 12), .inl (.inl 2), .inl (.inl 24), .inl (.inl 169), .inl (.inl 169), .inl (.inl 8), .inl (.inl 8), .inl (.inl 10), .inl (.inl 41), .inl (.inl 8)]
def sM_69 : List gb_Ce := [.inr (10, [none, some (some 1), some (some 2), none, some (some 3), none, none, some (some 4), some (some 5), some (some 6), some (some 7), some (some 8), some (some 9), none, none, none, none, none, some (some 10), some (some 11), some (some 12), some (some 13), some (some 14), some (some 15), some (some 16), some (some 17), none, none, none, some (some 18), none, none, none, none, none, none, some (some 19), none, some (some 20), none, some (some 21), some (some 22), some (some 23), none, some (some 24), some (some 25), some (some 26), some (some 27), some (some 28), some (some 29), none, some (some 30), some (some 31), none, some (some 32), some (some 33), none, some (some 34), none, some none, some none, none, some none, some none, none, some none, some none, none, none, none, some none]), .inl (.inl 80), .inl (.inl 480), .inl (.inl 80), .inl (.inl 12), .inl (.inl 12), .inl (.inl 12), .inl (.inl 8), .inl (.inl 600), .inl (.inl 400), .inl (.inl 142), .inl (.inl 2), .inl (.inl 48), .inl (.inl 48), .inl (.inl 48), .inl (.inl 48), .inl (.inl 1200), .inl (.inl 1200), .inl (.inl 40), .inl (.inl 16), .inl (.inl 128), .inl (.inl 24), .inl (.inl 12), .inl (.inl 420), .inl (.inl 12), .inl (.inl 12), .inl (.inl 2), .inl (.inl 24), .inl (.inl 169), .inl (.inl 169), .inl (.inl 8), .inl (.inl 8), .inl (.inl 10), .inl (.inl 41), .inl (.inl 8), .inl (.inl 9)]
def sM_70 : List gb_Ce := [.inr (10, [none, some (some 1), some (some 2), none, some (some 3), none, none, some (some 4), some (some 5), some (some 6), some (some 7), some (some 8), some (some 9), none, none, none, none, none, some (some 10), some (some 11), some (some 12), some (some 13), some (some 14), some (some 15), some (some 16), some (some 17), none, none, none, some (some 18), none, none, none, none, none, none, some (some 19), none, some (some 20), none, some (some 21), some (some 22), some (some 23), none, some (some 24), some (some 25), some (some 26), some (some 27), some (some 28), some (some 29), none, some (some 30), some (some 31), none, some (some 32), some (some 33), none, some (some 34), none, some (some 35), some none, none, some none, some none, none, some none, some none, none, none, none, some none]), .inl (.inl 80), .inl (.inl 480), .inl (.inl 80), .inl (.inl 12), .inl (.inl 12), .inl (.inl 12), .inl (.inl 8), .inl (.inl 600), .inl (.inl 400), .inl (.inl 142), .inl (.inl 2), .inl (.inl 48), .inl (.inl 48), .inl (.inl 48), .inl (.inl 48), .inl (.inl 1200), .inl (.inl 1200), .inl (.inl 40), .inl (.inl 16), .inl (.inl 128), .inl (.inl 24), .inl (.inl 12), .inl (.inl 420), .inl (.inl 12), .inl (.inl 12), .inl (.inl 2), .inl (.inl 24), .inl (.inl 169), .inl (.inl 169), .inl (.inl 8), .inl (.inl 8), .inl (.inl 10), .inl (.inl 41), .inl (.inl 8), .inl (.inl 9)]
def sM_71 : List gb_Ce := [.inr (10, [none, some (some 1), some (some 2), none, some (some 3), none, none, some (some 4), some (some 5), some (some 6), some (some 7), some (some 8), some (some 9), none, none, none, none, none, some (some 10), some (some 11), some (some 12), some (some 13), some (some 14), some (some 15), some (some 16), some (some 17), none, none, none, some (some 18), none, none, none, none, none, none, some (some 19), none, some (some 20), none, some (some 21), some (some 22), some (some 23), none, some (some 24), some (some 25), some (some 26), some (some 27), some (some 28), some (some 29), none, some (some 30), some (some 31), none, some (some 32), some (some 33), none, some (some 34), none, some (some 35), some none, none, some none, some none, none, some none, some none, none, none, none, some none]), .inl (.inl 80), .inl (.inl 480), .inl (.inl 80), .inl (.inl 12), .inl (.inl 12), .inl (.inl 12), .inl (.inl 8), .inl (.inl 600), .inl (.inl 400), .inl (.inl 142), .inl (.inl 2), .inl (.inl 48), .inl (.inl 48), .inl (.inl 48), .inl (.inl 48), .inl (.inl 1200), .inl (.inl 1200), .inl (.inl 40), .inl (.inl 16), .inl (.inl 128), .inl (.inl 24), .inl (.inl 12), .inl (.inl 420), .inl (.inl 12), .inl (.inl 12), .inl (.inl 2), .inl (.inl 24), .inl (.inl 169), .inl (.inl 169), .inl (.inl 8), .inl (.inl 8), .inl (.inl 10), .inl (.inl 41), .inl (.inl 8), .inl (.inl 9), .inl (.inl 9)]
def sM_72 : List gb_Ce := [.inr (10, [none, some (some 1), some (some 2), none, some (some 3), none, none, some (some 4), some (some 5), some (some 6), some (some 7), some (some 8), some (some 9), none, none, none, none, none, some (some 10), some (some 11), some (some 12), some (some 13), some (some 14), some (some 15), some (some 16), some (some 17), none, none, none, some (some 18), none, none, none, none, none, none, some (some 19), none, some (some 20), none, some (some 21), some (some 22), some (some 23), none, some (some 24), some (some 25), some (some 26), some (some 27), some (some 28), some (some 29), none, some (some 30), some (some 31), none, some (some 32), some (some 33), none, some (some 34), none, some (some 35), some (some 36), none, some none, some none, none, some none, some none, none, none, none, some none]), .inl (.inl 80), .inl (.inl 480), .inl (.inl 80), .inl (.inl 12), .inl (.inl 12), .inl (.inl 12), .inl (.inl 8), .inl (.inl 600), .inl (.inl 400), .inl (.inl 142), .inl (.inl 2), .inl (.inl 48), .inl (.inl 48), .inl (.inl 48), .inl (.inl 48), .inl (.inl 1200), .inl (.inl 1200), .inl (.inl 40), .inl (.inl 16), .inl (.inl 128), .inl (.inl 24), .inl (.inl 12), .inl (.inl 420), .inl (.inl 12), .inl (.inl 12), .inl (.inl 2), .inl (.inl 24), .inl (.inl 169), .inl (.inl 169), .inl (.inl 8), .inl (.inl 8), .inl (.inl 10), .inl (.inl 41), .inl (.inl 8), .inl (.inl 9), .inl (.inl 9)]
def sM_73 : List gb_Ce := [.inr (10, [none, some (some 1), some (some 2), none, some (some 3), none, none, some (some 4), some (some 5), some (some 6), some (some 7), some (some 8), some (some 9), none, none, none, none, none, some (some 10), some (some 11), some (some 12), some (some 13), some (some 14), some (some 15), some (some 16), some (some 17), none, none, none, some (some 18), none, none, none, none, none, none, some (some 19), none, some (some 20), none, some (some 21), some (some 22), some (some 23), none, some (some 24), some (some 25), some (some 26), some (some 27), some (some 28), some (some 29), none, some (some 30), some (some 31), none, some (some 32), some (some 33), none, some (some 34), none, some (some 35), some (some 36), none, some none, some none, none, some none, some none, none, none, none, some none]), .inl (.inl 80), .inl (.inl 480), .inl (.inl 80), .inl (.inl 12), .inl (.inl 12), .inl (.inl 12), .inl (.inl 8), .inl (.inl 600), .inl (.inl 400), .inl (.inl 142), .inl (.inl 2), .inl (.inl 48), .inl (.inl 48), .inl (.inl 48), .inl (.inl 48), .inl (.inl 1200), .inl (.inl 1200), .inl (.inl 40), .inl (.inl 16), .inl (.inl 128), .inl (.inl 24), .inl (.inl 12), .inl (.inl 420), .inl (.inl 12), .inl (.inl 12), .inl (.inl 2), .inl (.inl 24), .inl (.inl 169), .inl (.inl 169), .inl (.inl 8), .inl (.inl 8), .inl (.inl 10), .inl (.inl 41), .inl (.inl 8), .inl (.inl 9), .inl (.inl 9), .inl (.inl 8)]
def sM_74 : List gb_Ce := [.inr (10, [none, some (some 1), some (some 2), none, some (some 3), none, none, some (some 4), some (some 5), some (some 6), some (some 7), some (some 8), some (some 9), none, none, none, none, none, some (some 10), some (some 11), some (some 12), some (some 13), some (some 14), some (some 15), some (some 16), some (some 17), none, none, none, some (some 18), none, none, none, none, none, none, some (some 19), none, some (some 20), none, some (some 21), some (some 22), some (some 23), none, some (some 24), some (some 25), some (some 26), some (some 27), some (some 28), some (some 29), none, some (some 30), some (some 31), none, some (some 32), some (some 33), none, some (some 34), none, some (some 35), some (some 36), none, some (some 37), some none, none, some none, some none, none, none, none, some none]), .inl (.inl 80), .inl (.inl 480), .inl (.inl 80), .inl (.inl 12), .inl (.inl 12), .inl (.inl 12), .inl (.inl 8), .inl (.inl 600), .inl (.inl 400), .inl (.inl 142), .inl (.inl 2), .inl (.inl 48), .inl (.inl 48), .inl (.inl 48), .inl (.inl 48), .inl (.inl 1200), .inl (.inl 1200), .inl (.inl 40), .inl (.inl 16), .inl (.inl 128), .inl (.inl 24), .inl (.inl 12), .inl (.inl 420), .inl (.inl 12), .inl (.inl 12), .inl (.inl 2), .inl (.inl 24), .inl (.inl 169), .inl (.inl 169), .inl (.inl 8), .inl (.inl 8), .inl (.inl 10), .inl (.inl 41), .inl (.inl 8), .inl (.inl 9), .inl (.inl 9), .inl (.inl 8)]
def sM_75 : List gb_Ce := [.inr (10, [none, some (some 1), some (some 2), none, some (some 3), none, none, some (some 4), some (some 5), some (some 6), some (some 7), some (some 8), some (some 9), none, none, none, none, none, some (some 10), some (some 11), some (some 12), some (some 13), some (some 14), some (some 15), some (some 16), some (some 17), none, none, none, some (some 18), none, none, none, none, none, none, some (some 19), none, some (some 20), none, some (some 21), some (some 22), some (some 23), none, some (some 24), some (some 25), some (some 26), some (some 27), some (some 28), some (some 29), none, some (some 30), some (some 31), none, some (some 32), some (some 33), none, some (some 34), none, some (some 35), some (some 36), none, some (some 37), some none, none, some none, some none, none, none, none, some none]), .inl (.inl 80), .inl (.inl 480), .inl (.inl 80), .inl (.inl 12), .inl (.inl 12), .inl (.inl 12), .inl (.inl 8), .inl (.inl 600), .inl (.inl 400), .inl (.inl 142), .inl (.inl 2), .inl (.inl 48), .inl (.inl 48), .inl (.inl 48), .inl (.inl 48), .inl (.inl 1200), .inl (.inl 1200), .inl (.inl 40), .inl (.inl 16), .inl (.inl 128), .inl (.inl 24), .inl (.inl 12), .inl (.inl 420), .inl (.inl 12), .inl (.inl 12), .inl (.inl 2), .inl (.inl 24), .inl (.inl 169), .inl (.inl 169), .inl (.inl 8), .inl (.inl 8), .inl (.inl 10), .inl (.inl 41), .inl (.inl 8), .inl (.inl 9), .inl (.inl 9), .inl (.inl 8), .inl (.inl 8)]
def sM_76 : List gb_Ce := [.inr (10, [none, some (some 1), some (some 2), none, some (some 3), none, none, some (some 4), some (some 5), some (some 6), some (some 7), some (some 8), some (some 9), none, none, none, none, none, some (some 10), some (some 11), some (some 12), some (some 13), some (some 14), some (some 15), some (some 16), some (some 17), none, none, none, some (some 18), none, none, none, none, none, none, some (some 19), none, some (some 20), none, some (some 21), some (some 22), some (some 23), none, some (some 24), some (some 25), some (some 26), some (some 27), some (some 28), some (some 29), none, some (some 30), some (some 31), none, some (some 32), some (some 33), none, some (some 34), none, some (some 35), some (some 36), none, some (some 37), some (some 38), none, some none, some none, none, none, none, some none]), .inl (.inl 80), .inl (.inl 480), .inl (.inl 80), .inl (.inl 12), .inl (.inl 12), .inl (.inl 12), .inl (.inl 8), .inl (.inl 600), .inl (.inl 400), .inl (.inl 142), .inl (.inl 2), .inl (.inl 48), .inl (.inl 48), .inl (.inl 48), .inl (.inl 48), .inl (.inl 1200), .inl (.inl 1200), .inl (.inl 40), .inl (.inl 16), .inl (.inl 128), .inl (.inl 24), .inl (.inl 12), .inl (.inl 420), .inl (.inl 12), .inl (.inl 12), .inl (.inl 2), .inl (.inl 24), .inl (.inl 169), .inl (.inl 169), .inl (.inl 8), .inl (.inl 8), .inl (.inl 10), .inl (.inl 41), .inl (.inl 8), .inl (.inl 9), .inl (.inl 9), .inl (.inl 8), .inl (.inl 8)]
def sM_77 : List gb_Ce := [.inr (10, [none, some (some 1), some (some 2), none, some (some 3), none, none, some (some 4), some (some 5), some (some 6), some (some 7), some (some 8), some (some 9), none, none, none, none, none, some (some 10), some (some 11), some (some 12), some (some 13), some (some 14), some (some 15), some (some 16), some (some 17), none, none, none, some (some 18), none, none, none, none, none, none, some (some 19), none, some (some 20), none, some (some 21), some (some 22), some (some 23), none, some (some 24), some (some 25), some (some 26), some (some 27), some (some 28), some (some 29), none, some (some 30), some (some 31), none, some (some 32), some (some 33), none, some (some 34), none, some (some 35), some (some 36), none, some (some 37), some (some 38), none, some none, some none, none, none, none, some none]), .inl (.inl 80), .inl (.inl 480), .inl (.inl 80), .inl (.inl 12), .inl (.inl 12), .inl (.inl 12), .inl (.inl 8), .inl (.inl 600), .inl (.inl 400), .inl (.inl 142), .inl (.inl 2), .inl (.inl 48), .inl (.inl 48), .inl (.inl 48), .inl (.inl 48), .inl (.inl 1200), .inl (.inl 1200), .inl (.inl 40), .inl (.inl 16), .inl (.inl 128), .inl (.inl 24), .inl (.inl 12), .inl (.inl 420), .inl (.inl 12), .inl (.inl 12), .inl (.inl 2), .inl (.inl 24), .inl (.inl 169), .inl (.inl 169), .inl (.inl 8), .inl (.inl 8), .inl (.inl 10), .inl (.inl 41), .inl (.inl 8), .inl (.inl 9), .inl (.inl 9), .inl (.inl 8), .inl (.inl 8), .inl (.inl 9)]
def sM_78 : List gb_Ce := [.inr (10, [none, some (some 1), some (some 2), none, some (some 3), none, none, some (some 4), some (some 5), some (some 6), some (some 7), some (some 8), some (some 9), none, none, none, none, none, some (some 10), some (some 11), some (some 12), some (some 13), some (some 14), some (some 15), some (some 16), some (some 17), none, none, none, some (some 18), none, none, none, none, none, none, some (some 19), none, some (some 20), none, some (some 21), some (some 22), some (some 23), none, some (some 24), some (some 25), some (some 26), some (some 27), some (some 28), some (some 29), none, some (some 30), some (some 31), none, some (some 32), some (some 33), none, some (some 34), none, some (some 35), some (some 36), none, some (some 37), some (some 38), none, some (some 39), some none, none, none, none, some none]), .inl (.inl 80), .inl (.inl 480), .inl (.inl 80), .inl (.inl 12), .inl (.inl 12), .inl (.inl 12), .inl (.inl 8), .inl (.inl 600), .inl (.inl 400), .inl (.inl 142), .inl (.inl 2), .inl (.inl 48), .inl (.inl 48), .inl (.inl 48), .inl (.inl 48), .inl (.inl 1200), .inl (.inl 1200), .inl (.inl 40), .inl (.inl 16), .inl (.inl 128), .inl (.inl 24), .inl (.inl 12), .inl (.inl 420), .inl (.inl 12), .inl (.inl 12), .inl (.inl 2), .inl (.inl 24), .inl (.inl 169), .inl (.inl 169), .inl (.inl 8), .inl (.inl 8), .inl (.inl 10), .inl (.inl 41), .inl (.inl 8), .inl (.inl 9), .inl (.inl 9), .inl (.inl 8), .inl (.inl 8), .inl (.inl 9)]
def sM_79 : List gb_Ce := [.inr (10, [none, some (some 1), some (some 2), none, some (some 3), none, none, some (some 4), some (some 5), some (some 6), some (some 7), some (some 8), some (some 9), none, none, none, none, none, some (some 10), some (some 11), some (some 12), some (some 13), some (some 14), some (some 15), some (some 16), some (some 17), none, none, none, some (some 18), none, none, none, none, none, none, some (some 19), none, some (some 20), none, some (some 21), some (some 22), some (some 23), none, some (some 24), some (some 25), some (some 26), some (some 27), some (some 28), some (some 29), none, some (some 30), some (some 31), none, some (some 32), some (some 33), none, some (some 34), none, some (some 35), some (some 36), none, some (some 37), some (some 38), none, some (some 39), some none, none, none, none, some none]), .inl (.inl 80), .inl (.inl 480), .inl (.inl 80), .inl (.inl 12), .inl (.inl 12), .inl (.inl 12), .inl (.inl 8), .inl (.inl 600), .inl (.inl 400), .inl (.inl 142), .inl (.inl 2), .inl (.inl 48), .inl (.inl 48), .inl (.inl 48), .inl (.inl 48), .inl (.inl 1200), .inl (.inl 1200), .inl (.inl 40), .inl (.inl 16), .inl (.inl 128), .inl (.inl 24), .inl (.inl 12), .inl (.inl 420), .inl (.inl 12), .inl (.inl 12), .inl (.inl 2), .inl (.inl 24), .inl (.inl 169), .inl (.inl 169), .inl (.inl 8), .inl (.inl 8), .inl (.inl 10), .inl (.inl 41), .inl (.inl 8), .inl (.inl 9), .inl (.inl 9), .inl (.inl 8), .inl (.inl 8), .inl (.inl 9), .inl (.inl 9)]
def sM_80 : List gb_Ce := [.inr (10, [none, some (some 1), some (some 2), none, some (some 3), none, none, some (some 4), some (some 5), some (some 6), some (some 7), some (some 8), some (some 9), none, none, none, none, none, some (some 10), some (some 11), some (some 12), some (some 13), some (some 14), some (some 15), some (some 16), some (some 17), none, none, none, some (some 18), none, none, none, none, none, none, some (some 19), none, some (some 20), none, some (some 21), some (some 22), some (some 23), none, some (some 24), some (some 25), some (some 26), some (some 27), some (some 28), some (some 29), none, some (some 30), some (some 31), none, some (some 32), some (some 33), none, some (some 34), none, some (some 35), some (some 36), none, some (some 37), some (some 38), none, some (some 39), some (some 40), none, none, none, some none]), .inl (.inl 80), .inl (.inl 480), .inl (.inl 80), .inl (.inl 12), .inl (.inl 12), .inl (.inl 12), .inl (.inl 8), .inl (.inl 600), .inl (.inl 400), .inl (.inl 142), .inl (.inl 2), .inl (.inl 48), .inl (.inl 48), .inl (.inl 48), .inl (.inl 48), .inl (.inl 1200), .inl (.inl 1200), .inl (.inl 40), .inl (.inl 16), .inl (.inl 128), .inl (.inl 24), .inl (.inl 12), .inl (.inl 420), .inl (.inl 12), .inl (.inl 12), .inl (.inl 2), .inl (.inl 24), .inl (.inl 169), .inl (.inl 169), .inl (.inl 8), .inl (.inl 8), .inl (.inl 10), .inl (.inl 41), .inl (.inl 8), .inl (.inl 9), .inl (.inl 9), .inl (.inl 8), .inl (.inl 8), .inl (.inl 9), .inl (.inl 9)]
def sM_81 : List gb_Ce := [.inr (10, [none, some (some 1), some (some 2), none, some (some 3), none, none, some (some 4), some (some 5), some (some 6), some (some 7), some (some 8), some (some 9), none, none, none, none, none, some (some 10), some (some 11), some (some 12), some (some 13), some (some 14), some (some 15), some (some 16), some (some 17), none, none, none, some (some 18), none, none, none, none, none, none, some (some 19), none, some (some 20), none, some (some 21), some (some 22), some (some 23), none, some (some 24), some (some 25), some (some 26), some (some 27), some (some 28), some (some 29), none, some (some 30), some (some 31), none, some (some 32), some (some 33), none, some (some 34), none, some (some 35), some (some 36), none, some (some 37), some (some 38), none, some (some 39), some (some 40), none, none, none, some none]), .inl (.inl 80), .inl (.inl 480), .inl (.inl 80), .inl (.inl 12), .inl (.inl 12), .inl (.inl 12), .inl (.inl 8), .inl (.inl 600), .inl (.inl 400), .inl (.inl 142), .inl (.inl 2), .inl (.inl 48), .inl (.inl 48), .inl (.inl 48), .inl (.inl 48), .inl (.inl 1200), .inl (.inl 1200), .inl (.inl 40), .inl (.inl 16), .inl (.inl 128), .inl (.inl 24), .inl (.inl 12), .inl (.inl 420), .inl (.inl 12), .inl (.inl 12), .inl (.inl 2), .inl (.inl 24), .inl (.inl 169), .inl (.inl 169), .inl (.inl 8), .inl (.inl 8), .inl (.inl 10), .inl (.inl 41), .inl (.inl 8), .inl (.inl 9), .inl (.inl 9), .inl (.inl 8), .inl (.inl 8), .inl (.inl 9), .inl (.inl 9), .inl (.inl 2300)]
def sM_82 : List gb_Ce := [.inr (10, [none, some (some 1), some (some 2), none, some (some 3), none, none, some (some 4), some (some 5), some (some 6), some (some 7), some (some 8), some (some 9), none, none, none, none, none, some (some 10), some (some 11), some (some 12), some (some 13), some (some 14), some (some 15), some (some 16), some (some 17), none, none, none, some (some 18), none, none, none, none, none, none, some (some 19), none, some (some 20), none, some (some 21), some (some 22), some (some 23), none, some (some 24), some (some 25), some (some 26), some (some 27), some (some 28), some (some 29), none, some (some 30), some (some 31), none, some (some 32), some (some 33), none, some (some 34), none, some (some 35), some (some 36), none, some (some 37), some (some 38), none, some (some 39), some (some 40), none, none, none, some (some 41)]), .inl (.inl 80), .inl (.inl 480), .inl (.inl 80), .inl (.inl 12), .inl (.inl 12), .inl (.inl 12), .inl (.inl 8), .inl (.inl 600), .inl (.inl 400), .inl (.inl 142), .inl (.inl 2), .inl (.inl 48), .inl (.inl 48), .inl (.inl 48), .inl (.inl 48), .inl (.inl 1200), .inl (.inl 1200), .inl (.inl 40), .inl (.inl 16), .inl (.inl 128), .inl (.inl 24), .inl (.inl 12), .inl (.inl 420), .inl (.inl 12), .inl (.inl 12), .inl (.inl 2), .inl (.inl 24), .inl (.inl 169), .inl (.inl 169), .inl (.inl 8), .inl (.inl 8), .inl (.inl 10), .inl (.inl 41), .inl (.inl 8), .inl (.inl 9), .inl (.inl 9), .inl (.inl 8), .inl (.inl 8), .inl (.inl 9), .inl (.inl 9), .inl (.inl 2300)]
set_option maxRecDepth 8000 in
theorem kM_1 (l : Launch) (d0 : Nat) : gb_Ct l yMo_init (d0 + 1) 41 7875 [.inr (some 0)] sM_0 iM_0 (gb_po sM_82 none iM_143) := by
  refine gb_Ct.of (lv := [(0, .inr (some 0))]) rfl (Nat.le_of_ble_eq_true rfl) rfl ?_
  refine go_aload_n (k := 0) d_Mo_init_0 rfl rfl ?_
  refine go_objI d_Mo_init_1 oi_Mo oi_i oi_c (Nat.le_of_ble_eq_true rfl) ?_
  refine go_aload_n (k := 0) d_Mo_init_4 rfl rfl ?_
  refine go_bipush (v := 80) d_Mo_init_5 (by decide) ?_
  refine go_newa2 (kc := 40) (ks := 7795) (n := 1) (N := 80) (Sh' := sM_1) d_Mo_init_7 (by decide) (by decide) (by decide) rfl (by decide) (fun _ => rfl) rfl rfl rfl rfl rfl rfl ?_
  refine go_putR (ci := 10) (k := 1) (Sh' := sM_2) d_Mo_init_9 rfl rfl (by decide) f_Mo_7 (by decide) rfl rfl rfl rfl (fun _ => rfl) (fun _ => rfl) rfl ?_
  refine go_aload_n (k := 0) d_Mo_init_12 rfl rfl ?_
  refine go_sipush (v := 480) d_Mo_init_13 (by decide) ?_
  refine go_newa2 (kc := 39) (ks := 7315) (n := 2) (N := 480) (Sh' := sM_3) d_Mo_init_16 (by decide) (by decide) (by decide) rfl (by decide) (fun _ => rfl) rfl rfl rfl rfl rfl rfl ?_
  refine go_putR (ci := 10) (k := 2) (Sh' := sM_4) d_Mo_init_18 rfl rfl (by decide) f_Mo_13 (by decide) rfl rfl rfl rfl (fun _ => rfl) (fun _ => rfl) rfl ?_
  refine go_aload_n (k := 0) d_Mo_init_21 rfl rfl ?_
  refine go_bipush (v := 80) d_Mo_init_22 (by decide) ?_
  refine go_newa2 (kc := 38) (ks := 7235) (n := 3) (N := 80) (Sh' := sM_5) d_Mo_init_24 (by decide) (by decide) (by decide) rfl (by decide) (fun _ => rfl) rfl rfl rfl rfl rfl rfl ?_
  refine go_putR (ci := 10) (k := 4) (Sh' := sM_6) d_Mo_init_26 rfl rfl (by decide) f_Mo_16 (by decide) rfl rfl rfl rfl (fun _ => rfl) (fun _ => rfl) rfl ?_
  refine go_aload_n (k := 0) d_Mo_init_29 rfl rfl ?_
  refine go_bipush (v := 12) d_Mo_init_30 (by decide) ?_
  refine go_newa2 (kc := 37) (ks := 7223) (n := 4) (N := 12) (Sh' := sM_7) d_Mo_init_32 (by decide) (by decide) (by decide) rfl (by decide) (fun _ => rfl) rfl rfl rfl rfl rfl rfl ?_
  refine go_putR (ci := 10) (k := 7) (Sh' := sM_8) d_Mo_init_34 rfl rfl (by decide) f_Mo_19 (by decide) rfl rfl rfl rfl (fun _ => rfl) (fun _ => rfl) rfl ?_
  refine go_aload_n (k := 0) d_Mo_init_37 rfl rfl ?_
  refine go_bipush (v := 12) d_Mo_init_38 (by decide) ?_
  refine go_newa2 (kc := 36) (ks := 7211) (n := 5) (N := 12) (Sh' := sM_9) d_Mo_init_40 (by decide) (by decide) (by decide) rfl (by decide) (fun _ => rfl) rfl rfl rfl rfl rfl rfl ?_
  refine go_putR (ci := 10) (k := 8) (Sh' := sM_10) d_Mo_init_42 rfl rfl (by decide) f_Mo_22 (by decide) rfl rfl rfl rfl (fun _ => rfl) (fun _ => rfl) rfl ?_
  refine go_aload_n (k := 0) d_Mo_init_45 rfl rfl ?_
  refine go_bipush (v := 12) d_Mo_init_46 (by decide) ?_
  refine go_newa2 (kc := 35) (ks := 7199) (n := 6) (N := 12) (Sh' := sM_11) d_Mo_init_48 (by decide) (by decide) (by decide) rfl (by decide) (fun _ => rfl) rfl rfl rfl rfl rfl rfl ?_
  refine go_putR (ci := 10) (k := 9) (Sh' := sM_12) d_Mo_init_50 rfl rfl (by decide) f_Mo_25 (by decide) rfl rfl rfl rfl (fun _ => rfl) (fun _ => rfl) rfl ?_
  refine go_aload_n (k := 0) d_Mo_init_53 rfl rfl ?_
  refine go_bipush (v := 8) d_Mo_init_54 (by decide) ?_
  refine go_newa2 (kc := 34) (ks := 7191) (n := 7) (N := 8) (Sh' := sM_13) d_Mo_init_56 (by decide) (by decide) (by decide) rfl (by decide) (fun _ => rfl) rfl rfl rfl rfl rfl rfl ?_
  refine go_putR (ci := 10) (k := 10) (Sh' := sM_14) d_Mo_init_58 rfl rfl (by decide) f_Mo_28 (by decide) rfl rfl rfl rfl (fun _ => rfl) (fun _ => rfl) rfl ?_
  refine go_aload_n (k := 0) d_Mo_init_61 rfl rfl ?_
  refine go_sipush (v := 600) d_Mo_init_62 (by decide) ?_
  refine go_newa2 (kc := 33) (ks := 6591) (n := 8) (N := 600) (Sh' := sM_15) d_Mo_init_65 (by decide) (by decide) (by decide) rfl (by decide) (fun _ => rfl) rfl rfl rfl rfl rfl rfl ?_
  refine go_putR (ci := 10) (k := 11) (Sh' := sM_16) d_Mo_init_67 rfl rfl (by decide) f_Mo_31 (by decide) rfl rfl rfl rfl (fun _ => rfl) (fun _ => rfl) rfl ?_
  refine go_aload_n (k := 0) d_Mo_init_70 rfl rfl ?_
  refine go_sipush (v := 400) d_Mo_init_71 (by decide) ?_
  refine go_newa2 (kc := 32) (ks := 6191) (n := 9) (N := 400) (Sh' := sM_17) d_Mo_init_74 (by decide) (by decide) (by decide) rfl (by decide) (fun _ => rfl) rfl rfl rfl rfl rfl rfl ?_
  refine go_putR (ci := 10) (k := 12) (Sh' := sM_18) d_Mo_init_76 rfl rfl (by decide) f_Mo_34 (by decide) rfl rfl rfl rfl (fun _ => rfl) (fun _ => rfl) rfl ?_
  refine go_aload_n (k := 0) d_Mo_init_79 rfl rfl ?_
  refine go_sipush (v := 142) d_Mo_init_80 (by decide) ?_
  refine go_newa2 (kc := 31) (ks := 6049) (n := 10) (N := 142) (Sh' := sM_19) d_Mo_init_83 (by decide) (by decide) (by decide) rfl (by decide) (fun _ => rfl) rfl rfl rfl rfl rfl rfl ?_
  refine go_dup d_Mo_init_85 ?_
  refine go_iconst (v := 0) d_Mo_init_86 (by decide) ?_
  refine go_bipush (v := 32) d_Mo_init_87 (by decide) ?_
  refine go_iast (n := 142) (I' := iM_1) d_Mo_init_89 rfl (inb_iff.mp (by decide)) rfl ?_
  refine go_dup d_Mo_init_90 ?_
  refine go_iconst (v := 1) d_Mo_init_91 (by decide) ?_
  refine go_bipush (v := 112) d_Mo_init_92 (by decide) ?_
  refine go_iast (n := 142) (I' := iM_2) d_Mo_init_94 rfl (inb_iff.mp (by decide)) rfl ?_
  refine go_dup d_Mo_init_95 ?_
  refine go_iconst (v := 2) d_Mo_init_96 (by decide) ?_
  refine go_bipush (v := 97) d_Mo_init_97 (by decide) ?_
  refine go_iast (n := 142) (I' := iM_3) d_Mo_init_99 rfl (inb_iff.mp (by decide)) rfl ?_
  refine go_dup d_Mo_init_100 ?_
  refine go_iconst (v := 3) d_Mo_init_101 (by decide) ?_
  refine go_bipush (v := 115) d_Mo_init_102 (by decide) ?_
  refine go_iast (n := 142) (I' := iM_4) d_Mo_init_104 rfl (inb_iff.mp (by decide)) rfl ?_
  refine go_dup d_Mo_init_105 ?_
  refine go_iconst (v := 4) d_Mo_init_106 (by decide) ?_
  refine go_bipush (v := 115) d_Mo_init_107 (by decide) ?_
  refine go_iast (n := 142) (I' := iM_5) d_Mo_init_109 rfl (inb_iff.mp (by decide)) rfl ?_
  refine go_dup d_Mo_init_110 ?_
  refine go_iconst (v := 5) d_Mo_init_111 (by decide) ?_
  refine go_bipush (v := 101) d_Mo_init_112 (by decide) ?_
  refine go_iast (n := 142) (I' := iM_6) d_Mo_init_114 rfl (inb_iff.mp (by decide)) rfl ?_
  refine go_dup d_Mo_init_115 ?_
  refine go_bipush (v := 6) d_Mo_init_116 (by decide) ?_
  refine go_bipush (v := 115) d_Mo_init_118 (by decide) ?_
  refine go_iast (n := 142) (I' := iM_7) d_Mo_init_120 rfl (inb_iff.mp (by decide)) rfl ?_
  refine go_dup d_Mo_init_121 ?_
  refine go_bipush (v := 7) d_Mo_init_122 (by decide) ?_
  refine go_bipush (v := 32) d_Mo_init_124 (by decide) ?_
  refine go_iast (n := 142) (I' := iM_8) d_Mo_init_126 rfl (inb_iff.mp (by decide)) rfl ?_
  refine go_dup d_Mo_init_127 ?_
  refine go_bipush (v := 8) d_Mo_init_128 (by decide) ?_
  refine go_bipush (v := 112) d_Mo_init_130 (by decide) ?_
  refine go_iast (n := 142) (I' := iM_9) d_Mo_init_132 rfl (inb_iff.mp (by decide)) rfl ?_
  refine go_dup d_Mo_init_133 ?_
  refine go_bipush (v := 9) d_Mo_init_134 (by decide) ?_
  refine go_bipush (v := 111) d_Mo_init_136 (by decide) ?_
  refine go_iast (n := 142) (I' := iM_10) d_Mo_init_138 rfl (inb_iff.mp (by decide)) rfl ?_
  refine go_dup d_Mo_init_139 ?_
  refine go_bipush (v := 10) d_Mo_init_140 (by decide) ?_
  refine go_bipush (v := 117) d_Mo_init_142 (by decide) ?_
  refine go_iast (n := 142) (I' := iM_11) d_Mo_init_144 rfl (inb_iff.mp (by decide)) rfl ?_
  refine go_dup d_Mo_init_145 ?_
  refine go_bipush (v := 11) d_Mo_init_146 (by decide) ?_
  refine go_bipush (v := 114) d_Mo_init_148 (by decide) ?_
  refine go_iast (n := 142) (I' := iM_12) d_Mo_init_150 rfl (inb_iff.mp (by decide)) rfl ?_
  refine go_dup d_Mo_init_151 ?_
  refine go_bipush (v := 12) d_Mo_init_152 (by decide) ?_
  refine go_bipush (v := 115) d_Mo_init_154 (by decide) ?_
  refine go_iast (n := 142) (I' := iM_13) d_Mo_init_156 rfl (inb_iff.mp (by decide)) rfl ?_
  refine go_dup d_Mo_init_157 ?_
  refine go_bipush (v := 13) d_Mo_init_158 (by decide) ?_
  refine go_bipush (v := 32) d_Mo_init_160 (by decide) ?_
  refine go_iast (n := 142) (I' := iM_14) d_Mo_init_162 rfl (inb_iff.mp (by decide)) rfl ?_
  refine go_dup d_Mo_init_163 ?_
  refine go_bipush (v := 14) d_Mo_init_164 (by decide) ?_
  refine go_bipush (v := 115) d_Mo_init_166 (by decide) ?_
  refine go_iast (n := 142) (I' := iM_15) d_Mo_init_168 rfl (inb_iff.mp (by decide)) rfl ?_
  refine go_dup d_Mo_init_169 ?_
  refine go_bipush (v := 15) d_Mo_init_170 (by decide) ?_
  refine go_bipush (v := 112) d_Mo_init_172 (by decide) ?_
  refine go_iast (n := 142) (I' := iM_16) d_Mo_init_174 rfl (inb_iff.mp (by decide)) rfl ?_
  refine go_dup d_Mo_init_175 ?_
  refine go_bipush (v := 16) d_Mo_init_176 (by decide) ?_
  refine go_bipush (v := 105) d_Mo_init_178 (by decide) ?_
  refine go_iast (n := 142) (I' := iM_17) d_Mo_init_180 rfl (inb_iff.mp (by decide)) rfl ?_
  refine go_dup d_Mo_init_181 ?_
  refine go_bipush (v := 17) d_Mo_init_182 (by decide) ?_
  refine go_bipush (v := 108) d_Mo_init_184 (by decide) ?_
  refine go_iast (n := 142) (I' := iM_18) d_Mo_init_186 rfl (inb_iff.mp (by decide)) rfl ?_
  refine go_dup d_Mo_init_187 ?_
  refine go_bipush (v := 18) d_Mo_init_188 (by decide) ?_
  refine go_bipush (v := 108) d_Mo_init_190 (by decide) ?_
  refine go_iast (n := 142) (I' := iM_19) d_Mo_init_192 rfl (inb_iff.mp (by decide)) rfl ?_
  refine go_dup d_Mo_init_193 ?_
  refine go_bipush (v := 19) d_Mo_init_194 (by decide) ?_
  refine go_bipush (v := 115) d_Mo_init_196 (by decide) ?_
  refine go_iast (n := 142) (I' := iM_20) d_Mo_init_198 rfl (inb_iff.mp (by decide)) rfl ?_
  refine go_dup d_Mo_init_199 ?_
  refine go_bipush (v := 20) d_Mo_init_200 (by decide) ?_
  refine go_bipush (v := 32) d_Mo_init_202 (by decide) ?_
  refine go_iast (n := 142) (I' := iM_21) d_Mo_init_204 rfl (inb_iff.mp (by decide)) rfl ?_
  refine go_dup d_Mo_init_205 ?_
  refine go_bipush (v := 21) d_Mo_init_206 (by decide) ?_
  refine go_bipush (v := 119) d_Mo_init_208 (by decide) ?_
  refine go_iast (n := 142) (I' := iM_22) d_Mo_init_210 rfl (inb_iff.mp (by decide)) rfl ?_
  refine go_dup d_Mo_init_211 ?_
  refine go_bipush (v := 22) d_Mo_init_212 (by decide) ?_
  refine go_bipush (v := 104) d_Mo_init_214 (by decide) ?_
  refine go_iast (n := 142) (I' := iM_23) d_Mo_init_216 rfl (inb_iff.mp (by decide)) rfl ?_
  refine go_dup d_Mo_init_217 ?_
  refine go_bipush (v := 23) d_Mo_init_218 (by decide) ?_
  refine go_bipush (v := 101) d_Mo_init_220 (by decide) ?_
  refine go_iast (n := 142) (I' := iM_24) d_Mo_init_222 rfl (inb_iff.mp (by decide)) rfl ?_
  refine go_dup d_Mo_init_223 ?_
  refine go_bipush (v := 24) d_Mo_init_224 (by decide) ?_
  refine go_bipush (v := 110) d_Mo_init_226 (by decide) ?_
  refine go_iast (n := 142) (I' := iM_25) d_Mo_init_228 rfl (inb_iff.mp (by decide)) rfl ?_
  refine go_dup d_Mo_init_229 ?_
  refine go_bipush (v := 25) d_Mo_init_230 (by decide) ?_
  refine go_bipush (v := 32) d_Mo_init_232 (by decide) ?_
  refine go_iast (n := 142) (I' := iM_26) d_Mo_init_234 rfl (inb_iff.mp (by decide)) rfl ?_
  refine go_dup d_Mo_init_235 ?_
  refine go_bipush (v := 26) d_Mo_init_236 (by decide) ?_
  refine go_bipush (v := 111) d_Mo_init_238 (by decide) ?_
  refine go_iast (n := 142) (I' := iM_27) d_Mo_init_240 rfl (inb_iff.mp (by decide)) rfl ?_
  refine go_dup d_Mo_init_241 ?_
  refine go_bipush (v := 27) d_Mo_init_242 (by decide) ?_
  refine go_bipush (v := 114) d_Mo_init_244 (by decide) ?_
  refine go_iast (n := 142) (I' := iM_28) d_Mo_init_246 rfl (inb_iff.mp (by decide)) rfl ?_
  refine go_dup d_Mo_init_247 ?_
  refine go_bipush (v := 28) d_Mo_init_248 (by decide) ?_
  refine go_bipush (v := 32) d_Mo_init_250 (by decide) ?_
  refine go_iast (n := 142) (I' := iM_29) d_Mo_init_252 rfl (inb_iff.mp (by decide)) rfl ?_
  refine go_dup d_Mo_init_253 ?_
  refine go_bipush (v := 29) d_Mo_init_254 (by decide) ?_
  refine go_bipush (v := 97) d_Mo_init_256 (by decide) ?_
  refine go_iast (n := 142) (I' := iM_30) d_Mo_init_258 rfl (inb_iff.mp (by decide)) rfl ?_
  refine go_dup d_Mo_init_259 ?_
  refine go_bipush (v := 30) d_Mo_init_260 (by decide) ?_
  refine go_bipush (v := 110) d_Mo_init_262 (by decide) ?_
  refine go_iast (n := 142) (I' := iM_31) d_Mo_init_264 rfl (inb_iff.mp (by decide)) rfl ?_
  refine go_dup d_Mo_init_265 ?_
  refine go_bipush (v := 31) d_Mo_init_266 (by decide) ?_
  refine go_bipush (v := 100) d_Mo_init_268 (by decide) ?_
  refine go_iast (n := 142) (I' := iM_32) d_Mo_init_270 rfl (inb_iff.mp (by decide)) rfl ?_
  refine go_dup d_Mo_init_271 ?_
  refine go_bipush (v := 32) d_Mo_init_272 (by decide) ?_
  refine go_bipush (v := 32) d_Mo_init_274 (by decide) ?_
  refine go_iast (n := 142) (I' := iM_33) d_Mo_init_276 rfl (inb_iff.mp (by decide)) rfl ?_
  refine go_dup d_Mo_init_277 ?_
  refine go_bipush (v := 33) d_Mo_init_278 (by decide) ?_
  refine go_bipush (v := 110) d_Mo_init_280 (by decide) ?_
  refine go_iast (n := 142) (I' := iM_34) d_Mo_init_282 rfl (inb_iff.mp (by decide)) rfl ?_
  refine go_dup d_Mo_init_283 ?_
  refine go_bipush (v := 34) d_Mo_init_284 (by decide) ?_
  refine go_bipush (v := 111) d_Mo_init_286 (by decide) ?_
  refine go_iast (n := 142) (I' := iM_35) d_Mo_init_288 rfl (inb_iff.mp (by decide)) rfl ?_
  refine go_dup d_Mo_init_289 ?_
  refine go_bipush (v := 35) d_Mo_init_290 (by decide) ?_
  refine go_bipush (v := 116) d_Mo_init_292 (by decide) ?_
  refine go_iast (n := 142) (I' := iM_36) d_Mo_init_294 rfl (inb_iff.mp (by decide)) rfl ?_
  refine go_dup d_Mo_init_295 ?_
  refine go_bipush (v := 36) d_Mo_init_296 (by decide) ?_
  refine go_bipush (v := 32) d_Mo_init_298 (by decide) ?_
  refine go_iast (n := 142) (I' := iM_37) d_Mo_init_300 rfl (inb_iff.mp (by decide)) rfl ?_
  refine go_dup d_Mo_init_301 ?_
  refine go_bipush (v := 37) d_Mo_init_302 (by decide) ?_
  refine go_bipush (v := 107) d_Mo_init_304 (by decide) ?_
  refine go_iast (n := 142) (I' := iM_38) d_Mo_init_306 rfl (inb_iff.mp (by decide)) rfl ?_
  refine go_dup d_Mo_init_307 ?_
  refine go_bipush (v := 38) d_Mo_init_308 (by decide) ?_
  refine go_bipush (v := 105) d_Mo_init_310 (by decide) ?_
  refine go_iast (n := 142) (I' := iM_39) d_Mo_init_312 rfl (inb_iff.mp (by decide)) rfl ?_
  refine go_dup d_Mo_init_313 ?_
  refine go_bipush (v := 39) d_Mo_init_314 (by decide) ?_
  refine go_bipush (v := 110) d_Mo_init_316 (by decide) ?_
  refine go_iast (n := 142) (I' := iM_40) d_Mo_init_318 rfl (inb_iff.mp (by decide)) rfl ?_
  refine go_dup d_Mo_init_319 ?_
  refine go_bipush (v := 40) d_Mo_init_320 (by decide) ?_
  refine go_bipush (v := 100) d_Mo_init_322 (by decide) ?_
  refine go_iast (n := 142) (I' := iM_41) d_Mo_init_324 rfl (inb_iff.mp (by decide)) rfl ?_
  refine go_dup d_Mo_init_325 ?_
  refine go_bipush (v := 41) d_Mo_init_326 (by decide) ?_
  refine go_bipush (v := 32) d_Mo_init_328 (by decide) ?_
  refine go_iast (n := 142) (I' := iM_42) d_Mo_init_330 rfl (inb_iff.mp (by decide)) rfl ?_
  refine go_dup d_Mo_init_331 ?_
  refine go_bipush (v := 42) d_Mo_init_332 (by decide) ?_
  refine go_bipush (v := 102) d_Mo_init_334 (by decide) ?_
  refine go_iast (n := 142) (I' := iM_43) d_Mo_init_336 rfl (inb_iff.mp (by decide)) rfl ?_
  refine go_dup d_Mo_init_337 ?_
  refine go_bipush (v := 43) d_Mo_init_338 (by decide) ?_
  refine go_bipush (v := 117) d_Mo_init_340 (by decide) ?_
  refine go_iast (n := 142) (I' := iM_44) d_Mo_init_342 rfl (inb_iff.mp (by decide)) rfl ?_
  refine go_dup d_Mo_init_343 ?_
  refine go_bipush (v := 44) d_Mo_init_344 (by decide) ?_
  refine go_bipush (v := 108) d_Mo_init_346 (by decide) ?_
  refine go_iast (n := 142) (I' := iM_45) d_Mo_init_348 rfl (inb_iff.mp (by decide)) rfl ?_
  refine go_dup d_Mo_init_349 ?_
  refine go_bipush (v := 45) d_Mo_init_350 (by decide) ?_
  refine go_bipush (v := 108) d_Mo_init_352 (by decide) ?_
  refine go_iast (n := 142) (I' := iM_46) d_Mo_init_354 rfl (inb_iff.mp (by decide)) rfl ?_
  refine go_dup d_Mo_init_355 ?_
  refine go_bipush (v := 46) d_Mo_init_356 (by decide) ?_
  refine go_bipush (v := 32) d_Mo_init_358 (by decide) ?_
  refine go_iast (n := 142) (I' := iM_47) d_Mo_init_360 rfl (inb_iff.mp (by decide)) rfl ?_
  refine go_dup d_Mo_init_361 ?_
  refine go_bipush (v := 47) d_Mo_init_362 (by decide) ?_
  refine go_bipush (v := 115) d_Mo_init_364 (by decide) ?_
  refine go_iast (n := 142) (I' := iM_48) d_Mo_init_366 rfl (inb_iff.mp (by decide)) rfl ?_
  refine go_dup d_Mo_init_367 ?_
  refine go_bipush (v := 48) d_Mo_init_368 (by decide) ?_
  refine go_bipush (v := 107) d_Mo_init_370 (by decide) ?_
  refine go_iast (n := 142) (I' := iM_49) d_Mo_init_372 rfl (inb_iff.mp (by decide)) rfl ?_
  refine go_dup d_Mo_init_373 ?_
  refine go_bipush (v := 49) d_Mo_init_374 (by decide) ?_
  refine go_bipush (v := 105) d_Mo_init_376 (by decide) ?_
  refine go_iast (n := 142) (I' := iM_50) d_Mo_init_378 rfl (inb_iff.mp (by decide)) rfl ?_
  refine go_dup d_Mo_init_379 ?_
  refine go_bipush (v := 50) d_Mo_init_380 (by decide) ?_
  refine go_bipush (v := 110) d_Mo_init_382 (by decide) ?_
  refine go_iast (n := 142) (I' := iM_51) d_Mo_init_384 rfl (inb_iff.mp (by decide)) rfl ?_
  refine go_dup d_Mo_init_385 ?_
  refine go_bipush (v := 51) d_Mo_init_386 (by decide) ?_
  refine go_bipush (v := 32) d_Mo_init_388 (by decide) ?_
  refine go_iast (n := 142) (I' := iM_52) d_Mo_init_390 rfl (inb_iff.mp (by decide)) rfl ?_
  refine go_dup d_Mo_init_391 ?_
  refine go_bipush (v := 52) d_Mo_init_392 (by decide) ?_
  refine go_bipush (v := 115) d_Mo_init_394 (by decide) ?_
  refine go_iast (n := 142) (I' := iM_53) d_Mo_init_396 rfl (inb_iff.mp (by decide)) rfl ?_
  refine go_dup d_Mo_init_397 ?_
  refine go_bipush (v := 53) d_Mo_init_398 (by decide) ?_
  refine go_bipush (v := 116) d_Mo_init_400 (by decide) ?_
  refine go_iast (n := 142) (I' := iM_54) d_Mo_init_402 rfl (inb_iff.mp (by decide)) rfl ?_
  refine go_dup d_Mo_init_403 ?_
  refine go_bipush (v := 54) d_Mo_init_404 (by decide) ?_
  refine go_bipush (v := 101) d_Mo_init_406 (by decide) ?_
  refine go_iast (n := 142) (I' := iM_55) d_Mo_init_408 rfl (inb_iff.mp (by decide)) rfl ?_
  refine go_dup d_Mo_init_409 ?_
  refine go_bipush (v := 55) d_Mo_init_410 (by decide) ?_
  refine go_bipush (v := 97) d_Mo_init_412 (by decide) ?_
  refine go_iast (n := 142) (I' := iM_56) d_Mo_init_414 rfl (inb_iff.mp (by decide)) rfl ?_
  refine go_dup d_Mo_init_415 ?_
  refine go_bipush (v := 56) d_Mo_init_416 (by decide) ?_
  refine go_bipush (v := 100) d_Mo_init_418 (by decide) ?_
  refine go_iast (n := 142) (I' := iM_57) d_Mo_init_420 rfl (inb_iff.mp (by decide)) rfl ?_
  refine go_dup d_Mo_init_421 ?_
  refine go_bipush (v := 57) d_Mo_init_422 (by decide) ?_
  refine go_bipush (v := 121) d_Mo_init_424 (by decide) ?_
  refine go_iast (n := 142) (I' := iM_58) d_Mo_init_426 rfl (inb_iff.mp (by decide)) rfl ?_
  refine go_dup d_Mo_init_427 ?_
  refine go_bipush (v := 58) d_Mo_init_428 (by decide) ?_
  refine go_bipush (v := 32) d_Mo_init_430 (by decide) ?_
  refine go_iast (n := 142) (I' := iM_59) d_Mo_init_432 rfl (inb_iff.mp (by decide)) rfl ?_
  refine go_dup d_Mo_init_433 ?_
  refine go_bipush (v := 59) d_Mo_init_434 (by decide) ?_
  refine go_bipush (v := 116) d_Mo_init_436 (by decide) ?_
  refine go_iast (n := 142) (I' := iM_60) d_Mo_init_438 rfl (inb_iff.mp (by decide)) rfl ?_
  refine go_dup d_Mo_init_439 ?_
  refine go_bipush (v := 60) d_Mo_init_440 (by decide) ?_
  refine go_bipush (v := 104) d_Mo_init_442 (by decide) ?_
  refine go_iast (n := 142) (I' := iM_61) d_Mo_init_444 rfl (inb_iff.mp (by decide)) rfl ?_
  refine go_dup d_Mo_init_445 ?_
  refine go_bipush (v := 61) d_Mo_init_446 (by decide) ?_
  refine go_bipush (v := 105) d_Mo_init_448 (by decide) ?_
  refine go_iast (n := 142) (I' := iM_62) d_Mo_init_450 rfl (inb_iff.mp (by decide)) rfl ?_
  refine go_dup d_Mo_init_451 ?_
  refine go_bipush (v := 62) d_Mo_init_452 (by decide) ?_
  refine go_bipush (v := 114) d_Mo_init_454 (by decide) ?_
  refine go_iast (n := 142) (I' := iM_63) d_Mo_init_456 rfl (inb_iff.mp (by decide)) rfl ?_
  refine go_dup d_Mo_init_457 ?_
  refine go_bipush (v := 63) d_Mo_init_458 (by decide) ?_
  refine go_bipush (v := 115) d_Mo_init_460 (by decide) ?_
  refine go_iast (n := 142) (I' := iM_64) d_Mo_init_462 rfl (inb_iff.mp (by decide)) rfl ?_
  refine go_dup d_Mo_init_463 ?_
  refine go_bipush (v := 64) d_Mo_init_464 (by decide) ?_
  refine go_bipush (v := 116) d_Mo_init_466 (by decide) ?_
  refine go_iast (n := 142) (I' := iM_65) d_Mo_init_468 rfl (inb_iff.mp (by decide)) rfl ?_
  refine go_dup d_Mo_init_469 ?_
  refine go_bipush (v := 65) d_Mo_init_470 (by decide) ?_
  refine go_bipush (v := 32) d_Mo_init_472 (by decide) ?_
  refine go_iast (n := 142) (I' := iM_66) d_Mo_init_474 rfl (inb_iff.mp (by decide)) rfl ?_
  refine go_dup d_Mo_init_475 ?_
  refine go_bipush (v := 66) d_Mo_init_476 (by decide) ?_
  refine go_bipush (v := 108) d_Mo_init_478 (by decide) ?_
  refine go_iast (n := 142) (I' := iM_67) d_Mo_init_480 rfl (inb_iff.mp (by decide)) rfl ?_
  refine go_dup d_Mo_init_481 ?_
  refine go_bipush (v := 67) d_Mo_init_482 (by decide) ?_
  refine go_bipush (v := 111) d_Mo_init_484 (by decide) ?_
  refine go_iast (n := 142) (I' := iM_68) d_Mo_init_486 rfl (inb_iff.mp (by decide)) rfl ?_
  refine go_dup d_Mo_init_487 ?_
  refine go_bipush (v := 68) d_Mo_init_488 (by decide) ?_
  refine go_bipush (v := 118) d_Mo_init_490 (by decide) ?_
  refine go_iast (n := 142) (I' := iM_69) d_Mo_init_492 rfl (inb_iff.mp (by decide)) rfl ?_
  refine go_dup d_Mo_init_493 ?_
  refine go_bipush (v := 69) d_Mo_init_494 (by decide) ?_
  refine go_bipush (v := 101) d_Mo_init_496 (by decide) ?_
  refine go_iast (n := 142) (I' := iM_70) d_Mo_init_498 rfl (inb_iff.mp (by decide)) rfl ?_
  refine go_dup d_Mo_init_499 ?_
  refine go_bipush (v := 70) d_Mo_init_500 (by decide) ?_
  refine go_bipush (v := 32) d_Mo_init_502 (by decide) ?_
  refine go_iast (n := 142) (I' := iM_71) d_Mo_init_504 rfl (inb_iff.mp (by decide)) rfl ?_
  refine go_dup d_Mo_init_505 ?_
  refine go_bipush (v := 71) d_Mo_init_506 (by decide) ?_
  refine go_bipush (v := 112) d_Mo_init_508 (by decide) ?_
  refine go_iast (n := 142) (I' := iM_72) d_Mo_init_510 rfl (inb_iff.mp (by decide)) rfl ?_
  refine go_dup d_Mo_init_511 ?_
  refine go_bipush (v := 72) d_Mo_init_512 (by decide) ?_
  refine go_bipush (v := 105) d_Mo_init_514 (by decide) ?_
  refine go_iast (n := 142) (I' := iM_73) d_Mo_init_516 rfl (inb_iff.mp (by decide)) rfl ?_
  refine go_dup d_Mo_init_517 ?_
  refine go_bipush (v := 73) d_Mo_init_518 (by decide) ?_
  refine go_bipush (v := 114) d_Mo_init_520 (by decide) ?_
  refine go_iast (n := 142) (I' := iM_74) d_Mo_init_522 rfl (inb_iff.mp (by decide)) rfl ?_
  refine go_dup d_Mo_init_523 ?_
  refine go_bipush (v := 74) d_Mo_init_524 (by decide) ?_
  refine go_bipush (v := 97) d_Mo_init_526 (by decide) ?_
  refine go_iast (n := 142) (I' := iM_75) d_Mo_init_528 rfl (inb_iff.mp (by decide)) rfl ?_
  refine go_dup d_Mo_init_529 ?_
  refine go_bipush (v := 75) d_Mo_init_530 (by decide) ?_
  refine go_bipush (v := 116) d_Mo_init_532 (by decide) ?_
  refine go_iast (n := 142) (I' := iM_76) d_Mo_init_534 rfl (inb_iff.mp (by decide)) rfl ?_
  refine go_dup d_Mo_init_535 ?_
  refine go_bipush (v := 76) d_Mo_init_536 (by decide) ?_
  refine go_bipush (v := 101) d_Mo_init_538 (by decide) ?_
  refine go_iast (n := 142) (I' := iM_77) d_Mo_init_540 rfl (inb_iff.mp (by decide)) rfl ?_
  refine go_dup d_Mo_init_541 ?_
  refine go_bipush (v := 77) d_Mo_init_542 (by decide) ?_
  refine go_bipush (v := 32) d_Mo_init_544 (by decide) ?_
  refine go_iast (n := 142) (I' := iM_78) d_Mo_init_546 rfl (inb_iff.mp (by decide)) rfl ?_
  refine go_dup d_Mo_init_547 ?_
  refine go_bipush (v := 78) d_Mo_init_548 (by decide) ?_
  refine go_bipush (v := 115) d_Mo_init_550 (by decide) ?_
  refine go_iast (n := 142) (I' := iM_79) d_Mo_init_552 rfl (inb_iff.mp (by decide)) rfl ?_
  refine go_dup d_Mo_init_553 ?_
  refine go_bipush (v := 79) d_Mo_init_554 (by decide) ?_
  refine go_bipush (v := 101) d_Mo_init_556 (by decide) ?_
  refine go_iast (n := 142) (I' := iM_80) d_Mo_init_558 rfl (inb_iff.mp (by decide)) rfl ?_
  refine go_dup d_Mo_init_559 ?_
  refine go_bipush (v := 80) d_Mo_init_560 (by decide) ?_
  refine go_bipush (v := 97) d_Mo_init_562 (by decide) ?_
  refine go_iast (n := 142) (I' := iM_81) d_Mo_init_564 rfl (inb_iff.mp (by decide)) rfl ?_
  refine go_dup d_Mo_init_565 ?_
  refine go_bipush (v := 81) d_Mo_init_566 (by decide) ?_
  refine go_bipush (v := 116) d_Mo_init_568 (by decide) ?_
  refine go_iast (n := 142) (I' := iM_82) d_Mo_init_570 rfl (inb_iff.mp (by decide)) rfl ?_
  refine go_dup d_Mo_init_571 ?_
  refine go_bipush (v := 82) d_Mo_init_572 (by decide) ?_
  refine go_bipush (v := 32) d_Mo_init_574 (by decide) ?_
  refine go_iast (n := 142) (I' := iM_83) d_Mo_init_576 rfl (inb_iff.mp (by decide)) rfl ?_
  refine go_dup d_Mo_init_577 ?_
  refine go_bipush (v := 83) d_Mo_init_578 (by decide) ?_
  refine go_bipush (v := 104) d_Mo_init_580 (by decide) ?_
  refine go_iast (n := 142) (I' := iM_84) d_Mo_init_582 rfl (inb_iff.mp (by decide)) rfl ?_
  refine go_dup d_Mo_init_583 ?_
  refine go_bipush (v := 84) d_Mo_init_584 (by decide) ?_
  refine go_bipush (v := 101) d_Mo_init_586 (by decide) ?_
  refine go_iast (n := 142) (I' := iM_85) d_Mo_init_588 rfl (inb_iff.mp (by decide)) rfl ?_
  refine go_dup d_Mo_init_589 ?_
  refine go_bipush (v := 85) d_Mo_init_590 (by decide) ?_
  refine go_bipush (v := 97) d_Mo_init_592 (by decide) ?_
  refine go_iast (n := 142) (I' := iM_86) d_Mo_init_594 rfl (inb_iff.mp (by decide)) rfl ?_
  refine go_dup d_Mo_init_595 ?_
  refine go_bipush (v := 86) d_Mo_init_596 (by decide) ?_
  refine go_bipush (v := 100) d_Mo_init_598 (by decide) ?_
  refine go_iast (n := 142) (I' := iM_87) d_Mo_init_600 rfl (inb_iff.mp (by decide)) rfl ?_
  refine go_dup d_Mo_init_601 ?_
  refine go_bipush (v := 87) d_Mo_init_602 (by decide) ?_
  refine go_bipush (v := 32) d_Mo_init_604 (by decide) ?_
  refine go_iast (n := 142) (I' := iM_88) d_Mo_init_606 rfl (inb_iff.mp (by decide)) rfl ?_
  refine go_dup d_Mo_init_607 ?_
  refine go_bipush (v := 88) d_Mo_init_608 (by decide) ?_
  refine go_bipush (v := 102) d_Mo_init_610 (by decide) ?_
  refine go_iast (n := 142) (I' := iM_89) d_Mo_init_612 rfl (inb_iff.mp (by decide)) rfl ?_
  refine go_dup d_Mo_init_613 ?_
  refine go_bipush (v := 89) d_Mo_init_614 (by decide) ?_
  refine go_bipush (v := 111) d_Mo_init_616 (by decide) ?_
  refine go_iast (n := 142) (I' := iM_90) d_Mo_init_618 rfl (inb_iff.mp (by decide)) rfl ?_
  refine go_dup d_Mo_init_619 ?_
  refine go_bipush (v := 90) d_Mo_init_620 (by decide) ?_
  refine go_bipush (v := 103) d_Mo_init_622 (by decide) ?_
  refine go_iast (n := 142) (I' := iM_91) d_Mo_init_624 rfl (inb_iff.mp (by decide)) rfl ?_
  refine go_dup d_Mo_init_625 ?_
  refine go_bipush (v := 91) d_Mo_init_626 (by decide) ?_
  refine go_bipush (v := 32) d_Mo_init_628 (by decide) ?_
  refine go_iast (n := 142) (I' := iM_92) d_Mo_init_630 rfl (inb_iff.mp (by decide)) rfl ?_
  refine go_dup d_Mo_init_631 ?_
  refine go_bipush (v := 92) d_Mo_init_632 (by decide) ?_
  refine go_bipush (v := 115) d_Mo_init_634 (by decide) ?_
  refine go_iast (n := 142) (I' := iM_93) d_Mo_init_636 rfl (inb_iff.mp (by decide)) rfl ?_
  refine go_dup d_Mo_init_637 ?_
  refine go_bipush (v := 93) d_Mo_init_638 (by decide) ?_
  refine go_bipush (v := 116) d_Mo_init_640 (by decide) ?_
  refine go_iast (n := 142) (I' := iM_94) d_Mo_init_642 rfl (inb_iff.mp (by decide)) rfl ?_
  refine go_dup d_Mo_init_643 ?_
  refine go_bipush (v := 94) d_Mo_init_644 (by decide) ?_
  refine go_bipush (v := 97) d_Mo_init_646 (by decide) ?_
  refine go_iast (n := 142) (I' := iM_95) d_Mo_init_648 rfl (inb_iff.mp (by decide)) rfl ?_
  refine go_dup d_Mo_init_649 ?_
  refine go_bipush (v := 95) d_Mo_init_650 (by decide) ?_
  refine go_bipush (v := 105) d_Mo_init_652 (by decide) ?_
  refine go_iast (n := 142) (I' := iM_96) d_Mo_init_654 rfl (inb_iff.mp (by decide)) rfl ?_
  refine go_dup d_Mo_init_655 ?_
  refine go_bipush (v := 96) d_Mo_init_656 (by decide) ?_
  refine go_bipush (v := 110) d_Mo_init_658 (by decide) ?_
  refine go_iast (n := 142) (I' := iM_97) d_Mo_init_660 rfl (inb_iff.mp (by decide)) rfl ?_
  refine go_dup d_Mo_init_661 ?_
  refine go_bipush (v := 97) d_Mo_init_662 (by decide) ?_
  refine go_bipush (v := 32) d_Mo_init_664 (by decide) ?_
  refine go_iast (n := 142) (I' := iM_98) d_Mo_init_666 rfl (inb_iff.mp (by decide)) rfl ?_
  refine go_dup d_Mo_init_667 ?_
  refine go_bipush (v := 98) d_Mo_init_668 (by decide) ?_
  refine go_bipush (v := 109) d_Mo_init_670 (by decide) ?_
  refine go_iast (n := 142) (I' := iM_99) d_Mo_init_672 rfl (inb_iff.mp (by decide)) rfl ?_
  refine go_dup d_Mo_init_673 ?_
  refine go_bipush (v := 99) d_Mo_init_674 (by decide) ?_
  refine go_bipush (v := 105) d_Mo_init_676 (by decide) ?_
  refine go_iast (n := 142) (I' := iM_100) d_Mo_init_678 rfl (inb_iff.mp (by decide)) rfl ?_
  refine go_dup d_Mo_init_679 ?_
  refine go_bipush (v := 100) d_Mo_init_680 (by decide) ?_
  refine go_bipush (v := 110) d_Mo_init_682 (by decide) ?_
  refine go_iast (n := 142) (I' := iM_101) d_Mo_init_684 rfl (inb_iff.mp (by decide)) rfl ?_
  refine go_dup d_Mo_init_685 ?_
  refine go_bipush (v := 101) d_Mo_init_686 (by decide) ?_
  refine go_bipush (v := 117) d_Mo_init_688 (by decide) ?_
  refine go_iast (n := 142) (I' := iM_102) d_Mo_init_690 rfl (inb_iff.mp (by decide)) rfl ?_
  refine go_dup d_Mo_init_691 ?_
  refine go_bipush (v := 102) d_Mo_init_692 (by decide) ?_
  refine go_bipush (v := 116) d_Mo_init_694 (by decide) ?_
  refine go_iast (n := 142) (I' := iM_103) d_Mo_init_696 rfl (inb_iff.mp (by decide)) rfl ?_
  refine go_dup d_Mo_init_697 ?_
  refine go_bipush (v := 103) d_Mo_init_698 (by decide) ?_
  refine go_bipush (v := 101) d_Mo_init_700 (by decide) ?_
  refine go_iast (n := 142) (I' := iM_104) d_Mo_init_702 rfl (inb_iff.mp (by decide)) rfl ?_
  refine go_dup d_Mo_init_703 ?_
  refine go_bipush (v := 104) d_Mo_init_704 (by decide) ?_
  refine go_bipush (v := 32) d_Mo_init_706 (by decide) ?_
  refine go_iast (n := 142) (I' := iM_105) d_Mo_init_708 rfl (inb_iff.mp (by decide)) rfl ?_
  refine go_dup d_Mo_init_709 ?_
  refine go_bipush (v := 105) d_Mo_init_710 (by decide) ?_
  refine go_bipush (v := 98) d_Mo_init_712 (by decide) ?_
  refine go_iast (n := 142) (I' := iM_106) d_Mo_init_714 rfl (inb_iff.mp (by decide)) rfl ?_
  refine go_dup d_Mo_init_715 ?_
  refine go_bipush (v := 106) d_Mo_init_716 (by decide) ?_
  refine go_bipush (v := 111) d_Mo_init_718 (by decide) ?_
  refine go_iast (n := 142) (I' := iM_107) d_Mo_init_720 rfl (inb_iff.mp (by decide)) rfl ?_
  refine go_dup d_Mo_init_721 ?_
  refine go_bipush (v := 107) d_Mo_init_722 (by decide) ?_
  refine go_bipush (v := 97) d_Mo_init_724 (by decide) ?_
  refine go_iast (n := 142) (I' := iM_108) d_Mo_init_726 rfl (inb_iff.mp (by decide)) rfl ?_
  refine go_dup d_Mo_init_727 ?_
  refine go_bipush (v := 108) d_Mo_init_728 (by decide) ?_
  refine go_bipush (v := 116) d_Mo_init_730 (by decide) ?_
  refine go_iast (n := 142) (I' := iM_109) d_Mo_init_732 rfl (inb_iff.mp (by decide)) rfl ?_
  refine go_dup d_Mo_init_733 ?_
  refine go_bipush (v := 109) d_Mo_init_734 (by decide) ?_
  refine go_bipush (v := 32) d_Mo_init_736 (by decide) ?_
  refine go_iast (n := 142) (I' := iM_110) d_Mo_init_738 rfl (inb_iff.mp (by decide)) rfl ?_
  refine go_dup d_Mo_init_739 ?_
  refine go_bipush (v := 110) d_Mo_init_740 (by decide) ?_
  refine go_bipush (v := 97) d_Mo_init_742 (by decide) ?_
  refine go_iast (n := 142) (I' := iM_111) d_Mo_init_744 rfl (inb_iff.mp (by decide)) rfl ?_
  refine go_dup d_Mo_init_745 ?_
  refine go_bipush (v := 111) d_Mo_init_746 (by decide) ?_
  refine go_bipush (v := 103) d_Mo_init_748 (by decide) ?_
  refine go_iast (n := 142) (I' := iM_112) d_Mo_init_750 rfl (inb_iff.mp (by decide)) rfl ?_
  refine go_dup d_Mo_init_751 ?_
  refine go_bipush (v := 112) d_Mo_init_752 (by decide) ?_
  refine go_bipush (v := 97) d_Mo_init_754 (by decide) ?_
  refine go_iast (n := 142) (I' := iM_113) d_Mo_init_756 rfl (inb_iff.mp (by decide)) rfl ?_
  refine go_dup d_Mo_init_757 ?_
  refine go_bipush (v := 113) d_Mo_init_758 (by decide) ?_
  refine go_bipush (v := 105) d_Mo_init_760 (by decide) ?_
  refine go_iast (n := 142) (I' := iM_114) d_Mo_init_762 rfl (inb_iff.mp (by decide)) rfl ?_
  refine go_dup d_Mo_init_763 ?_
  refine go_bipush (v := 114) d_Mo_init_764 (by decide) ?_
  refine go_bipush (v := 110) d_Mo_init_766 (by decide) ?_
  refine go_iast (n := 142) (I' := iM_115) d_Mo_init_768 rfl (inb_iff.mp (by decide)) rfl ?_
  refine go_dup d_Mo_init_769 ?_
  refine go_bipush (v := 115) d_Mo_init_770 (by decide) ?_
  refine go_bipush (v := 32) d_Mo_init_772 (by decide) ?_
  refine go_iast (n := 142) (I' := iM_116) d_Mo_init_774 rfl (inb_iff.mp (by decide)) rfl ?_
  refine go_dup d_Mo_init_775 ?_
  refine go_bipush (v := 116) d_Mo_init_776 (by decide) ?_
  refine go_bipush (v := 97) d_Mo_init_778 (by decide) ?_
  refine go_iast (n := 142) (I' := iM_117) d_Mo_init_780 rfl (inb_iff.mp (by decide)) rfl ?_
  refine go_dup d_Mo_init_781 ?_
  refine go_bipush (v := 117) d_Mo_init_782 (by decide) ?_
  refine go_bipush (v := 116) d_Mo_init_784 (by decide) ?_
  refine go_iast (n := 142) (I' := iM_118) d_Mo_init_786 rfl (inb_iff.mp (by decide)) rfl ?_
  refine go_dup d_Mo_init_787 ?_
  refine go_bipush (v := 118) d_Mo_init_788 (by decide) ?_
  refine go_bipush (v := 32) d_Mo_init_790 (by decide) ?_
  refine go_iast (n := 142) (I' := iM_119) d_Mo_init_792 rfl (inb_iff.mp (by decide)) rfl ?_
  refine go_dup d_Mo_init_793 ?_
  refine go_bipush (v := 119) d_Mo_init_794 (by decide) ?_
  refine go_bipush (v := 116) d_Mo_init_796 (by decide) ?_
  refine go_iast (n := 142) (I' := iM_120) d_Mo_init_798 rfl (inb_iff.mp (by decide)) rfl ?_
  refine go_dup d_Mo_init_799 ?_
  refine go_bipush (v := 120) d_Mo_init_800 (by decide) ?_
  refine go_bipush (v := 97) d_Mo_init_802 (by decide) ?_
  refine go_iast (n := 142) (I' := iM_121) d_Mo_init_804 rfl (inb_iff.mp (by decide)) rfl ?_
  refine go_dup d_Mo_init_805 ?_
  refine go_bipush (v := 121) d_Mo_init_806 (by decide) ?_
  refine go_bipush (v := 108) d_Mo_init_808 (by decide) ?_
  refine go_iast (n := 142) (I' := iM_122) d_Mo_init_810 rfl (inb_iff.mp (by decide)) rfl ?_
  refine go_dup d_Mo_init_811 ?_
  refine go_bipush (v := 122) d_Mo_init_812 (by decide) ?_
  refine go_bipush (v := 107) d_Mo_init_814 (by decide) ?_
  refine go_iast (n := 142) (I' := iM_123) d_Mo_init_816 rfl (inb_iff.mp (by decide)) rfl ?_
  refine go_dup d_Mo_init_817 ?_
  refine go_bipush (v := 123) d_Mo_init_818 (by decide) ?_
  refine go_bipush (v := 32) d_Mo_init_820 (by decide) ?_
  refine go_iast (n := 142) (I' := iM_124) d_Mo_init_822 rfl (inb_iff.mp (by decide)) rfl ?_
  refine go_dup d_Mo_init_823 ?_
  refine go_bipush (v := 124) d_Mo_init_824 (by decide) ?_
  refine go_bipush (v := 115) d_Mo_init_826 (by decide) ?_
  refine go_iast (n := 142) (I' := iM_125) d_Mo_init_828 rfl (inb_iff.mp (by decide)) rfl ?_
  refine go_dup d_Mo_init_829 ?_
  refine go_bipush (v := 125) d_Mo_init_830 (by decide) ?_
  refine go_bipush (v := 97) d_Mo_init_832 (by decide) ?_
  refine go_iast (n := 142) (I' := iM_126) d_Mo_init_834 rfl (inb_iff.mp (by decide)) rfl ?_
  refine go_dup d_Mo_init_835 ?_
  refine go_bipush (v := 126) d_Mo_init_836 (by decide) ?_
  refine go_bipush (v := 108) d_Mo_init_838 (by decide) ?_
  refine go_iast (n := 142) (I' := iM_127) d_Mo_init_840 rfl (inb_iff.mp (by decide)) rfl ?_
  refine go_dup d_Mo_init_841 ?_
  refine go_bipush (v := 127) d_Mo_init_842 (by decide) ?_
  refine go_bipush (v := 116) d_Mo_init_844 (by decide) ?_
  refine go_iast (n := 142) (I' := iM_128) d_Mo_init_846 rfl (inb_iff.mp (by decide)) rfl ?_
  refine go_dup d_Mo_init_847 ?_
  refine go_sipush (v := 128) d_Mo_init_848 (by decide) ?_
  refine go_bipush (v := 32) d_Mo_init_851 (by decide) ?_
  refine go_iast (n := 142) (I' := iM_129) d_Mo_init_853 rfl (inb_iff.mp (by decide)) rfl ?_
  refine go_dup d_Mo_init_854 ?_
  refine go_sipush (v := 129) d_Mo_init_855 (by decide) ?_
  refine go_bipush (v := 102) d_Mo_init_858 (by decide) ?_
  refine go_iast (n := 142) (I' := iM_130) d_Mo_init_860 rfl (inb_iff.mp (by decide)) rfl ?_
  refine go_dup d_Mo_init_861 ?_
  refine go_sipush (v := 130) d_Mo_init_862 (by decide) ?_
  refine go_bipush (v := 105) d_Mo_init_865 (by decide) ?_
  refine go_iast (n := 142) (I' := iM_131) d_Mo_init_867 rfl (inb_iff.mp (by decide)) rfl ?_
  refine go_dup d_Mo_init_868 ?_
  refine go_sipush (v := 131) d_Mo_init_869 (by decide) ?_
  refine go_bipush (v := 108) d_Mo_init_872 (by decide) ?_
  refine go_iast (n := 142) (I' := iM_132) d_Mo_init_874 rfl (inb_iff.mp (by decide)) rfl ?_
  refine go_dup d_Mo_init_875 ?_
  refine go_sipush (v := 132) d_Mo_init_876 (by decide) ?_
  refine go_bipush (v := 108) d_Mo_init_879 (by decide) ?_
  refine go_iast (n := 142) (I' := iM_133) d_Mo_init_881 rfl (inb_iff.mp (by decide)) rfl ?_
  refine go_dup d_Mo_init_882 ?_
  refine go_sipush (v := 133) d_Mo_init_883 (by decide) ?_
  refine go_bipush (v := 32) d_Mo_init_886 (by decide) ?_
  refine go_iast (n := 142) (I' := iM_134) d_Mo_init_888 rfl (inb_iff.mp (by decide)) rfl ?_
  refine go_dup d_Mo_init_889 ?_
  refine go_sipush (v := 134) d_Mo_init_890 (by decide) ?_
  refine go_bipush (v := 116) d_Mo_init_893 (by decide) ?_
  refine go_iast (n := 142) (I' := iM_135) d_Mo_init_895 rfl (inb_iff.mp (by decide)) rfl ?_
  refine go_dup d_Mo_init_896 ?_
  refine go_sipush (v := 135) d_Mo_init_897 (by decide) ?_
  refine go_bipush (v := 117) d_Mo_init_900 (by decide) ?_
  refine go_iast (n := 142) (I' := iM_136) d_Mo_init_902 rfl (inb_iff.mp (by decide)) rfl ?_
  refine go_dup d_Mo_init_903 ?_
  refine go_sipush (v := 136) d_Mo_init_904 (by decide) ?_
  refine go_bipush (v := 114) d_Mo_init_907 (by decide) ?_
  refine go_iast (n := 142) (I' := iM_137) d_Mo_init_909 rfl (inb_iff.mp (by decide)) rfl ?_
  refine go_dup d_Mo_init_910 ?_
  refine go_sipush (v := 137) d_Mo_init_911 (by decide) ?_
  refine go_bipush (v := 110) d_Mo_init_914 (by decide) ?_
  refine go_iast (n := 142) (I' := iM_138) d_Mo_init_916 rfl (inb_iff.mp (by decide)) rfl ?_
  refine go_dup d_Mo_init_917 ?_
  refine go_sipush (v := 138) d_Mo_init_918 (by decide) ?_
  refine go_bipush (v := 32) d_Mo_init_921 (by decide) ?_
  refine go_iast (n := 142) (I' := iM_139) d_Mo_init_923 rfl (inb_iff.mp (by decide)) rfl ?_
  refine go_dup d_Mo_init_924 ?_
  refine go_sipush (v := 139) d_Mo_init_925 (by decide) ?_
  refine go_bipush (v := 116) d_Mo_init_928 (by decide) ?_
  refine go_iast (n := 142) (I' := iM_140) d_Mo_init_930 rfl (inb_iff.mp (by decide)) rfl ?_
  refine go_dup d_Mo_init_931 ?_
  refine go_sipush (v := 140) d_Mo_init_932 (by decide) ?_
  refine go_bipush (v := 111) d_Mo_init_935 (by decide) ?_
  refine go_iast (n := 142) (I' := iM_141) d_Mo_init_937 rfl (inb_iff.mp (by decide)) rfl ?_
  refine go_dup d_Mo_init_938 ?_
  refine go_sipush (v := 141) d_Mo_init_939 (by decide) ?_
  refine go_bipush (v := 32) d_Mo_init_942 (by decide) ?_
  refine go_iast (n := 142) (I' := iM_142) d_Mo_init_944 rfl (inb_iff.mp (by decide)) rfl ?_
  refine go_putR (ci := 10) (k := 18) (Sh' := sM_20) d_Mo_init_945 rfl rfl (by decide) f_Mo_37 (by decide) rfl rfl rfl rfl (fun _ => rfl) (fun _ => rfl) rfl ?_
  refine go_aload_n (k := 0) d_Mo_init_948 rfl rfl ?_
  refine go_iconst (v := 2) d_Mo_init_949 (by decide) ?_
  refine go_newa2 (kc := 30) (ks := 6047) (n := 11) (N := 2) (Sh' := sM_21) d_Mo_init_950 (by decide) (by decide) (by decide) rfl (by decide) (fun _ => rfl) rfl rfl rfl rfl rfl rfl ?_
  refine go_putR (ci := 10) (k := 19) (Sh' := sM_22) d_Mo_init_952 rfl rfl (by decide) f_Mo_40 (by decide) rfl rfl rfl rfl (fun _ => rfl) (fun _ => rfl) rfl ?_
  refine go_aload_n (k := 0) d_Mo_init_955 rfl rfl ?_
  refine go_bipush (v := 48) d_Mo_init_956 (by decide) ?_
  refine go_newa2 (kc := 29) (ks := 5999) (n := 12) (N := 48) (Sh' := sM_23) d_Mo_init_958 (by decide) (by decide) (by decide) rfl (by decide) (fun _ => rfl) rfl rfl rfl rfl rfl rfl ?_
  refine go_putR (ci := 10) (k := 20) (Sh' := sM_24) d_Mo_init_960 rfl rfl (by decide) f_Mo_43 (by decide) rfl rfl rfl rfl (fun _ => rfl) (fun _ => rfl) rfl ?_
  refine go_aload_n (k := 0) d_Mo_init_963 rfl rfl ?_
  refine go_bipush (v := 48) d_Mo_init_964 (by decide) ?_
  refine go_newa2 (kc := 28) (ks := 5951) (n := 13) (N := 48) (Sh' := sM_25) d_Mo_init_966 (by decide) (by decide) (by decide) rfl (by decide) (fun _ => rfl) rfl rfl rfl rfl rfl rfl ?_
  refine go_putR (ci := 10) (k := 21) (Sh' := sM_26) d_Mo_init_968 rfl rfl (by decide) f_Mo_46 (by decide) rfl rfl rfl rfl (fun _ => rfl) (fun _ => rfl) rfl ?_
  refine go_aload_n (k := 0) d_Mo_init_971 rfl rfl ?_
  refine go_bipush (v := 48) d_Mo_init_972 (by decide) ?_
  refine go_newa2 (kc := 27) (ks := 5903) (n := 14) (N := 48) (Sh' := sM_27) d_Mo_init_974 (by decide) (by decide) (by decide) rfl (by decide) (fun _ => rfl) rfl rfl rfl rfl rfl rfl ?_
  refine go_putR (ci := 10) (k := 22) (Sh' := sM_28) d_Mo_init_976 rfl rfl (by decide) f_Mo_49 (by decide) rfl rfl rfl rfl (fun _ => rfl) (fun _ => rfl) rfl ?_
  refine go_aload_n (k := 0) d_Mo_init_979 rfl rfl ?_
  refine go_bipush (v := 48) d_Mo_init_980 (by decide) ?_
  refine go_newa2 (kc := 26) (ks := 5855) (n := 15) (N := 48) (Sh' := sM_29) d_Mo_init_982 (by decide) (by decide) (by decide) rfl (by decide) (fun _ => rfl) rfl rfl rfl rfl rfl rfl ?_
  refine go_putR (ci := 10) (k := 23) (Sh' := sM_30) d_Mo_init_984 rfl rfl (by decide) f_Mo_52 (by decide) rfl rfl rfl rfl (fun _ => rfl) (fun _ => rfl) rfl ?_
  refine go_aload_n (k := 0) d_Mo_init_987 rfl rfl ?_
  refine go_sipush (v := 1200) d_Mo_init_988 (by decide) ?_
  refine go_newa2 (kc := 25) (ks := 4655) (n := 16) (N := 1200) (Sh' := sM_31) d_Mo_init_991 (by decide) (by decide) (by decide) rfl (by decide) (fun _ => rfl) rfl rfl rfl rfl rfl rfl ?_
  refine go_putR (ci := 10) (k := 24) (Sh' := sM_32) d_Mo_init_993 rfl rfl (by decide) f_Mo_55 (by decide) rfl rfl rfl rfl (fun _ => rfl) (fun _ => rfl) rfl ?_
  refine go_aload_n (k := 0) d_Mo_init_996 rfl rfl ?_
  refine go_sipush (v := 1200) d_Mo_init_997 (by decide) ?_
  refine go_newa2 (kc := 24) (ks := 3455) (n := 17) (N := 1200) (Sh' := sM_33) d_Mo_init_1000 (by decide) (by decide) (by decide) rfl (by decide) (fun _ => rfl) rfl rfl rfl rfl rfl rfl ?_
  refine go_putR (ci := 10) (k := 25) (Sh' := sM_34) d_Mo_init_1002 rfl rfl (by decide) f_Mo_58 (by decide) rfl rfl rfl rfl (fun _ => rfl) (fun _ => rfl) rfl ?_
  refine go_aload_n (k := 0) d_Mo_init_1005 rfl rfl ?_
  refine go_bipush (v := 40) d_Mo_init_1006 (by decide) ?_
  refine go_newa2 (kc := 23) (ks := 3415) (n := 18) (N := 40) (Sh' := sM_35) d_Mo_init_1008 (by decide) (by decide) (by decide) rfl (by decide) (fun _ => rfl) rfl rfl rfl rfl rfl rfl ?_
  refine go_putR (ci := 10) (k := 29) (Sh' := sM_36) d_Mo_init_1010 rfl rfl (by decide) f_Mo_61 (by decide) rfl rfl rfl rfl (fun _ => rfl) (fun _ => rfl) rfl ?_
  refine go_aload_n (k := 0) d_Mo_init_1013 rfl rfl ?_
  refine go_iconst (v := (-1)) d_Mo_init_1014 (by decide) ?_
  refine go_putT (ci := 10) (k := 34) (I' := iM_143) d_Mo_init_1015 rfl rfl (by decide) f_Mo_64 rfl rfl rfl rfl rfl rfl ?_
  refine go_aload_n (k := 0) d_Mo_init_1018 rfl rfl ?_
  refine go_bipush (v := 16) d_Mo_init_1019 (by decide) ?_
  refine go_newa2 (kc := 22) (ks := 3399) (n := 19) (N := 16) (Sh' := sM_37) d_Mo_init_1021 (by decide) (by decide) (by decide) rfl (by decide) (fun _ => rfl) rfl rfl rfl rfl rfl rfl ?_
  refine go_putR (ci := 10) (k := 36) (Sh' := sM_38) d_Mo_init_1023 rfl rfl (by decide) f_Mo_68 (by decide) rfl rfl rfl rfl (fun _ => rfl) (fun _ => rfl) rfl ?_
  refine go_aload_n (k := 0) d_Mo_init_1026 rfl rfl ?_
  refine go_sipush (v := 128) d_Mo_init_1027 (by decide) ?_
  refine go_newa2 (kc := 21) (ks := 3271) (n := 20) (N := 128) (Sh' := sM_39) d_Mo_init_1030 (by decide) (by decide) (by decide) rfl (by decide) (fun _ => rfl) rfl rfl rfl rfl rfl rfl ?_
  refine go_putR (ci := 10) (k := 38) (Sh' := sM_40) d_Mo_init_1032 rfl rfl (by decide) f_Mo_71 (by decide) rfl rfl rfl rfl (fun _ => rfl) (fun _ => rfl) rfl ?_
  refine go_aload_n (k := 0) d_Mo_init_1035 rfl rfl ?_
  refine go_bipush (v := 24) d_Mo_init_1036 (by decide) ?_
  refine go_newa2 (kc := 20) (ks := 3247) (n := 21) (N := 24) (Sh' := sM_41) d_Mo_init_1038 (by decide) (by decide) (by decide) rfl (by decide) (fun _ => rfl) rfl rfl rfl rfl rfl rfl ?_
  refine go_putR (ci := 10) (k := 40) (Sh' := sM_42) d_Mo_init_1040 rfl rfl (by decide) f_Mo_74 (by decide) rfl rfl rfl rfl (fun _ => rfl) (fun _ => rfl) rfl ?_
  refine go_aload_n (k := 0) d_Mo_init_1043 rfl rfl ?_
  refine go_bipush (v := 12) d_Mo_init_1044 (by decide) ?_
  refine go_newa2 (kc := 19) (ks := 3235) (n := 22) (N := 12) (Sh' := sM_43) d_Mo_init_1046 (by decide) (by decide) (by decide) rfl (by decide) (fun _ => rfl) rfl rfl rfl rfl rfl rfl ?_
  refine go_putR (ci := 10) (k := 41) (Sh' := sM_44) d_Mo_init_1048 rfl rfl (by decide) f_Mo_77 (by decide) rfl rfl rfl rfl (fun _ => rfl) (fun _ => rfl) rfl ?_
  refine go_aload_n (k := 0) d_Mo_init_1051 rfl rfl ?_
  refine go_sipush (v := 420) d_Mo_init_1052 (by decide) ?_
  refine go_newa2 (kc := 18) (ks := 2815) (n := 23) (N := 420) (Sh' := sM_45) d_Mo_init_1055 (by decide) (by decide) (by decide) rfl (by decide) (fun _ => rfl) rfl rfl rfl rfl rfl rfl ?_
  refine go_putR (ci := 10) (k := 42) (Sh' := sM_46) d_Mo_init_1057 rfl rfl (by decide) f_Mo_80 (by decide) rfl rfl rfl rfl (fun _ => rfl) (fun _ => rfl) rfl ?_
  refine go_aload_n (k := 0) d_Mo_init_1060 rfl rfl ?_
  refine go_bipush (v := 12) d_Mo_init_1061 (by decide) ?_
  refine go_newa2 (kc := 17) (ks := 2803) (n := 24) (N := 12) (Sh' := sM_47) d_Mo_init_1063 (by decide) (by decide) (by decide) rfl (by decide) (fun _ => rfl) rfl rfl rfl rfl rfl rfl ?_
  refine go_putR (ci := 10) (k := 44) (Sh' := sM_48) d_Mo_init_1065 rfl rfl (by decide) f_Mo_83 (by decide) rfl rfl rfl rfl (fun _ => rfl) (fun _ => rfl) rfl ?_
  refine go_aload_n (k := 0) d_Mo_init_1068 rfl rfl ?_
  refine go_bipush (v := 12) d_Mo_init_1069 (by decide) ?_
  refine go_newa2 (kc := 16) (ks := 2791) (n := 25) (N := 12) (Sh' := sM_49) d_Mo_init_1071 (by decide) (by decide) (by decide) rfl (by decide) (fun _ => rfl) rfl rfl rfl rfl rfl rfl ?_
  refine go_putR (ci := 10) (k := 45) (Sh' := sM_50) d_Mo_init_1073 rfl rfl (by decide) f_Mo_86 (by decide) rfl rfl rfl rfl (fun _ => rfl) (fun _ => rfl) rfl ?_
  refine go_aload_n (k := 0) d_Mo_init_1076 rfl rfl ?_
  refine go_iconst (v := 2) d_Mo_init_1077 (by decide) ?_
  refine go_newa2 (kc := 15) (ks := 2789) (n := 26) (N := 2) (Sh' := sM_51) d_Mo_init_1078 (by decide) (by decide) (by decide) rfl (by decide) (fun _ => rfl) rfl rfl rfl rfl rfl rfl ?_
  refine go_putR (ci := 10) (k := 46) (Sh' := sM_52) d_Mo_init_1080 rfl rfl (by decide) f_Mo_89 (by decide) rfl rfl rfl rfl (fun _ => rfl) (fun _ => rfl) rfl ?_
  refine go_aload_n (k := 0) d_Mo_init_1083 rfl rfl ?_
  refine go_bipush (v := 24) d_Mo_init_1084 (by decide) ?_
  refine go_newa2 (kc := 14) (ks := 2765) (n := 27) (N := 24) (Sh' := sM_53) d_Mo_init_1086 (by decide) (by decide) (by decide) rfl (by decide) (fun _ => rfl) rfl rfl rfl rfl rfl rfl ?_
  refine go_putR (ci := 10) (k := 47) (Sh' := sM_54) d_Mo_init_1088 rfl rfl (by decide) f_Mo_92 (by decide) rfl rfl rfl rfl (fun _ => rfl) (fun _ => rfl) rfl ?_
  refine go_aload_n (k := 0) d_Mo_init_1091 rfl rfl ?_
  refine go_sipush (v := 169) d_Mo_init_1092 (by decide) ?_
  refine go_newa2 (kc := 13) (ks := 2596) (n := 28) (N := 169) (Sh' := sM_55) d_Mo_init_1095 (by decide) (by decide) (by decide) rfl (by decide) (fun _ => rfl) rfl rfl rfl rfl rfl rfl ?_
  refine go_putR (ci := 10) (k := 48) (Sh' := sM_56) d_Mo_init_1097 rfl rfl (by decide) f_Mo_95 (by decide) rfl rfl rfl rfl (fun _ => rfl) (fun _ => rfl) rfl ?_
  refine go_aload_n (k := 0) d_Mo_init_1100 rfl rfl ?_
  refine go_sipush (v := 169) d_Mo_init_1101 (by decide) ?_
  refine go_newa2 (kc := 12) (ks := 2427) (n := 29) (N := 169) (Sh' := sM_57) d_Mo_init_1104 (by decide) (by decide) (by decide) rfl (by decide) (fun _ => rfl) rfl rfl rfl rfl rfl rfl ?_
  refine go_putR (ci := 10) (k := 49) (Sh' := sM_58) d_Mo_init_1106 rfl rfl (by decide) f_Mo_98 (by decide) rfl rfl rfl rfl (fun _ => rfl) (fun _ => rfl) rfl ?_
  refine go_aload_n (k := 0) d_Mo_init_1109 rfl rfl ?_
  refine go_bipush (v := 8) d_Mo_init_1110 (by decide) ?_
  refine go_newa2 (kc := 11) (ks := 2419) (n := 30) (N := 8) (Sh' := sM_59) d_Mo_init_1112 (by decide) (by decide) (by decide) rfl (by decide) (fun _ => rfl) rfl rfl rfl rfl rfl rfl ?_
  refine go_putR (ci := 10) (k := 51) (Sh' := sM_60) d_Mo_init_1114 rfl rfl (by decide) f_Mo_101 (by decide) rfl rfl rfl rfl (fun _ => rfl) (fun _ => rfl) rfl ?_
  refine go_aload_n (k := 0) d_Mo_init_1117 rfl rfl ?_
  refine go_bipush (v := 8) d_Mo_init_1118 (by decide) ?_
  refine go_newa2 (kc := 10) (ks := 2411) (n := 31) (N := 8) (Sh' := sM_61) d_Mo_init_1120 (by decide) (by decide) (by decide) rfl (by decide) (fun _ => rfl) rfl rfl rfl rfl rfl rfl ?_
  refine go_putR (ci := 10) (k := 52) (Sh' := sM_62) d_Mo_init_1122 rfl rfl (by decide) f_Mo_104 (by decide) rfl rfl rfl rfl (fun _ => rfl) (fun _ => rfl) rfl ?_
  refine go_aload_n (k := 0) d_Mo_init_1125 rfl rfl ?_
  refine go_bipush (v := 10) d_Mo_init_1126 (by decide) ?_
  refine go_newa2 (kc := 9) (ks := 2401) (n := 32) (N := 10) (Sh' := sM_63) d_Mo_init_1128 (by decide) (by decide) (by decide) rfl (by decide) (fun _ => rfl) rfl rfl rfl rfl rfl rfl ?_
  refine go_putR (ci := 10) (k := 54) (Sh' := sM_64) d_Mo_init_1130 rfl rfl (by decide) f_Mo_107 (by decide) rfl rfl rfl rfl (fun _ => rfl) (fun _ => rfl) rfl ?_
  refine go_aload_n (k := 0) d_Mo_init_1133 rfl rfl ?_
  refine go_bipush (v := 41) d_Mo_init_1134 (by decide) ?_
  refine go_newa2 (kc := 8) (ks := 2360) (n := 33) (N := 41) (Sh' := sM_65) d_Mo_init_1136 (by decide) (by decide) (by decide) rfl (by decide) (fun _ => rfl) rfl rfl rfl rfl rfl rfl ?_
  refine go_putR (ci := 10) (k := 55) (Sh' := sM_66) d_Mo_init_1138 rfl rfl (by decide) f_Mo_110 (by decide) rfl rfl rfl rfl (fun _ => rfl) (fun _ => rfl) rfl ?_
  refine go_aload_n (k := 0) d_Mo_init_1141 rfl rfl ?_
  refine go_bipush (v := 8) d_Mo_init_1142 (by decide) ?_
  refine go_newa2 (kc := 7) (ks := 2352) (n := 34) (N := 8) (Sh' := sM_67) d_Mo_init_1144 (by decide) (by decide) (by decide) rfl (by decide) (fun _ => rfl) rfl rfl rfl rfl rfl rfl ?_
  refine go_putR (ci := 10) (k := 57) (Sh' := sM_68) d_Mo_init_1146 rfl rfl (by decide) f_Mo_113 (by decide) rfl rfl rfl rfl (fun _ => rfl) (fun _ => rfl) rfl ?_
  refine go_aload_n (k := 0) d_Mo_init_1149 rfl rfl ?_
  refine go_bipush (v := 9) d_Mo_init_1150 (by decide) ?_
  refine go_newa2 (kc := 6) (ks := 2343) (n := 35) (N := 9) (Sh' := sM_69) d_Mo_init_1152 (by decide) (by decide) (by decide) rfl (by decide) (fun _ => rfl) rfl rfl rfl rfl rfl rfl ?_
  refine go_putR (ci := 10) (k := 59) (Sh' := sM_70) d_Mo_init_1154 rfl rfl (by decide) f_Mo_116 (by decide) rfl rfl rfl rfl (fun _ => rfl) (fun _ => rfl) rfl ?_
  refine go_aload_n (k := 0) d_Mo_init_1157 rfl rfl ?_
  refine go_bipush (v := 9) d_Mo_init_1158 (by decide) ?_
  refine go_newa2 (kc := 5) (ks := 2334) (n := 36) (N := 9) (Sh' := sM_71) d_Mo_init_1160 (by decide) (by decide) (by decide) rfl (by decide) (fun _ => rfl) rfl rfl rfl rfl rfl rfl ?_
  refine go_putR (ci := 10) (k := 60) (Sh' := sM_72) d_Mo_init_1162 rfl rfl (by decide) f_Mo_119 (by decide) rfl rfl rfl rfl (fun _ => rfl) (fun _ => rfl) rfl ?_
  refine go_aload_n (k := 0) d_Mo_init_1165 rfl rfl ?_
  refine go_bipush (v := 8) d_Mo_init_1166 (by decide) ?_
  refine go_newa2 (kc := 4) (ks := 2326) (n := 37) (N := 8) (Sh' := sM_73) d_Mo_init_1168 (by decide) (by decide) (by decide) rfl (by decide) (fun _ => rfl) rfl rfl rfl rfl rfl rfl ?_
  refine go_putR (ci := 10) (k := 62) (Sh' := sM_74) d_Mo_init_1170 rfl rfl (by decide) f_Mo_122 (by decide) rfl rfl rfl rfl (fun _ => rfl) (fun _ => rfl) rfl ?_
  refine go_aload_n (k := 0) d_Mo_init_1173 rfl rfl ?_
  refine go_bipush (v := 8) d_Mo_init_1174 (by decide) ?_
  refine go_newa2 (kc := 3) (ks := 2318) (n := 38) (N := 8) (Sh' := sM_75) d_Mo_init_1176 (by decide) (by decide) (by decide) rfl (by decide) (fun _ => rfl) rfl rfl rfl rfl rfl rfl ?_
  refine go_putR (ci := 10) (k := 63) (Sh' := sM_76) d_Mo_init_1178 rfl rfl (by decide) f_Mo_125 (by decide) rfl rfl rfl rfl (fun _ => rfl) (fun _ => rfl) rfl ?_
  refine go_aload_n (k := 0) d_Mo_init_1181 rfl rfl ?_
  refine go_bipush (v := 9) d_Mo_init_1182 (by decide) ?_
  refine go_newa2 (kc := 2) (ks := 2309) (n := 39) (N := 9) (Sh' := sM_77) d_Mo_init_1184 (by decide) (by decide) (by decide) rfl (by decide) (fun _ => rfl) rfl rfl rfl rfl rfl rfl ?_
  refine go_putR (ci := 10) (k := 65) (Sh' := sM_78) d_Mo_init_1186 rfl rfl (by decide) f_Mo_128 (by decide) rfl rfl rfl rfl (fun _ => rfl) (fun _ => rfl) rfl ?_
  refine go_aload_n (k := 0) d_Mo_init_1189 rfl rfl ?_
  refine go_bipush (v := 9) d_Mo_init_1190 (by decide) ?_
  refine go_newa2 (kc := 1) (ks := 2300) (n := 40) (N := 9) (Sh' := sM_79) d_Mo_init_1192 (by decide) (by decide) (by decide) rfl (by decide) (fun _ => rfl) rfl rfl rfl rfl rfl rfl ?_
  refine go_putR (ci := 10) (k := 66) (Sh' := sM_80) d_Mo_init_1194 rfl rfl (by decide) f_Mo_131 (by decide) rfl rfl rfl rfl (fun _ => rfl) (fun _ => rfl) rfl ?_
  refine go_aload_n (k := 0) d_Mo_init_1197 rfl rfl ?_
  refine go_sipush (v := 2300) d_Mo_init_1198 (by decide) ?_
  refine go_newa2 (kc := 0) (ks := 0) (n := 41) (N := 2300) (Sh' := sM_81) d_Mo_init_1201 (by decide) (by decide) (by decide) rfl (by decide) (fun _ => rfl) rfl rfl rfl rfl rfl rfl ?_
  refine go_putR (ci := 10) (k := 70) (Sh' := sM_82) d_Mo_init_1203 rfl rfl (by decide) f_Mo_134 (by decide) rfl rfl rfl rfl (fun _ => rfl) (fun _ => rfl) rfl ?_
  exact go_return d_Mo_init_1206 rfl gb_po_i
theorem shM_eq : sM_82 = shM := rfl
