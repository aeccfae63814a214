/-! what the two constructors leave: kinds and lengths; the fixed references -/
def am_SH : List (Nat × Nat) := [(11, 9), (9, 3), (20, 900), (7, 4), (1, 7), (20, 8), (20, 8), (20, 8), (20, 8), (20, 8), (22, 8), (3, 3), (20, 4), (20, 4), (10, 11), (20, 8), (20, 8), (20, 8), (20, 8), (20, 8), (20, 8), (22, 8), (22, 8), (20, 900), (7, 4), (1, 7), (20, 8), (20, 8), (20, 8), (20, 8), (20, 8), (22, 8), (3, 3), (20, 4), (20, 4), (10, 11), (20, 8), (20, 8), (20, 8), (20, 8), (20, 8), (20, 8), (22, 8), (22, 8), (20, 900), (6, 7), (4, 12), (20, 64), (20, 1), (8, 17), (4, 12), (20, 64), (20, 1), (20, 649), (20, 36288), (22, 648), (20, 46656), (20, 5832), (0, 12), (20, 8), (20, 8), (20, 8), (20, 8), (2, 5), (24, 6), (0, 12), (20, 8), (20, 8), (20, 8), (20, 8), (0, 12), (20, 8), (20, 8), (20, 8), (20, 8), (0, 12), (20, 8), (20, 8), (20, 8), (20, 8), (0, 12), (20, 8), (20, 8), (20, 8), (20, 8), (0, 12), (20, 8), (20, 8), (20, 8), (20, 8), (0, 12), (20, 8), (20, 8), (20, 8), (20, 8), (24, 6), (0, 12), (20, 8), (20, 8), (20, 8), (20, 8), (0, 12), (20, 8), (20, 8), (20, 8), (20, 8), (0, 12), (20, 8), (20, 8), (20, 8), (20, 8), (0, 12), (20, 8), (20, 8), (20, 8), (20, 8), (0, 12), (20, 8), (20, 8), (20, 8), (20, 8), (0, 12), (20, 8), (20, 8), (20, 8), (20, 8), (25, 6), (20, 81), (20, 81), (20, 81), (20, 81), (20, 81), (20, 81), (20, 81), (5, 3), (20, 290), (12, 85), (20, 900), (23, 3), (23, 2), (23, 5), (23, 4), (23, 5), (23, 5), (23, 7), (23, 5), (23, 5), (23, 4), (23, 5), (23, 4), (23, 2), (23, 3), (23, 3), (23, 3), (23, 4), (23, 5), (23, 3), (23, 4), (23, 6), (23, 6), (23, 4), (23, 5), (23, 3), (23, 3), (20, 2), (20, 2), (20, 2), (20, 64), (22, 16), (20, 8), (20, 32), (20, 16), (20, 16), (20, 16), (21, 16), (21, 8), (21, 16), (20, 2000), (20, 1000), (21, 1000), (21, 53136), (20, 648), (20, 8), (20, 8), (20, 8), (20, 8), (20, 8), (20, 8), (20, 8), (20, 256), (20, 300)]
theorem kd_1 : am_kd am_SH 1 = 11 := rfl
theorem kd_2 : am_kd am_SH 2 = 9 := rfl
theorem ln_3 : am_ln am_SH 3 20 = 900 := rfl
theorem ll_3 : am_ll am_SH 3 = 900 := rfl
theorem kd_4 : am_kd am_SH 4 = 7 := rfl
theorem kd_5 : am_kd am_SH 5 = 1 := rfl
theorem ln_6 : am_ln am_SH 6 20 = 8 := rfl
theorem ll_6 : am_ll am_SH 6 = 8 := rfl
theorem ln_7 : am_ln am_SH 7 20 = 8 := rfl
theorem ll_7 : am_ll am_SH 7 = 8 := rfl
theorem ln_8 : am_ln am_SH 8 20 = 8 := rfl
theorem ll_8 : am_ll am_SH 8 = 8 := rfl
theorem ln_9 : am_ln am_SH 9 20 = 8 := rfl
theorem ll_9 : am_ll am_SH 9 = 8 := rfl
theorem ln_10 : am_ln am_SH 10 20 = 8 := rfl
theorem ll_10 : am_ll am_SH 10 = 8 := rfl
theorem ln_11 : am_ln am_SH 11 22 = 8 := rfl
theorem ll_11 : am_ll am_SH 11 = 8 := rfl
theorem kd_12 : am_kd am_SH 12 = 3 := rfl
theorem ln_13 : am_ln am_SH 13 20 = 4 := rfl
theorem ll_13 : am_ll am_SH 13 = 4 := rfl
theorem ln_14 : am_ln am_SH 14 20 = 4 := rfl
theorem ll_14 : am_ll am_SH 14 = 4 := rfl
theorem kd_15 : am_kd am_SH 15 = 10 := rfl
theorem ln_16 : am_ln am_SH 16 20 = 8 := rfl
theorem ll_16 : am_ll am_SH 16 = 8 := rfl
theorem ln_17 : am_ln am_SH 17 20 = 8 := rfl
theorem ll_17 : am_ll am_SH 17 = 8 := rfl
theorem ln_18 : am_ln am_SH 18 20 = 8 := rfl
theorem ll_18 : am_ll am_SH 18 = 8 := rfl
theorem ln_19 : am_ln am_SH 19 20 = 8 := rfl
theorem ll_19 : am_ll am_SH 19 = 8 := rfl
theorem ln_20 : am_ln am_SH 20 20 = 8 := rfl
theorem ll_20 : am_ll am_SH 20 = 8 := rfl
theorem ln_21 : am_ln am_SH 21 20 = 8 := rfl
theorem ll_21 : am_ll am_SH 21 = 8 := rfl
theorem ln_22 : am_ln am_SH 22 22 = 8 := rfl
theorem ll_22 : am_ll am_SH 22 = 8 := rfl
theorem ln_23 : am_ln am_SH 23 22 = 8 := rfl
theorem ll_23 : am_ll am_SH 23 = 8 := rfl
theorem ln_24 : am_ln am_SH 24 20 = 900 := rfl
theorem ll_24 : am_ll am_SH 24 = 900 := rfl
theorem kd_25 : am_kd am_SH 25 = 7 := rfl
theorem kd_26 : am_kd am_SH 26 = 1 := rfl
theorem ln_27 : am_ln am_SH 27 20 = 8 := rfl
theorem ll_27 : am_ll am_SH 27 = 8 := rfl
theorem ln_28 : am_ln am_SH 28 20 = 8 := rfl
theorem ll_28 : am_ll am_SH 28 = 8 := rfl
theorem ln_29 : am_ln am_SH 29 20 = 8 := rfl
theorem ll_29 : am_ll am_SH 29 = 8 := rfl
theorem ln_30 : am_ln am_SH 30 20 = 8 := rfl
theorem ll_30 : am_ll am_SH 30 = 8 := rfl
theorem ln_31 : am_ln am_SH 31 20 = 8 := rfl
theorem ll_31 : am_ll am_SH 31 = 8 := rfl
theorem ln_32 : am_ln am_SH 32 22 = 8 := rfl
theorem ll_32 : am_ll am_SH 32 = 8 := rfl
theorem kd_33 : am_kd am_SH 33 = 3 := rfl
theorem ln_34 : am_ln am_SH 34 20 = 4 := rfl
theorem ll_34 : am_ll am_SH 34 = 4 := rfl
theorem ln_35 : am_ln am_SH 35 20 = 4 := rfl
theorem ll_35 : am_ll am_SH 35 = 4 := rfl
theorem kd_36 : am_kd am_SH 36 = 10 := rfl
theorem ln_37 : am_ln am_SH 37 20 = 8 := rfl
theorem ll_37 : am_ll am_SH 37 = 8 := rfl
theorem ln_38 : am_ln am_SH 38 20 = 8 := rfl
theorem ll_38 : am_ll am_SH 38 = 8 := rfl
theorem ln_39 : am_ln am_SH 39 20 = 8 := rfl
theorem ll_39 : am_ll am_SH 39 = 8 := rfl
theorem ln_40 : am_ln am_SH 40 20 = 8 := rfl
theorem ll_40 : am_ll am_SH 40 = 8 := rfl
theorem ln_41 : am_ln am_SH 41 20 = 8 := rfl
theorem ll_41 : am_ll am_SH 41 = 8 := rfl
theorem ln_42 : am_ln am_SH 42 20 = 8 := rfl
theorem ll_42 : am_ll am_SH 42 = 8 := rfl
theorem ln_43 : am_ln am_SH 43 22 = 8 := rfl
theorem ll_43 : am_ll am_SH 43 = 8 := rfl
theorem ln_44 : am_ln am_SH 44 22 = 8 := rfl
theorem ll_44 : am_ll am_SH 44 = 8 := rfl
theorem ln_45 : am_ln am_SH 45 20 = 900 := rfl
theorem ll_45 : am_ll am_SH 45 = 900 := rfl
theorem kd_46 : am_kd am_SH 46 = 6 := rfl
theorem kd_47 : am_kd am_SH 47 = 4 := rfl
theorem ln_48 : am_ln am_SH 48 20 = 64 := rfl
theorem ll_48 : am_ll am_SH 48 = 64 := rfl
theorem ln_49 : am_ln am_SH 49 20 = 1 := rfl
theorem ll_49 : am_ll am_SH 49 = 1 := rfl
theorem kd_50 : am_kd am_SH 50 = 8 := rfl
theorem kd_51 : am_kd am_SH 51 = 4 := rfl
theorem ln_52 : am_ln am_SH 52 20 = 64 := rfl
theorem ll_52 : am_ll am_SH 52 = 64 := rfl
theorem ln_53 : am_ln am_SH 53 20 = 1 := rfl
theorem ll_53 : am_ll am_SH 53 = 1 := rfl
theorem ln_54 : am_ln am_SH 54 20 = 649 := rfl
theorem ll_54 : am_ll am_SH 54 = 649 := rfl
theorem ln_55 : am_ln am_SH 55 20 = 36288 := rfl
theorem ll_55 : am_ll am_SH 55 = 36288 := rfl
theorem ln_56 : am_ln am_SH 56 22 = 648 := rfl
theorem ll_56 : am_ll am_SH 56 = 648 := rfl
theorem ln_57 : am_ln am_SH 57 20 = 46656 := rfl
theorem ll_57 : am_ll am_SH 57 = 46656 := rfl
theorem ln_58 : am_ln am_SH 58 20 = 5832 := rfl
theorem ll_58 : am_ll am_SH 58 = 5832 := rfl
theorem kd_59 : am_kd am_SH 59 = 0 := rfl
theorem ln_60 : am_ln am_SH 60 20 = 8 := rfl
theorem ll_60 : am_ll am_SH 60 = 8 := rfl
theorem ln_61 : am_ln am_SH 61 20 = 8 := rfl
theorem ll_61 : am_ll am_SH 61 = 8 := rfl
theorem ln_62 : am_ln am_SH 62 20 = 8 := rfl
theorem ll_62 : am_ll am_SH 62 = 8 := rfl
theorem ln_63 : am_ln am_SH 63 20 = 8 := rfl
theorem ll_63 : am_ll am_SH 63 = 8 := rfl
theorem kd_64 : am_kd am_SH 64 = 2 := rfl
theorem ln_65 : am_ln am_SH 65 24 = 6 := rfl
theorem ll_65 : am_ll am_SH 65 = 6 := rfl
theorem kd_66 : am_kd am_SH 66 = 0 := rfl
theorem ln_67 : am_ln am_SH 67 20 = 8 := rfl
theorem ll_67 : am_ll am_SH 67 = 8 := rfl
theorem ln_68 : am_ln am_SH 68 20 = 8 := rfl
theorem ll_68 : am_ll am_SH 68 = 8 := rfl
theorem ln_69 : am_ln am_SH 69 20 = 8 := rfl
theorem ll_69 : am_ll am_SH 69 = 8 := rfl
theorem ln_70 : am_ln am_SH 70 20 = 8 := rfl
theorem ll_70 : am_ll am_SH 70 = 8 := rfl
theorem kd_71 : am_kd am_SH 71 = 0 := rfl
theorem ln_72 : am_ln am_SH 72 20 = 8 := rfl
theorem ll_72 : am_ll am_SH 72 = 8 := rfl
theorem ln_73 : am_ln am_SH 73 20 = 8 := rfl
theorem ll_73 : am_ll am_SH 73 = 8 := rfl
theorem ln_74 : am_ln am_SH 74 20 = 8 := rfl
theorem ll_74 : am_ll am_SH 74 = 8 := rfl
theorem ln_75 : am_ln am_SH 75 20 = 8 := rfl
theorem ll_75 : am_ll am_SH 75 = 8 := rfl
theorem kd_76 : am_kd am_SH 76 = 0 := rfl
theorem ln_77 : am_ln am_SH 77 20 = 8 := rfl
theorem ll_77 : am_ll am_SH 77 = 8 := rfl
theorem ln_78 : am_ln am_SH 78 20 = 8 := rfl
theorem ll_78 : am_ll am_SH 78 = 8 := rfl
theorem ln_79 : am_ln am_SH 79 20 = 8 := rfl
theorem ll_79 : am_ll am_SH 79 = 8 := rfl
theorem ln_80 : am_ln am_SH 80 20 = 8 := rfl
theorem ll_80 : am_ll am_SH 80 = 8 := rfl
theorem kd_81 : am_kd am_SH 81 = 0 := rfl
theorem ln_82 : am_ln am_SH 82 20 = 8 := rfl
theorem ll_82 : am_ll am_SH 82 = 8 := rfl
theorem ln_83 : am_ln am_SH 83 20 = 8 := rfl
theorem ll_83 : am_ll am_SH 83 = 8 := rfl
theorem ln_84 : am_ln am_SH 84 20 = 8 := rfl
theorem ll_84 : am_ll am_SH 84 = 8 := rfl
theorem ln_85 : am_ln am_SH 85 20 = 8 := rfl
theorem ll_85 : am_ll am_SH 85 = 8 := rfl
theorem kd_86 : am_kd am_SH 86 = 0 := rfl
theorem ln_87 : am_ln am_SH 87 20 = 8 := rfl
theorem ll_87 : am_ll am_SH 87 = 8 := rfl
theorem ln_88 : am_ln am_SH 88 20 = 8 := rfl
theorem ll_88 : am_ll am_SH 88 = 8 := rfl
theorem ln_89 : am_ln am_SH 89 20 = 8 := rfl
theorem ll_89 : am_ll am_SH 89 = 8 := rfl
theorem ln_90 : am_ln am_SH 90 20 = 8 := rfl
theorem ll_90 : am_ll am_SH 90 = 8 := rfl
theorem kd_91 : am_kd am_SH 91 = 0 := rfl
theorem ln_92 : am_ln am_SH 92 20 = 8 := rfl
theorem ll_92 : am_ll am_SH 92 = 8 := rfl
theorem ln_93 : am_ln am_SH 93 20 = 8 := rfl
theorem ll_93 : am_ll am_SH 93 = 8 := rfl
theorem ln_94 : am_ln am_SH 94 20 = 8 := rfl
theorem ll_94 : am_ll am_SH 94 = 8 := rfl
theorem ln_95 : am_ln am_SH 95 20 = 8 := rfl
theorem ll_95 : am_ll am_SH 95 = 8 := rfl
theorem ln_96 : am_ln am_SH 96 24 = 6 := rfl
theorem ll_96 : am_ll am_SH 96 = 6 := rfl
theorem kd_97 : am_kd am_SH 97 = 0 := rfl
theorem ln_98 : am_ln am_SH 98 20 = 8 := rfl
theorem ll_98 : am_ll am_SH 98 = 8 := rfl
theorem ln_99 : am_ln am_SH 99 20 = 8 := rfl
theorem ll_99 : am_ll am_SH 99 = 8 := rfl
theorem ln_100 : am_ln am_SH 100 20 = 8 := rfl
theorem ll_100 : am_ll am_SH 100 = 8 := rfl
theorem ln_101 : am_ln am_SH 101 20 = 8 := rfl
theorem ll_101 : am_ll am_SH 101 = 8 := rfl
theorem kd_102 : am_kd am_SH 102 = 0 := rfl
theorem ln_103 : am_ln am_SH 103 20 = 8 := rfl
theorem ll_103 : am_ll am_SH 103 = 8 := rfl
theorem ln_104 : am_ln am_SH 104 20 = 8 := rfl
theorem ll_104 : am_ll am_SH 104 = 8 := rfl
theorem ln_105 : am_ln am_SH 105 20 = 8 := rfl
theorem ll_105 : am_ll am_SH 105 = 8 := rfl
theorem ln_106 : am_ln am_SH 106 20 = 8 := rfl
theorem ll_106 : am_ll am_SH 106 = 8 := rfl
theorem kd_107 : am_kd am_SH 107 = 0 := rfl
theorem ln_108 : am_ln am_SH 108 20 = 8 := rfl
theorem ll_108 : am_ll am_SH 108 = 8 := rfl
theorem ln_109 : am_ln am_SH 109 20 = 8 := rfl
theorem ll_109 : am_ll am_SH 109 = 8 := rfl
theorem ln_110 : am_ln am_SH 110 20 = 8 := rfl
theorem ll_110 : am_ll am_SH 110 = 8 := rfl
theorem ln_111 : am_ln am_SH 111 20 = 8 := rfl
theorem ll_111 : am_ll am_SH 111 = 8 := rfl
theorem kd_112 : am_kd am_SH 112 = 0 := rfl
theorem ln_113 : am_ln am_SH 113 20 = 8 := rfl
theorem ll_113 : am_ll am_SH 113 = 8 := rfl
theorem ln_114 : am_ln am_SH 114 20 = 8 := rfl
theorem ll_114 : am_ll am_SH 114 = 8 := rfl
theorem ln_115 : am_ln am_SH 115 20 = 8 := rfl
theorem ll_115 : am_ll am_SH 115 = 8 := rfl
theorem ln_116 : am_ln am_SH 116 20 = 8 := rfl
theorem ll_116 : am_ll am_SH 116 = 8 := rfl
theorem kd_117 : am_kd am_SH 117 = 0 := rfl
theorem ln_118 : am_ln am_SH 118 20 = 8 := rfl
theorem ll_118 : am_ll am_SH 118 = 8 := rfl
theorem ln_119 : am_ln am_SH 119 20 = 8 := rfl
theorem ll_119 : am_ll am_SH 119 = 8 := rfl
theorem ln_120 : am_ln am_SH 120 20 = 8 := rfl
theorem ll_120 : am_ll am_SH 120 = 8 := rfl
theorem ln_121 : am_ln am_SH 121 20 = 8 := rfl
theorem ll_121 : am_ll am_SH 121 = 8 := rfl
theorem kd_122 : am_kd am_SH 122 = 0 := rfl
theorem ln_123 : am_ln am_SH 123 20 = 8 := rfl
theorem ll_123 : am_ll am_SH 123 = 8 := rfl
theorem ln_124 : am_ln am_SH 124 20 = 8 := rfl
theorem ll_124 : am_ll am_SH 124 = 8 := rfl
theorem ln_125 : am_ln am_SH 125 20 = 8 := rfl
theorem ll_125 : am_ll am_SH 125 = 8 := rfl
theorem ln_126 : am_ln am_SH 126 20 = 8 := rfl
theorem ll_126 : am_ll am_SH 126 = 8 := rfl
theorem ln_127 : am_ln am_SH 127 25 = 6 := rfl
theorem ll_127 : am_ll am_SH 127 = 6 := rfl
theorem ln_128 : am_ln am_SH 128 20 = 81 := rfl
theorem ll_128 : am_ll am_SH 128 = 81 := rfl
theorem ln_129 : am_ln am_SH 129 20 = 81 := rfl
theorem ll_129 : am_ll am_SH 129 = 81 := rfl
theorem ln_130 : am_ln am_SH 130 20 = 81 := rfl
theorem ll_130 : am_ll am_SH 130 = 81 := rfl
theorem ln_131 : am_ln am_SH 131 20 = 81 := rfl
theorem ll_131 : am_ll am_SH 131 = 81 := rfl
theorem ln_132 : am_ln am_SH 132 20 = 81 := rfl
theorem ll_132 : am_ll am_SH 132 = 81 := rfl
theorem ln_133 : am_ln am_SH 133 20 = 81 := rfl
theorem ll_133 : am_ll am_SH 133 = 81 := rfl
theorem ln_134 : am_ln am_SH 134 20 = 81 := rfl
theorem ll_134 : am_ll am_SH 134 = 81 := rfl
theorem kd_135 : am_kd am_SH 135 = 5 := rfl
theorem ln_136 : am_ln am_SH 136 20 = 290 := rfl
theorem ll_136 : am_ll am_SH 136 = 290 := rfl
theorem kd_137 : am_kd am_SH 137 = 12 := rfl
theorem ln_138 : am_ln am_SH 138 20 = 900 := rfl
theorem ll_138 : am_ll am_SH 138 = 900 := rfl
theorem ln_139 : am_ln am_SH 139 23 = 3 := rfl
theorem ll_139 : am_ll am_SH 139 = 3 := rfl
theorem ln_140 : am_ln am_SH 140 23 = 2 := rfl
theorem ll_140 : am_ll am_SH 140 = 2 := rfl
theorem ln_141 : am_ln am_SH 141 23 = 5 := rfl
theorem ll_141 : am_ll am_SH 141 = 5 := rfl
theorem ln_142 : am_ln am_SH 142 23 = 4 := rfl
theorem ll_142 : am_ll am_SH 142 = 4 := rfl
theorem ln_143 : am_ln am_SH 143 23 = 5 := rfl
theorem ll_143 : am_ll am_SH 143 = 5 := rfl
theorem ln_144 : am_ln am_SH 144 23 = 5 := rfl
theorem ll_144 : am_ll am_SH 144 = 5 := rfl
theorem ln_145 : am_ln am_SH 145 23 = 7 := rfl
theorem ll_145 : am_ll am_SH 145 = 7 := rfl
theorem ln_146 : am_ln am_SH 146 23 = 5 := rfl
theorem ll_146 : am_ll am_SH 146 = 5 := rfl
theorem ln_147 : am_ln am_SH 147 23 = 5 := rfl
theorem ll_147 : am_ll am_SH 147 = 5 := rfl
theorem ln_148 : am_ln am_SH 148 23 = 4 := rfl
theorem ll_148 : am_ll am_SH 148 = 4 := rfl
theorem ln_149 : am_ln am_SH 149 23 = 5 := rfl
theorem ll_149 : am_ll am_SH 149 = 5 := rfl
theorem ln_150 : am_ln am_SH 150 23 = 4 := rfl
theorem ll_150 : am_ll am_SH 150 = 4 := rfl
theorem ln_151 : am_ln am_SH 151 23 = 2 := rfl
theorem ll_151 : am_ll am_SH 151 = 2 := rfl
theorem ln_152 : am_ln am_SH 152 23 = 3 := rfl
theorem ll_152 : am_ll am_SH 152 = 3 := rfl
theorem ln_153 : am_ln am_SH 153 23 = 3 := rfl
theorem ll_153 : am_ll am_SH 153 = 3 := rfl
theorem ln_154 : am_ln am_SH 154 23 = 3 := rfl
theorem ll_154 : am_ll am_SH 154 = 3 := rfl
theorem ln_155 : am_ln am_SH 155 23 = 4 := rfl
theorem ll_155 : am_ll am_SH 155 = 4 := rfl
theorem ln_156 : am_ln am_SH 156 23 = 5 := rfl
theorem ll_156 : am_ll am_SH 156 = 5 := rfl
theorem ln_157 : am_ln am_SH 157 23 = 3 := rfl
theorem ll_157 : am_ll am_SH 157 = 3 := rfl
theorem ln_158 : am_ln am_SH 158 23 = 4 := rfl
theorem ll_158 : am_ll am_SH 158 = 4 := rfl
theorem ln_159 : am_ln am_SH 159 23 = 6 := rfl
theorem ll_159 : am_ll am_SH 159 = 6 := rfl
theorem ln_160 : am_ln am_SH 160 23 = 6 := rfl
theorem ll_160 : am_ll am_SH 160 = 6 := rfl
theorem ln_161 : am_ln am_SH 161 23 = 4 := rfl
theorem ll_161 : am_ll am_SH 161 = 4 := rfl
theorem ln_162 : am_ln am_SH 162 23 = 5 := rfl
theorem ll_162 : am_ll am_SH 162 = 5 := rfl
theorem ln_163 : am_ln am_SH 163 23 = 3 := rfl
theorem ll_163 : am_ll am_SH 163 = 3 := rfl
theorem ln_164 : am_ln am_SH 164 23 = 3 := rfl
theorem ll_164 : am_ll am_SH 164 = 3 := rfl
theorem ln_165 : am_ln am_SH 165 20 = 2 := rfl
theorem ll_165 : am_ll am_SH 165 = 2 := rfl
theorem ln_166 : am_ln am_SH 166 20 = 2 := rfl
theorem ll_166 : am_ll am_SH 166 = 2 := rfl
theorem ln_167 : am_ln am_SH 167 20 = 2 := rfl
theorem ll_167 : am_ll am_SH 167 = 2 := rfl
theorem ln_168 : am_ln am_SH 168 20 = 64 := rfl
theorem ll_168 : am_ll am_SH 168 = 64 := rfl
theorem ln_169 : am_ln am_SH 169 22 = 16 := rfl
theorem ll_169 : am_ll am_SH 169 = 16 := rfl
theorem ln_170 : am_ln am_SH 170 20 = 8 := rfl
theorem ll_170 : am_ll am_SH 170 = 8 := rfl
theorem ln_171 : am_ln am_SH 171 20 = 32 := rfl
theorem ll_171 : am_ll am_SH 171 = 32 := rfl
theorem ln_172 : am_ln am_SH 172 20 = 16 := rfl
theorem ll_172 : am_ll am_SH 172 = 16 := rfl
theorem ln_173 : am_ln am_SH 173 20 = 16 := rfl
theorem ll_173 : am_ll am_SH 173 = 16 := rfl
theorem ln_174 : am_ln am_SH 174 20 = 16 := rfl
theorem ll_174 : am_ll am_SH 174 = 16 := rfl
theorem ln_175 : am_ln am_SH 175 21 = 16 := rfl
theorem ll_175 : am_ll am_SH 175 = 16 := rfl
theorem ln_176 : am_ln am_SH 176 21 = 8 := rfl
theorem ll_176 : am_ll am_SH 176 = 8 := rfl
theorem ln_177 : am_ln am_SH 177 21 = 16 := rfl
theorem ll_177 : am_ll am_SH 177 = 16 := rfl
theorem ln_178 : am_ln am_SH 178 20 = 2000 := rfl
theorem ll_178 : am_ll am_SH 178 = 2000 := rfl
theorem ln_179 : am_ln am_SH 179 20 = 1000 := rfl
theorem ll_179 : am_ll am_SH 179 = 1000 := rfl
theorem ln_180 : am_ln am_SH 180 21 = 1000 := rfl
theorem ll_180 : am_ll am_SH 180 = 1000 := rfl
theorem ln_181 : am_ln am_SH 181 21 = 53136 := rfl
theorem ll_181 : am_ll am_SH 181 = 53136 := rfl
theorem ln_182 : am_ln am_SH 182 20 = 648 := rfl
theorem ll_182 : am_ll am_SH 182 = 648 := rfl
theorem ln_183 : am_ln am_SH 183 20 = 8 := rfl
theorem ll_183 : am_ll am_SH 183 = 8 := rfl
theorem ln_184 : am_ln am_SH 184 20 = 8 := rfl
theorem ll_184 : am_ll am_SH 184 = 8 := rfl
theorem ln_185 : am_ln am_SH 185 20 = 8 := rfl
theorem ll_185 : am_ll am_SH 185 = 8 := rfl
theorem ln_186 : am_ln am_SH 186 20 = 8 := rfl
theorem ll_186 : am_ll am_SH 186 = 8 := rfl
theorem ln_187 : am_ln am_SH 187 20 = 8 := rfl
theorem ll_187 : am_ll am_SH 187 = 8 := rfl
theorem ln_188 : am_ln am_SH 188 20 = 8 := rfl
theorem ll_188 : am_ll am_SH 188 = 8 := rfl
theorem ln_189 : am_ln am_SH 189 20 = 8 := rfl
theorem ll_189 : am_ll am_SH 189 = 8 := rfl
theorem ln_190 : am_ln am_SH 190 20 = 256 := rfl
theorem ll_190 : am_ll am_SH 190 = 256 := rfl
theorem ln_191 : am_ln am_SH 191 20 = 300 := rfl
theorem ll_191 : am_ll am_SH 191 = 300 := rfl
/-- the model's references, by slot -/
def am_ps (j : Int) : Int := if j = 0 then 138 else if 9 ≤ j ∧ j ≤ 34 then j + 130 else if 36 ≤ j ∧ j ≤ 49 then j + 129 else if j = 51 then 179 else if j = 64 then 180 else if j = 66 then 181 else if j = 69 then 182 else if 72 ≤ j ∧ j ≤ 79 then j + 111 else if j = 83 then 191 else 0
def am_wl9 : List (List Int) := [[98, 97, 114], [97, 116], [101, 118, 101, 114, 121], [102, 114, 111, 109], [114, 101, 97, 99, 104], [98, 111, 97, 114, 100], [99, 97, 116, 99, 104, 101, 114], [116, 114, 105, 99, 107], [116, 105, 99, 107, 115], [97, 114, 109, 115], [119, 111, 114, 116, 104], [119, 104, 101, 110], [111, 114], [97, 110, 100], [110, 111, 116], [97, 108, 108], [109, 105, 115, 115], [115, 119, 105, 110, 103], [103, 97, 112], [116, 105, 99, 107], [116, 104, 114, 111, 119, 110], [99, 97, 117, 103, 104, 116], [100, 111, 110, 101], [97, 103, 97, 105, 110], [109, 105, 110], [109, 97, 120]]
/-- letter i of the own word k -/
def am_wc (k i : Int) : Int := (am_wl9.getD k.toNat []).getD i.toNat 0
def am_PM (M : Int → Int → Int) : Prop := (∀ j : Int, am_ps j ≠ 0 → M 137 j = am_ps j) ∧ ∀ k i : Int, 0 ≤ k → k < 26 → 0 ≤ i → i < ((am_wl9.getD k.toNat []).length : Int) → M (139 + k) i = am_wc k i
theorem pm_0 {M : Int → Int → Int} (h : am_PM M) : M 137 0 = 138 := h.1 0 (by decide)
theorem pm_9 {M : Int → Int → Int} (h : am_PM M) : M 137 9 = 139 := h.1 9 (by decide)
theorem pm_10 {M : Int → Int → Int} (h : am_PM M) : M 137 10 = 140 := h.1 10 (by decide)
theorem pm_11 {M : Int → Int → Int} (h : am_PM M) : M 137 11 = 141 := h.1 11 (by decide)
theorem pm_12 {M : Int → Int → Int} (h : am_PM M) : M 137 12 = 142 := h.1 12 (by decide)
theorem pm_13 {M : Int → Int → Int} (h : am_PM M) : M 137 13 = 143 := h.1 13 (by decide)
theorem pm_14 {M : Int → Int → Int} (h : am_PM M) : M 137 14 = 144 := h.1 14 (by decide)
theorem pm_15 {M : Int → Int → Int} (h : am_PM M) : M 137 15 = 145 := h.1 15 (by decide)
theorem pm_16 {M : Int → Int → Int} (h : am_PM M) : M 137 16 = 146 := h.1 16 (by decide)
theorem pm_17 {M : Int → Int → Int} (h : am_PM M) : M 137 17 = 147 := h.1 17 (by decide)
theorem pm_18 {M : Int → Int → Int} (h : am_PM M) : M 137 18 = 148 := h.1 18 (by decide)
theorem pm_19 {M : Int → Int → Int} (h : am_PM M) : M 137 19 = 149 := h.1 19 (by decide)
theorem pm_20 {M : Int → Int → Int} (h : am_PM M) : M 137 20 = 150 := h.1 20 (by decide)
theorem pm_21 {M : Int → Int → Int} (h : am_PM M) : M 137 21 = 151 := h.1 21 (by decide)
theorem pm_22 {M : Int → Int → Int} (h : am_PM M) : M 137 22 = 152 := h.1 22 (by decide)
theorem pm_23 {M : Int → Int → Int} (h : am_PM M) : M 137 23 = 153 := h.1 23 (by decide)
theorem pm_24 {M : Int → Int → Int} (h : am_PM M) : M 137 24 = 154 := h.1 24 (by decide)
theorem pm_25 {M : Int → Int → Int} (h : am_PM M) : M 137 25 = 155 := h.1 25 (by decide)
theorem pm_26 {M : Int → Int → Int} (h : am_PM M) : M 137 26 = 156 := h.1 26 (by decide)
theorem pm_27 {M : Int → Int → Int} (h : am_PM M) : M 137 27 = 157 := h.1 27 (by decide)
theorem pm_28 {M : Int → Int → Int} (h : am_PM M) : M 137 28 = 158 := h.1 28 (by decide)
theorem pm_29 {M : Int → Int → Int} (h : am_PM M) : M 137 29 = 159 := h.1 29 (by decide)
theorem pm_30 {M : Int → Int → Int} (h : am_PM M) : M 137 30 = 160 := h.1 30 (by decide)
theorem pm_31 {M : Int → Int → Int} (h : am_PM M) : M 137 31 = 161 := h.1 31 (by decide)
theorem pm_32 {M : Int → Int → Int} (h : am_PM M) : M 137 32 = 162 := h.1 32 (by decide)
theorem pm_33 {M : Int → Int → Int} (h : am_PM M) : M 137 33 = 163 := h.1 33 (by decide)
theorem pm_34 {M : Int → Int → Int} (h : am_PM M) : M 137 34 = 164 := h.1 34 (by decide)
theorem pm_36 {M : Int → Int → Int} (h : am_PM M) : M 137 36 = 165 := h.1 36 (by decide)
theorem pm_37 {M : Int → Int → Int} (h : am_PM M) : M 137 37 = 166 := h.1 37 (by decide)
theorem pm_38 {M : Int → Int → Int} (h : am_PM M) : M 137 38 = 167 := h.1 38 (by decide)
theorem pm_39 {M : Int → Int → Int} (h : am_PM M) : M 137 39 = 168 := h.1 39 (by decide)
theorem pm_40 {M : Int → Int → Int} (h : am_PM M) : M 137 40 = 169 := h.1 40 (by decide)
theorem pm_41 {M : Int → Int → Int} (h : am_PM M) : M 137 41 = 170 := h.1 41 (by decide)
theorem pm_42 {M : Int → Int → Int} (h : am_PM M) : M 137 42 = 171 := h.1 42 (by decide)
theorem pm_43 {M : Int → Int → Int} (h : am_PM M) : M 137 43 = 172 := h.1 43 (by decide)
theorem pm_44 {M : Int → Int → Int} (h : am_PM M) : M 137 44 = 173 := h.1 44 (by decide)
theorem pm_45 {M : Int → Int → Int} (h : am_PM M) : M 137 45 = 174 := h.1 45 (by decide)
theorem pm_46 {M : Int → Int → Int} (h : am_PM M) : M 137 46 = 175 := h.1 46 (by decide)
theorem pm_47 {M : Int → Int → Int} (h : am_PM M) : M 137 47 = 176 := h.1 47 (by decide)
theorem pm_48 {M : Int → Int → Int} (h : am_PM M) : M 137 48 = 177 := h.1 48 (by decide)
theorem pm_49 {M : Int → Int → Int} (h : am_PM M) : M 137 49 = 178 := h.1 49 (by decide)
theorem pm_51 {M : Int → Int → Int} (h : am_PM M) : M 137 51 = 179 := h.1 51 (by decide)
theorem pm_64 {M : Int → Int → Int} (h : am_PM M) : M 137 64 = 180 := h.1 64 (by decide)
theorem pm_66 {M : Int → Int → Int} (h : am_PM M) : M 137 66 = 181 := h.1 66 (by decide)
theorem pm_69 {M : Int → Int → Int} (h : am_PM M) : M 137 69 = 182 := h.1 69 (by decide)
theorem pm_72 {M : Int → Int → Int} (h : am_PM M) : M 137 72 = 183 := h.1 72 (by decide)
theorem pm_73 {M : Int → Int → Int} (h : am_PM M) : M 137 73 = 184 := h.1 73 (by decide)
theorem pm_74 {M : Int → Int → Int} (h : am_PM M) : M 137 74 = 185 := h.1 74 (by decide)
theorem pm_75 {M : Int → Int → Int} (h : am_PM M) : M 137 75 = 186 := h.1 75 (by decide)
theorem pm_76 {M : Int → Int → Int} (h : am_PM M) : M 137 76 = 187 := h.1 76 (by decide)
theorem pm_77 {M : Int → Int → Int} (h : am_PM M) : M 137 77 = 188 := h.1 77 (by decide)
theorem pm_78 {M : Int → Int → Int} (h : am_PM M) : M 137 78 = 189 := h.1 78 (by decide)
theorem pm_79 {M : Int → Int → Int} (h : am_PM M) : M 137 79 = 190 := h.1 79 (by decide)
theorem pm_83 {M : Int → Int → Int} (h : am_PM M) : M 137 83 = 191 := h.1 83 (by decide)
theorem am_PM_up {M : Int → Int → Int} (h : am_PM M) {o j v : Int} (ho : o ≠ 137) (hw : o < 139 ∨ 164 < o) : am_PM (am_up M o j v) := by
  refine ⟨fun i hi => ?_, fun k i h1 h2 h3 h4 => ?_⟩
  · rw [am_up, if_neg (by omega)]; exact h.1 i hi
  · rw [am_up, if_neg (by omega)]; exact h.2 k i h1 h2 h3 h4
theorem am_PM_upf {M : Int → Int → Int} (h : am_PM M) {j v : Int} (hj : am_ps j = 0) : am_PM (am_up M 137 j v) := by
  refine ⟨fun i hi => ?_, fun k i h1 h2 h3 h4 => ?_⟩
  · rw [am_up, if_pos rfl, if_neg (fun e => hi (by rw [e]; exact hj))]; exact h.1 i hi
  · rw [am_up, if_neg (by omega)]; exact h.2 k i h1 h2 h3 h4
/-- only these objects may differ -/
theorem am_PM_eq {M M' : Int → Int → Int} (h : am_PM M) (h1 : ∀ j, am_ps j ≠ 0 → M' 137 j = M 137 j) (h2 : ∀ o, 139 ≤ o → o ≤ 164 → M' o = M o) : am_PM M' := by
  refine ⟨fun i hi => by rw [h1 i hi]; exact h.1 i hi, fun k i a1 a2 a3 a4 => ?_⟩
  rw [h2 (139 + k) (by omega) (by omega)]; exact h.2 k i a1 a2 a3 a4
theorem am_up_eq (M : Int → Int → Int) (o j v a b : Int) : am_up M o j v a b = if a = o then (if b = j then v else M a b) else M a b := rfl
theorem am_up_o (M : Int → Int → Int) {o j v a : Int} (h : a ≠ o) : am_up M o j v a = M a := by funext b; rw [am_up, if_neg h]
theorem am_up_s (M : Int → Int → Int) (o j v : Int) : am_up M o j v o j = v := by rw [am_up, if_pos rfl, if_pos rfl]
theorem am_up_j (M : Int → Int → Int) {o j v b : Int} (h : b ≠ j) : am_up M o j v o b = M o b := by rw [am_up, if_pos rfl, if_neg h]
