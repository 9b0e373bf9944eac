section Shape
variable {σ : AH}
theorem sn (h : Sh σ) {i : Nat} (hi : i < 166) : i < nx σ := Nat.lt_of_lt_of_le hi h.1
theorem sk_0 (h : Sh σ) : kd σ 0 = (11, NO 11) := h.2.1 0 (by decide)
theorem sk_1 (h : Sh σ) : kd σ 1 = (9, NO 9) := h.2.1 1 (by decide)
theorem sk_2 (h : Sh σ) : kd σ 2 = (103, 24) := h.2.1 2 (by decide)
theorem sk_3 (h : Sh σ) : kd σ 3 = (8, NO 8) := h.2.1 3 (by decide)
theorem sk_4 (h : Sh σ) : kd σ 4 = (100, 32) := h.2.1 4 (by decide)
theorem sk_5 (h : Sh σ) : kd σ 5 = (8, NO 8) := h.2.1 5 (by decide)
theorem sk_6 (h : Sh σ) : kd σ 6 = (100, 64) := h.2.1 6 (by decide)
theorem sk_7 (h : Sh σ) : kd σ 7 = (8, NO 8) := h.2.1 7 (by decide)
theorem sk_8 (h : Sh σ) : kd σ 8 = (100, 32) := h.2.1 8 (by decide)
theorem sk_9 (h : Sh σ) : kd σ 9 = (8, NO 8) := h.2.1 9 (by decide)
theorem sk_10 (h : Sh σ) : kd σ 10 = (100, 32) := h.2.1 10 (by decide)
theorem sk_11 (h : Sh σ) : kd σ 11 = (8, NO 8) := h.2.1 11 (by decide)
theorem sk_12 (h : Sh σ) : kd σ 12 = (100, 24) := h.2.1 12 (by decide)
theorem sk_13 (h : Sh σ) : kd σ 13 = (8, NO 8) := h.2.1 13 (by decide)
theorem sk_14 (h : Sh σ) : kd σ 14 = (100, 80) := h.2.1 14 (by decide)
theorem sk_15 (h : Sh σ) : kd σ 15 = (8, NO 8) := h.2.1 15 (by decide)
theorem sk_16 (h : Sh σ) : kd σ 16 = (100, 32) := h.2.1 16 (by decide)
theorem sk_17 (h : Sh σ) : kd σ 17 = (8, NO 8) := h.2.1 17 (by decide)
theorem sk_18 (h : Sh σ) : kd σ 18 = (100, 56) := h.2.1 18 (by decide)
theorem sk_19 (h : Sh σ) : kd σ 19 = (100, 120) := h.2.1 19 (by decide)
theorem sk_20 (h : Sh σ) : kd σ 20 = (100, 2400) := h.2.1 20 (by decide)
theorem sk_21 (h : Sh σ) : kd σ 21 = (104, 3) := h.2.1 21 (by decide)
theorem sk_22 (h : Sh σ) : kd σ 22 = (5, NO 5) := h.2.1 22 (by decide)
theorem sk_23 (h : Sh σ) : kd σ 23 = (100, 400) := h.2.1 23 (by decide)
theorem sk_24 (h : Sh σ) : kd σ 24 = (100, 16) := h.2.1 24 (by decide)
theorem sk_25 (h : Sh σ) : kd σ 25 = (100, 16) := h.2.1 25 (by decide)
theorem sk_26 (h : Sh σ) : kd σ 26 = (100, 16) := h.2.1 26 (by decide)
theorem sk_27 (h : Sh σ) : kd σ 27 = (100, 400) := h.2.1 27 (by decide)
theorem sk_28 (h : Sh σ) : kd σ 28 = (3, NO 3) := h.2.1 28 (by decide)
theorem sk_29 (h : Sh σ) : kd σ 29 = (100, 63) := h.2.1 29 (by decide)
theorem sk_30 (h : Sh σ) : kd σ 30 = (100, 384) := h.2.1 30 (by decide)
theorem sk_31 (h : Sh σ) : kd σ 31 = (100, 24) := h.2.1 31 (by decide)
theorem sk_32 (h : Sh σ) : kd σ 32 = (100, 7) := h.2.1 32 (by decide)
theorem sk_33 (h : Sh σ) : kd σ 33 = (102, 64) := h.2.1 33 (by decide)
theorem sk_34 (h : Sh σ) : kd σ 34 = (10, NO 10) := h.2.1 34 (by decide)
theorem sk_35 (h : Sh σ) : kd σ 35 = (100, 1300) := h.2.1 35 (by decide)
theorem sk_36 (h : Sh σ) : kd σ 36 = (100, 1560) := h.2.1 36 (by decide)
theorem sk_37 (h : Sh σ) : kd σ 37 = (100, 6) := h.2.1 37 (by decide)
theorem sk_38 (h : Sh σ) : kd σ 38 = (100, 30) := h.2.1 38 (by decide)
theorem sk_39 (h : Sh σ) : kd σ 39 = (100, 260) := h.2.1 39 (by decide)
theorem sk_40 (h : Sh σ) : kd σ 40 = (100, 60) := h.2.1 40 (by decide)
theorem sk_41 (h : Sh σ) : kd σ 41 = (100, 260) := h.2.1 41 (by decide)
theorem sk_42 (h : Sh σ) : kd σ 42 = (100, 4212) := h.2.1 42 (by decide)
theorem sk_43 (h : Sh σ) : kd σ 43 = (100, 702) := h.2.1 43 (by decide)
theorem sk_44 (h : Sh σ) : kd σ 44 = (6, NO 6) := h.2.1 44 (by decide)
theorem sk_45 (h : Sh σ) : kd σ 45 = (7, NO 7) := h.2.1 45 (by decide)
theorem sk_46 (h : Sh σ) : kd σ 46 = (100, 5) := h.2.1 46 (by decide)
theorem sk_47 (h : Sh σ) : kd σ 47 = (100, 30) := h.2.1 47 (by decide)
theorem sk_48 (h : Sh σ) : kd σ 48 = (100, 18) := h.2.1 48 (by decide)
theorem sk_49 (h : Sh σ) : kd σ 49 = (100, 30) := h.2.1 49 (by decide)
theorem sk_50 (h : Sh σ) : kd σ 50 = (100, 30) := h.2.1 50 (by decide)
theorem sk_51 (h : Sh σ) : kd σ 51 = (100, 30) := h.2.1 51 (by decide)
theorem sk_52 (h : Sh σ) : kd σ 52 = (100, 90) := h.2.1 52 (by decide)
theorem sk_53 (h : Sh σ) : kd σ 53 = (100, 90) := h.2.1 53 (by decide)
theorem sk_54 (h : Sh σ) : kd σ 54 = (100, 90) := h.2.1 54 (by decide)
theorem sk_55 (h : Sh σ) : kd σ 55 = (100, 1300) := h.2.1 55 (by decide)
theorem sk_56 (h : Sh σ) : kd σ 56 = (6, NO 6) := h.2.1 56 (by decide)
theorem sk_57 (h : Sh σ) : kd σ 57 = (7, NO 7) := h.2.1 57 (by decide)
theorem sk_58 (h : Sh σ) : kd σ 58 = (100, 5) := h.2.1 58 (by decide)
theorem sk_59 (h : Sh σ) : kd σ 59 = (100, 30) := h.2.1 59 (by decide)
theorem sk_60 (h : Sh σ) : kd σ 60 = (100, 18) := h.2.1 60 (by decide)
theorem sk_61 (h : Sh σ) : kd σ 61 = (100, 30) := h.2.1 61 (by decide)
theorem sk_62 (h : Sh σ) : kd σ 62 = (100, 30) := h.2.1 62 (by decide)
theorem sk_63 (h : Sh σ) : kd σ 63 = (100, 30) := h.2.1 63 (by decide)
theorem sk_64 (h : Sh σ) : kd σ 64 = (100, 90) := h.2.1 64 (by decide)
theorem sk_65 (h : Sh σ) : kd σ 65 = (100, 90) := h.2.1 65 (by decide)
theorem sk_66 (h : Sh σ) : kd σ 66 = (100, 90) := h.2.1 66 (by decide)
theorem sk_67 (h : Sh σ) : kd σ 67 = (100, 1300) := h.2.1 67 (by decide)
theorem sk_68 (h : Sh σ) : kd σ 68 = (1, NO 1) := h.2.1 68 (by decide)
theorem sk_69 (h : Sh σ) : kd σ 69 = (100, 6) := h.2.1 69 (by decide)
theorem sk_70 (h : Sh σ) : kd σ 70 = (7, NO 7) := h.2.1 70 (by decide)
theorem sk_71 (h : Sh σ) : kd σ 71 = (100, 5) := h.2.1 71 (by decide)
theorem sk_72 (h : Sh σ) : kd σ 72 = (100, 30) := h.2.1 72 (by decide)
theorem sk_73 (h : Sh σ) : kd σ 73 = (100, 18) := h.2.1 73 (by decide)
theorem sk_74 (h : Sh σ) : kd σ 74 = (100, 30) := h.2.1 74 (by decide)
theorem sk_75 (h : Sh σ) : kd σ 75 = (100, 30) := h.2.1 75 (by decide)
theorem sk_76 (h : Sh σ) : kd σ 76 = (100, 30) := h.2.1 76 (by decide)
theorem sk_77 (h : Sh σ) : kd σ 77 = (100, 90) := h.2.1 77 (by decide)
theorem sk_78 (h : Sh σ) : kd σ 78 = (100, 90) := h.2.1 78 (by decide)
theorem sk_79 (h : Sh σ) : kd σ 79 = (100, 90) := h.2.1 79 (by decide)
theorem sk_80 (h : Sh σ) : kd σ 80 = (105, 3) := h.2.1 80 (by decide)
theorem sk_81 (h : Sh σ) : kd σ 81 = (100, 6) := h.2.1 81 (by decide)
theorem sk_82 (h : Sh σ) : kd σ 82 = (100, 6) := h.2.1 82 (by decide)
theorem sk_83 (h : Sh σ) : kd σ 83 = (7, NO 7) := h.2.1 83 (by decide)
theorem sk_84 (h : Sh σ) : kd σ 84 = (100, 5) := h.2.1 84 (by decide)
theorem sk_85 (h : Sh σ) : kd σ 85 = (100, 30) := h.2.1 85 (by decide)
theorem sk_86 (h : Sh σ) : kd σ 86 = (100, 18) := h.2.1 86 (by decide)
theorem sk_87 (h : Sh σ) : kd σ 87 = (100, 30) := h.2.1 87 (by decide)
theorem sk_88 (h : Sh σ) : kd σ 88 = (100, 30) := h.2.1 88 (by decide)
theorem sk_89 (h : Sh σ) : kd σ 89 = (100, 30) := h.2.1 89 (by decide)
theorem sk_90 (h : Sh σ) : kd σ 90 = (100, 90) := h.2.1 90 (by decide)
theorem sk_91 (h : Sh σ) : kd σ 91 = (100, 90) := h.2.1 91 (by decide)
theorem sk_92 (h : Sh σ) : kd σ 92 = (100, 90) := h.2.1 92 (by decide)
theorem sk_93 (h : Sh σ) : kd σ 93 = (7, NO 7) := h.2.1 93 (by decide)
theorem sk_94 (h : Sh σ) : kd σ 94 = (100, 5) := h.2.1 94 (by decide)
theorem sk_95 (h : Sh σ) : kd σ 95 = (100, 30) := h.2.1 95 (by decide)
theorem sk_96 (h : Sh σ) : kd σ 96 = (100, 18) := h.2.1 96 (by decide)
theorem sk_97 (h : Sh σ) : kd σ 97 = (100, 30) := h.2.1 97 (by decide)
theorem sk_98 (h : Sh σ) : kd σ 98 = (100, 30) := h.2.1 98 (by decide)
theorem sk_99 (h : Sh σ) : kd σ 99 = (100, 30) := h.2.1 99 (by decide)
theorem sk_100 (h : Sh σ) : kd σ 100 = (100, 90) := h.2.1 100 (by decide)
theorem sk_101 (h : Sh σ) : kd σ 101 = (100, 90) := h.2.1 101 (by decide)
theorem sk_102 (h : Sh σ) : kd σ 102 = (100, 90) := h.2.1 102 (by decide)
theorem sk_103 (h : Sh σ) : kd σ 103 = (7, NO 7) := h.2.1 103 (by decide)
theorem sk_104 (h : Sh σ) : kd σ 104 = (100, 5) := h.2.1 104 (by decide)
theorem sk_105 (h : Sh σ) : kd σ 105 = (100, 30) := h.2.1 105 (by decide)
theorem sk_106 (h : Sh σ) : kd σ 106 = (100, 18) := h.2.1 106 (by decide)
theorem sk_107 (h : Sh σ) : kd σ 107 = (100, 30) := h.2.1 107 (by decide)
theorem sk_108 (h : Sh σ) : kd σ 108 = (100, 30) := h.2.1 108 (by decide)
theorem sk_109 (h : Sh σ) : kd σ 109 = (100, 30) := h.2.1 109 (by decide)
theorem sk_110 (h : Sh σ) : kd σ 110 = (100, 90) := h.2.1 110 (by decide)
theorem sk_111 (h : Sh σ) : kd σ 111 = (100, 90) := h.2.1 111 (by decide)
theorem sk_112 (h : Sh σ) : kd σ 112 = (100, 90) := h.2.1 112 (by decide)
theorem sk_113 (h : Sh σ) : kd σ 113 = (4, NO 4) := h.2.1 113 (by decide)
theorem sk_114 (h : Sh σ) : kd σ 114 = (100, 60) := h.2.1 114 (by decide)
theorem sk_115 (h : Sh σ) : kd σ 115 = (100, 360) := h.2.1 115 (by decide)
theorem sk_116 (h : Sh σ) : kd σ 116 = (100, 6) := h.2.1 116 (by decide)
theorem sk_117 (h : Sh σ) : kd σ 117 = (102, 60) := h.2.1 117 (by decide)
theorem sk_118 (h : Sh σ) : kd σ 118 = (100, 60) := h.2.1 118 (by decide)
theorem sk_119 (h : Sh σ) : kd σ 119 = (2, NO 2) := h.2.1 119 (by decide)
theorem sk_120 (h : Sh σ) : kd σ 120 = (100, 30) := h.2.1 120 (by decide)
theorem sk_121 (h : Sh σ) : kd σ 121 = (100, 30) := h.2.1 121 (by decide)
theorem sk_122 (h : Sh σ) : kd σ 122 = (100, 60) := h.2.1 122 (by decide)
theorem sk_123 (h : Sh σ) : kd σ 123 = (100, 60) := h.2.1 123 (by decide)
theorem sk_124 (h : Sh σ) : kd σ 124 = (12, NO 12) := h.2.1 124 (by decide)
theorem sk_125 (h : Sh σ) : kd σ 125 = (100, 269832) := h.2.1 125 (by decide)
theorem sk_126 (h : Sh σ) : kd σ 126 = (100, 809496) := h.2.1 126 (by decide)
theorem sk_127 (h : Sh σ) : kd σ 127 = (101, 3) := h.2.1 127 (by decide)
theorem sk_128 (h : Sh σ) : kd σ 128 = (100, 400) := h.2.1 128 (by decide)
theorem sk_129 (h : Sh σ) : kd σ 129 = (100, 144) := h.2.1 129 (by decide)
theorem sk_130 (h : Sh σ) : kd σ 130 = (100, 400) := h.2.1 130 (by decide)
theorem sk_131 (h : Sh σ) : kd σ 131 = (100, 400) := h.2.1 131 (by decide)
theorem sk_132 (h : Sh σ) : kd σ 132 = (100, 400) := h.2.1 132 (by decide)
theorem sk_133 (h : Sh σ) : kd σ 133 = (100, 400) := h.2.1 133 (by decide)
theorem sk_134 (h : Sh σ) : kd σ 134 = (101, 24) := h.2.1 134 (by decide)
theorem sk_135 (h : Sh σ) : kd σ 135 = (101, 384) := h.2.1 135 (by decide)
theorem sk_136 (h : Sh σ) : kd σ 136 = (100, 8) := h.2.1 136 (by decide)
theorem sk_137 (h : Sh σ) : kd σ 137 = (102, 400) := h.2.1 137 (by decide)
theorem sk_138 (h : Sh σ) : kd σ 138 = (100, 84240) := h.2.1 138 (by decide)
theorem sk_139 (h : Sh σ) : kd σ 139 = (100, 260) := h.2.1 139 (by decide)
theorem sk_140 (h : Sh σ) : kd σ 140 = (100, 30) := h.2.1 140 (by decide)
theorem sk_141 (h : Sh σ) : kd σ 141 = (101, 30) := h.2.1 141 (by decide)
theorem sk_142 (h : Sh σ) : kd σ 142 = (100, 5) := h.2.1 142 (by decide)
theorem sk_143 (h : Sh σ) : kd σ 143 = (100, 6) := h.2.1 143 (by decide)
theorem sk_144 (h : Sh σ) : kd σ 144 = (100, 30) := h.2.1 144 (by decide)
theorem sk_145 (h : Sh σ) : kd σ 145 = (101, 30) := h.2.1 145 (by decide)
theorem sk_146 (h : Sh σ) : kd σ 146 = (100, 30) := h.2.1 146 (by decide)
theorem sk_147 (h : Sh σ) : kd σ 147 = (101, 30) := h.2.1 147 (by decide)
theorem sk_148 (h : Sh σ) : kd σ 148 = (100, 90) := h.2.1 148 (by decide)
theorem sk_149 (h : Sh σ) : kd σ 149 = (100, 90) := h.2.1 149 (by decide)
theorem sk_150 (h : Sh σ) : kd σ 150 = (100, 30) := h.2.1 150 (by decide)
theorem sk_151 (h : Sh σ) : kd σ 151 = (100, 30) := h.2.1 151 (by decide)
theorem sk_152 (h : Sh σ) : kd σ 152 = (100, 6) := h.2.1 152 (by decide)
theorem sk_153 (h : Sh σ) : kd σ 153 = (100, 6) := h.2.1 153 (by decide)
theorem sk_154 (h : Sh σ) : kd σ 154 = (100, 5) := h.2.1 154 (by decide)
theorem sk_155 (h : Sh σ) : kd σ 155 = (100, 30) := h.2.1 155 (by decide)
theorem sk_156 (h : Sh σ) : kd σ 156 = (101, 30) := h.2.1 156 (by decide)
theorem sk_157 (h : Sh σ) : kd σ 157 = (100, 30) := h.2.1 157 (by decide)
theorem sk_158 (h : Sh σ) : kd σ 158 = (100, 90) := h.2.1 158 (by decide)
theorem sk_159 (h : Sh σ) : kd σ 159 = (100, 90) := h.2.1 159 (by decide)
theorem sk_160 (h : Sh σ) : kd σ 160 = (100, 60) := h.2.1 160 (by decide)
theorem sk_161 (h : Sh σ) : kd σ 161 = (102, 60) := h.2.1 161 (by decide)
theorem sk_162 (h : Sh σ) : kd σ 162 = (100, 60) := h.2.1 162 (by decide)
theorem sk_163 (h : Sh σ) : kd σ 163 = (100, 60) := h.2.1 163 (by decide)
theorem sk_164 (h : Sh σ) : kd σ 164 = (100, 30) := h.2.1 164 (by decide)
theorem sk_165 (h : Sh σ) : kd σ 165 = (100, 30) := h.2.1 165 (by decide)
theorem sr_1_0 (h : Sh σ) : gR σ 1 0 = some 2 := h.2.2 (1, 0, 2) (by decide +kernel)
theorem sr_1_2 (h : Sh σ) : gR σ 1 2 = some 3 := h.2.2 (1, 2, 3) (by decide +kernel)
theorem sr_1_3 (h : Sh σ) : gR σ 1 3 = some 5 := h.2.2 (1, 3, 5) (by decide +kernel)
theorem sr_1_4 (h : Sh σ) : gR σ 1 4 = some 7 := h.2.2 (1, 4, 7) (by decide +kernel)
theorem sr_1_5 (h : Sh σ) : gR σ 1 5 = some 9 := h.2.2 (1, 5, 9) (by decide +kernel)
theorem sr_1_6 (h : Sh σ) : gR σ 1 6 = some 11 := h.2.2 (1, 6, 11) (by decide +kernel)
theorem sr_1_7 (h : Sh σ) : gR σ 1 7 = some 13 := h.2.2 (1, 7, 13) (by decide +kernel)
theorem sr_1_8 (h : Sh σ) : gR σ 1 8 = some 15 := h.2.2 (1, 8, 15) (by decide +kernel)
theorem sr_1_9 (h : Sh σ) : gR σ 1 9 = some 17 := h.2.2 (1, 9, 17) (by decide +kernel)
theorem sr_1_10 (h : Sh σ) : gR σ 1 10 = some 19 := h.2.2 (1, 10, 19) (by decide +kernel)
theorem sr_1_11 (h : Sh σ) : gR σ 1 11 = some 20 := h.2.2 (1, 11, 20) (by decide +kernel)
theorem sr_0_0 (h : Sh σ) : gR σ 0 0 = some 1 := h.2.2 (0, 0, 1) (by decide +kernel)
theorem sr_0_1 (h : Sh σ) : gR σ 0 1 = some 21 := h.2.2 (0, 1, 21) (by decide +kernel)
theorem sr_0_2 (h : Sh σ) : gR σ 0 2 = some 22 := h.2.2 (0, 2, 22) (by decide +kernel)
theorem sr_22_0 (h : Sh σ) : gR σ 22 0 = some 23 := h.2.2 (22, 0, 23) (by decide +kernel)
theorem sr_22_3 (h : Sh σ) : gR σ 22 3 = some 24 := h.2.2 (22, 3, 24) (by decide +kernel)
theorem sr_22_4 (h : Sh σ) : gR σ 22 4 = some 25 := h.2.2 (22, 4, 25) (by decide +kernel)
theorem sr_22_5 (h : Sh σ) : gR σ 22 5 = some 26 := h.2.2 (22, 5, 26) (by decide +kernel)
theorem sr_22_6 (h : Sh σ) : gR σ 22 6 = some 27 := h.2.2 (22, 6, 27) (by decide +kernel)
theorem sr_0_3 (h : Sh σ) : gR σ 0 3 = some 28 := h.2.2 (0, 3, 28) (by decide +kernel)
theorem sr_28_1 (h : Sh σ) : gR σ 28 1 = some 29 := h.2.2 (28, 1, 29) (by decide +kernel)
theorem sr_28_2 (h : Sh σ) : gR σ 28 2 = some 30 := h.2.2 (28, 2, 30) (by decide +kernel)
theorem sr_28_3 (h : Sh σ) : gR σ 28 3 = some 31 := h.2.2 (28, 3, 31) (by decide +kernel)
theorem sr_28_4 (h : Sh σ) : gR σ 28 4 = some 32 := h.2.2 (28, 4, 32) (by decide +kernel)
theorem sr_28_5 (h : Sh σ) : gR σ 28 5 = some 33 := h.2.2 (28, 5, 33) (by decide +kernel)
theorem sr_28_0 (h : Sh σ) : gR σ 28 0 = some 1 := h.2.2 (28, 0, 1) (by decide +kernel)
theorem sr_0_4 (h : Sh σ) : gR σ 0 4 = some 34 := h.2.2 (0, 4, 34) (by decide +kernel)
theorem sr_34_5 (h : Sh σ) : gR σ 34 5 = some 35 := h.2.2 (34, 5, 35) (by decide +kernel)
theorem sr_34_6 (h : Sh σ) : gR σ 34 6 = some 36 := h.2.2 (34, 6, 36) (by decide +kernel)
theorem sr_34_7 (h : Sh σ) : gR σ 34 7 = some 37 := h.2.2 (34, 7, 37) (by decide +kernel)
theorem sr_34_8 (h : Sh σ) : gR σ 34 8 = some 38 := h.2.2 (34, 8, 38) (by decide +kernel)
theorem sr_34_9 (h : Sh σ) : gR σ 34 9 = some 39 := h.2.2 (34, 9, 39) (by decide +kernel)
theorem sr_34_10 (h : Sh σ) : gR σ 34 10 = some 40 := h.2.2 (34, 10, 40) (by decide +kernel)
theorem sr_34_11 (h : Sh σ) : gR σ 34 11 = some 41 := h.2.2 (34, 11, 41) (by decide +kernel)
theorem sr_34_12 (h : Sh σ) : gR σ 34 12 = some 42 := h.2.2 (34, 12, 42) (by decide +kernel)
theorem sr_34_13 (h : Sh σ) : gR σ 34 13 = some 43 := h.2.2 (34, 13, 43) (by decide +kernel)
theorem sr_34_0 (h : Sh σ) : gR σ 34 0 = some 1 := h.2.2 (34, 0, 1) (by decide +kernel)
theorem sr_34_1 (h : Sh σ) : gR σ 34 1 = some 28 := h.2.2 (34, 1, 28) (by decide +kernel)
theorem sr_45_0 (h : Sh σ) : gR σ 45 0 = some 46 := h.2.2 (45, 0, 46) (by decide +kernel)
theorem sr_45_1 (h : Sh σ) : gR σ 45 1 = some 47 := h.2.2 (45, 1, 47) (by decide +kernel)
theorem sr_45_3 (h : Sh σ) : gR σ 45 3 = some 48 := h.2.2 (45, 3, 48) (by decide +kernel)
theorem sr_45_4 (h : Sh σ) : gR σ 45 4 = some 49 := h.2.2 (45, 4, 49) (by decide +kernel)
theorem sr_45_5 (h : Sh σ) : gR σ 45 5 = some 50 := h.2.2 (45, 5, 50) (by decide +kernel)
theorem sr_45_6 (h : Sh σ) : gR σ 45 6 = some 51 := h.2.2 (45, 6, 51) (by decide +kernel)
theorem sr_45_7 (h : Sh σ) : gR σ 45 7 = some 52 := h.2.2 (45, 7, 52) (by decide +kernel)
theorem sr_45_8 (h : Sh σ) : gR σ 45 8 = some 53 := h.2.2 (45, 8, 53) (by decide +kernel)
theorem sr_45_9 (h : Sh σ) : gR σ 45 9 = some 54 := h.2.2 (45, 9, 54) (by decide +kernel)
theorem sr_44_0 (h : Sh σ) : gR σ 44 0 = some 45 := h.2.2 (44, 0, 45) (by decide +kernel)
theorem sr_44_1 (h : Sh σ) : gR σ 44 1 = some 55 := h.2.2 (44, 1, 55) (by decide +kernel)
theorem sr_0_5 (h : Sh σ) : gR σ 0 5 = some 44 := h.2.2 (0, 5, 44) (by decide +kernel)
theorem sr_57_0 (h : Sh σ) : gR σ 57 0 = some 58 := h.2.2 (57, 0, 58) (by decide +kernel)
theorem sr_57_1 (h : Sh σ) : gR σ 57 1 = some 59 := h.2.2 (57, 1, 59) (by decide +kernel)
theorem sr_57_3 (h : Sh σ) : gR σ 57 3 = some 60 := h.2.2 (57, 3, 60) (by decide +kernel)
theorem sr_57_4 (h : Sh σ) : gR σ 57 4 = some 61 := h.2.2 (57, 4, 61) (by decide +kernel)
theorem sr_57_5 (h : Sh σ) : gR σ 57 5 = some 62 := h.2.2 (57, 5, 62) (by decide +kernel)
theorem sr_57_6 (h : Sh σ) : gR σ 57 6 = some 63 := h.2.2 (57, 6, 63) (by decide +kernel)
theorem sr_57_7 (h : Sh σ) : gR σ 57 7 = some 64 := h.2.2 (57, 7, 64) (by decide +kernel)
theorem sr_57_8 (h : Sh σ) : gR σ 57 8 = some 65 := h.2.2 (57, 8, 65) (by decide +kernel)
theorem sr_57_9 (h : Sh σ) : gR σ 57 9 = some 66 := h.2.2 (57, 9, 66) (by decide +kernel)
theorem sr_56_0 (h : Sh σ) : gR σ 56 0 = some 57 := h.2.2 (56, 0, 57) (by decide +kernel)
theorem sr_56_1 (h : Sh σ) : gR σ 56 1 = some 67 := h.2.2 (56, 1, 67) (by decide +kernel)
theorem sr_0_6 (h : Sh σ) : gR σ 0 6 = some 56 := h.2.2 (0, 6, 56) (by decide +kernel)
theorem sr_0_7 (h : Sh σ) : gR σ 0 7 = some 68 := h.2.2 (0, 7, 68) (by decide +kernel)
theorem sr_68_2 (h : Sh σ) : gR σ 68 2 = some 69 := h.2.2 (68, 2, 69) (by decide +kernel)
theorem sr_70_0 (h : Sh σ) : gR σ 70 0 = some 71 := h.2.2 (70, 0, 71) (by decide +kernel)
theorem sr_70_1 (h : Sh σ) : gR σ 70 1 = some 72 := h.2.2 (70, 1, 72) (by decide +kernel)
theorem sr_70_3 (h : Sh σ) : gR σ 70 3 = some 73 := h.2.2 (70, 3, 73) (by decide +kernel)
theorem sr_70_4 (h : Sh σ) : gR σ 70 4 = some 74 := h.2.2 (70, 4, 74) (by decide +kernel)
theorem sr_70_5 (h : Sh σ) : gR σ 70 5 = some 75 := h.2.2 (70, 5, 75) (by decide +kernel)
theorem sr_70_6 (h : Sh σ) : gR σ 70 6 = some 76 := h.2.2 (70, 6, 76) (by decide +kernel)
theorem sr_70_7 (h : Sh σ) : gR σ 70 7 = some 77 := h.2.2 (70, 7, 77) (by decide +kernel)
theorem sr_70_8 (h : Sh σ) : gR σ 70 8 = some 78 := h.2.2 (70, 8, 78) (by decide +kernel)
theorem sr_70_9 (h : Sh σ) : gR σ 70 9 = some 79 := h.2.2 (70, 9, 79) (by decide +kernel)
theorem sr_68_5 (h : Sh σ) : gR σ 68 5 = some 70 := h.2.2 (68, 5, 70) (by decide +kernel)
theorem sr_68_8 (h : Sh σ) : gR σ 68 8 = some 80 := h.2.2 (68, 8, 80) (by decide +kernel)
theorem sr_68_9 (h : Sh σ) : gR σ 68 9 = some 81 := h.2.2 (68, 9, 81) (by decide +kernel)
theorem sr_68_10 (h : Sh σ) : gR σ 68 10 = some 82 := h.2.2 (68, 10, 82) (by decide +kernel)
theorem sr_68_0 (h : Sh σ) : gR σ 68 0 = some 1 := h.2.2 (68, 0, 1) (by decide +kernel)
theorem sr_68_1 (h : Sh σ) : gR σ 68 1 = some 34 := h.2.2 (68, 1, 34) (by decide +kernel)
theorem sr_83_0 (h : Sh σ) : gR σ 83 0 = some 84 := h.2.2 (83, 0, 84) (by decide +kernel)
theorem sr_83_1 (h : Sh σ) : gR σ 83 1 = some 85 := h.2.2 (83, 1, 85) (by decide +kernel)
theorem sr_83_3 (h : Sh σ) : gR σ 83 3 = some 86 := h.2.2 (83, 3, 86) (by decide +kernel)
theorem sr_83_4 (h : Sh σ) : gR σ 83 4 = some 87 := h.2.2 (83, 4, 87) (by decide +kernel)
theorem sr_83_5 (h : Sh σ) : gR σ 83 5 = some 88 := h.2.2 (83, 5, 88) (by decide +kernel)
theorem sr_83_6 (h : Sh σ) : gR σ 83 6 = some 89 := h.2.2 (83, 6, 89) (by decide +kernel)
theorem sr_83_7 (h : Sh σ) : gR σ 83 7 = some 90 := h.2.2 (83, 7, 90) (by decide +kernel)
theorem sr_83_8 (h : Sh σ) : gR σ 83 8 = some 91 := h.2.2 (83, 8, 91) (by decide +kernel)
theorem sr_83_9 (h : Sh σ) : gR σ 83 9 = some 92 := h.2.2 (83, 9, 92) (by decide +kernel)
theorem sr_80_0 (h : Sh σ) : gR σ 80 0 = some 83 := h.2.2 (80, 0, 83) (by decide +kernel)
theorem sr_93_0 (h : Sh σ) : gR σ 93 0 = some 94 := h.2.2 (93, 0, 94) (by decide +kernel)
theorem sr_93_1 (h : Sh σ) : gR σ 93 1 = some 95 := h.2.2 (93, 1, 95) (by decide +kernel)
theorem sr_93_3 (h : Sh σ) : gR σ 93 3 = some 96 := h.2.2 (93, 3, 96) (by decide +kernel)
theorem sr_93_4 (h : Sh σ) : gR σ 93 4 = some 97 := h.2.2 (93, 4, 97) (by decide +kernel)
theorem sr_93_5 (h : Sh σ) : gR σ 93 5 = some 98 := h.2.2 (93, 5, 98) (by decide +kernel)
theorem sr_93_6 (h : Sh σ) : gR σ 93 6 = some 99 := h.2.2 (93, 6, 99) (by decide +kernel)
theorem sr_93_7 (h : Sh σ) : gR σ 93 7 = some 100 := h.2.2 (93, 7, 100) (by decide +kernel)
theorem sr_93_8 (h : Sh σ) : gR σ 93 8 = some 101 := h.2.2 (93, 8, 101) (by decide +kernel)
theorem sr_93_9 (h : Sh σ) : gR σ 93 9 = some 102 := h.2.2 (93, 9, 102) (by decide +kernel)
theorem sr_80_1 (h : Sh σ) : gR σ 80 1 = some 93 := h.2.2 (80, 1, 93) (by decide +kernel)
theorem sr_103_0 (h : Sh σ) : gR σ 103 0 = some 104 := h.2.2 (103, 0, 104) (by decide +kernel)
theorem sr_103_1 (h : Sh σ) : gR σ 103 1 = some 105 := h.2.2 (103, 1, 105) (by decide +kernel)
theorem sr_103_3 (h : Sh σ) : gR σ 103 3 = some 106 := h.2.2 (103, 3, 106) (by decide +kernel)
theorem sr_103_4 (h : Sh σ) : gR σ 103 4 = some 107 := h.2.2 (103, 4, 107) (by decide +kernel)
theorem sr_103_5 (h : Sh σ) : gR σ 103 5 = some 108 := h.2.2 (103, 5, 108) (by decide +kernel)
theorem sr_103_6 (h : Sh σ) : gR σ 103 6 = some 109 := h.2.2 (103, 6, 109) (by decide +kernel)
theorem sr_103_7 (h : Sh σ) : gR σ 103 7 = some 110 := h.2.2 (103, 7, 110) (by decide +kernel)
theorem sr_103_8 (h : Sh σ) : gR σ 103 8 = some 111 := h.2.2 (103, 8, 111) (by decide +kernel)
theorem sr_103_9 (h : Sh σ) : gR σ 103 9 = some 112 := h.2.2 (103, 9, 112) (by decide +kernel)
theorem sr_80_2 (h : Sh σ) : gR σ 80 2 = some 103 := h.2.2 (80, 2, 103) (by decide +kernel)
theorem sr_0_8 (h : Sh σ) : gR σ 0 8 = some 113 := h.2.2 (0, 8, 113) (by decide +kernel)
theorem sr_113_2 (h : Sh σ) : gR σ 113 2 = some 114 := h.2.2 (113, 2, 114) (by decide +kernel)
theorem sr_113_5 (h : Sh σ) : gR σ 113 5 = some 115 := h.2.2 (113, 5, 115) (by decide +kernel)
theorem sr_113_6 (h : Sh σ) : gR σ 113 6 = some 116 := h.2.2 (113, 6, 116) (by decide +kernel)
theorem sr_113_7 (h : Sh σ) : gR σ 113 7 = some 117 := h.2.2 (113, 7, 117) (by decide +kernel)
theorem sr_113_8 (h : Sh σ) : gR σ 113 8 = some 118 := h.2.2 (113, 8, 118) (by decide +kernel)
theorem sr_113_0 (h : Sh σ) : gR σ 113 0 = some 1 := h.2.2 (113, 0, 1) (by decide +kernel)
theorem sr_113_1 (h : Sh σ) : gR σ 113 1 = some 28 := h.2.2 (113, 1, 28) (by decide +kernel)
theorem sr_0_9 (h : Sh σ) : gR σ 0 9 = some 119 := h.2.2 (0, 9, 119) (by decide +kernel)
theorem sr_119_3 (h : Sh σ) : gR σ 119 3 = some 120 := h.2.2 (119, 3, 120) (by decide +kernel)
theorem sr_119_4 (h : Sh σ) : gR σ 119 4 = some 121 := h.2.2 (119, 4, 121) (by decide +kernel)
theorem sr_119_5 (h : Sh σ) : gR σ 119 5 = some 122 := h.2.2 (119, 5, 122) (by decide +kernel)
theorem sr_119_6 (h : Sh σ) : gR σ 119 6 = some 123 := h.2.2 (119, 6, 123) (by decide +kernel)
theorem sr_119_0 (h : Sh σ) : gR σ 119 0 = some 1 := h.2.2 (119, 0, 1) (by decide +kernel)
theorem sr_119_1 (h : Sh σ) : gR σ 119 1 = some 28 := h.2.2 (119, 1, 28) (by decide +kernel)
theorem sr_119_2 (h : Sh σ) : gR σ 119 2 = some 113 := h.2.2 (119, 2, 113) (by decide +kernel)
theorem sr_124_2 (h : Sh σ) : gR σ 124 2 = some 125 := h.2.2 (124, 2, 125) (by decide +kernel)
theorem sr_124_3 (h : Sh σ) : gR σ 124 3 = some 126 := h.2.2 (124, 3, 126) (by decide +kernel)
theorem sr_124_4 (h : Sh σ) : gR σ 124 4 = some 127 := h.2.2 (124, 4, 127) (by decide +kernel)
theorem sr_124_5 (h : Sh σ) : gR σ 124 5 = some 128 := h.2.2 (124, 5, 128) (by decide +kernel)
theorem sr_124_14 (h : Sh σ) : gR σ 124 14 = some 129 := h.2.2 (124, 14, 129) (by decide +kernel)
theorem sr_124_16 (h : Sh σ) : gR σ 124 16 = some 130 := h.2.2 (124, 16, 130) (by decide +kernel)
theorem sr_124_17 (h : Sh σ) : gR σ 124 17 = some 131 := h.2.2 (124, 17, 131) (by decide +kernel)
theorem sr_124_19 (h : Sh σ) : gR σ 124 19 = some 132 := h.2.2 (124, 19, 132) (by decide +kernel)
theorem sr_124_20 (h : Sh σ) : gR σ 124 20 = some 133 := h.2.2 (124, 20, 133) (by decide +kernel)
theorem sr_124_25 (h : Sh σ) : gR σ 124 25 = some 134 := h.2.2 (124, 25, 134) (by decide +kernel)
theorem sr_124_26 (h : Sh σ) : gR σ 124 26 = some 135 := h.2.2 (124, 26, 135) (by decide +kernel)
theorem sr_124_27 (h : Sh σ) : gR σ 124 27 = some 136 := h.2.2 (124, 27, 136) (by decide +kernel)
theorem sr_124_28 (h : Sh σ) : gR σ 124 28 = some 137 := h.2.2 (124, 28, 137) (by decide +kernel)
theorem sr_124_33 (h : Sh σ) : gR σ 124 33 = some 138 := h.2.2 (124, 33, 138) (by decide +kernel)
theorem sr_124_34 (h : Sh σ) : gR σ 124 34 = some 139 := h.2.2 (124, 34, 139) (by decide +kernel)
theorem sr_124_35 (h : Sh σ) : gR σ 124 35 = some 140 := h.2.2 (124, 35, 140) (by decide +kernel)
theorem sr_124_36 (h : Sh σ) : gR σ 124 36 = some 141 := h.2.2 (124, 36, 141) (by decide +kernel)
theorem sr_124_37 (h : Sh σ) : gR σ 124 37 = some 142 := h.2.2 (124, 37, 142) (by decide +kernel)
theorem sr_124_38 (h : Sh σ) : gR σ 124 38 = some 143 := h.2.2 (124, 38, 143) (by decide +kernel)
theorem sr_124_39 (h : Sh σ) : gR σ 124 39 = some 144 := h.2.2 (124, 39, 144) (by decide +kernel)
theorem sr_124_40 (h : Sh σ) : gR σ 124 40 = some 145 := h.2.2 (124, 40, 145) (by decide +kernel)
theorem sr_124_41 (h : Sh σ) : gR σ 124 41 = some 146 := h.2.2 (124, 41, 146) (by decide +kernel)
theorem sr_124_42 (h : Sh σ) : gR σ 124 42 = some 147 := h.2.2 (124, 42, 147) (by decide +kernel)
theorem sr_124_43 (h : Sh σ) : gR σ 124 43 = some 148 := h.2.2 (124, 43, 148) (by decide +kernel)
theorem sr_124_44 (h : Sh σ) : gR σ 124 44 = some 149 := h.2.2 (124, 44, 149) (by decide +kernel)
theorem sr_124_46 (h : Sh σ) : gR σ 124 46 = some 150 := h.2.2 (124, 46, 150) (by decide +kernel)
theorem sr_124_47 (h : Sh σ) : gR σ 124 47 = some 151 := h.2.2 (124, 47, 151) (by decide +kernel)
theorem sr_124_49 (h : Sh σ) : gR σ 124 49 = some 152 := h.2.2 (124, 49, 152) (by decide +kernel)
theorem sr_124_52 (h : Sh σ) : gR σ 124 52 = some 153 := h.2.2 (124, 52, 153) (by decide +kernel)
theorem sr_124_54 (h : Sh σ) : gR σ 124 54 = some 154 := h.2.2 (124, 54, 154) (by decide +kernel)
theorem sr_124_55 (h : Sh σ) : gR σ 124 55 = some 155 := h.2.2 (124, 55, 155) (by decide +kernel)
theorem sr_124_56 (h : Sh σ) : gR σ 124 56 = some 156 := h.2.2 (124, 56, 156) (by decide +kernel)
theorem sr_124_57 (h : Sh σ) : gR σ 124 57 = some 157 := h.2.2 (124, 57, 157) (by decide +kernel)
theorem sr_124_58 (h : Sh σ) : gR σ 124 58 = some 158 := h.2.2 (124, 58, 158) (by decide +kernel)
theorem sr_124_59 (h : Sh σ) : gR σ 124 59 = some 159 := h.2.2 (124, 59, 159) (by decide +kernel)
theorem sr_124_62 (h : Sh σ) : gR σ 124 62 = some 160 := h.2.2 (124, 62, 160) (by decide +kernel)
theorem sr_124_63 (h : Sh σ) : gR σ 124 63 = some 161 := h.2.2 (124, 63, 161) (by decide +kernel)
theorem sr_124_64 (h : Sh σ) : gR σ 124 64 = some 162 := h.2.2 (124, 64, 162) (by decide +kernel)
theorem sr_124_66 (h : Sh σ) : gR σ 124 66 = some 163 := h.2.2 (124, 66, 163) (by decide +kernel)
theorem sr_124_67 (h : Sh σ) : gR σ 124 67 = some 164 := h.2.2 (124, 67, 164) (by decide +kernel)
theorem sr_124_68 (h : Sh σ) : gR σ 124 68 = some 165 := h.2.2 (124, 68, 165) (by decide +kernel)
def siteIds : List Nat := [45, 57, 70, 83, 93, 103]
def runIds : List Nat := [44, 56]
def stockIds : List Nat := [46, 58, 71, 84, 94, 104]
theorem st_k {b : Nat} (h : Sh σ) (hb : b ∈ siteIds) : kd σ b = (7, NO 7) := by
  simp only [siteIds, runIds, stockIds, List.mem_cons, List.not_mem_nil, or_false] at hb
  rcases hb with rfl | rfl | rfl | rfl | rfl | rfl
  · exact sk_45 h
  · exact sk_57 h
  · exact sk_70 h
  · exact sk_83 h
  · exact sk_93 h
  · exact sk_103 h
theorem st_n {b j : Nat} (h : Sh σ) (hb : b ∈ siteIds) (hj : j ≤ 9) : b + j < nx σ := by
  simp only [siteIds, runIds, stockIds, List.mem_cons, List.not_mem_nil, or_false] at hb
  rcases hb with rfl | rfl | rfl | rfl | rfl | rfl
  · exact sn h (by omega)
  · exact sn h (by omega)
  · exact sn h (by omega)
  · exact sn h (by omega)
  · exact sn h (by omega)
  · exact sn h (by omega)
theorem st_r0 {b : Nat} (h : Sh σ) (hb : b ∈ siteIds) : gR σ b 0 = some (b + 1) := by
  simp only [siteIds, runIds, stockIds, List.mem_cons, List.not_mem_nil, or_false] at hb
  rcases hb with rfl | rfl | rfl | rfl | rfl | rfl
  · exact sr_45_0 h
  · exact sr_57_0 h
  · exact sr_70_0 h
  · exact sr_83_0 h
  · exact sr_93_0 h
  · exact sr_103_0 h
theorem st_ka1 {b : Nat} (h : Sh σ) (hb : b ∈ siteIds) : kd σ (b + 1) = (100, 5) := by
  simp only [siteIds, runIds, stockIds, List.mem_cons, List.not_mem_nil, or_false] at hb
  rcases hb with rfl | rfl | rfl | rfl | rfl | rfl
  · exact sk_46 h
  · exact sk_58 h
  · exact sk_71 h
  · exact sk_84 h
  · exact sk_94 h
  · exact sk_104 h
theorem st_r1 {b : Nat} (h : Sh σ) (hb : b ∈ siteIds) : gR σ b 1 = some (b + 2) := by
  simp only [siteIds, runIds, stockIds, List.mem_cons, List.not_mem_nil, or_false] at hb
  rcases hb with rfl | rfl | rfl | rfl | rfl | rfl
  · exact sr_45_1 h
  · exact sr_57_1 h
  · exact sr_70_1 h
  · exact sr_83_1 h
  · exact sr_93_1 h
  · exact sr_103_1 h
theorem st_ka2 {b : Nat} (h : Sh σ) (hb : b ∈ siteIds) : kd σ (b + 2) = (100, 30) := by
  simp only [siteIds, runIds, stockIds, List.mem_cons, List.not_mem_nil, or_false] at hb
  rcases hb with rfl | rfl | rfl | rfl | rfl | rfl
  · exact sk_47 h
  · exact sk_59 h
  · exact sk_72 h
  · exact sk_85 h
  · exact sk_95 h
  · exact sk_105 h
theorem st_r3 {b : Nat} (h : Sh σ) (hb : b ∈ siteIds) : gR σ b 3 = some (b + 3) := by
  simp only [siteIds, runIds, stockIds, List.mem_cons, List.not_mem_nil, or_false] at hb
  rcases hb with rfl | rfl | rfl | rfl | rfl | rfl
  · exact sr_45_3 h
  · exact sr_57_3 h
  · exact sr_70_3 h
  · exact sr_83_3 h
  · exact sr_93_3 h
  · exact sr_103_3 h
theorem st_ka3 {b : Nat} (h : Sh σ) (hb : b ∈ siteIds) : kd σ (b + 3) = (100, 18) := by
  simp only [siteIds, runIds, stockIds, List.mem_cons, List.not_mem_nil, or_false] at hb
  rcases hb with rfl | rfl | rfl | rfl | rfl | rfl
  · exact sk_48 h
  · exact sk_60 h
  · exact sk_73 h
  · exact sk_86 h
  · exact sk_96 h
  · exact sk_106 h
theorem st_r4 {b : Nat} (h : Sh σ) (hb : b ∈ siteIds) : gR σ b 4 = some (b + 4) := by
  simp only [siteIds, runIds, stockIds, List.mem_cons, List.not_mem_nil, or_false] at hb
  rcases hb with rfl | rfl | rfl | rfl | rfl | rfl
  · exact sr_45_4 h
  · exact sr_57_4 h
  · exact sr_70_4 h
  · exact sr_83_4 h
  · exact sr_93_4 h
  · exact sr_103_4 h
theorem st_ka4 {b : Nat} (h : Sh σ) (hb : b ∈ siteIds) : kd σ (b + 4) = (100, 30) := by
  simp only [siteIds, runIds, stockIds, List.mem_cons, List.not_mem_nil, or_false] at hb
  rcases hb with rfl | rfl | rfl | rfl | rfl | rfl
  · exact sk_49 h
  · exact sk_61 h
  · exact sk_74 h
  · exact sk_87 h
  · exact sk_97 h
  · exact sk_107 h
theorem st_r5 {b : Nat} (h : Sh σ) (hb : b ∈ siteIds) : gR σ b 5 = some (b + 5) := by
  simp only [siteIds, runIds, stockIds, List.mem_cons, List.not_mem_nil, or_false] at hb
  rcases hb with rfl | rfl | rfl | rfl | rfl | rfl
  · exact sr_45_5 h
  · exact sr_57_5 h
  · exact sr_70_5 h
  · exact sr_83_5 h
  · exact sr_93_5 h
  · exact sr_103_5 h
theorem st_ka5 {b : Nat} (h : Sh σ) (hb : b ∈ siteIds) : kd σ (b + 5) = (100, 30) := by
  simp only [siteIds, runIds, stockIds, List.mem_cons, List.not_mem_nil, or_false] at hb
  rcases hb with rfl | rfl | rfl | rfl | rfl | rfl
  · exact sk_50 h
  · exact sk_62 h
  · exact sk_75 h
  · exact sk_88 h
  · exact sk_98 h
  · exact sk_108 h
theorem st_r6 {b : Nat} (h : Sh σ) (hb : b ∈ siteIds) : gR σ b 6 = some (b + 6) := by
  simp only [siteIds, runIds, stockIds, List.mem_cons, List.not_mem_nil, or_false] at hb
  rcases hb with rfl | rfl | rfl | rfl | rfl | rfl
  · exact sr_45_6 h
  · exact sr_57_6 h
  · exact sr_70_6 h
  · exact sr_83_6 h
  · exact sr_93_6 h
  · exact sr_103_6 h
theorem st_ka6 {b : Nat} (h : Sh σ) (hb : b ∈ siteIds) : kd σ (b + 6) = (100, 30) := by
  simp only [siteIds, runIds, stockIds, List.mem_cons, List.not_mem_nil, or_false] at hb
  rcases hb with rfl | rfl | rfl | rfl | rfl | rfl
  · exact sk_51 h
  · exact sk_63 h
  · exact sk_76 h
  · exact sk_89 h
  · exact sk_99 h
  · exact sk_109 h
theorem st_r7 {b : Nat} (h : Sh σ) (hb : b ∈ siteIds) : gR σ b 7 = some (b + 7) := by
  simp only [siteIds, runIds, stockIds, List.mem_cons, List.not_mem_nil, or_false] at hb
  rcases hb with rfl | rfl | rfl | rfl | rfl | rfl
  · exact sr_45_7 h
  · exact sr_57_7 h
  · exact sr_70_7 h
  · exact sr_83_7 h
  · exact sr_93_7 h
  · exact sr_103_7 h
theorem st_ka7 {b : Nat} (h : Sh σ) (hb : b ∈ siteIds) : kd σ (b + 7) = (100, 90) := by
  simp only [siteIds, runIds, stockIds, List.mem_cons, List.not_mem_nil, or_false] at hb
  rcases hb with rfl | rfl | rfl | rfl | rfl | rfl
  · exact sk_52 h
  · exact sk_64 h
  · exact sk_77 h
  · exact sk_90 h
  · exact sk_100 h
  · exact sk_110 h
theorem st_r8 {b : Nat} (h : Sh σ) (hb : b ∈ siteIds) : gR σ b 8 = some (b + 8) := by
  simp only [siteIds, runIds, stockIds, List.mem_cons, List.not_mem_nil, or_false] at hb
  rcases hb with rfl | rfl | rfl | rfl | rfl | rfl
  · exact sr_45_8 h
  · exact sr_57_8 h
  · exact sr_70_8 h
  · exact sr_83_8 h
  · exact sr_93_8 h
  · exact sr_103_8 h
theorem st_ka8 {b : Nat} (h : Sh σ) (hb : b ∈ siteIds) : kd σ (b + 8) = (100, 90) := by
  simp only [siteIds, runIds, stockIds, List.mem_cons, List.not_mem_nil, or_false] at hb
  rcases hb with rfl | rfl | rfl | rfl | rfl | rfl
  · exact sk_53 h
  · exact sk_65 h
  · exact sk_78 h
  · exact sk_91 h
  · exact sk_101 h
  · exact sk_111 h
theorem st_r9 {b : Nat} (h : Sh σ) (hb : b ∈ siteIds) : gR σ b 9 = some (b + 9) := by
  simp only [siteIds, runIds, stockIds, List.mem_cons, List.not_mem_nil, or_false] at hb
  rcases hb with rfl | rfl | rfl | rfl | rfl | rfl
  · exact sr_45_9 h
  · exact sr_57_9 h
  · exact sr_70_9 h
  · exact sr_83_9 h
  · exact sr_93_9 h
  · exact sr_103_9 h
theorem st_ka9 {b : Nat} (h : Sh σ) (hb : b ∈ siteIds) : kd σ (b + 9) = (100, 90) := by
  simp only [siteIds, runIds, stockIds, List.mem_cons, List.not_mem_nil, or_false] at hb
  rcases hb with rfl | rfl | rfl | rfl | rfl | rfl
  · exact sk_54 h
  · exact sk_66 h
  · exact sk_79 h
  · exact sk_92 h
  · exact sk_102 h
  · exact sk_112 h
theorem rn_k {b : Nat} (h : Sh σ) (hb : b ∈ runIds) : kd σ b = (6, NO 6) := by
  simp only [siteIds, runIds, stockIds, List.mem_cons, List.not_mem_nil, or_false] at hb
  rcases hb with rfl | rfl
  · exact sk_44 h
  · exact sk_56 h
theorem rn_n {b j : Nat} (h : Sh σ) (hb : b ∈ runIds) (hj : j ≤ 11) : b + j < nx σ := by
  simp only [siteIds, runIds, stockIds, List.mem_cons, List.not_mem_nil, or_false] at hb
  rcases hb with rfl | rfl
  · exact sn h (by omega)
  · exact sn h (by omega)
theorem rn_site {b : Nat} (hb : b ∈ runIds) : b + 1 ∈ siteIds := by
  simp only [siteIds, runIds, stockIds, List.mem_cons, List.not_mem_nil, or_false] at hb
  rcases hb with rfl | rfl
  · exact by decide
  · exact by decide
theorem rn_r0 {b : Nat} (h : Sh σ) (hb : b ∈ runIds) : gR σ b 0 = some (b + 1) := by
  simp only [siteIds, runIds, stockIds, List.mem_cons, List.not_mem_nil, or_false] at hb
  rcases hb with rfl | rfl
  · exact sr_44_0 h
  · exact sr_56_0 h
theorem rn_r1 {b : Nat} (h : Sh σ) (hb : b ∈ runIds) : gR σ b 1 = some (b + 11) := by
  simp only [siteIds, runIds, stockIds, List.mem_cons, List.not_mem_nil, or_false] at hb
  rcases hb with rfl | rfl
  · exact sr_44_1 h
  · exact sr_56_1 h
theorem rn_ka11 {b : Nat} (h : Sh σ) (hb : b ∈ runIds) : kd σ (b + 11) = (100, 1300) := by
  simp only [siteIds, runIds, stockIds, List.mem_cons, List.not_mem_nil, or_false] at hb
  rcases hb with rfl | rfl
  · exact sk_55 h
  · exact sk_67 h
theorem sk_stock {b : Nat} (h : Sh σ) (hb : b ∈ stockIds) : kd σ b = (100, 5) := by
  simp only [siteIds, runIds, stockIds, List.mem_cons, List.not_mem_nil, or_false] at hb
  rcases hb with rfl | rfl | rfl | rfl | rfl | rfl
  · exact sk_46 h
  · exact sk_58 h
  · exact sk_71 h
  · exact sk_84 h
  · exact sk_94 h
  · exact sk_104 h
theorem sn_stock {b : Nat} (h : Sh σ) (hb : b ∈ stockIds) : b < nx σ := by
  simp only [siteIds, runIds, stockIds, List.mem_cons, List.not_mem_nil, or_false] at hb
  rcases hb with rfl | rfl | rfl | rfl | rfl | rfl
  · exact sn h (by omega)
  · exact sn h (by omega)
  · exact sn h (by omega)
  · exact sn h (by omega)
  · exact sn h (by omega)
  · exact sn h (by omega)
theorem st_stock {b : Nat} (hb : b ∈ siteIds) : b + 1 ∈ stockIds := by
  simp only [siteIds, runIds, stockIds, List.mem_cons, List.not_mem_nil, or_false] at hb
  rcases hb with rfl | rfl | rfl | rfl | rfl | rfl
  · exact by decide
  · exact by decide
  · exact by decide
  · exact by decide
  · exact by decide
  · exact by decide
end Shape
