/-! each method's blocks are its code -/
set_option maxRecDepth 100000 in
theorem pg_ok_0 : pg_okM 0 = true := by decide +kernel
set_option maxRecDepth 100000 in
theorem pg_ok_1 : pg_okM 1 = true := by decide +kernel
set_option maxRecDepth 100000 in
theorem pg_ok_2 : pg_okM 2 = true := by decide +kernel
set_option maxRecDepth 100000 in
theorem pg_ok_3 : pg_okM 3 = true := by decide +kernel
set_option maxRecDepth 100000 in
theorem pg_ok_4 : pg_okM 4 = true := by decide +kernel
set_option maxRecDepth 100000 in
theorem pg_ok_5 : pg_okM 5 = true := by decide +kernel
set_option maxRecDepth 100000 in
theorem pg_ok_6 : pg_okM 6 = true := by decide +kernel
set_option maxRecDepth 100000 in
theorem pg_ok_7 : pg_okM 7 = true := by decide +kernel
set_option maxRecDepth 100000 in
theorem pg_ok_8 : pg_okM 8 = true := by decide +kernel
set_option maxRecDepth 100000 in
theorem pg_ok_9 : pg_okM 9 = true := by decide +kernel
set_option maxRecDepth 100000 in
theorem pg_ok_10 : pg_okM 10 = true := by decide +kernel
set_option maxRecDepth 100000 in
theorem pg_ok_11 : pg_okM 11 = true := by decide +kernel
set_option maxRecDepth 100000 in
theorem pg_ok_12 : pg_okM 12 = true := by decide +kernel
set_option maxRecDepth 100000 in
theorem pg_ok_13 : pg_okM 13 = true := by decide +kernel
set_option maxRecDepth 100000 in
theorem pg_ok_14 : pg_okM 14 = true := by decide +kernel
set_option maxRecDepth 100000 in
theorem pg_ok_15 : pg_okM 15 = true := by decide +kernel
set_option maxRecDepth 100000 in
theorem pg_ok_16 : pg_okM 16 = true := by decide +kernel
set_option maxRecDepth 100000 in
theorem pg_ok_17 : pg_okM 17 = true := by decide +kernel
set_option maxRecDepth 100000 in
theorem pg_ok_18 : pg_okM 18 = true := by decide +kernel
set_option maxRecDepth 100000 in
theorem pg_ok_19 : pg_okM 19 = true := by decide +kernel
set_option maxRecDepth 100000 in
theorem pg_ok_20 : pg_okM 20 = true := by decide +kernel
set_option maxRecDepth 100000 in
theorem pg_ok_21 : pg_okM 21 = true := by decide +kernel
set_option maxRecDepth 100000 in
theorem pg_ok_22 : pg_okM 22 = true := by decide +kernel
set_option maxRecDepth 100000 in
theorem pg_ok_23 : pg_okM 23 = true := by decide +kernel
set_option maxRecDepth 100000 in
theorem pg_ok_24 : pg_okM 24 = true := by decide +kernel
set_option maxRecDepth 100000 in
theorem pg_ok_25 : pg_okM 25 = true := by decide +kernel
set_option maxRecDepth 100000 in
theorem pg_ok_26 : pg_okM 26 = true := by decide +kernel
set_option maxRecDepth 100000 in
theorem pg_ok_27 : pg_okM 27 = true := by decide +kernel
set_option maxRecDepth 100000 in
theorem pg_ok_28 : pg_okM 28 = true := by decide +kernel
set_option maxRecDepth 100000 in
theorem pg_ok_29 : pg_okM 29 = true := by decide +kernel
set_option maxRecDepth 100000 in
theorem pg_ok_30 : pg_okM 30 = true := by decide +kernel
set_option maxRecDepth 100000 in
theorem pg_ok_31 : pg_okM 31 = true := by decide +kernel
set_option maxRecDepth 100000 in
theorem pg_ok_32 : pg_okM 32 = true := by decide +kernel
set_option maxRecDepth 100000 in
theorem pg_ok_33 : pg_okM 33 = true := by decide +kernel
set_option maxRecDepth 100000 in
theorem pg_ok_34 : pg_okM 34 = true := by decide +kernel
set_option maxRecDepth 100000 in
theorem pg_ok_35 : pg_okM 35 = true := by decide +kernel
set_option maxRecDepth 100000 in
theorem pg_ok_36 : pg_okM 36 = true := by decide +kernel
set_option maxRecDepth 100000 in
theorem pg_ok_37 : pg_okM 37 = true := by decide +kernel
set_option maxRecDepth 100000 in
theorem pg_ok_38 : pg_okM 38 = true := by decide +kernel
set_option maxRecDepth 100000 in
theorem pg_ok_39 : pg_okM 39 = true := by decide +kernel
set_option maxRecDepth 100000 in
theorem pg_ok_40 : pg_okM 40 = true := by decide +kernel
set_option maxRecDepth 100000 in
theorem pg_ok_41 : pg_okM 41 = true := by decide +kernel
set_option maxRecDepth 100000 in
theorem pg_ok_42 : pg_okM 42 = true := by decide +kernel
set_option maxRecDepth 100000 in
theorem pg_ok_43 : pg_okM 43 = true := by decide +kernel
set_option maxRecDepth 100000 in
theorem pg_ok_44 : pg_okM 44 = true := by decide +kernel
set_option maxRecDepth 100000 in
theorem pg_ok_45 : pg_okM 45 = true := by decide +kernel
set_option maxRecDepth 100000 in
theorem pg_ok_46 : pg_okM 46 = true := by decide +kernel
set_option maxRecDepth 100000 in
theorem pg_ok_47 : pg_okM 47 = true := by decide +kernel
set_option maxRecDepth 100000 in
theorem pg_ok_48 : pg_okM 48 = true := by decide +kernel
set_option maxRecDepth 100000 in
theorem pg_ok_49 : pg_okM 49 = true := by decide +kernel
set_option maxRecDepth 100000 in
theorem pg_ok_50 : pg_okM 50 = true := by decide +kernel
set_option maxRecDepth 100000 in
theorem pg_ok_51 : pg_okM 51 = true := by decide +kernel
set_option maxRecDepth 100000 in
theorem pg_ok_52 : pg_okM 52 = true := by decide +kernel
set_option maxRecDepth 100000 in
theorem pg_ok_53 : pg_okM 53 = true := by decide +kernel
set_option maxRecDepth 100000 in
theorem pg_ok_54 : pg_okM 54 = true := by decide +kernel
set_option maxRecDepth 100000 in
theorem pg_ok_55 : pg_okM 55 = true := by decide +kernel
set_option maxRecDepth 100000 in
theorem pg_ok_56 : pg_okM 56 = true := by decide +kernel
set_option maxRecDepth 100000 in
theorem pg_ok_57 : pg_okM 57 = true := by decide +kernel
set_option maxRecDepth 100000 in
theorem pg_ok_58 : pg_okM 58 = true := by decide +kernel
set_option maxRecDepth 100000 in
theorem pg_ok_59 : pg_okM 59 = true := by decide +kernel
set_option maxRecDepth 100000 in
theorem pg_ok_60 : pg_okM 60 = true := by decide +kernel
set_option maxRecDepth 100000 in
theorem pg_ok_61 : pg_okM 61 = true := by decide +kernel
set_option maxRecDepth 100000 in
theorem pg_ok_62 : pg_okM 62 = true := by decide +kernel
set_option maxRecDepth 100000 in
theorem pg_ok_63 : pg_okM 63 = true := by decide +kernel
set_option maxRecDepth 100000 in
theorem pg_ok_64 : pg_okM 64 = true := by decide +kernel
set_option maxRecDepth 100000 in
theorem pg_ok_65 : pg_okM 65 = true := by decide +kernel
set_option maxRecDepth 100000 in
theorem pg_ok_66 : pg_okM 66 = true := by decide +kernel
set_option maxRecDepth 100000 in
theorem pg_ok_67 : pg_okM 67 = true := by decide +kernel
set_option maxRecDepth 100000 in
theorem pg_ok_68 : pg_okM 68 = true := by decide +kernel
set_option maxRecDepth 100000 in
theorem pg_ok_69 : pg_okM 69 = true := by decide +kernel
set_option maxRecDepth 100000 in
theorem pg_ok_70 : pg_okM 70 = true := by decide +kernel
set_option maxRecDepth 100000 in
theorem pg_ok_71 : pg_okM 71 = true := by decide +kernel
set_option maxRecDepth 100000 in
theorem pg_ok_72 : pg_okM 72 = true := by decide +kernel
set_option maxRecDepth 100000 in
theorem pg_ok_73 : pg_okM 73 = true := by decide +kernel
set_option maxRecDepth 100000 in
theorem pg_ok_74 : pg_okM 74 = true := by decide +kernel
set_option maxRecDepth 100000 in
theorem pg_ok_75 : pg_okM 75 = true := by decide +kernel
set_option maxRecDepth 100000 in
theorem pg_ok_76 : pg_okM 76 = true := by decide +kernel
set_option maxRecDepth 100000 in
theorem pg_ok_77 : pg_okM 77 = true := by decide +kernel
set_option maxRecDepth 100000 in
theorem pg_ok_78 : pg_okM 78 = true := by decide +kernel
set_option maxRecDepth 100000 in
theorem pg_ok_79 : pg_okM 79 = true := by decide +kernel
set_option maxRecDepth 100000 in
theorem pg_ok_80 : pg_okM 80 = true := by decide +kernel
set_option maxRecDepth 100000 in
theorem pg_ok_81 : pg_okM 81 = true := by decide +kernel
set_option maxRecDepth 100000 in
theorem pg_ok_82 : pg_okM 82 = true := by decide +kernel
set_option maxRecDepth 100000 in
theorem pg_ok_83 : pg_okM 83 = true := by decide +kernel
set_option maxRecDepth 100000 in
theorem pg_ok_84 : pg_okM 84 = true := by decide +kernel
set_option maxRecDepth 100000 in
theorem pg_ok_85 : pg_okM 85 = true := by decide +kernel
set_option maxRecDepth 100000 in
theorem pg_ok_86 : pg_okM 86 = true := by decide +kernel
set_option maxRecDepth 100000 in
theorem pg_ok_87 : pg_okM 87 = true := by decide +kernel
set_option maxRecDepth 100000 in
theorem pg_ok_88 : pg_okM 88 = true := by decide +kernel
set_option maxRecDepth 100000 in
theorem pg_ok_89 : pg_okM 89 = true := by decide +kernel
set_option maxRecDepth 100000 in
theorem pg_ok_90 : pg_okM 90 = true := by decide +kernel
set_option maxRecDepth 100000 in
theorem pg_ok_91 : pg_okM 91 = true := by decide +kernel
set_option maxRecDepth 100000 in
theorem pg_ok_92 : pg_okM 92 = true := by decide +kernel
set_option maxRecDepth 100000 in
theorem pg_ok_93 : pg_okM 93 = true := by decide +kernel
set_option maxRecDepth 100000 in
theorem pg_ok_94 : pg_okM 94 = true := by decide +kernel
set_option maxRecDepth 100000 in
theorem pg_ok_95 : pg_okM 95 = true := by decide +kernel
set_option maxRecDepth 100000 in
theorem pg_ok_96 : pg_okM 96 = true := by decide +kernel
set_option maxRecDepth 100000 in
theorem pg_ok_97 : pg_okM 97 = true := by decide +kernel
set_option maxRecDepth 100000 in
theorem pg_ok_98 : pg_okM 98 = true := by decide +kernel
set_option maxRecDepth 100000 in
theorem pg_ok_99 : pg_okM 99 = true := by decide +kernel
set_option maxRecDepth 100000 in
theorem pg_ok_100 : pg_okM 100 = true := by decide +kernel
set_option maxRecDepth 100000 in
theorem pg_ok_101 : pg_okM 101 = true := by decide +kernel
set_option maxRecDepth 100000 in
theorem pg_ok_102 : pg_okM 102 = true := by decide +kernel
set_option maxRecDepth 100000 in
theorem pg_ok_103 : pg_okM 103 = true := by decide +kernel
set_option maxRecDepth 100000 in
theorem pg_ok_104 : pg_okM 104 = true := by decide +kernel
set_option maxRecDepth 100000 in
theorem pg_ok_105 : pg_okM 105 = true := by decide +kernel
set_option maxRecDepth 100000 in
theorem pg_ok_106 : pg_okM 106 = true := by decide +kernel
set_option maxRecDepth 100000 in
theorem pg_ok_107 : pg_okM 107 = true := by decide +kernel
set_option maxRecDepth 100000 in
theorem pg_ok_108 : pg_okM 108 = true := by decide +kernel
set_option maxRecDepth 100000 in
theorem pg_ok_109 : pg_okM 109 = true := by decide +kernel
set_option maxRecDepth 100000 in
theorem pg_ok_110 : pg_okM 110 = true := by decide +kernel
set_option maxRecDepth 100000 in
theorem pg_ok_111 : pg_okM 111 = true := by decide +kernel
set_option maxRecDepth 100000 in
theorem pg_ok_112 : pg_okM 112 = true := by decide +kernel
set_option maxRecDepth 100000 in
theorem pg_ok_113 : pg_okM 113 = true := by decide +kernel
set_option maxRecDepth 100000 in
theorem pg_ok_114 : pg_okM 114 = true := by decide +kernel
set_option maxRecDepth 100000 in
theorem pg_ok_115 : pg_okM 115 = true := by decide +kernel
set_option maxRecDepth 100000 in
theorem pg_ok_116 : pg_okM 116 = true := by decide +kernel
set_option maxRecDepth 100000 in
theorem pg_ok_117 : pg_okM 117 = true := by decide +kernel
set_option maxRecDepth 100000 in
theorem pg_ok_118 : pg_okM 118 = true := by decide +kernel
set_option maxRecDepth 100000 in
theorem pg_ok_119 : pg_okM 119 = true := by decide +kernel
set_option maxRecDepth 100000 in
theorem pg_ok_120 : pg_okM 120 = true := by decide +kernel
set_option maxRecDepth 100000 in
theorem pg_ok_121 : pg_okM 121 = true := by decide +kernel
set_option maxRecDepth 100000 in
theorem pg_ok_122 : pg_okM 122 = true := by decide +kernel
set_option maxRecDepth 100000 in
theorem pg_ok_123 : pg_okM 123 = true := by decide +kernel
set_option maxRecDepth 100000 in
theorem pg_ok_124 : pg_okM 124 = true := by decide +kernel
set_option maxRecDepth 100000 in
theorem pg_ok_125 : pg_okM 125 = true := by decide +kernel
set_option maxRecDepth 100000 in
theorem pg_ok_126 : pg_okM 126 = true := by decide +kernel
set_option maxRecDepth 100000 in
theorem pg_ok_127 : pg_okM 127 = true := by decide +kernel
set_option maxRecDepth 100000 in
theorem pg_ok_128 : pg_okM 128 = true := by decide +kernel
set_option maxRecDepth 100000 in
theorem pg_ok_129 : pg_okM 129 = true := by decide +kernel
set_option maxRecDepth 100000 in
theorem pg_ok_130 : pg_okM 130 = true := by decide +kernel
set_option maxRecDepth 100000 in
theorem pg_ok_131 : pg_okM 131 = true := by decide +kernel
set_option maxRecDepth 100000 in
theorem pg_ok_132 : pg_okM 132 = true := by decide +kernel
set_option maxRecDepth 100000 in
theorem pg_ok_133 : pg_okM 133 = true := by decide +kernel
set_option maxRecDepth 100000 in
theorem pg_ok_134 : pg_okM 134 = true := by decide +kernel
set_option maxRecDepth 100000 in
theorem pg_ok_135 : pg_okM 135 = true := by decide +kernel
set_option maxRecDepth 100000 in
theorem pg_ok_136 : pg_okM 136 = true := by decide +kernel
set_option maxRecDepth 100000 in
theorem pg_ok_137 : pg_okM 137 = true := by decide +kernel
set_option maxRecDepth 100000 in
theorem pg_ok_138 : pg_okM 138 = true := by decide +kernel
set_option maxRecDepth 100000 in
theorem pg_ok_139 : pg_okM 139 = true := by decide +kernel
set_option maxRecDepth 100000 in
theorem pg_ok_140 : pg_okM 140 = true := by decide +kernel
set_option maxRecDepth 100000 in
theorem pg_ok_141 : pg_okM 141 = true := by decide +kernel
set_option maxRecDepth 100000 in
theorem pg_ok_142 : pg_okM 142 = true := by decide +kernel
set_option maxRecDepth 100000 in
theorem pg_ok_143 : pg_okM 143 = true := by decide +kernel
set_option maxRecDepth 100000 in
theorem pg_ok_144 : pg_okM 144 = true := by decide +kernel
set_option maxRecDepth 100000 in
theorem pg_ok_145 : pg_okM 145 = true := by decide +kernel
set_option maxRecDepth 100000 in
theorem pg_ok_146 : pg_okM 146 = true := by decide +kernel
set_option maxRecDepth 100000 in
theorem pg_ok_147 : pg_okM 147 = true := by decide +kernel
set_option maxRecDepth 100000 in
theorem pg_ok_148 : pg_okM 148 = true := by decide +kernel
set_option maxRecDepth 100000 in
theorem pg_ok_149 : pg_okM 149 = true := by decide +kernel
set_option maxRecDepth 100000 in
theorem pg_ok_150 : pg_okM 150 = true := by decide +kernel
set_option maxRecDepth 100000 in
theorem pg_ok_151 : pg_okM 151 = true := by decide +kernel
set_option maxRecDepth 100000 in
theorem pg_ok_152 : pg_okM 152 = true := by decide +kernel
set_option maxRecDepth 100000 in
theorem pg_ok_153 : pg_okM 153 = true := by decide +kernel
set_option maxRecDepth 100000 in
theorem pg_ok_154 : pg_okM 154 = true := by decide +kernel
set_option maxRecDepth 100000 in
theorem pg_ok_155 : pg_okM 155 = true := by decide +kernel
set_option maxRecDepth 100000 in
theorem pg_ok_156 : pg_okM 156 = true := by decide +kernel
set_option maxRecDepth 100000 in
theorem pg_ok_157 : pg_okM 157 = true := by decide +kernel
set_option maxRecDepth 100000 in
theorem pg_ok_158 : pg_okM 158 = true := by decide +kernel
set_option maxRecDepth 100000 in
theorem pg_ok_159 : pg_okM 159 = true := by decide +kernel
set_option maxRecDepth 100000 in
theorem pg_ok_160 : pg_okM 160 = true := by decide +kernel
set_option maxRecDepth 100000 in
theorem pg_ok_161 : pg_okM 161 = true := by decide +kernel
set_option maxRecDepth 100000 in
theorem pg_ok_162 : pg_okM 162 = true := by decide +kernel
set_option maxRecDepth 100000 in
theorem pg_ok_163 : pg_okM 163 = true := by decide +kernel
set_option maxRecDepth 100000 in
theorem pg_ok_164 : pg_okM 164 = true := by decide +kernel
set_option maxRecDepth 100000 in
theorem pg_ok_165 : pg_okM 165 = true := by decide +kernel
set_option maxRecDepth 100000 in
theorem pg_ok_166 : pg_okM 166 = true := by decide +kernel
set_option maxRecDepth 100000 in
theorem pg_ok_167 : pg_okM 167 = true := by decide +kernel
set_option maxRecDepth 100000 in
theorem pg_ok_168 : pg_okM 168 = true := by decide +kernel
set_option maxRecDepth 100000 in
theorem pg_ok_169 : pg_okM 169 = true := by decide +kernel
set_option maxRecDepth 100000 in
theorem pg_ok_170 : pg_okM 170 = true := by decide +kernel
set_option maxRecDepth 100000 in
theorem pg_ok_171 : pg_okM 171 = true := by decide +kernel
set_option maxRecDepth 100000 in
theorem pg_ok_172 : pg_okM 172 = true := by decide +kernel
set_option maxRecDepth 100000 in
theorem pg_ok_173 : pg_okM 173 = true := by decide +kernel
set_option maxRecDepth 100000 in
theorem pg_ok_174 : pg_okM 174 = true := by decide +kernel
set_option maxRecDepth 100000 in
theorem pg_ok_175 : pg_okM 175 = true := by decide +kernel
set_option maxRecDepth 100000 in
theorem pg_ok_176 : pg_okM 176 = true := by decide +kernel
set_option maxRecDepth 100000 in
theorem pg_ok_177 : pg_okM 177 = true := by decide +kernel
set_option maxRecDepth 100000 in
theorem pg_ok_178 : pg_okM 178 = true := by decide +kernel
