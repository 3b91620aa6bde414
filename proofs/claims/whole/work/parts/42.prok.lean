/-! The program is good: all checks together (by program: wip/whole/gen7.py). -/
abbrev okJ (j : Nat) : Prop := (∀ x ∈ mCode PR j, entOK PR j x) ∧ (∀ (x x2 : mEnt) (rest : List mEnt), x :: x2 :: rest <:+ mCode PR j → noFall x.2.1 = false → x2.1 = x.1 + ilen x.2.1) ∧ metOK PR j
set_option maxRecDepth 100000 in
theorem oj_0 : okJ 0 := chkM_spec (j := 0) ck_0
set_option maxRecDepth 100000 in
theorem oj_1 : okJ 1 := chkM_spec (j := 1) ck_1
set_option maxRecDepth 100000 in
theorem oj_2 : okJ 2 := chkM_spec (j := 2) ck_2
set_option maxRecDepth 100000 in
theorem oj_3 : okJ 3 := chkM_spec (j := 3) ck_3
set_option maxRecDepth 100000 in
theorem oj_4 : okJ 4 := chkM_spec (j := 4) ck_4
set_option maxRecDepth 100000 in
theorem oj_5 : okJ 5 := chkM_spec (j := 5) ck_5
set_option maxRecDepth 100000 in
theorem oj_6 : okJ 6 := chkM_spec (j := 6) ck_6
set_option maxRecDepth 100000 in
theorem oj_7 : okJ 7 := chkM_spec (j := 7) ck_7
set_option maxRecDepth 100000 in
theorem oj_8 : okJ 8 := chkM_spec (j := 8) ck_8
set_option maxRecDepth 100000 in
theorem oj_9 : okJ 9 := chkM_spec (j := 9) ck_9
set_option maxRecDepth 100000 in
theorem oj_10 : okJ 10 := chkM_spec (j := 10) ck_10
set_option maxRecDepth 100000 in
theorem oj_11 : okJ 11 := chkM_spec (j := 11) ck_11
set_option maxRecDepth 100000 in
theorem oj_12 : okJ 12 := chkM_spec (j := 12) ck_12
set_option maxRecDepth 100000 in
theorem oj_13 : okJ 13 := chkM_spec (j := 13) ck_13
set_option maxRecDepth 100000 in
theorem oj_14 : okJ 14 := chkM_spec (j := 14) ck_14
set_option maxRecDepth 100000 in
theorem oj_15 : okJ 15 := chkM_spec (j := 15) ck_15
set_option maxRecDepth 100000 in
theorem oj_16 : okJ 16 := chkM_spec (j := 16) ck_16
set_option maxRecDepth 100000 in
theorem oj_17 : okJ 17 := chkM_spec (j := 17) ck_17
set_option maxRecDepth 100000 in
theorem oj_18 : okJ 18 := chkM_spec (j := 18) ck_18
set_option maxRecDepth 100000 in
theorem oj_19 : okJ 19 := chkM_spec (j := 19) ck_19
set_option maxRecDepth 100000 in
theorem oj_20 : okJ 20 := chkM_spec (j := 20) ck_20
set_option maxRecDepth 100000 in
theorem oj_21 : okJ 21 := chkM_spec (j := 21) ck_21
set_option maxRecDepth 100000 in
theorem oj_22 : okJ 22 := chkM_spec (j := 22) ck_22
set_option maxRecDepth 100000 in
theorem oj_23 : okJ 23 := chkM_spec (j := 23) ck_23
set_option maxRecDepth 100000 in
theorem oj_24 : okJ 24 := chkM_spec (j := 24) ck_24
set_option maxRecDepth 100000 in
theorem oj_25 : okJ 25 := chkM_spec (j := 25) ck_25
set_option maxRecDepth 100000 in
theorem oj_26 : okJ 26 := chkM_spec (j := 26) ck_26
set_option maxRecDepth 100000 in
theorem oj_27 : okJ 27 := chkM_spec (j := 27) ck_27
set_option maxRecDepth 100000 in
theorem oj_28 : okJ 28 := chkM_spec (j := 28) ck_28
set_option maxRecDepth 100000 in
theorem oj_29 : okJ 29 := chkM_spec (j := 29) ck_29
set_option maxRecDepth 100000 in
theorem oj_30 : okJ 30 := chkM_spec (j := 30) ck_30
set_option maxRecDepth 100000 in
theorem oj_31 : okJ 31 := chkM_spec (j := 31) ck_31
set_option maxRecDepth 100000 in
theorem oj_32 : okJ 32 := chkM_spec (j := 32) ck_32
set_option maxRecDepth 100000 in
theorem oj_33 : okJ 33 := chkM_spec (j := 33) ck_33
set_option maxRecDepth 100000 in
theorem oj_34 : okJ 34 := chkM_spec (j := 34) ck_34
set_option maxRecDepth 100000 in
theorem oj_35 : okJ 35 := chkM_spec (j := 35) ck_35
set_option maxRecDepth 100000 in
theorem oj_36 : okJ 36 := chkM_spec (j := 36) ck_36
set_option maxRecDepth 100000 in
theorem oj_37 : okJ 37 := chkM_spec (j := 37) ck_37
set_option maxRecDepth 100000 in
theorem oj_38 : okJ 38 := chkM_spec (j := 38) ck_38
set_option maxRecDepth 100000 in
theorem oj_39 : okJ 39 := chkM_spec (j := 39) ck_39
set_option maxRecDepth 100000 in
theorem oj_40 : okJ 40 := chkM_spec (j := 40) ck_40
set_option maxRecDepth 100000 in
theorem oj_41 : okJ 41 := chkM_spec (j := 41) ck_41
set_option maxRecDepth 100000 in
theorem oj_42 : okJ 42 := chkM_spec (j := 42) ck_42
set_option maxRecDepth 100000 in
theorem oj_43 : okJ 43 := chkM_spec (j := 43) ck_43
set_option maxRecDepth 100000 in
theorem oj_44 : okJ 44 := chkM_spec (j := 44) ck_44
set_option maxRecDepth 100000 in
theorem oj_45 : okJ 45 := chkM_spec (j := 45) ck_45
set_option maxRecDepth 100000 in
theorem oj_46 : okJ 46 := chkM_spec (j := 46) ck_46
set_option maxRecDepth 100000 in
theorem oj_47 : okJ 47 := chkM_spec (j := 47) ck_47
set_option maxRecDepth 100000 in
theorem oj_48 : okJ 48 := chkM_spec (j := 48) ck_48
set_option maxRecDepth 100000 in
theorem oj_49 : okJ 49 := chkM_spec (j := 49) ck_49
set_option maxRecDepth 100000 in
theorem oj_50 : okJ 50 := chkM_spec (j := 50) ck_50
set_option maxRecDepth 100000 in
theorem oj_51 : okJ 51 := chkM_spec (j := 51) ck_51
set_option maxRecDepth 100000 in
theorem oj_52 : okJ 52 := chkM_spec (j := 52) ck_52
set_option maxRecDepth 100000 in
theorem oj_53 : okJ 53 := chkM_spec (j := 53) ck_53
set_option maxRecDepth 100000 in
theorem oj_54 : okJ 54 := chkM_spec (j := 54) ck_54
set_option maxRecDepth 100000 in
theorem oj_55 : okJ 55 := chkM_spec (j := 55) ck_55
set_option maxRecDepth 100000 in
theorem oj_56 : okJ 56 := chkM_spec (j := 56) ck_56
set_option maxRecDepth 100000 in
theorem oj_57 : okJ 57 := chkM_spec (j := 57) ck_57
set_option maxRecDepth 100000 in
theorem oj_58 : okJ 58 := chkM_spec (j := 58) ck_58
set_option maxRecDepth 100000 in
theorem oj_59 : okJ 59 := chkM_spec (j := 59) ck_59
set_option maxRecDepth 100000 in
theorem oj_60 : okJ 60 := chkM_spec (j := 60) ck_60
set_option maxRecDepth 100000 in
theorem oj_61 : okJ 61 := chkM_spec (j := 61) ck_61
set_option maxRecDepth 100000 in
theorem oj_62 : okJ 62 := chkM_spec (j := 62) ck_62
set_option maxRecDepth 100000 in
theorem oj_63 : okJ 63 := chkM_spec (j := 63) ck_63
set_option maxRecDepth 100000 in
theorem oj_64 : okJ 64 := chkM_spec (j := 64) ck_64
set_option maxRecDepth 100000 in
theorem oj_65 : okJ 65 := chkM_spec (j := 65) ck_65
set_option maxRecDepth 100000 in
theorem oj_66 : okJ 66 := chkM_spec (j := 66) ck_66
set_option maxRecDepth 100000 in
theorem oj_67 : okJ 67 := chkM_spec (j := 67) ck_67
set_option maxRecDepth 100000 in
theorem oj_68 : okJ 68 := chkM_spec (j := 68) ck_68
set_option maxRecDepth 100000 in
theorem oj_69 : okJ 69 := chkM_spec (j := 69) ck_69
set_option maxRecDepth 100000 in
theorem oj_70 : okJ 70 := chkM_spec (j := 70) ck_70
set_option maxRecDepth 100000 in
theorem oj_71 : okJ 71 := chkM_spec (j := 71) ck_71
set_option maxRecDepth 100000 in
theorem oj_72 : okJ 72 := chkM_spec (j := 72) ck_72
set_option maxRecDepth 100000 in
theorem oj_73 : okJ 73 := chkM_spec (j := 73) ck_73
set_option maxRecDepth 100000 in
theorem oj_74 : okJ 74 := chkM_spec (j := 74) ck_74
set_option maxRecDepth 100000 in
theorem oj_75 : okJ 75 := chkM_spec (j := 75) ck_75
set_option maxRecDepth 100000 in
theorem oj_76 : okJ 76 := chkM_spec (j := 76) ck_76
set_option maxRecDepth 100000 in
theorem oj_77 : okJ 77 := chkM_spec (j := 77) ck_77
set_option maxRecDepth 100000 in
theorem oj_78 : okJ 78 := chkM_spec (j := 78) ck_78
set_option maxRecDepth 100000 in
theorem oj_79 : okJ 79 := chkM_spec (j := 79) ck_79
set_option maxRecDepth 100000 in
theorem oj_80 : okJ 80 := chkM_spec (j := 80) ck_80
set_option maxRecDepth 100000 in
theorem oj_81 : okJ 81 := chkM_spec (j := 81) ck_81
set_option maxRecDepth 100000 in
theorem oj_82 : okJ 82 := chkM_spec (j := 82) ck_82
set_option maxRecDepth 100000 in
theorem oj_83 : okJ 83 := chkM_spec (j := 83) ck_83
set_option maxRecDepth 100000 in
theorem oj_84 : okJ 84 := chkM_spec (j := 84) ck_84
set_option maxRecDepth 100000 in
theorem oj_85 : okJ 85 := chkM_spec (j := 85) ck_85
set_option maxRecDepth 100000 in
theorem oj_86 : okJ 86 := chkM_spec (j := 86) ck_86
set_option maxRecDepth 100000 in
theorem oj_87 : okJ 87 := chkM_spec (j := 87) ck_87
set_option maxRecDepth 100000 in
theorem oj_88 : okJ 88 := chkM_spec (j := 88) ck_88
set_option maxRecDepth 100000 in
theorem oj_89 : okJ 89 := chkM_spec (j := 89) ck_89
set_option maxRecDepth 100000 in
theorem oj_90 : okJ 90 := chkM_spec (j := 90) ck_90
set_option maxRecDepth 100000 in
theorem oj_91 : okJ 91 := chkM_spec (j := 91) ck_91
set_option maxRecDepth 100000 in
theorem oj_92 : okJ 92 := chkM_spec (j := 92) ck_92
set_option maxRecDepth 100000 in
theorem oj_93 : okJ 93 := chkM_spec (j := 93) ck_93
set_option maxRecDepth 100000 in
theorem oj_94 : okJ 94 := chkM_spec (j := 94) ck_94
set_option maxRecDepth 100000 in
theorem oj_95 : okJ 95 := chkM_spec (j := 95) ck_95
set_option maxRecDepth 100000 in
theorem oj_96 : okJ 96 := chkM_spec (j := 96) ck_96
set_option maxRecDepth 100000 in
theorem oj_97 : okJ 97 := chkM_spec (j := 97) ck_97
set_option maxRecDepth 100000 in
theorem oj_98 : okJ 98 := chkM_spec (j := 98) ck_98
set_option maxRecDepth 100000 in
theorem oj_99 : okJ 99 := chkM_spec (j := 99) ck_99
set_option maxRecDepth 100000 in
theorem oj_100 : okJ 100 := chkM_spec (j := 100) ck_100
set_option maxRecDepth 100000 in
theorem oj_101 : okJ 101 := chkM_spec (j := 101) ck_101
set_option maxRecDepth 100000 in
theorem oj_102 : okJ 102 := chkM_spec (j := 102) ck_102
set_option maxRecDepth 100000 in
theorem oj_103 : okJ 103 := chkM_spec (j := 103) ck_103
set_option maxRecDepth 100000 in
theorem oj_104 : okJ 104 := chkM_spec (j := 104) ck_104
set_option maxRecDepth 100000 in
theorem oj_105 : okJ 105 := chkM_spec (j := 105) ck_105
set_option maxRecDepth 100000 in
theorem oj_106 : okJ 106 := chkM_spec (j := 106) ck_106
set_option maxRecDepth 100000 in
theorem oj_107 : okJ 107 := chkM_spec (j := 107) ck_107
set_option maxRecDepth 100000 in
theorem oj_108 : okJ 108 := chkM_spec (j := 108) ck_108
set_option maxRecDepth 100000 in
theorem oj_109 : okJ 109 := chkM_spec (j := 109) ck_109
set_option maxRecDepth 100000 in
theorem oj_110 : okJ 110 := chkM_spec (j := 110) ck_110
set_option maxRecDepth 100000 in
theorem oj_111 : okJ 111 := chkM_spec (j := 111) ck_111
set_option maxRecDepth 100000 in
theorem oj_112 : okJ 112 := chkM_spec (j := 112) ck_112
set_option maxRecDepth 100000 in
theorem oj_113 : okJ 113 := chkM_spec (j := 113) ck_113
set_option maxRecDepth 100000 in
theorem oj_114 : okJ 114 := chkM_spec (j := 114) ck_114
set_option maxRecDepth 100000 in
theorem oj_115 : okJ 115 := chkM_spec (j := 115) ck_115
set_option maxRecDepth 100000 in
theorem oj_116 : okJ 116 := chkM_spec (j := 116) ck_116
set_option maxRecDepth 100000 in
theorem oj_117 : okJ 117 := chkM_spec (j := 117) ck_117
set_option maxRecDepth 100000 in
theorem oj_118 : okJ 118 := chkM_spec (j := 118) ck_118
set_option maxRecDepth 100000 in
theorem oj_119 : okJ 119 := chkM_spec (j := 119) ck_119
set_option maxRecDepth 100000 in
theorem oj_120 : okJ 120 := chkM_spec (j := 120) ck_120
set_option maxRecDepth 100000 in
theorem oj_121 : okJ 121 := chkM_spec (j := 121) ck_121
set_option maxRecDepth 100000 in
theorem oj_122 : okJ 122 := chkM_spec (j := 122) ck_122
set_option maxRecDepth 100000 in
theorem oj_123 : okJ 123 := chkM_spec (j := 123) ck_123
set_option maxRecDepth 100000 in
theorem oj_124 : okJ 124 := chkM_spec (j := 124) ck_124
set_option maxRecDepth 100000 in
theorem oj_125 : okJ 125 := chkM_spec (j := 125) ck_125
set_option maxRecDepth 100000 in
theorem oj_126 : okJ 126 := chkM_spec (j := 126) ck_126
set_option maxRecDepth 100000 in
theorem oj_127 : okJ 127 := chkM_spec (j := 127) ck_127
set_option maxRecDepth 100000 in
theorem oj_128 : okJ 128 := chkM_spec (j := 128) ck_128
set_option maxRecDepth 100000 in
theorem oj_129 : okJ 129 := chkM_spec (j := 129) ck_129
set_option maxRecDepth 100000 in
theorem oj_130 : okJ 130 := chkM_spec (j := 130) ck_130
set_option maxRecDepth 100000 in
theorem oj_131 : okJ 131 := chkM_spec (j := 131) ck_131
set_option maxRecDepth 100000 in
theorem oj_132 : okJ 132 := chkM_spec (j := 132) ck_132
set_option maxRecDepth 100000 in
theorem oj_133 : okJ 133 := chkM_spec (j := 133) ck_133
set_option maxRecDepth 100000 in
theorem oj_134 : okJ 134 := chkM_spec (j := 134) ck_134
set_option maxRecDepth 100000 in
theorem oj_135 : okJ 135 := chkM_spec (j := 135) ck_135
set_option maxRecDepth 100000 in
theorem oj_136 : okJ 136 := chkM_spec (j := 136) ck_136
set_option maxRecDepth 100000 in
theorem oj_137 : okJ 137 := chkM_spec (j := 137) ck_137
set_option maxRecDepth 100000 in
theorem oj_138 : okJ 138 := chkM_spec (j := 138) ck_138
set_option maxRecDepth 100000 in
theorem oj_139 : okJ 139 := chkM_spec (j := 139) ck_139
set_option maxRecDepth 100000 in
theorem oj_140 : okJ 140 := chkM_spec (j := 140) ck_140
set_option maxRecDepth 100000 in
theorem oj_141 : okJ 141 := chkM_spec (j := 141) ck_141
set_option maxRecDepth 100000 in
theorem oj_142 : okJ 142 := chkM_spec (j := 142) ck_142
set_option maxRecDepth 100000 in
theorem oj_143 : okJ 143 := chkM_spec (j := 143) ck_143
set_option maxRecDepth 100000 in
theorem oj_144 : okJ 144 := chkM_spec (j := 144) ck_144
set_option maxRecDepth 100000 in
theorem oj_145 : okJ 145 := chkM_spec (j := 145) ck_145
set_option maxRecDepth 100000 in
theorem oj_146 : okJ 146 := chkM_spec (j := 146) ck_146
set_option maxRecDepth 100000 in
theorem oj_147 : okJ 147 := chkM_spec (j := 147) ck_147
set_option maxRecDepth 100000 in
theorem oj_148 : okJ 148 := chkM_spec (j := 148) ck_148
set_option maxRecDepth 100000 in
theorem oj_149 : okJ 149 := chkM_spec (j := 149) ck_149
set_option maxRecDepth 100000 in
theorem oj_150 : okJ 150 := chkM_spec (j := 150) ck_150
set_option maxRecDepth 100000 in
theorem oj_151 : okJ 151 := chkM_spec (j := 151) ck_151
set_option maxRecDepth 100000 in
theorem oj_152 : okJ 152 := chkM_spec (j := 152) ck_152
set_option maxRecDepth 100000 in
theorem oj_153 : okJ 153 := chkM_spec (j := 153) ck_153
set_option maxRecDepth 100000 in
theorem oj_154 : okJ 154 := chkM_spec (j := 154) ck_154
set_option maxRecDepth 100000 in
theorem oj_155 : okJ 155 := chkM_spec (j := 155) ck_155
set_option maxRecDepth 100000 in
theorem oj_156 : okJ 156 := chkM_spec (j := 156) ck_156
set_option maxRecDepth 100000 in
theorem oj_157 : okJ 157 := chkM_spec (j := 157) ck_157
set_option maxRecDepth 100000 in
theorem oj_158 : okJ 158 := chkM_spec (j := 158) ck_158
set_option maxRecDepth 100000 in
theorem oj_159 : okJ 159 := chkM_spec (j := 159) ck_159
set_option maxRecDepth 100000 in
theorem oj_160 : okJ 160 := chkM_spec (j := 160) ck_160
set_option maxRecDepth 100000 in
theorem oj_161 : okJ 161 := chkM_spec (j := 161) ck_161
set_option maxRecDepth 100000 in
theorem oj_162 : okJ 162 := chkM_spec (j := 162) ck_162
set_option maxRecDepth 100000 in
theorem oj_163 : okJ 163 := chkM_spec (j := 163) ck_163
set_option maxRecDepth 100000 in
theorem oj_164 : okJ 164 := chkM_spec (j := 164) ck_164
set_option maxRecDepth 100000 in
theorem oj_165 : okJ 165 := chkM_spec (j := 165) ck_165
set_option maxRecDepth 100000 in
theorem oj_166 : okJ 166 := chkM_spec (j := 166) ck_166
set_option maxRecDepth 100000 in
theorem oj_167 : okJ 167 := chkM_spec (j := 167) ck_167
set_option maxRecDepth 100000 in
theorem oj_168 : okJ 168 := chkM_spec (j := 168) ck_168
set_option maxRecDepth 100000 in
theorem oj_169 : okJ 169 := chkM_spec (j := 169) ck_169
set_option maxRecDepth 100000 in
theorem oj_170 : okJ 170 := chkM_spec (j := 170) ck_170
set_option maxRecDepth 100000 in
theorem oj_171 : okJ 171 := chkM_spec (j := 171) ck_171
set_option maxRecDepth 100000 in
theorem oj_172 : okJ 172 := chkM_spec (j := 172) ck_172
set_option maxRecDepth 100000 in
theorem oj_173 : okJ 173 := chkM_spec (j := 173) ck_173
set_option maxRecDepth 100000 in
theorem oj_174 : okJ 174 := chkM_spec (j := 174) ck_174
set_option maxRecDepth 100000 in
theorem oj_175 : okJ 175 := chkM_spec (j := 175) ck_175
set_option maxRecDepth 100000 in
theorem oj_176 : okJ 176 := chkM_spec (j := 176) ck_176
set_option maxRecDepth 100000 in
theorem oj_177 : okJ 177 := chkM_spec (j := 177) ck_177
set_option maxRecDepth 100000 in
theorem oj_178 : okJ 178 := chkM_spec (j := 178) ck_178
set_option maxRecDepth 100000 in
theorem oj_179 : okJ 179 := chkM_spec (j := 179) ck_179
set_option maxRecDepth 100000 in
theorem oj_180 : okJ 180 := chkM_spec (j := 180) ck_180
set_option maxRecDepth 100000 in
theorem oj_181 : okJ 181 := chkM_spec (j := 181) ck_181
set_option maxRecDepth 100000 in
theorem oj_182 : okJ 182 := chkM_spec (j := 182) ck_182
set_option maxRecDepth 100000 in
theorem oj_183 : okJ 183 := chkM_spec (j := 183) ck_183
set_option maxRecDepth 100000 in
theorem oj_184 : okJ 184 := chkM_spec (j := 184) ck_184
set_option maxRecDepth 100000 in
theorem oj_185 : okJ 185 := chkM_spec (j := 185) ck_185
set_option maxRecDepth 100000 in
theorem oj_186 : okJ 186 := chkM_spec (j := 186) ck_186
set_option maxRecDepth 100000 in
theorem oj_187 : okJ 187 := chkM_spec (j := 187) ck_187
set_option maxRecDepth 100000 in
theorem oj_188 : okJ 188 := chkM_spec (j := 188) ck_188
set_option maxRecDepth 100000 in
theorem oj_189 : okJ 189 := chkM_spec (j := 189) ck_189
set_option maxRecDepth 100000 in
theorem oj_190 : okJ 190 := chkM_spec (j := 190) ck_190
set_option maxRecDepth 100000 in
theorem oj_191 : okJ 191 := chkM_spec (j := 191) ck_191
set_option maxRecDepth 100000 in
theorem oj_192 : okJ 192 := chkM_spec (j := 192) ck_192
set_option maxRecDepth 100000 in
theorem oj_193 : okJ 193 := chkM_spec (j := 193) ck_193
set_option maxRecDepth 100000 in
theorem oj_194 : okJ 194 := chkM_spec (j := 194) ck_194
set_option maxRecDepth 100000 in
theorem oj_195 : okJ 195 := chkM_spec (j := 195) ck_195
set_option maxRecDepth 100000 in
theorem oj_196 : okJ 196 := chkM_spec (j := 196) ck_196
set_option maxRecDepth 100000 in
theorem oj_197 : okJ 197 := chkM_spec (j := 197) ck_197
set_option maxRecDepth 100000 in
theorem oj_198 : okJ 198 := chkM_spec (j := 198) ck_198
set_option maxRecDepth 100000 in
theorem oj_199 : okJ 199 := chkM_spec (j := 199) ck_199
set_option maxRecDepth 100000 in
theorem oj_200 : okJ 200 := chkM_spec (j := 200) ck_200
set_option maxRecDepth 100000 in
theorem oj_201 : okJ 201 := chkM_spec (j := 201) ck_201
set_option maxRecDepth 100000 in
theorem oj_202 : okJ 202 := chkM_spec (j := 202) ck_202
set_option maxRecDepth 100000 in
theorem oj_203 : okJ 203 := chkM_spec (j := 203) ck_203
set_option maxRecDepth 100000 in
theorem oj_204 : okJ 204 := chkM_spec (j := 204) ck_204
set_option maxRecDepth 100000 in
theorem oj_205 : okJ 205 := chkM_spec (j := 205) ck_205
set_option maxRecDepth 100000 in
theorem oj_206 : okJ 206 := chkM_spec (j := 206) ck_206
set_option maxRecDepth 100000 in
theorem oj_207 : okJ 207 := chkM_spec (j := 207) ck_207
set_option maxRecDepth 100000 in
theorem oj_208 : okJ 208 := chkM_spec (j := 208) ck_208
set_option maxRecDepth 100000 in
theorem oj_209 : okJ 209 := chkM_spec (j := 209) ck_209
set_option maxRecDepth 100000 in
theorem oj_210 : okJ 210 := chkM_spec (j := 210) ck_210
set_option maxRecDepth 100000 in
theorem oj_211 : okJ 211 := chkM_spec (j := 211) ck_211
set_option maxRecDepth 100000 in
theorem oj_212 : okJ 212 := chkM_spec (j := 212) ck_212
set_option maxRecDepth 100000 in
theorem oj_213 : okJ 213 := chkM_spec (j := 213) ck_213
set_option maxRecDepth 100000 in
theorem oj_214 : okJ 214 := chkM_spec (j := 214) ck_214
set_option maxRecDepth 100000 in
theorem oj_215 : okJ 215 := chkM_spec (j := 215) ck_215
set_option maxRecDepth 100000 in
theorem oj_216 : okJ 216 := chkM_spec (j := 216) ck_216
set_option maxRecDepth 100000 in
theorem oj_217 : okJ 217 := chkM_spec (j := 217) ck_217
set_option maxRecDepth 100000 in
theorem oj_218 : okJ 218 := chkM_spec (j := 218) ck_218
set_option maxRecDepth 100000 in
theorem oj_219 : okJ 219 := chkM_spec (j := 219) ck_219
set_option maxRecDepth 100000 in
theorem oj_220 : okJ 220 := chkM_spec (j := 220) ck_220
set_option maxRecDepth 100000 in
theorem oj_221 : okJ 221 := chkM_spec (j := 221) ck_221
set_option maxRecDepth 100000 in
theorem oj_222 : okJ 222 := chkM_spec (j := 222) ck_222
set_option maxRecDepth 100000 in
theorem oj_223 : okJ 223 := chkM_spec (j := 223) ck_223
set_option maxRecDepth 100000 in
theorem oj_224 : okJ 224 := chkM_spec (j := 224) ck_224
set_option maxRecDepth 100000 in
theorem oj_225 : okJ 225 := chkM_spec (j := 225) ck_225
set_option maxRecDepth 100000 in
theorem oj_226 : okJ 226 := chkM_spec (j := 226) ck_226
set_option maxRecDepth 100000 in
theorem oj_227 : okJ 227 := chkM_spec (j := 227) ck_227
set_option maxRecDepth 100000 in
theorem oj_228 : okJ 228 := chkM_spec (j := 228) ck_228
set_option maxRecDepth 100000 in
theorem oj_229 : okJ 229 := chkM_spec (j := 229) ck_229
set_option maxRecDepth 100000 in
theorem oj_230 : okJ 230 := chkM_spec (j := 230) ck_230
set_option maxRecDepth 100000 in
theorem oj_231 : okJ 231 := chkM_spec (j := 231) ck_231
set_option maxRecDepth 100000 in
theorem oj_232 : okJ 232 := chkM_spec (j := 232) ck_232
set_option maxRecDepth 100000 in
theorem oj_233 : okJ 233 := chkM_spec (j := 233) ck_233
set_option maxRecDepth 100000 in
theorem oj_234 : okJ 234 := chkM_spec (j := 234) ck_234
set_option maxRecDepth 100000 in
theorem oj_235 : okJ 235 := chkM_spec (j := 235) ck_235
set_option maxRecDepth 100000 in
theorem oj_236 : okJ 236 := chkM_spec (j := 236) ck_236
set_option maxRecDepth 100000 in
theorem oj_237 : okJ 237 := chkM_spec (j := 237) ck_237
set_option maxRecDepth 100000 in
theorem oj_238 : okJ 238 := chkM_spec (j := 238) ck_238
set_option maxRecDepth 100000 in
theorem oj_239 : okJ 239 := chkM_spec (j := 239) ck_239
set_option maxRecDepth 100000 in
theorem oj_240 : okJ 240 := chkM_spec (j := 240) ck_240
set_option maxRecDepth 100000 in
theorem oj_241 : okJ 241 := chkM_spec (j := 241) ck_241
set_option maxRecDepth 100000 in
theorem oj_242 : okJ 242 := chkM_spec (j := 242) ck_242
set_option maxRecDepth 100000 in
theorem oj_243 : okJ 243 := chkM_spec (j := 243) ck_243
set_option maxRecDepth 100000 in
theorem oj_244 : okJ 244 := chkM_spec (j := 244) ck_244
set_option maxRecDepth 100000 in
theorem oj_245 : okJ 245 := chkM_spec (j := 245) ck_245
set_option maxRecDepth 100000 in
theorem oj_246 : okJ 246 := chkM_spec (j := 246) ck_246
set_option maxRecDepth 100000 in
theorem oj_247 : okJ 247 := chkM_spec (j := 247) ck_247
set_option maxRecDepth 100000 in
theorem oj_248 : okJ 248 := chkM_spec (j := 248) ck_248
set_option maxRecDepth 100000 in
theorem oj_249 : okJ 249 := chkM_spec (j := 249) ck_249
set_option maxRecDepth 100000 in
theorem oj_250 : okJ 250 := chkM_spec (j := 250) ck_250
set_option maxRecDepth 100000 in
theorem oj_251 : okJ 251 := chkM_spec (j := 251) ck_251
set_option maxRecDepth 100000 in
theorem oj_252 : okJ 252 := chkM_spec (j := 252) ck_252
set_option maxRecDepth 100000 in
theorem oj_253 : okJ 253 := chkM_spec (j := 253) ck_253
set_option maxRecDepth 100000 in
theorem oj_254 : okJ 254 := chkM_spec (j := 254) ck_254
set_option maxRecDepth 100000 in
theorem oj_255 : okJ 255 := chkM_spec (j := 255) ck_255
set_option maxRecDepth 100000 in
theorem oj_256 : okJ 256 := chkM_spec (j := 256) ck_256
set_option maxRecDepth 100000 in
theorem oj_257 : okJ 257 := chkM_spec (j := 257) ck_257
theorem oj_258 : okJ 258 := okl_258
theorem oc_0 : ∀ j ∈ ([0, 1, 2, 3, 4, 5, 6, 7, 8, 9, 10, 11, 12, 13, 14, 15] : List Nat), okJ j := List.forall_mem_cons.mpr ⟨oj_0, List.forall_mem_cons.mpr ⟨oj_1, List.forall_mem_cons.mpr ⟨oj_2, List.forall_mem_cons.mpr ⟨oj_3, List.forall_mem_cons.mpr ⟨oj_4, List.forall_mem_cons.mpr ⟨oj_5, List.forall_mem_cons.mpr ⟨oj_6, List.forall_mem_cons.mpr ⟨oj_7, List.forall_mem_cons.mpr ⟨oj_8, List.forall_mem_cons.mpr ⟨oj_9, List.forall_mem_cons.mpr ⟨oj_10, List.forall_mem_cons.mpr ⟨oj_11, List.forall_mem_cons.mpr ⟨oj_12, List.forall_mem_cons.mpr ⟨oj_13, List.forall_mem_cons.mpr ⟨oj_14, List.forall_mem_cons.mpr ⟨oj_15, List.forall_mem_nil _⟩⟩⟩⟩⟩⟩⟩⟩⟩⟩⟩⟩⟩⟩⟩⟩
theorem oc_1 : ∀ j ∈ ([16, 17, 18, 19, 20, 21, 22, 23, 24, 25, 26, 27, 28, 29, 30, 31] : List Nat), okJ j := List.forall_mem_cons.mpr ⟨oj_16, List.forall_mem_cons.mpr ⟨oj_17, List.forall_mem_cons.mpr ⟨oj_18, List.forall_mem_cons.mpr ⟨oj_19, List.forall_mem_cons.mpr ⟨oj_20, List.forall_mem_cons.mpr ⟨oj_21, List.forall_mem_cons.mpr ⟨oj_22, List.forall_mem_cons.mpr ⟨oj_23, List.forall_mem_cons.mpr ⟨oj_24, List.forall_mem_cons.mpr ⟨oj_25, List.forall_mem_cons.mpr ⟨oj_26, List.forall_mem_cons.mpr ⟨oj_27, List.forall_mem_cons.mpr ⟨oj_28, List.forall_mem_cons.mpr ⟨oj_29, List.forall_mem_cons.mpr ⟨oj_30, List.forall_mem_cons.mpr ⟨oj_31, List.forall_mem_nil _⟩⟩⟩⟩⟩⟩⟩⟩⟩⟩⟩⟩⟩⟩⟩⟩
theorem oc_2 : ∀ j ∈ ([32, 33, 34, 35, 36, 37, 38, 39, 40, 41, 42, 43, 44, 45, 46, 47] : List Nat), okJ j := List.forall_mem_cons.mpr ⟨oj_32, List.forall_mem_cons.mpr ⟨oj_33, List.forall_mem_cons.mpr ⟨oj_34, List.forall_mem_cons.mpr ⟨oj_35, List.forall_mem_cons.mpr ⟨oj_36, List.forall_mem_cons.mpr ⟨oj_37, List.forall_mem_cons.mpr ⟨oj_38, List.forall_mem_cons.mpr ⟨oj_39, List.forall_mem_cons.mpr ⟨oj_40, List.forall_mem_cons.mpr ⟨oj_41, List.forall_mem_cons.mpr ⟨oj_42, List.forall_mem_cons.mpr ⟨oj_43, List.forall_mem_cons.mpr ⟨oj_44, List.forall_mem_cons.mpr ⟨oj_45, List.forall_mem_cons.mpr ⟨oj_46, List.forall_mem_cons.mpr ⟨oj_47, List.forall_mem_nil _⟩⟩⟩⟩⟩⟩⟩⟩⟩⟩⟩⟩⟩⟩⟩⟩
theorem oc_3 : ∀ j ∈ ([48, 49, 50, 51, 52, 53, 54, 55, 56, 57, 58, 59, 60, 61, 62, 63] : List Nat), okJ j := List.forall_mem_cons.mpr ⟨oj_48, List.forall_mem_cons.mpr ⟨oj_49, List.forall_mem_cons.mpr ⟨oj_50, List.forall_mem_cons.mpr ⟨oj_51, List.forall_mem_cons.mpr ⟨oj_52, List.forall_mem_cons.mpr ⟨oj_53, List.forall_mem_cons.mpr ⟨oj_54, List.forall_mem_cons.mpr ⟨oj_55, List.forall_mem_cons.mpr ⟨oj_56, List.forall_mem_cons.mpr ⟨oj_57, List.forall_mem_cons.mpr ⟨oj_58, List.forall_mem_cons.mpr ⟨oj_59, List.forall_mem_cons.mpr ⟨oj_60, List.forall_mem_cons.mpr ⟨oj_61, List.forall_mem_cons.mpr ⟨oj_62, List.forall_mem_cons.mpr ⟨oj_63, List.forall_mem_nil _⟩⟩⟩⟩⟩⟩⟩⟩⟩⟩⟩⟩⟩⟩⟩⟩
theorem oc_4 : ∀ j ∈ ([64, 65, 66, 67, 68, 69, 70, 71, 72, 73, 74, 75, 76, 77, 78, 79] : List Nat), okJ j := List.forall_mem_cons.mpr ⟨oj_64, List.forall_mem_cons.mpr ⟨oj_65, List.forall_mem_cons.mpr ⟨oj_66, List.forall_mem_cons.mpr ⟨oj_67, List.forall_mem_cons.mpr ⟨oj_68, List.forall_mem_cons.mpr ⟨oj_69, List.forall_mem_cons.mpr ⟨oj_70, List.forall_mem_cons.mpr ⟨oj_71, List.forall_mem_cons.mpr ⟨oj_72, List.forall_mem_cons.mpr ⟨oj_73, List.forall_mem_cons.mpr ⟨oj_74, List.forall_mem_cons.mpr ⟨oj_75, List.forall_mem_cons.mpr ⟨oj_76, List.forall_mem_cons.mpr ⟨oj_77, List.forall_mem_cons.mpr ⟨oj_78, List.forall_mem_cons.mpr ⟨oj_79, List.forall_mem_nil _⟩⟩⟩⟩⟩⟩⟩⟩⟩⟩⟩⟩⟩⟩⟩⟩
theorem oc_5 : ∀ j ∈ ([80, 81, 82, 83, 84, 85, 86, 87, 88, 89, 90, 91, 92, 93, 94, 95] : List Nat), okJ j := List.forall_mem_cons.mpr ⟨oj_80, List.forall_mem_cons.mpr ⟨oj_81, List.forall_mem_cons.mpr ⟨oj_82, List.forall_mem_cons.mpr ⟨oj_83, List.forall_mem_cons.mpr ⟨oj_84, List.forall_mem_cons.mpr ⟨oj_85, List.forall_mem_cons.mpr ⟨oj_86, List.forall_mem_cons.mpr ⟨oj_87, List.forall_mem_cons.mpr ⟨oj_88, List.forall_mem_cons.mpr ⟨oj_89, List.forall_mem_cons.mpr ⟨oj_90, List.forall_mem_cons.mpr ⟨oj_91, List.forall_mem_cons.mpr ⟨oj_92, List.forall_mem_cons.mpr ⟨oj_93, List.forall_mem_cons.mpr ⟨oj_94, List.forall_mem_cons.mpr ⟨oj_95, List.forall_mem_nil _⟩⟩⟩⟩⟩⟩⟩⟩⟩⟩⟩⟩⟩⟩⟩⟩
theorem oc_6 : ∀ j ∈ ([96, 97, 98, 99, 100, 101, 102, 103, 104, 105, 106, 107, 108, 109, 110, 111] : List Nat), okJ j := List.forall_mem_cons.mpr ⟨oj_96, List.forall_mem_cons.mpr ⟨oj_97, List.forall_mem_cons.mpr ⟨oj_98, List.forall_mem_cons.mpr ⟨oj_99, List.forall_mem_cons.mpr ⟨oj_100, List.forall_mem_cons.mpr ⟨oj_101, List.forall_mem_cons.mpr ⟨oj_102, List.forall_mem_cons.mpr ⟨oj_103, List.forall_mem_cons.mpr ⟨oj_104, List.forall_mem_cons.mpr ⟨oj_105, List.forall_mem_cons.mpr ⟨oj_106, List.forall_mem_cons.mpr ⟨oj_107, List.forall_mem_cons.mpr ⟨oj_108, List.forall_mem_cons.mpr ⟨oj_109, List.forall_mem_cons.mpr ⟨oj_110, List.forall_mem_cons.mpr ⟨oj_111, List.forall_mem_nil _⟩⟩⟩⟩⟩⟩⟩⟩⟩⟩⟩⟩⟩⟩⟩⟩
theorem oc_7 : ∀ j ∈ ([112, 113, 114, 115, 116, 117, 118, 119, 120, 121, 122, 123, 124, 125, 126, 127] : List Nat), okJ j := List.forall_mem_cons.mpr ⟨oj_112, List.forall_mem_cons.mpr ⟨oj_113, List.forall_mem_cons.mpr ⟨oj_114, List.forall_mem_cons.mpr ⟨oj_115, List.forall_mem_cons.mpr ⟨oj_116, List.forall_mem_cons.mpr ⟨oj_117, List.forall_mem_cons.mpr ⟨oj_118, List.forall_mem_cons.mpr ⟨oj_119, List.forall_mem_cons.mpr ⟨oj_120, List.forall_mem_cons.mpr ⟨oj_121, List.forall_mem_cons.mpr ⟨oj_122, List.forall_mem_cons.mpr ⟨oj_123, List.forall_mem_cons.mpr ⟨oj_124, List.forall_mem_cons.mpr ⟨oj_125, List.forall_mem_cons.mpr ⟨oj_126, List.forall_mem_cons.mpr ⟨oj_127, List.forall_mem_nil _⟩⟩⟩⟩⟩⟩⟩⟩⟩⟩⟩⟩⟩⟩⟩⟩
theorem oc_8 : ∀ j ∈ ([128, 129, 130, 131, 132, 133, 134, 135, 136, 137, 138, 139, 140, 141, 142, 143] : List Nat), okJ j := List.forall_mem_cons.mpr ⟨oj_128, List.forall_mem_cons.mpr ⟨oj_129, List.forall_mem_cons.mpr ⟨oj_130, List.forall_mem_cons.mpr ⟨oj_131, List.forall_mem_cons.mpr ⟨oj_132, List.forall_mem_cons.mpr ⟨oj_133, List.forall_mem_cons.mpr ⟨oj_134, List.forall_mem_cons.mpr ⟨oj_135, List.forall_mem_cons.mpr ⟨oj_136, List.forall_mem_cons.mpr ⟨oj_137, List.forall_mem_cons.mpr ⟨oj_138, List.forall_mem_cons.mpr ⟨oj_139, List.forall_mem_cons.mpr ⟨oj_140, List.forall_mem_cons.mpr ⟨oj_141, List.forall_mem_cons.mpr ⟨oj_142, List.forall_mem_cons.mpr ⟨oj_143, List.forall_mem_nil _⟩⟩⟩⟩⟩⟩⟩⟩⟩⟩⟩⟩⟩⟩⟩⟩
theorem oc_9 : ∀ j ∈ ([144, 145, 146, 147, 148, 149, 150, 151, 152, 153, 154, 155, 156, 157, 158, 159] : List Nat), okJ j := List.forall_mem_cons.mpr ⟨oj_144, List.forall_mem_cons.mpr ⟨oj_145, List.forall_mem_cons.mpr ⟨oj_146, List.forall_mem_cons.mpr ⟨oj_147, List.forall_mem_cons.mpr ⟨oj_148, List.forall_mem_cons.mpr ⟨oj_149, List.forall_mem_cons.mpr ⟨oj_150, List.forall_mem_cons.mpr ⟨oj_151, List.forall_mem_cons.mpr ⟨oj_152, List.forall_mem_cons.mpr ⟨oj_153, List.forall_mem_cons.mpr ⟨oj_154, List.forall_mem_cons.mpr ⟨oj_155, List.forall_mem_cons.mpr ⟨oj_156, List.forall_mem_cons.mpr ⟨oj_157, List.forall_mem_cons.mpr ⟨oj_158, List.forall_mem_cons.mpr ⟨oj_159, List.forall_mem_nil _⟩⟩⟩⟩⟩⟩⟩⟩⟩⟩⟩⟩⟩⟩⟩⟩
theorem oc_10 : ∀ j ∈ ([160, 161, 162, 163, 164, 165, 166, 167, 168, 169, 170, 171, 172, 173, 174, 175] : List Nat), okJ j := List.forall_mem_cons.mpr ⟨oj_160, List.forall_mem_cons.mpr ⟨oj_161, List.forall_mem_cons.mpr ⟨oj_162, List.forall_mem_cons.mpr ⟨oj_163, List.forall_mem_cons.mpr ⟨oj_164, List.forall_mem_cons.mpr ⟨oj_165, List.forall_mem_cons.mpr ⟨oj_166, List.forall_mem_cons.mpr ⟨oj_167, List.forall_mem_cons.mpr ⟨oj_168, List.forall_mem_cons.mpr ⟨oj_169, List.forall_mem_cons.mpr ⟨oj_170, List.forall_mem_cons.mpr ⟨oj_171, List.forall_mem_cons.mpr ⟨oj_172, List.forall_mem_cons.mpr ⟨oj_173, List.forall_mem_cons.mpr ⟨oj_174, List.forall_mem_cons.mpr ⟨oj_175, List.forall_mem_nil _⟩⟩⟩⟩⟩⟩⟩⟩⟩⟩⟩⟩⟩⟩⟩⟩
theorem oc_11 : ∀ j ∈ ([176, 177, 178, 179, 180, 181, 182, 183, 184, 185, 186, 187, 188, 189, 190, 191] : List Nat), okJ j := List.forall_mem_cons.mpr ⟨oj_176, List.forall_mem_cons.mpr ⟨oj_177, List.forall_mem_cons.mpr ⟨oj_178, List.forall_mem_cons.mpr ⟨oj_179, List.forall_mem_cons.mpr ⟨oj_180, List.forall_mem_cons.mpr ⟨oj_181, List.forall_mem_cons.mpr ⟨oj_182, List.forall_mem_cons.mpr ⟨oj_183, List.forall_mem_cons.mpr ⟨oj_184, List.forall_mem_cons.mpr ⟨oj_185, List.forall_mem_cons.mpr ⟨oj_186, List.forall_mem_cons.mpr ⟨oj_187, List.forall_mem_cons.mpr ⟨oj_188, List.forall_mem_cons.mpr ⟨oj_189, List.forall_mem_cons.mpr ⟨oj_190, List.forall_mem_cons.mpr ⟨oj_191, List.forall_mem_nil _⟩⟩⟩⟩⟩⟩⟩⟩⟩⟩⟩⟩⟩⟩⟩⟩
theorem oc_12 : ∀ j ∈ ([192, 193, 194, 195, 196, 197, 198, 199, 200, 201, 202, 203, 204, 205, 206, 207] : List Nat), okJ j := List.forall_mem_cons.mpr ⟨oj_192, List.forall_mem_cons.mpr ⟨oj_193, List.forall_mem_cons.mpr ⟨oj_194, List.forall_mem_cons.mpr ⟨oj_195, List.forall_mem_cons.mpr ⟨oj_196, List.forall_mem_cons.mpr ⟨oj_197, List.forall_mem_cons.mpr ⟨oj_198, List.forall_mem_cons.mpr ⟨oj_199, List.forall_mem_cons.mpr ⟨oj_200, List.forall_mem_cons.mpr ⟨oj_201, List.forall_mem_cons.mpr ⟨oj_202, List.forall_mem_cons.mpr ⟨oj_203, List.forall_mem_cons.mpr ⟨oj_204, List.forall_mem_cons.mpr ⟨oj_205, List.forall_mem_cons.mpr ⟨oj_206, List.forall_mem_cons.mpr ⟨oj_207, List.forall_mem_nil _⟩⟩⟩⟩⟩⟩⟩⟩⟩⟩⟩⟩⟩⟩⟩⟩
theorem oc_13 : ∀ j ∈ ([208, 209, 210, 211, 212, 213, 214, 215, 216, 217, 218, 219, 220, 221, 222, 223] : List Nat), okJ j := List.forall_mem_cons.mpr ⟨oj_208, List.forall_mem_cons.mpr ⟨oj_209, List.forall_mem_cons.mpr ⟨oj_210, List.forall_mem_cons.mpr ⟨oj_211, List.forall_mem_cons.mpr ⟨oj_212, List.forall_mem_cons.mpr ⟨oj_213, List.forall_mem_cons.mpr ⟨oj_214, List.forall_mem_cons.mpr ⟨oj_215, List.forall_mem_cons.mpr ⟨oj_216, List.forall_mem_cons.mpr ⟨oj_217, List.forall_mem_cons.mpr ⟨oj_218, List.forall_mem_cons.mpr ⟨oj_219, List.forall_mem_cons.mpr ⟨oj_220, List.forall_mem_cons.mpr ⟨oj_221, List.forall_mem_cons.mpr ⟨oj_222, List.forall_mem_cons.mpr ⟨oj_223, List.forall_mem_nil _⟩⟩⟩⟩⟩⟩⟩⟩⟩⟩⟩⟩⟩⟩⟩⟩
theorem oc_14 : ∀ j ∈ ([224, 225, 226, 227, 228, 229, 230, 231, 232, 233, 234, 235, 236, 237, 238, 239] : List Nat), okJ j := List.forall_mem_cons.mpr ⟨oj_224, List.forall_mem_cons.mpr ⟨oj_225, List.forall_mem_cons.mpr ⟨oj_226, List.forall_mem_cons.mpr ⟨oj_227, List.forall_mem_cons.mpr ⟨oj_228, List.forall_mem_cons.mpr ⟨oj_229, List.forall_mem_cons.mpr ⟨oj_230, List.forall_mem_cons.mpr ⟨oj_231, List.forall_mem_cons.mpr ⟨oj_232, List.forall_mem_cons.mpr ⟨oj_233, List.forall_mem_cons.mpr ⟨oj_234, List.forall_mem_cons.mpr ⟨oj_235, List.forall_mem_cons.mpr ⟨oj_236, List.forall_mem_cons.mpr ⟨oj_237, List.forall_mem_cons.mpr ⟨oj_238, List.forall_mem_cons.mpr ⟨oj_239, List.forall_mem_nil _⟩⟩⟩⟩⟩⟩⟩⟩⟩⟩⟩⟩⟩⟩⟩⟩
theorem oc_15 : ∀ j ∈ ([240, 241, 242, 243, 244, 245, 246, 247, 248, 249, 250, 251, 252, 253, 254, 255] : List Nat), okJ j := List.forall_mem_cons.mpr ⟨oj_240, List.forall_mem_cons.mpr ⟨oj_241, List.forall_mem_cons.mpr ⟨oj_242, List.forall_mem_cons.mpr ⟨oj_243, List.forall_mem_cons.mpr ⟨oj_244, List.forall_mem_cons.mpr ⟨oj_245, List.forall_mem_cons.mpr ⟨oj_246, List.forall_mem_cons.mpr ⟨oj_247, List.forall_mem_cons.mpr ⟨oj_248, List.forall_mem_cons.mpr ⟨oj_249, List.forall_mem_cons.mpr ⟨oj_250, List.forall_mem_cons.mpr ⟨oj_251, List.forall_mem_cons.mpr ⟨oj_252, List.forall_mem_cons.mpr ⟨oj_253, List.forall_mem_cons.mpr ⟨oj_254, List.forall_mem_cons.mpr ⟨oj_255, List.forall_mem_nil _⟩⟩⟩⟩⟩⟩⟩⟩⟩⟩⟩⟩⟩⟩⟩⟩
theorem oc_16 : ∀ j ∈ ([256, 257, 258] : List Nat), okJ j := List.forall_mem_cons.mpr ⟨oj_256, List.forall_mem_cons.mpr ⟨oj_257, List.forall_mem_cons.mpr ⟨oj_258, List.forall_mem_nil _⟩⟩⟩
set_option maxRecDepth 100000 in
theorem PR_len : PR.length = 259 := by decide +kernel
set_option maxRecDepth 100000 in
theorem PR_ok : ∀ j, j < PR.length → okJ j := by
  intro j hj
  rw [PR_len] at hj
  have hm : j ∈ List.range 259 := List.mem_range.mpr hj
  have e : List.range 259 = [0, 1, 2, 3, 4, 5, 6, 7, 8, 9, 10, 11, 12, 13, 14, 15] ++ ([16, 17, 18, 19, 20, 21, 22, 23, 24, 25, 26, 27, 28, 29, 30, 31] ++ ([32, 33, 34, 35, 36, 37, 38, 39, 40, 41, 42, 43, 44, 45, 46, 47] ++ ([48, 49, 50, 51, 52, 53, 54, 55, 56, 57, 58, 59, 60, 61, 62, 63] ++ ([64, 65, 66, 67, 68, 69, 70, 71, 72, 73, 74, 75, 76, 77, 78, 79] ++ ([80, 81, 82, 83, 84, 85, 86, 87, 88, 89, 90, 91, 92, 93, 94, 95] ++ ([96, 97, 98, 99, 100, 101, 102, 103, 104, 105, 106, 107, 108, 109, 110, 111] ++ ([112, 113, 114, 115, 116, 117, 118, 119, 120, 121, 122, 123, 124, 125, 126, 127] ++ ([128, 129, 130, 131, 132, 133, 134, 135, 136, 137, 138, 139, 140, 141, 142, 143] ++ ([144, 145, 146, 147, 148, 149, 150, 151, 152, 153, 154, 155, 156, 157, 158, 159] ++ ([160, 161, 162, 163, 164, 165, 166, 167, 168, 169, 170, 171, 172, 173, 174, 175] ++ ([176, 177, 178, 179, 180, 181, 182, 183, 184, 185, 186, 187, 188, 189, 190, 191] ++ ([192, 193, 194, 195, 196, 197, 198, 199, 200, 201, 202, 203, 204, 205, 206, 207] ++ ([208, 209, 210, 211, 212, 213, 214, 215, 216, 217, 218, 219, 220, 221, 222, 223] ++ ([224, 225, 226, 227, 228, 229, 230, 231, 232, 233, 234, 235, 236, 237, 238, 239] ++ ([240, 241, 242, 243, 244, 245, 246, 247, 248, 249, 250, 251, 252, 253, 254, 255] ++ ([256, 257, 258])))))))))))))))) := by decide +kernel
  rw [e] at hm
  rcases List.mem_append.mp hm with hm | hm
  · exact oc_0 j hm
  rcases List.mem_append.mp hm with hm | hm
  · exact oc_1 j hm
  rcases List.mem_append.mp hm with hm | hm
  · exact oc_2 j hm
  rcases List.mem_append.mp hm with hm | hm
  · exact oc_3 j hm
  rcases List.mem_append.mp hm with hm | hm
  · exact oc_4 j hm
  rcases List.mem_append.mp hm with hm | hm
  · exact oc_5 j hm
  rcases List.mem_append.mp hm with hm | hm
  · exact oc_6 j hm
  rcases List.mem_append.mp hm with hm | hm
  · exact oc_7 j hm
  rcases List.mem_append.mp hm with hm | hm
  · exact oc_8 j hm
  rcases List.mem_append.mp hm with hm | hm
  · exact oc_9 j hm
  rcases List.mem_append.mp hm with hm | hm
  · exact oc_10 j hm
  rcases List.mem_append.mp hm with hm | hm
  · exact oc_11 j hm
  rcases List.mem_append.mp hm with hm | hm
  · exact oc_12 j hm
  rcases List.mem_append.mp hm with hm | hm
  · exact oc_13 j hm
  rcases List.mem_append.mp hm with hm | hm
  · exact oc_14 j hm
  rcases List.mem_append.mp hm with hm | hm
  · exact oc_15 j hm
  exact oc_16 j hm
theorem PR_prok : PROK PR := ⟨newOK_of (fun j hj => (PR_ok j hj).1), fun j hj => PR_ok j hj⟩
theorem gT0 : ∀ w ∈ u_ws RX0 TX0 6, w ∈ WSg := fun w h => List.mem_filter.mpr ⟨inT0 w h, List.all_eq_true.mp (show (u_ws RX0 TX0 6).all goodWord = true by decide +kernel) w h⟩
theorem gT1 : ∀ w ∈ u_ws RX1 TX1 4, w ∈ WSg := fun w h => List.mem_filter.mpr ⟨inT1 w h, List.all_eq_true.mp (show (u_ws RX1 TX1 4).all goodWord = true by decide +kernel) w h⟩
theorem gT2 : ∀ w ∈ u_ws RX2 TX2 10, w ∈ WSg := fun w h => List.mem_filter.mpr ⟨inT2 w h, List.all_eq_true.mp (show (u_ws RX2 TX2 10).all goodWord = true by decide +kernel) w h⟩
theorem gT3 : ∀ w ∈ u_ws RX3 TX3 10, w ∈ WSg := fun w h => List.mem_filter.mpr ⟨inT3 w h, List.all_eq_true.mp (show (u_ws RX3 TX3 10).all goodWord = true by decide +kernel) w h⟩
theorem gT4 : ∀ w ∈ u_ws RX4 TX4 8, w ∈ WSg := fun w h => List.mem_filter.mpr ⟨inT4 w h, List.all_eq_true.mp (show (u_ws RX4 TX4 8).all goodWord = true by decide +kernel) w h⟩
theorem gT5 : ∀ w ∈ u_ws RX5 TX5 2, w ∈ WSg := fun w h => List.mem_filter.mpr ⟨inT5 w h, List.all_eq_true.mp (show (u_ws RX5 TX5 2).all goodWord = true by decide +kernel) w h⟩
theorem gT6 : ∀ w ∈ u_ws RX6 TX6 4, w ∈ WSg := fun w h => List.mem_filter.mpr ⟨inT6 w h, List.all_eq_true.mp (show (u_ws RX6 TX6 4).all goodWord = true by decide +kernel) w h⟩
theorem gT7 : ∀ w ∈ u_ws RX7 TX7 7, w ∈ WSg := fun w h => List.mem_filter.mpr ⟨inT7 w h, List.all_eq_true.mp (show (u_ws RX7 TX7 7).all goodWord = true by decide +kernel) w h⟩
theorem gT8 : ∀ w ∈ u_ws RX8 TX8 15, w ∈ WSg := fun w h => List.mem_filter.mpr ⟨inT8 w h, List.all_eq_true.mp (show (u_ws RX8 TX8 15).all goodWord = true by decide +kernel) w h⟩
theorem gT9 : ∀ w ∈ u_ws RX9 TX9 55, w ∈ WSg := fun w h => List.mem_filter.mpr ⟨inT9 w h, List.all_eq_true.mp (show (u_ws RX9 TX9 55).all goodWord = true by decide +kernel) w h⟩
theorem glC : ∀ (ci : Nat) (q : vw_C), vwCl[ci]? = some q → ∀ w ∈ u_ws q.1 q.2.1 q.2.2, w ∈ WSg := by
  intro ci q h
  match ci, h with
  | 0, h => cases h; exact gT0
  | 1, h => cases h; exact gT1
  | 2, h => cases h; exact gT2
  | 3, h => cases h; exact gT3
  | 4, h => cases h; exact gT4
  | 5, h => cases h; exact gT5
  | 6, h => cases h; exact gT6
  | 7, h => cases h; exact gT7
  | 8, h => cases h; exact gT8
  | 9, h => cases h; exact gT9
  | n + 10, h => simp [vwCl] at h
