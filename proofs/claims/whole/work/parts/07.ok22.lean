set_option maxRecDepth 100000
theorem e_Ok_0 : ∀ i, 0 ≤ i → i < 10 → e_Ok i := by
  intro i h1 h2
  have : i = 0 ∨ i = 1 ∨ i = 2 ∨ i = 3 ∨ i = 4 ∨ i = 5 ∨ i = 6 ∨ i = 7 ∨ i = 8 ∨ i = 9 := by omega
  rcases this with rfl | rfl | rfl | rfl | rfl | rfl | rfl | rfl | rfl | rfl
  · exact e_k0
  · exact e_k1
  · exact e_k2
  · exact e_k3
  · exact e_k4
  · exact e_k5
  · exact e_k6
  · exact e_k7
  · exact e_k8
  · exact e_k9
theorem e_Ok_10 : ∀ i, 10 ≤ i → i < 20 → e_Ok i := by
  intro i h1 h2
  have : i = 10 ∨ i = 11 ∨ i = 12 ∨ i = 13 ∨ i = 14 ∨ i = 15 ∨ i = 16 ∨ i = 17 ∨ i = 18 ∨ i = 19 := by omega
  rcases this with rfl | rfl | rfl | rfl | rfl | rfl | rfl | rfl | rfl | rfl
  · exact e_k10
  · exact e_k11
  · exact e_k12
  · exact e_k13
  · exact e_k14
  · exact e_k15
  · exact e_k16
  · exact e_k17
  · exact e_k18
  · exact e_k19
theorem e_Ok_20 : ∀ i, 20 ≤ i → i < 30 → e_Ok i := by
  intro i h1 h2
  have : i = 20 ∨ i = 21 ∨ i = 22 ∨ i = 23 ∨ i = 24 ∨ i = 25 ∨ i = 26 ∨ i = 27 ∨ i = 28 ∨ i = 29 := by omega
  rcases this with rfl | rfl | rfl | rfl | rfl | rfl | rfl | rfl | rfl | rfl
  · exact e_k20
  · exact e_k21
  · exact e_k22
  · exact e_k23
  · exact e_k24
  · exact e_k25
  · exact e_k26
  · exact e_k27
  · exact e_k28
  · exact e_k29
theorem e_Ok_30 : ∀ i, 30 ≤ i → i < 40 → e_Ok i := by
  intro i h1 h2
  have : i = 30 ∨ i = 31 ∨ i = 32 ∨ i = 33 ∨ i = 34 ∨ i = 35 ∨ i = 36 ∨ i = 37 ∨ i = 38 ∨ i = 39 := by omega
  rcases this with rfl | rfl | rfl | rfl | rfl | rfl | rfl | rfl | rfl | rfl
  · exact e_k30
  · exact e_k31
  · exact e_k32
  · exact e_k33
  · exact e_k34
  · exact e_k35
  · exact e_k36
  · exact e_k37
  · exact e_k38
  · exact e_k39
theorem e_Ok_40 : ∀ i, 40 ≤ i → i < 50 → e_Ok i := by
  intro i h1 h2
  have : i = 40 ∨ i = 41 ∨ i = 42 ∨ i = 43 ∨ i = 44 ∨ i = 45 ∨ i = 46 ∨ i = 47 ∨ i = 48 ∨ i = 49 := by omega
  rcases this with rfl | rfl | rfl | rfl | rfl | rfl | rfl | rfl | rfl | rfl
  · exact e_k40
  · exact e_k41
  · exact e_k42
  · exact e_k43
  · exact e_k44
  · exact e_k45
  · exact e_k46
  · exact e_k47
  · exact e_k48
  · exact e_k49
theorem e_Ok_50 : ∀ i, 50 ≤ i → i < 60 → e_Ok i := by
  intro i h1 h2
  have : i = 50 ∨ i = 51 ∨ i = 52 ∨ i = 53 ∨ i = 54 ∨ i = 55 ∨ i = 56 ∨ i = 57 ∨ i = 58 ∨ i = 59 := by omega
  rcases this with rfl | rfl | rfl | rfl | rfl | rfl | rfl | rfl | rfl | rfl
  · exact e_k50
  · exact e_k51
  · exact e_k52
  · exact e_k53
  · exact e_k54
  · exact e_k55
  · exact e_k56
  · exact e_k57
  · exact e_k58
  · exact e_k59
theorem e_Ok_60 : ∀ i, 60 ≤ i → i < 70 → e_Ok i := by
  intro i h1 h2
  have : i = 60 ∨ i = 61 ∨ i = 62 ∨ i = 63 ∨ i = 64 ∨ i = 65 ∨ i = 66 ∨ i = 67 ∨ i = 68 ∨ i = 69 := by omega
  rcases this with rfl | rfl | rfl | rfl | rfl | rfl | rfl | rfl | rfl | rfl
  · exact e_k60
  · exact e_k61
  · exact e_k62
  · exact e_k63
  · exact e_k64
  · exact e_k65
  · exact e_k66
  · exact e_k67
  · exact e_k68
  · exact e_k69
theorem e_Ok_70 : ∀ i, 70 ≤ i → i < 80 → e_Ok i := by
  intro i h1 h2
  have : i = 70 ∨ i = 71 ∨ i = 72 ∨ i = 73 ∨ i = 74 ∨ i = 75 ∨ i = 76 ∨ i = 77 ∨ i = 78 ∨ i = 79 := by omega
  rcases this with rfl | rfl | rfl | rfl | rfl | rfl | rfl | rfl | rfl | rfl
  · exact e_k70
  · exact e_k71
  · exact e_k72
  · exact e_k73
  · exact e_k74
  · exact e_k75
  · exact e_k76
  · exact e_k77
  · exact e_k78
  · exact e_k79
theorem e_Ok_80 : ∀ i, 80 ≤ i → i < 90 → e_Ok i := by
  intro i h1 h2
  have : i = 80 ∨ i = 81 ∨ i = 82 ∨ i = 83 ∨ i = 84 ∨ i = 85 ∨ i = 86 ∨ i = 87 ∨ i = 88 ∨ i = 89 := by omega
  rcases this with rfl | rfl | rfl | rfl | rfl | rfl | rfl | rfl | rfl | rfl
  · exact e_k80
  · exact e_k81
  · exact e_k82
  · exact e_k83
  · exact e_k84
  · exact e_k85
  · exact e_k86
  · exact e_k87
  · exact e_k88
  · exact e_k89
theorem e_Ok_90 : ∀ i, 90 ≤ i → i < 100 → e_Ok i := by
  intro i h1 h2
  have : i = 90 ∨ i = 91 ∨ i = 92 ∨ i = 93 ∨ i = 94 ∨ i = 95 ∨ i = 96 ∨ i = 97 ∨ i = 98 ∨ i = 99 := by omega
  rcases this with rfl | rfl | rfl | rfl | rfl | rfl | rfl | rfl | rfl | rfl
  · exact e_k90
  · exact e_k91
  · exact e_k92
  · exact e_k93
  · exact e_k94
  · exact e_k95
  · exact e_k96
  · exact e_k97
  · exact e_k98
  · exact e_k99
theorem e_Ok_100 : ∀ i, 100 ≤ i → i < 110 → e_Ok i := by
  intro i h1 h2
  have : i = 100 ∨ i = 101 ∨ i = 102 ∨ i = 103 ∨ i = 104 ∨ i = 105 ∨ i = 106 ∨ i = 107 ∨ i = 108 ∨ i = 109 := by omega
  rcases this with rfl | rfl | rfl | rfl | rfl | rfl | rfl | rfl | rfl | rfl
  · exact e_k100
  · exact e_k101
  · exact e_k102
  · exact e_k103
  · exact e_k104
  · exact e_k105
  · exact e_k106
  · exact e_k107
  · exact e_k108
  · exact e_k109
theorem e_Ok_110 : ∀ i, 110 ≤ i → i < 120 → e_Ok i := by
  intro i h1 h2
  have : i = 110 ∨ i = 111 ∨ i = 112 ∨ i = 113 ∨ i = 114 ∨ i = 115 ∨ i = 116 ∨ i = 117 ∨ i = 118 ∨ i = 119 := by omega
  rcases this with rfl | rfl | rfl | rfl | rfl | rfl | rfl | rfl | rfl | rfl
  · exact e_k110
  · exact e_k111
  · exact e_k112
  · exact e_k113
  · exact e_k114
  · exact e_k115
  · exact e_k116
  · exact e_k117
  · exact e_k118
  · exact e_k119
theorem e_Ok_120 : ∀ i, 120 ≤ i → i < 130 → e_Ok i := by
  intro i h1 h2
  have : i = 120 ∨ i = 121 ∨ i = 122 ∨ i = 123 ∨ i = 124 ∨ i = 125 ∨ i = 126 ∨ i = 127 ∨ i = 128 ∨ i = 129 := by omega
  rcases this with rfl | rfl | rfl | rfl | rfl | rfl | rfl | rfl | rfl | rfl
  · exact e_k120
  · exact e_k121
  · exact e_k122
  · exact e_k123
  · exact e_k124
  · exact e_k125
  · exact e_k126
  · exact e_k127
  · exact e_k128
  · exact e_k129
theorem e_Ok_130 : ∀ i, 130 ≤ i → i < 140 → e_Ok i := by
  intro i h1 h2
  have : i = 130 ∨ i = 131 ∨ i = 132 ∨ i = 133 ∨ i = 134 ∨ i = 135 ∨ i = 136 ∨ i = 137 ∨ i = 138 ∨ i = 139 := by omega
  rcases this with rfl | rfl | rfl | rfl | rfl | rfl | rfl | rfl | rfl | rfl
  · exact e_k130
  · exact e_k131
  · exact e_k132
  · exact e_k133
  · exact e_k134
  · exact e_k135
  · exact e_k136
  · exact e_k137
  · exact e_k138
  · exact e_k139
theorem e_Ok_140 : ∀ i, 140 ≤ i → i < 150 → e_Ok i := by
  intro i h1 h2
  have : i = 140 ∨ i = 141 ∨ i = 142 ∨ i = 143 ∨ i = 144 ∨ i = 145 ∨ i = 146 ∨ i = 147 ∨ i = 148 ∨ i = 149 := by omega
  rcases this with rfl | rfl | rfl | rfl | rfl | rfl | rfl | rfl | rfl | rfl
  · exact e_k140
  · exact e_k141
  · exact e_k142
  · exact e_k143
  · exact e_k144
  · exact e_k145
  · exact e_k146
  · exact e_k147
  · exact e_k148
  · exact e_k149
theorem e_Ok_150 : ∀ i, 150 ≤ i → i < 160 → e_Ok i := by
  intro i h1 h2
  have : i = 150 ∨ i = 151 ∨ i = 152 ∨ i = 153 ∨ i = 154 ∨ i = 155 ∨ i = 156 ∨ i = 157 ∨ i = 158 ∨ i = 159 := by omega
  rcases this with rfl | rfl | rfl | rfl | rfl | rfl | rfl | rfl | rfl | rfl
  · exact e_k150
  · exact e_k151
  · exact e_k152
  · exact e_k153
  · exact e_k154
  · exact e_k155
  · exact e_k156
  · exact e_k157
  · exact e_k158
  · exact e_k159
theorem e_Ok_160 : ∀ i, 160 ≤ i → i < 170 → e_Ok i := by
  intro i h1 h2
  have : i = 160 ∨ i = 161 ∨ i = 162 ∨ i = 163 ∨ i = 164 ∨ i = 165 ∨ i = 166 ∨ i = 167 ∨ i = 168 ∨ i = 169 := by omega
  rcases this with rfl | rfl | rfl | rfl | rfl | rfl | rfl | rfl | rfl | rfl
  · exact e_k160
  · exact e_k161
  · exact e_k162
  · exact e_k163
  · exact e_k164
  · exact e_k165
  · exact e_k166
  · exact e_k167
  · exact e_k168
  · exact e_k169
theorem e_Ok_170 : ∀ i, 170 ≤ i → i < 180 → e_Ok i := by
  intro i h1 h2
  have : i = 170 ∨ i = 171 ∨ i = 172 ∨ i = 173 ∨ i = 174 ∨ i = 175 ∨ i = 176 ∨ i = 177 ∨ i = 178 ∨ i = 179 := by omega
  rcases this with rfl | rfl | rfl | rfl | rfl | rfl | rfl | rfl | rfl | rfl
  · exact e_k170
  · exact e_k171
  · exact e_k172
  · exact e_k173
  · exact e_k174
  · exact e_k175
  · exact e_k176
  · exact e_k177
  · exact e_k178
  · exact e_k179
theorem e_Ok_180 : ∀ i, 180 ≤ i → i < 190 → e_Ok i := by
  intro i h1 h2
  have : i = 180 ∨ i = 181 ∨ i = 182 ∨ i = 183 ∨ i = 184 ∨ i = 185 ∨ i = 186 ∨ i = 187 ∨ i = 188 ∨ i = 189 := by omega
  rcases this with rfl | rfl | rfl | rfl | rfl | rfl | rfl | rfl | rfl | rfl
  · exact e_k180
  · exact e_k181
  · exact e_k182
  · exact e_k183
  · exact e_k184
  · exact e_k185
  · exact e_k186
  · exact e_k187
  · exact e_k188
  · exact e_k189
theorem e_Ok_190 : ∀ i, 190 ≤ i → i < 200 → e_Ok i := by
  intro i h1 h2
  have : i = 190 ∨ i = 191 ∨ i = 192 ∨ i = 193 ∨ i = 194 ∨ i = 195 ∨ i = 196 ∨ i = 197 ∨ i = 198 ∨ i = 199 := by omega
  rcases this with rfl | rfl | rfl | rfl | rfl | rfl | rfl | rfl | rfl | rfl
  · exact e_k190
  · exact e_k191
  · exact e_k192
  · exact e_k193
  · exact e_k194
  · exact e_k195
  · exact e_k196
  · exact e_k197
  · exact e_k198
  · exact e_k199
theorem e_Ok_200 : ∀ i, 200 ≤ i → i < 210 → e_Ok i := by
  intro i h1 h2
  have : i = 200 ∨ i = 201 ∨ i = 202 ∨ i = 203 ∨ i = 204 ∨ i = 205 ∨ i = 206 ∨ i = 207 ∨ i = 208 ∨ i = 209 := by omega
  rcases this with rfl | rfl | rfl | rfl | rfl | rfl | rfl | rfl | rfl | rfl
  · exact e_k200
  · exact e_k201
  · exact e_k202
  · exact e_k203
  · exact e_k204
  · exact e_k205
  · exact e_k206
  · exact e_k207
  · exact e_k208
  · exact e_k209
theorem e_Ok_210 : ∀ i, 210 ≤ i → i < 220 → e_Ok i := by
  intro i h1 h2
  have : i = 210 ∨ i = 211 ∨ i = 212 ∨ i = 213 ∨ i = 214 ∨ i = 215 ∨ i = 216 ∨ i = 217 ∨ i = 218 ∨ i = 219 := by omega
  rcases this with rfl | rfl | rfl | rfl | rfl | rfl | rfl | rfl | rfl | rfl
  · exact e_k210
  · exact e_k211
  · exact e_k212
  · exact e_k213
  · exact e_k214
  · exact e_k215
  · exact e_k216
  · exact e_k217
  · exact e_k218
  · exact e_k219
theorem e_Ok_220 : ∀ i, 220 ≤ i → i < 230 → e_Ok i := by
  intro i h1 h2
  have : i = 220 ∨ i = 221 ∨ i = 222 ∨ i = 223 ∨ i = 224 ∨ i = 225 ∨ i = 226 ∨ i = 227 ∨ i = 228 ∨ i = 229 := by omega
  rcases this with rfl | rfl | rfl | rfl | rfl | rfl | rfl | rfl | rfl | rfl
  · exact e_k220
  · exact e_k221
  · exact e_k222
  · exact e_k223
  · exact e_k224
  · exact e_k225
  · exact e_k226
  · exact e_k227
  · exact e_k228
  · exact e_k229
theorem e_Ok_230 : ∀ i, 230 ≤ i → i < 236 → e_Ok i := by
  intro i h1 h2
  have : i = 230 ∨ i = 231 ∨ i = 232 ∨ i = 233 ∨ i = 234 ∨ i = 235 := by omega
  rcases this with rfl | rfl | rfl | rfl | rfl | rfl
  · exact e_k230
  · exact e_k231
  · exact e_k232
  · exact e_k233
  · exact e_k234
  · exact e_k235
theorem e_Ok_all : ∀ i, i < 236 → e_Ok i := by
  intro i hi
  by_cases h0 : i < 10
  · exact e_Ok_0 i (by omega) h0
  by_cases h10 : i < 20
  · exact e_Ok_10 i (by omega) h10
  by_cases h20 : i < 30
  · exact e_Ok_20 i (by omega) h20
  by_cases h30 : i < 40
  · exact e_Ok_30 i (by omega) h30
  by_cases h40 : i < 50
  · exact e_Ok_40 i (by omega) h40
  by_cases h50 : i < 60
  · exact e_Ok_50 i (by omega) h50
  by_cases h60 : i < 70
  · exact e_Ok_60 i (by omega) h60
  by_cases h70 : i < 80
  · exact e_Ok_70 i (by omega) h70
  by_cases h80 : i < 90
  · exact e_Ok_80 i (by omega) h80
  by_cases h90 : i < 100
  · exact e_Ok_90 i (by omega) h90
  by_cases h100 : i < 110
  · exact e_Ok_100 i (by omega) h100
  by_cases h110 : i < 120
  · exact e_Ok_110 i (by omega) h110
  by_cases h120 : i < 130
  · exact e_Ok_120 i (by omega) h120
  by_cases h130 : i < 140
  · exact e_Ok_130 i (by omega) h130
  by_cases h140 : i < 150
  · exact e_Ok_140 i (by omega) h140
  by_cases h150 : i < 160
  · exact e_Ok_150 i (by omega) h150
  by_cases h160 : i < 170
  · exact e_Ok_160 i (by omega) h160
  by_cases h170 : i < 180
  · exact e_Ok_170 i (by omega) h170
  by_cases h180 : i < 190
  · exact e_Ok_180 i (by omega) h180
  by_cases h190 : i < 200
  · exact e_Ok_190 i (by omega) h190
  by_cases h200 : i < 210
  · exact e_Ok_200 i (by omega) h200
  by_cases h210 : i < 220
  · exact e_Ok_210 i (by omega) h210
  by_cases h220 : i < 230
  · exact e_Ok_220 i (by omega) h220
  by_cases h230 : i < 236
  · exact e_Ok_230 i (by omega) h230
  omega
theorem e_OkM_0 : ∀ i, 0 ≤ i → i < 10 → e_OkM i := by
  intro i h1 h2
  have : i = 0 ∨ i = 1 ∨ i = 2 ∨ i = 3 ∨ i = 4 ∨ i = 5 ∨ i = 6 ∨ i = 7 ∨ i = 8 ∨ i = 9 := by omega
  rcases this with rfl | rfl | rfl | rfl | rfl | rfl | rfl | rfl | rfl | rfl
  · exact e_j0
  · exact e_j1
  · exact e_j2
  · exact e_j3
  · exact e_j4
  · exact e_j5
  · exact e_j6
  · exact e_j7
  · exact e_j8
  · exact e_j9
theorem e_OkM_10 : ∀ i, 10 ≤ i → i < 20 → e_OkM i := by
  intro i h1 h2
  have : i = 10 ∨ i = 11 ∨ i = 12 ∨ i = 13 ∨ i = 14 ∨ i = 15 ∨ i = 16 ∨ i = 17 ∨ i = 18 ∨ i = 19 := by omega
  rcases this with rfl | rfl | rfl | rfl | rfl | rfl | rfl | rfl | rfl | rfl
  · exact e_j10
  · exact e_j11
  · exact e_j12
  · exact e_j13
  · exact e_j14
  · exact e_j15
  · exact e_j16
  · exact e_j17
  · exact e_j18
  · exact e_j19
theorem e_OkM_20 : ∀ i, 20 ≤ i → i < 30 → e_OkM i := by
  intro i h1 h2
  have : i = 20 ∨ i = 21 ∨ i = 22 ∨ i = 23 ∨ i = 24 ∨ i = 25 ∨ i = 26 ∨ i = 27 ∨ i = 28 ∨ i = 29 := by omega
  rcases this with rfl | rfl | rfl | rfl | rfl | rfl | rfl | rfl | rfl | rfl
  · exact e_j20
  · exact e_j21
  · exact e_j22
  · exact e_j23
  · exact e_j24
  · exact e_j25
  · exact e_j26
  · exact e_j27
  · exact e_j28
  · exact e_j29
theorem e_OkM_30 : ∀ i, 30 ≤ i → i < 40 → e_OkM i := by
  intro i h1 h2
  have : i = 30 ∨ i = 31 ∨ i = 32 ∨ i = 33 ∨ i = 34 ∨ i = 35 ∨ i = 36 ∨ i = 37 ∨ i = 38 ∨ i = 39 := by omega
  rcases this with rfl | rfl | rfl | rfl | rfl | rfl | rfl | rfl | rfl | rfl
  · exact e_j30
  · exact e_j31
  · exact e_j32
  · exact e_j33
  · exact e_j34
  · exact e_j35
  · exact e_j36
  · exact e_j37
  · exact e_j38
  · exact e_j39
theorem e_OkM_40 : ∀ i, 40 ≤ i → i < 50 → e_OkM i := by
  intro i h1 h2
  have : i = 40 ∨ i = 41 ∨ i = 42 ∨ i = 43 ∨ i = 44 ∨ i = 45 ∨ i = 46 ∨ i = 47 ∨ i = 48 ∨ i = 49 := by omega
  rcases this with rfl | rfl | rfl | rfl | rfl | rfl | rfl | rfl | rfl | rfl
  · exact e_j40
  · exact e_j41
  · exact e_j42
  · exact e_j43
  · exact e_j44
  · exact e_j45
  · exact e_j46
  · exact e_j47
  · exact e_j48
  · exact e_j49
theorem e_OkM_50 : ∀ i, 50 ≤ i → i < 60 → e_OkM i := by
  intro i h1 h2
  have : i = 50 ∨ i = 51 ∨ i = 52 ∨ i = 53 ∨ i = 54 ∨ i = 55 ∨ i = 56 ∨ i = 57 ∨ i = 58 ∨ i = 59 := by omega
  rcases this with rfl | rfl | rfl | rfl | rfl | rfl | rfl | rfl | rfl | rfl
  · exact e_j50
  · exact e_j51
  · exact e_j52
  · exact e_j53
  · exact e_j54
  · exact e_j55
  · exact e_j56
  · exact e_j57
  · exact e_j58
  · exact e_j59
theorem e_OkM_60 : ∀ i, 60 ≤ i → i < 70 → e_OkM i := by
  intro i h1 h2
  have : i = 60 ∨ i = 61 ∨ i = 62 ∨ i = 63 ∨ i = 64 ∨ i = 65 ∨ i = 66 ∨ i = 67 ∨ i = 68 ∨ i = 69 := by omega
  rcases this with rfl | rfl | rfl | rfl | rfl | rfl | rfl | rfl | rfl | rfl
  · exact e_j60
  · exact e_j61
  · exact e_j62
  · exact e_j63
  · exact e_j64
  · exact e_j65
  · exact e_j66
  · exact e_j67
  · exact e_j68
  · exact e_j69
theorem e_OkM_70 : ∀ i, 70 ≤ i → i < 80 → e_OkM i := by
  intro i h1 h2
  have : i = 70 ∨ i = 71 ∨ i = 72 ∨ i = 73 ∨ i = 74 ∨ i = 75 ∨ i = 76 ∨ i = 77 ∨ i = 78 ∨ i = 79 := by omega
  rcases this with rfl | rfl | rfl | rfl | rfl | rfl | rfl | rfl | rfl | rfl
  · exact e_j70
  · exact e_j71
  · exact e_j72
  · exact e_j73
  · exact e_j74
  · exact e_j75
  · exact e_j76
  · exact e_j77
  · exact e_j78
  · exact e_j79
theorem e_OkM_80 : ∀ i, 80 ≤ i → i < 90 → e_OkM i := by
  intro i h1 h2
  have : i = 80 ∨ i = 81 ∨ i = 82 ∨ i = 83 ∨ i = 84 ∨ i = 85 ∨ i = 86 ∨ i = 87 ∨ i = 88 ∨ i = 89 := by omega
  rcases this with rfl | rfl | rfl | rfl | rfl | rfl | rfl | rfl | rfl | rfl
  · exact e_j80
  · exact e_j81
  · exact e_j82
  · exact e_j83
  · exact e_j84
  · exact e_j85
  · exact e_j86
  · exact e_j87
  · exact e_j88
  · exact e_j89
theorem e_OkM_90 : ∀ i, 90 ≤ i → i < 100 → e_OkM i := by
  intro i h1 h2
  have : i = 90 ∨ i = 91 ∨ i = 92 ∨ i = 93 ∨ i = 94 ∨ i = 95 ∨ i = 96 ∨ i = 97 ∨ i = 98 ∨ i = 99 := by omega
  rcases this with rfl | rfl | rfl | rfl | rfl | rfl | rfl | rfl | rfl | rfl
  · exact e_j90
  · exact e_j91
  · exact e_j92
  · exact e_j93
  · exact e_j94
  · exact e_j95
  · exact e_j96
  · exact e_j97
  · exact e_j98
  · exact e_j99
theorem e_OkM_100 : ∀ i, 100 ≤ i → i < 110 → e_OkM i := by
  intro i h1 h2
  have : i = 100 ∨ i = 101 ∨ i = 102 ∨ i = 103 ∨ i = 104 ∨ i = 105 ∨ i = 106 ∨ i = 107 ∨ i = 108 ∨ i = 109 := by omega
  rcases this with rfl | rfl | rfl | rfl | rfl | rfl | rfl | rfl | rfl | rfl
  · exact e_j100
  · exact e_j101
  · exact e_j102
  · exact e_j103
  · exact e_j104
  · exact e_j105
  · exact e_j106
  · exact e_j107
  · exact e_j108
  · exact e_j109
theorem e_OkM_110 : ∀ i, 110 ≤ i → i < 120 → e_OkM i := by
  intro i h1 h2
  have : i = 110 ∨ i = 111 ∨ i = 112 ∨ i = 113 ∨ i = 114 ∨ i = 115 ∨ i = 116 ∨ i = 117 ∨ i = 118 ∨ i = 119 := by omega
  rcases this with rfl | rfl | rfl | rfl | rfl | rfl | rfl | rfl | rfl | rfl
  · exact e_j110
  · exact e_j111
  · exact e_j112
  · exact e_j113
  · exact e_j114
  · exact e_j115
  · exact e_j116
  · exact e_j117
  · exact e_j118
  · exact e_j119
theorem e_OkM_120 : ∀ i, 120 ≤ i → i < 130 → e_OkM i := by
  intro i h1 h2
  have : i = 120 ∨ i = 121 ∨ i = 122 ∨ i = 123 ∨ i = 124 ∨ i = 125 ∨ i = 126 ∨ i = 127 ∨ i = 128 ∨ i = 129 := by omega
  rcases this with rfl | rfl | rfl | rfl | rfl | rfl | rfl | rfl | rfl | rfl
  · exact e_j120
  · exact e_j121
  · exact e_j122
  · exact e_j123
  · exact e_j124
  · exact e_j125
  · exact e_j126
  · exact e_j127
  · exact e_j128
  · exact e_j129
theorem e_OkM_130 : ∀ i, 130 ≤ i → i < 140 → e_OkM i := by
  intro i h1 h2
  have : i = 130 ∨ i = 131 ∨ i = 132 ∨ i = 133 ∨ i = 134 ∨ i = 135 ∨ i = 136 ∨ i = 137 ∨ i = 138 ∨ i = 139 := by omega
  rcases this with rfl | rfl | rfl | rfl | rfl | rfl | rfl | rfl | rfl | rfl
  · exact e_j130
  · exact e_j131
  · exact e_j132
  · exact e_j133
  · exact e_j134
  · exact e_j135
  · exact e_j136
  · exact e_j137
  · exact e_j138
  · exact e_j139
theorem e_OkM_140 : ∀ i, 140 ≤ i → i < 150 → e_OkM i := by
  intro i h1 h2
  have : i = 140 ∨ i = 141 ∨ i = 142 ∨ i = 143 ∨ i = 144 ∨ i = 145 ∨ i = 146 ∨ i = 147 ∨ i = 148 ∨ i = 149 := by omega
  rcases this with rfl | rfl | rfl | rfl | rfl | rfl | rfl | rfl | rfl | rfl
  · exact e_j140
  · exact e_j141
  · exact e_j142
  · exact e_j143
  · exact e_j144
  · exact e_j145
  · exact e_j146
  · exact e_j147
  · exact e_j148
  · exact e_j149
theorem e_OkM_150 : ∀ i, 150 ≤ i → i < 160 → e_OkM i := by
  intro i h1 h2
  have : i = 150 ∨ i = 151 ∨ i = 152 ∨ i = 153 ∨ i = 154 ∨ i = 155 ∨ i = 156 ∨ i = 157 ∨ i = 158 ∨ i = 159 := by omega
  rcases this with rfl | rfl | rfl | rfl | rfl | rfl | rfl | rfl | rfl | rfl
  · exact e_j150
  · exact e_j151
  · exact e_j152
  · exact e_j153
  · exact e_j154
  · exact e_j155
  · exact e_j156
  · exact e_j157
  · exact e_j158
  · exact e_j159
theorem e_OkM_160 : ∀ i, 160 ≤ i → i < 170 → e_OkM i := by
  intro i h1 h2
  have : i = 160 ∨ i = 161 ∨ i = 162 ∨ i = 163 ∨ i = 164 ∨ i = 165 ∨ i = 166 ∨ i = 167 ∨ i = 168 ∨ i = 169 := by omega
  rcases this with rfl | rfl | rfl | rfl | rfl | rfl | rfl | rfl | rfl | rfl
  · exact e_j160
  · exact e_j161
  · exact e_j162
  · exact e_j163
  · exact e_j164
  · exact e_j165
  · exact e_j166
  · exact e_j167
  · exact e_j168
  · exact e_j169
theorem e_OkM_170 : ∀ i, 170 ≤ i → i < 180 → e_OkM i := by
  intro i h1 h2
  have : i = 170 ∨ i = 171 ∨ i = 172 ∨ i = 173 ∨ i = 174 ∨ i = 175 ∨ i = 176 ∨ i = 177 ∨ i = 178 ∨ i = 179 := by omega
  rcases this with rfl | rfl | rfl | rfl | rfl | rfl | rfl | rfl | rfl | rfl
  · exact e_j170
  · exact e_j171
  · exact e_j172
  · exact e_j173
  · exact e_j174
  · exact e_j175
  · exact e_j176
  · exact e_j177
  · exact e_j178
  · exact e_j179
theorem e_OkM_180 : ∀ i, 180 ≤ i → i < 190 → e_OkM i := by
  intro i h1 h2
  have : i = 180 ∨ i = 181 ∨ i = 182 ∨ i = 183 ∨ i = 184 ∨ i = 185 ∨ i = 186 ∨ i = 187 ∨ i = 188 ∨ i = 189 := by omega
  rcases this with rfl | rfl | rfl | rfl | rfl | rfl | rfl | rfl | rfl | rfl
  · exact e_j180
  · exact e_j181
  · exact e_j182
  · exact e_j183
  · exact e_j184
  · exact e_j185
  · exact e_j186
  · exact e_j187
  · exact e_j188
  · exact e_j189
theorem e_OkM_190 : ∀ i, 190 ≤ i → i < 200 → e_OkM i := by
  intro i h1 h2
  have : i = 190 ∨ i = 191 ∨ i = 192 ∨ i = 193 ∨ i = 194 ∨ i = 195 ∨ i = 196 ∨ i = 197 ∨ i = 198 ∨ i = 199 := by omega
  rcases this with rfl | rfl | rfl | rfl | rfl | rfl | rfl | rfl | rfl | rfl
  · exact e_j190
  · exact e_j191
  · exact e_j192
  · exact e_j193
  · exact e_j194
  · exact e_j195
  · exact e_j196
  · exact e_j197
  · exact e_j198
  · exact e_j199
theorem e_OkM_200 : ∀ i, 200 ≤ i → i < 210 → e_OkM i := by
  intro i h1 h2
  have : i = 200 ∨ i = 201 ∨ i = 202 ∨ i = 203 ∨ i = 204 ∨ i = 205 ∨ i = 206 ∨ i = 207 ∨ i = 208 ∨ i = 209 := by omega
  rcases this with rfl | rfl | rfl | rfl | rfl | rfl | rfl | rfl | rfl | rfl
  · exact e_j200
  · exact e_j201
  · exact e_j202
  · exact e_j203
  · exact e_j204
  · exact e_j205
  · exact e_j206
  · exact e_j207
  · exact e_j208
  · exact e_j209
theorem e_OkM_210 : ∀ i, 210 ≤ i → i < 220 → e_OkM i := by
  intro i h1 h2
  have : i = 210 ∨ i = 211 ∨ i = 212 ∨ i = 213 ∨ i = 214 ∨ i = 215 ∨ i = 216 ∨ i = 217 ∨ i = 218 ∨ i = 219 := by omega
  rcases this with rfl | rfl | rfl | rfl | rfl | rfl | rfl | rfl | rfl | rfl
  · exact e_j210
  · exact e_j211
  · exact e_j212
  · exact e_j213
  · exact e_j214
  · exact e_j215
  · exact e_j216
  · exact e_j217
  · exact e_j218
  · exact e_j219
theorem e_OkM_220 : ∀ i, 220 ≤ i → i < 230 → e_OkM i := by
  intro i h1 h2
  have : i = 220 ∨ i = 221 ∨ i = 222 ∨ i = 223 ∨ i = 224 ∨ i = 225 ∨ i = 226 ∨ i = 227 ∨ i = 228 ∨ i = 229 := by omega
  rcases this with rfl | rfl | rfl | rfl | rfl | rfl | rfl | rfl | rfl | rfl
  · exact e_j220
  · exact e_j221
  · exact e_j222
  · exact e_j223
  · exact e_j224
  · exact e_j225
  · exact e_j226
  · exact e_j227
  · exact e_j228
  · exact e_j229
theorem e_OkM_230 : ∀ i, 230 ≤ i → i < 236 → e_OkM i := by
  intro i h1 h2
  have : i = 230 ∨ i = 231 ∨ i = 232 ∨ i = 233 ∨ i = 234 ∨ i = 235 := by omega
  rcases this with rfl | rfl | rfl | rfl | rfl | rfl
  · exact e_j230
  · exact e_j231
  · exact e_j232
  · exact e_j233
  · exact e_j234
  · exact e_j235
theorem e_OkM_all : ∀ i, i < 236 → e_OkM i := by
  intro i hi
  by_cases h0 : i < 10
  · exact e_OkM_0 i (by omega) h0
  by_cases h10 : i < 20
  · exact e_OkM_10 i (by omega) h10
  by_cases h20 : i < 30
  · exact e_OkM_20 i (by omega) h20
  by_cases h30 : i < 40
  · exact e_OkM_30 i (by omega) h30
  by_cases h40 : i < 50
  · exact e_OkM_40 i (by omega) h40
  by_cases h50 : i < 60
  · exact e_OkM_50 i (by omega) h50
  by_cases h60 : i < 70
  · exact e_OkM_60 i (by omega) h60
  by_cases h70 : i < 80
  · exact e_OkM_70 i (by omega) h70
  by_cases h80 : i < 90
  · exact e_OkM_80 i (by omega) h80
  by_cases h90 : i < 100
  · exact e_OkM_90 i (by omega) h90
  by_cases h100 : i < 110
  · exact e_OkM_100 i (by omega) h100
  by_cases h110 : i < 120
  · exact e_OkM_110 i (by omega) h110
  by_cases h120 : i < 130
  · exact e_OkM_120 i (by omega) h120
  by_cases h130 : i < 140
  · exact e_OkM_130 i (by omega) h130
  by_cases h140 : i < 150
  · exact e_OkM_140 i (by omega) h140
  by_cases h150 : i < 160
  · exact e_OkM_150 i (by omega) h150
  by_cases h160 : i < 170
  · exact e_OkM_160 i (by omega) h160
  by_cases h170 : i < 180
  · exact e_OkM_170 i (by omega) h170
  by_cases h180 : i < 190
  · exact e_OkM_180 i (by omega) h180
  by_cases h190 : i < 200
  · exact e_OkM_190 i (by omega) h190
  by_cases h200 : i < 210
  · exact e_OkM_200 i (by omega) h200
  by_cases h210 : i < 220
  · exact e_OkM_210 i (by omega) h210
  by_cases h220 : i < 230
  · exact e_OkM_220 i (by omega) h220
  by_cases h230 : i < 236
  · exact e_OkM_230 i (by omega) h230
  omega
