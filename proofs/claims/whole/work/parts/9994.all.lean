/-! the rows of the check, together -/
theorem ckg0 : ∀ k, 0 ≤ k → k < 12 → chkT k = true := by
  intro k h1 h2
  rcases (by omega : k = 0 ∨ k = 1 ∨ k = 2 ∨ k = 3 ∨ k = 4 ∨ k = 5 ∨ k = 6 ∨ k = 7 ∨ k = 8 ∨ k = 9 ∨ k = 10 ∨ k = 11) with rfl | rfl | rfl | rfl | rfl | rfl | rfl | rfl | rfl | rfl | rfl | rfl
  · exact ck0
  · exact ck1
  · exact ck2
  · exact ck3
  · exact ck4
  · exact ck5
  · exact ck6
  · exact ck7
  · exact ck8
  · exact ck9
  · exact ck10
  · exact ck11
theorem ckg12 : ∀ k, 12 ≤ k → k < 24 → chkT k = true := by
  intro k h1 h2
  rcases (by omega : k = 12 ∨ k = 13 ∨ k = 14 ∨ k = 15 ∨ k = 16 ∨ k = 17 ∨ k = 18 ∨ k = 19 ∨ k = 20 ∨ k = 21 ∨ k = 22 ∨ k = 23) with rfl | rfl | rfl | rfl | rfl | rfl | rfl | rfl | rfl | rfl | rfl | rfl
  · exact ck12
  · exact ck13
  · exact ck14
  · exact ck15
  · exact ck16
  · exact ck17
  · exact ck18
  · exact ck19
  · exact ck20
  · exact ck21
  · exact ck22
  · exact ck23
theorem ckg24 : ∀ k, 24 ≤ k → k < 36 → chkT k = true := by
  intro k h1 h2
  rcases (by omega : k = 24 ∨ k = 25 ∨ k = 26 ∨ k = 27 ∨ k = 28 ∨ k = 29 ∨ k = 30 ∨ k = 31 ∨ k = 32 ∨ k = 33 ∨ k = 34 ∨ k = 35) with rfl | rfl | rfl | rfl | rfl | rfl | rfl | rfl | rfl | rfl | rfl | rfl
  · exact ck24
  · exact ck25
  · exact ck26
  · exact ck27
  · exact ck28
  · exact ck29
  · exact ck30
  · exact ck31
  · exact ck32
  · exact ck33
  · exact ck34
  · exact ck35
theorem ckg36 : ∀ k, 36 ≤ k → k < 48 → chkT k = true := by
  intro k h1 h2
  rcases (by omega : k = 36 ∨ k = 37 ∨ k = 38 ∨ k = 39 ∨ k = 40 ∨ k = 41 ∨ k = 42 ∨ k = 43 ∨ k = 44 ∨ k = 45 ∨ k = 46 ∨ k = 47) with rfl | rfl | rfl | rfl | rfl | rfl | rfl | rfl | rfl | rfl | rfl | rfl
  · exact ck36
  · exact ck37
  · exact ck38
  · exact ck39
  · exact ck40
  · exact ck41
  · exact ck42
  · exact ck43
  · exact ck44
  · exact ck45
  · exact ck46
  · exact ck47
theorem ckg48 : ∀ k, 48 ≤ k → k < 60 → chkT k = true := by
  intro k h1 h2
  rcases (by omega : k = 48 ∨ k = 49 ∨ k = 50 ∨ k = 51 ∨ k = 52 ∨ k = 53 ∨ k = 54 ∨ k = 55 ∨ k = 56 ∨ k = 57 ∨ k = 58 ∨ k = 59) with rfl | rfl | rfl | rfl | rfl | rfl | rfl | rfl | rfl | rfl | rfl | rfl
  · exact ck48
  · exact ck49
  · exact ck50
  · exact ck51
  · exact ck52
  · exact ck53
  · exact ck54
  · exact ck55
  · exact ck56
  · exact ck57
  · exact ck58
  · exact ck59
theorem ckg60 : ∀ k, 60 ≤ k → k < 72 → chkT k = true := by
  intro k h1 h2
  rcases (by omega : k = 60 ∨ k = 61 ∨ k = 62 ∨ k = 63 ∨ k = 64 ∨ k = 65 ∨ k = 66 ∨ k = 67 ∨ k = 68 ∨ k = 69 ∨ k = 70 ∨ k = 71) with rfl | rfl | rfl | rfl | rfl | rfl | rfl | rfl | rfl | rfl | rfl | rfl
  · exact ck60
  · exact ck61
  · exact ck62
  · exact ck63
  · exact ck64
  · exact ck65
  · exact ck66
  · exact ck67
  · exact ck68
  · exact ck69
  · exact ck70
  · exact ck71
theorem ckg72 : ∀ k, 72 ≤ k → k < 84 → chkT k = true := by
  intro k h1 h2
  rcases (by omega : k = 72 ∨ k = 73 ∨ k = 74 ∨ k = 75 ∨ k = 76 ∨ k = 77 ∨ k = 78 ∨ k = 79 ∨ k = 80 ∨ k = 81 ∨ k = 82 ∨ k = 83) with rfl | rfl | rfl | rfl | rfl | rfl | rfl | rfl | rfl | rfl | rfl | rfl
  · exact ck72
  · exact ck73
  · exact ck74
  · exact ck75
  · exact ck76
  · exact ck77
  · exact ck78
  · exact ck79
  · exact ck80
  · exact ck81
  · exact ck82
  · exact ck83
theorem ckg84 : ∀ k, 84 ≤ k → k < 96 → chkT k = true := by
  intro k h1 h2
  rcases (by omega : k = 84 ∨ k = 85 ∨ k = 86 ∨ k = 87 ∨ k = 88 ∨ k = 89 ∨ k = 90 ∨ k = 91 ∨ k = 92 ∨ k = 93 ∨ k = 94 ∨ k = 95) with rfl | rfl | rfl | rfl | rfl | rfl | rfl | rfl | rfl | rfl | rfl | rfl
  · exact ck84
  · exact ck85
  · exact ck86
  · exact ck87
  · exact ck88
  · exact ck89
  · exact ck90
  · exact ck91
  · exact ck92
  · exact ck93
  · exact ck94
  · exact ck95
theorem ckg96 : ∀ k, 96 ≤ k → k < 108 → chkT k = true := by
  intro k h1 h2
  rcases (by omega : k = 96 ∨ k = 97 ∨ k = 98 ∨ k = 99 ∨ k = 100 ∨ k = 101 ∨ k = 102 ∨ k = 103 ∨ k = 104 ∨ k = 105 ∨ k = 106 ∨ k = 107) with rfl | rfl | rfl | rfl | rfl | rfl | rfl | rfl | rfl | rfl | rfl | rfl
  · exact ck96
  · exact ck97
  · exact ck98
  · exact ck99
  · exact ck100
  · exact ck101
  · exact ck102
  · exact ck103
  · exact ck104
  · exact ck105
  · exact ck106
  · exact ck107
theorem ckg108 : ∀ k, 108 ≤ k → k < 120 → chkT k = true := by
  intro k h1 h2
  rcases (by omega : k = 108 ∨ k = 109 ∨ k = 110 ∨ k = 111 ∨ k = 112 ∨ k = 113 ∨ k = 114 ∨ k = 115 ∨ k = 116 ∨ k = 117 ∨ k = 118 ∨ k = 119) with rfl | rfl | rfl | rfl | rfl | rfl | rfl | rfl | rfl | rfl | rfl | rfl
  · exact ck108
  · exact ck109
  · exact ck110
  · exact ck111
  · exact ck112
  · exact ck113
  · exact ck114
  · exact ck115
  · exact ck116
  · exact ck117
  · exact ck118
  · exact ck119
theorem ckg120 : ∀ k, 120 ≤ k → k < 132 → chkT k = true := by
  intro k h1 h2
  rcases (by omega : k = 120 ∨ k = 121 ∨ k = 122 ∨ k = 123 ∨ k = 124 ∨ k = 125 ∨ k = 126 ∨ k = 127 ∨ k = 128 ∨ k = 129 ∨ k = 130 ∨ k = 131) with rfl | rfl | rfl | rfl | rfl | rfl | rfl | rfl | rfl | rfl | rfl | rfl
  · exact ck120
  · exact ck121
  · exact ck122
  · exact ck123
  · exact ck124
  · exact ck125
  · exact ck126
  · exact ck127
  · exact ck128
  · exact ck129
  · exact ck130
  · exact ck131
theorem ckg132 : ∀ k, 132 ≤ k → k < 144 → chkT k = true := by
  intro k h1 h2
  rcases (by omega : k = 132 ∨ k = 133 ∨ k = 134 ∨ k = 135 ∨ k = 136 ∨ k = 137 ∨ k = 138 ∨ k = 139 ∨ k = 140 ∨ k = 141 ∨ k = 142 ∨ k = 143) with rfl | rfl | rfl | rfl | rfl | rfl | rfl | rfl | rfl | rfl | rfl | rfl
  · exact ck132
  · exact ck133
  · exact ck134
  · exact ck135
  · exact ck136
  · exact ck137
  · exact ck138
  · exact ck139
  · exact ck140
  · exact ck141
  · exact ck142
  · exact ck143
theorem ckg144 : ∀ k, 144 ≤ k → k < 156 → chkT k = true := by
  intro k h1 h2
  rcases (by omega : k = 144 ∨ k = 145 ∨ k = 146 ∨ k = 147 ∨ k = 148 ∨ k = 149 ∨ k = 150 ∨ k = 151 ∨ k = 152 ∨ k = 153 ∨ k = 154 ∨ k = 155) with rfl | rfl | rfl | rfl | rfl | rfl | rfl | rfl | rfl | rfl | rfl | rfl
  · exact ck144
  · exact ck145
  · exact ck146
  · exact ck147
  · exact ck148
  · exact ck149
  · exact ck150
  · exact ck151
  · exact ck152
  · exact ck153
  · exact ck154
  · exact ck155
theorem ckg156 : ∀ k, 156 ≤ k → k < 168 → chkT k = true := by
  intro k h1 h2
  rcases (by omega : k = 156 ∨ k = 157 ∨ k = 158 ∨ k = 159 ∨ k = 160 ∨ k = 161 ∨ k = 162 ∨ k = 163 ∨ k = 164 ∨ k = 165 ∨ k = 166 ∨ k = 167) with rfl | rfl | rfl | rfl | rfl | rfl | rfl | rfl | rfl | rfl | rfl | rfl
  · exact ck156
  · exact ck157
  · exact ck158
  · exact ck159
  · exact ck160
  · exact ck161
  · exact ck162
  · exact ck163
  · exact ck164
  · exact ck165
  · exact ck166
  · exact ck167
theorem ckg168 : ∀ k, 168 ≤ k → k < 180 → chkT k = true := by
  intro k h1 h2
  rcases (by omega : k = 168 ∨ k = 169 ∨ k = 170 ∨ k = 171 ∨ k = 172 ∨ k = 173 ∨ k = 174 ∨ k = 175 ∨ k = 176 ∨ k = 177 ∨ k = 178 ∨ k = 179) with rfl | rfl | rfl | rfl | rfl | rfl | rfl | rfl | rfl | rfl | rfl | rfl
  · exact ck168
  · exact ck169
  · exact ck170
  · exact ck171
  · exact ck172
  · exact ck173
  · exact ck174
  · exact ck175
  · exact ck176
  · exact ck177
  · exact ck178
  · exact ck179
theorem ckg180 : ∀ k, 180 ≤ k → k < 192 → chkT k = true := by
  intro k h1 h2
  rcases (by omega : k = 180 ∨ k = 181 ∨ k = 182 ∨ k = 183 ∨ k = 184 ∨ k = 185 ∨ k = 186 ∨ k = 187 ∨ k = 188 ∨ k = 189 ∨ k = 190 ∨ k = 191) with rfl | rfl | rfl | rfl | rfl | rfl | rfl | rfl | rfl | rfl | rfl | rfl
  · exact ck180
  · exact ck181
  · exact ck182
  · exact ck183
  · exact ck184
  · exact ck185
  · exact ck186
  · exact ck187
  · exact ck188
  · exact ck189
  · exact ck190
  · exact ck191
theorem ckg192 : ∀ k, 192 ≤ k → k < 204 → chkT k = true := by
  intro k h1 h2
  rcases (by omega : k = 192 ∨ k = 193 ∨ k = 194 ∨ k = 195 ∨ k = 196 ∨ k = 197 ∨ k = 198 ∨ k = 199 ∨ k = 200 ∨ k = 201 ∨ k = 202 ∨ k = 203) with rfl | rfl | rfl | rfl | rfl | rfl | rfl | rfl | rfl | rfl | rfl | rfl
  · exact ck192
  · exact ck193
  · exact ck194
  · exact ck195
  · exact ck196
  · exact ck197
  · exact ck198
  · exact ck199
  · exact ck200
  · exact ck201
  · exact ck202
  · exact ck203
theorem ckg204 : ∀ k, 204 ≤ k → k < 216 → chkT k = true := by
  intro k h1 h2
  rcases (by omega : k = 204 ∨ k = 205 ∨ k = 206 ∨ k = 207 ∨ k = 208 ∨ k = 209 ∨ k = 210 ∨ k = 211 ∨ k = 212 ∨ k = 213 ∨ k = 214 ∨ k = 215) with rfl | rfl | rfl | rfl | rfl | rfl | rfl | rfl | rfl | rfl | rfl | rfl
  · exact ck204
  · exact ck205
  · exact ck206
  · exact ck207
  · exact ck208
  · exact ck209
  · exact ck210
  · exact ck211
  · exact ck212
  · exact ck213
  · exact ck214
  · exact ck215
theorem ckg216 : ∀ k, 216 ≤ k → k < 228 → chkT k = true := by
  intro k h1 h2
  rcases (by omega : k = 216 ∨ k = 217 ∨ k = 218 ∨ k = 219 ∨ k = 220 ∨ k = 221 ∨ k = 222 ∨ k = 223 ∨ k = 224 ∨ k = 225 ∨ k = 226 ∨ k = 227) with rfl | rfl | rfl | rfl | rfl | rfl | rfl | rfl | rfl | rfl | rfl | rfl
  · exact ck216
  · exact ck217
  · exact ck218
  · exact ck219
  · exact ck220
  · exact ck221
  · exact ck222
  · exact ck223
  · exact ck224
  · exact ck225
  · exact ck226
  · exact ck227
theorem ckg228 : ∀ k, 228 ≤ k → k < 240 → chkT k = true := by
  intro k h1 h2
  rcases (by omega : k = 228 ∨ k = 229 ∨ k = 230 ∨ k = 231 ∨ k = 232 ∨ k = 233 ∨ k = 234 ∨ k = 235 ∨ k = 236 ∨ k = 237 ∨ k = 238 ∨ k = 239) with rfl | rfl | rfl | rfl | rfl | rfl | rfl | rfl | rfl | rfl | rfl | rfl
  · exact ck228
  · exact ck229
  · exact ck230
  · exact ck231
  · exact ck232
  · exact ck233
  · exact ck234
  · exact ck235
  · exact ck236
  · exact ck237
  · exact ck238
  · exact ck239
theorem ckg240 : ∀ k, 240 ≤ k → k < 252 → chkT k = true := by
  intro k h1 h2
  rcases (by omega : k = 240 ∨ k = 241 ∨ k = 242 ∨ k = 243 ∨ k = 244 ∨ k = 245 ∨ k = 246 ∨ k = 247 ∨ k = 248 ∨ k = 249 ∨ k = 250 ∨ k = 251) with rfl | rfl | rfl | rfl | rfl | rfl | rfl | rfl | rfl | rfl | rfl | rfl
  · exact ck240
  · exact ck241
  · exact ck242
  · exact ck243
  · exact ck244
  · exact ck245
  · exact ck246
  · exact ck247
  · exact ck248
  · exact ck249
  · exact ck250
  · exact ck251
theorem ckg252 : ∀ k, 252 ≤ k → k < 264 → chkT k = true := by
  intro k h1 h2
  rcases (by omega : k = 252 ∨ k = 253 ∨ k = 254 ∨ k = 255 ∨ k = 256 ∨ k = 257 ∨ k = 258 ∨ k = 259 ∨ k = 260 ∨ k = 261 ∨ k = 262 ∨ k = 263) with rfl | rfl | rfl | rfl | rfl | rfl | rfl | rfl | rfl | rfl | rfl | rfl
  · exact ck252
  · exact ck253
  · exact ck254
  · exact ck255
  · exact ck256
  · exact ck257
  · exact ck258
  · exact ck259
  · exact ck260
  · exact ck261
  · exact ck262
  · exact ck263
theorem ckg264 : ∀ k, 264 ≤ k → k < 276 → chkT k = true := by
  intro k h1 h2
  rcases (by omega : k = 264 ∨ k = 265 ∨ k = 266 ∨ k = 267 ∨ k = 268 ∨ k = 269 ∨ k = 270 ∨ k = 271 ∨ k = 272 ∨ k = 273 ∨ k = 274 ∨ k = 275) with rfl | rfl | rfl | rfl | rfl | rfl | rfl | rfl | rfl | rfl | rfl | rfl
  · exact ck264
  · exact ck265
  · exact ck266
  · exact ck267
  · exact ck268
  · exact ck269
  · exact ck270
  · exact ck271
  · exact ck272
  · exact ck273
  · exact ck274
  · exact ck275
theorem ckg276 : ∀ k, 276 ≤ k → k < 282 → chkT k = true := by
  intro k h1 h2
  rcases (by omega : k = 276 ∨ k = 277 ∨ k = 278 ∨ k = 279 ∨ k = 280 ∨ k = 281) with rfl | rfl | rfl | rfl | rfl | rfl
  · exact ck276
  · exact ck277
  · exact ck278
  · exact ck279
  · exact ck280
  · exact ck281
theorem all_ck : ∀ k, k < 282 → chkT k = true := by
  intro k hk
  by_cases h12 : k < 12
  · exact ckg0 k (by omega) h12
  by_cases h24 : k < 24
  · exact ckg12 k (by omega) h24
  by_cases h36 : k < 36
  · exact ckg24 k (by omega) h36
  by_cases h48 : k < 48
  · exact ckg36 k (by omega) h48
  by_cases h60 : k < 60
  · exact ckg48 k (by omega) h60
  by_cases h72 : k < 72
  · exact ckg60 k (by omega) h72
  by_cases h84 : k < 84
  · exact ckg72 k (by omega) h84
  by_cases h96 : k < 96
  · exact ckg84 k (by omega) h96
  by_cases h108 : k < 108
  · exact ckg96 k (by omega) h108
  by_cases h120 : k < 120
  · exact ckg108 k (by omega) h120
  by_cases h132 : k < 132
  · exact ckg120 k (by omega) h132
  by_cases h144 : k < 144
  · exact ckg132 k (by omega) h144
  by_cases h156 : k < 156
  · exact ckg144 k (by omega) h156
  by_cases h168 : k < 168
  · exact ckg156 k (by omega) h168
  by_cases h180 : k < 180
  · exact ckg168 k (by omega) h180
  by_cases h192 : k < 192
  · exact ckg180 k (by omega) h192
  by_cases h204 : k < 204
  · exact ckg192 k (by omega) h204
  by_cases h216 : k < 216
  · exact ckg204 k (by omega) h216
  by_cases h228 : k < 228
  · exact ckg216 k (by omega) h228
  by_cases h240 : k < 240
  · exact ckg228 k (by omega) h240
  by_cases h252 : k < 252
  · exact ckg240 k (by omega) h252
  by_cases h264 : k < 264
  · exact ckg252 k (by omega) h264
  by_cases h276 : k < 276
  · exact ckg264 k (by omega) h276
  exact ckg276 k (by omega) hk
