/-! the reference is made -/
def ent (L : List (Int × Int × Int)) (g : mf_M) : Prop := ∀ q ∈ L, g q.1 q.2.1 = q.2.2
theorem ent.up {L : List (Int × Int × Int)} {g : mf_M} {a k v : Int} (E : ent L g) (hn : L.all (fun q => !(decide (q.1 = a) && decide (q.2.1 = k))) = true) : ent ((a, k, v) :: L) (mf_up g a k v) := by
  intro q hq
  rcases List.mem_cons.mp hq with e | e
  · subst e; exact up_self _ _ _ _
  · have := List.all_eq_true.mp hn q e
    rw [up_if, if_neg (fun z => by simp [z.1, z.2] at this)]
    exact E q e
def frm (R : List Int) (h h' : mf_M) : Prop := ∀ a, ¬ a ∈ R → h' a = h a
theorem frm.up {R : List Int} {h h' : mf_M} {a k v : Int} (F : frm R h h') (ha : a ∈ R) : frm R h (mf_up h' a k v) := fun b hb => by
  rw [up_row (show ¬ b = a from fun z => hb (by rw [z]; exact ha))]
  exact F b hb
def frk (R : List Int) (h h' : mf_M) : Prop := ∀ k, ¬ k ∈ R → h' 245 k = h 245 k
theorem frk.up {R : List Int} {h h' : mf_M} {a k v : Int} (F : frk R h h') (ha : a ≠ 245 ∨ k ∈ R) : frk R h (mf_up h' a k v) := fun j hj => by
  rw [up_if, if_neg (fun z => ha.elim (fun y => y z.1.symm) (fun y => hj (by rw [z.2]; exact y)))]
  exact F j hj
def mdR : List Int := [245, 248, 249, 250, 251, 252, 253, 254, 255, 256, 257, 258, 259, 260, 261, 262, 263, 264, 265, 266, 267, 268, 269, 270, 271, 272, 273, 274, 275, 283, 293, 294, 295, 296, 297, 298, 299, 300, 301, 302, 303, 304, 305, 306, 307, 308, 309, 310, 311, 312, 313, 314]
def mdK : List Int := [8, 71]
def lmg0 : List (Int × Int × Int) := []
def lmh0 : List (Int × Int × Int) := []
def lmg1 : List (Int × Int × Int) := (245, 0, 246) :: lmg0
def lmh2 : List (Int × Int × Int) := (245, 8, (-1)) :: lmh0
def lmg3 : List (Int × Int × Int) := (245, 9, 247) :: lmg1
def lmh5 : List (Int × Int × Int) := (248, 0, 102) :: lmh2
def lmh6 : List (Int × Int × Int) := (248, 1, 111) :: lmh5
def lmh7 : List (Int × Int × Int) := (248, 2, 108) :: lmh6
def lmh8 : List (Int × Int × Int) := (248, 3, 105) :: lmh7
def lmh9 : List (Int × Int × Int) := (248, 4, 111) :: lmh8
def lmg10 : List (Int × Int × Int) := (245, 11, 248) :: lmg3
def lmh12 : List (Int × Int × Int) := (249, 0, 99) :: lmh9
def lmh13 : List (Int × Int × Int) := (249, 1, 101) :: lmh12
def lmh14 : List (Int × Int × Int) := (249, 2, 108) :: lmh13
def lmh15 : List (Int × Int × Int) := (249, 3, 108) :: lmh14
def lmh16 : List (Int × Int × Int) := (249, 4, 115) :: lmh15
def lmg17 : List (Int × Int × Int) := (245, 12, 249) :: lmg10
def lmh19 : List (Int × Int × Int) := (250, 0, 103) :: lmh16
def lmh20 : List (Int × Int × Int) := (250, 1, 108) :: lmh19
def lmh21 : List (Int × Int × Int) := (250, 2, 111) :: lmh20
def lmh22 : List (Int × Int × Int) := (250, 3, 115) :: lmh21
def lmh23 : List (Int × Int × Int) := (250, 4, 115) :: lmh22
def lmg24 : List (Int × Int × Int) := (245, 13, 250) :: lmg17
def lmh26 : List (Int × Int × Int) := (251, 0, 119) :: lmh23
def lmh27 : List (Int × Int × Int) := (251, 1, 111) :: lmh26
def lmh28 : List (Int × Int × Int) := (251, 2, 114) :: lmh27
def lmh29 : List (Int × Int × Int) := (251, 3, 109) :: lmh28
def lmg30 : List (Int × Int × Int) := (245, 14, 251) :: lmg24
def lmh32 : List (Int × Int × Int) := (252, 0, 98) :: lmh29
def lmh33 : List (Int × Int × Int) := (252, 1, 101) :: lmh32
def lmh34 : List (Int × Int × Int) := (252, 2, 105) :: lmh33
def lmh35 : List (Int × Int × Int) := (252, 3, 110) :: lmh34
def lmh36 : List (Int × Int × Int) := (252, 4, 103) :: lmh35
def lmg37 : List (Int × Int × Int) := (245, 15, 252) :: lmg30
def lmh39 : List (Int × Int × Int) := (253, 0, 111) :: lmh36
def lmh40 : List (Int × Int × Int) := (253, 1, 110) :: lmh39
def lmg41 : List (Int × Int × Int) := (245, 16, 253) :: lmg37
def lmh43 : List (Int × Int × Int) := (254, 0, 97) :: lmh40
def lmh44 : List (Int × Int × Int) := (254, 1, 116) :: lmh43
def lmg45 : List (Int × Int × Int) := (245, 17, 254) :: lmg41
def lmh47 : List (Int × Int × Int) := (255, 0, 116) :: lmh44
def lmh48 : List (Int × Int × Int) := (255, 1, 114) :: lmh47
def lmh49 : List (Int × Int × Int) := (255, 2, 97) :: lmh48
def lmh50 : List (Int × Int × Int) := (255, 3, 100) :: lmh49
def lmh51 : List (Int × Int × Int) := (255, 4, 101) :: lmh50
def lmg52 : List (Int × Int × Int) := (245, 18, 255) :: lmg45
def lmh54 : List (Int × Int × Int) := (256, 0, 111) :: lmh51
def lmh55 : List (Int × Int × Int) := (256, 1, 112) :: lmh54
def lmh56 : List (Int × Int × Int) := (256, 2, 101) :: lmh55
def lmh57 : List (Int × Int × Int) := (256, 3, 110) :: lmh56
def lmh58 : List (Int × Int × Int) := (256, 4, 115) :: lmh57
def lmg59 : List (Int × Int × Int) := (245, 19, 256) :: lmg52
def lmh61 : List (Int × Int × Int) := (257, 0, 99) :: lmh58
def lmh62 : List (Int × Int × Int) := (257, 1, 111) :: lmh61
def lmh63 : List (Int × Int × Int) := (257, 2, 114) :: lmh62
def lmh64 : List (Int × Int × Int) := (257, 3, 110) :: lmh63
def lmg65 : List (Int × Int × Int) := (245, 20, 257) :: lmg59
def lmh67 : List (Int × Int × Int) := (258, 0, 116) :: lmh64
def lmh68 : List (Int × Int × Int) := (258, 1, 111) :: lmh67
def lmh69 : List (Int × Int × Int) := (258, 2, 108) :: lmh68
def lmh70 : List (Int × Int × Int) := (258, 3, 108) :: lmh69
def lmg71 : List (Int × Int × Int) := (245, 21, 258) :: lmg65
def lmh73 : List (Int × Int × Int) := (259, 0, 115) :: lmh70
def lmh74 : List (Int × Int × Int) := (259, 1, 116) :: lmh73
def lmh75 : List (Int × Int × Int) := (259, 2, 101) :: lmh74
def lmh76 : List (Int × Int × Int) := (259, 3, 112) :: lmh75
def lmh77 : List (Int × Int × Int) := (259, 4, 115) :: lmh76
def lmg78 : List (Int × Int × Int) := (245, 22, 259) :: lmg71
def lmh80 : List (Int × Int × Int) := (260, 0, 116) :: lmh77
def lmh81 : List (Int × Int × Int) := (260, 1, 104) :: lmh80
def lmh82 : List (Int × Int × Int) := (260, 2, 117) :: lmh81
def lmh83 : List (Int × Int × Int) := (260, 3, 109) :: lmh82
def lmh84 : List (Int × Int × Int) := (260, 4, 98) :: lmh83
def lmg85 : List (Int × Int × Int) := (245, 23, 260) :: lmg78
def lmh87 : List (Int × Int × Int) := (261, 0, 100) :: lmh84
def lmh88 : List (Int × Int × Int) := (261, 1, 97) :: lmh87
def lmh89 : List (Int × Int × Int) := (261, 2, 121) :: lmh88
def lmg90 : List (Int × Int × Int) := (245, 24, 261) :: lmg85
def lmh92 : List (Int × Int × Int) := (262, 0, 108) :: lmh89
def lmh93 : List (Int × Int × Int) := (262, 1, 101) :: lmh92
def lmh94 : List (Int × Int × Int) := (262, 2, 97) :: lmh93
def lmh95 : List (Int × Int × Int) := (262, 3, 102) :: lmh94
def lmg96 : List (Int × Int × Int) := (245, 25, 262) :: lmg90
def lmh98 : List (Int × Int × Int) := (263, 0, 99) :: lmh95
def lmh99 : List (Int × Int × Int) := (263, 1, 101) :: lmh98
def lmh100 : List (Int × Int × Int) := (263, 2, 108) :: lmh99
def lmh101 : List (Int × Int × Int) := (263, 3, 108) :: lmh100
def lmg102 : List (Int × Int × Int) := (245, 26, 263) :: lmg96
def lmh104 : List (Int × Int × Int) := (264, 0, 112) :: lmh101
def lmh105 : List (Int × Int × Int) := (264, 1, 117) :: lmh104
def lmh106 : List (Int × Int × Int) := (264, 2, 114) :: lmh105
def lmh107 : List (Int × Int × Int) := (264, 3, 115) :: lmh106
def lmh108 : List (Int × Int × Int) := (264, 4, 101) :: lmh107
def lmg109 : List (Int × Int × Int) := (245, 27, 264) :: lmg102
def lmh111 : List (Int × Int × Int) := (265, 0, 111) :: lmh108
def lmh112 : List (Int × Int × Int) := (265, 1, 112) :: lmh111
def lmh113 : List (Int × Int × Int) := (265, 2, 101) :: lmh112
def lmh114 : List (Int × Int × Int) := (265, 3, 110) :: lmh113
def lmg115 : List (Int × Int × Int) := (245, 28, 265) :: lmg109
def lmh117 : List (Int × Int × Int) := (266, 0, 111) :: lmh114
def lmh118 : List (Int × Int × Int) := (266, 1, 116) :: lmh117
def lmh119 : List (Int × Int × Int) := (266, 2, 104) :: lmh118
def lmh120 : List (Int × Int × Int) := (266, 3, 101) :: lmh119
def lmh121 : List (Int × Int × Int) := (266, 4, 114) :: lmh120
def lmg122 : List (Int × Int × Int) := (245, 29, 266) :: lmg115
def lmh124 : List (Int × Int × Int) := (267, 0, 110) :: lmh121
def lmh125 : List (Int × Int × Int) := (267, 1, 117) :: lmh124
def lmh126 : List (Int × Int × Int) := (267, 2, 109) :: lmh125
def lmh127 : List (Int × Int × Int) := (267, 3, 98) :: lmh126
def lmh128 : List (Int × Int × Int) := (267, 4, 101) :: lmh127
def lmh129 : List (Int × Int × Int) := (267, 5, 114) :: lmh128
def lmg130 : List (Int × Int × Int) := (245, 30, 267) :: lmg122
def lmh132 : List (Int × Int × Int) := (268, 0, 109) :: lmh129
def lmh133 : List (Int × Int × Int) := (268, 1, 101) :: lmh132
def lmh134 : List (Int × Int × Int) := (268, 2, 116) :: lmh133
def lmg135 : List (Int × Int × Int) := (245, 31, 268) :: lmg130
def lmh137 : List (Int × Int × Int) := (269, 0, 109) :: lmh134
def lmh138 : List (Int × Int × Int) := (269, 1, 101) :: lmh137
def lmh139 : List (Int × Int × Int) := (269, 2, 101) :: lmh138
def lmh140 : List (Int × Int × Int) := (269, 3, 116) :: lmh139
def lmh141 : List (Int × Int × Int) := (269, 4, 115) :: lmh140
def lmg142 : List (Int × Int × Int) := (245, 32, 269) :: lmg135
def lmh144 : List (Int × Int × Int) := (270, 0, 111) :: lmh141
def lmh145 : List (Int × Int × Int) := (270, 1, 114) :: lmh144
def lmg146 : List (Int × Int × Int) := (245, 33, 270) :: lmg142
def lmh148 : List (Int × Int × Int) := (271, 0, 97) :: lmh145
def lmh149 : List (Int × Int × Int) := (271, 1, 110) :: lmh148
def lmh150 : List (Int × Int × Int) := (271, 2, 100) :: lmh149
def lmg151 : List (Int × Int × Int) := (245, 34, 271) :: lmg146
def lmh153 : List (Int × Int × Int) := (272, 0, 110) :: lmh150
def lmh154 : List (Int × Int × Int) := (272, 1, 111) :: lmh153
def lmh155 : List (Int × Int × Int) := (272, 2, 116) :: lmh154
def lmg156 : List (Int × Int × Int) := (245, 35, 272) :: lmg151
def lmh158 : List (Int × Int × Int) := (273, 0, 97) :: lmh155
def lmh159 : List (Int × Int × Int) := (273, 1, 108) :: lmh158
def lmh160 : List (Int × Int × Int) := (273, 2, 108) :: lmh159
def lmg161 : List (Int × Int × Int) := (245, 36, 273) :: lmg156
def lmh163 : List (Int × Int × Int) := (274, 0, 109) :: lmh160
def lmh164 : List (Int × Int × Int) := (274, 1, 105) :: lmh163
def lmh165 : List (Int × Int × Int) := (274, 2, 110) :: lmh164
def lmg166 : List (Int × Int × Int) := (245, 37, 274) :: lmg161
def lmh168 : List (Int × Int × Int) := (275, 0, 109) :: lmh165
def lmh169 : List (Int × Int × Int) := (275, 1, 97) :: lmh168
def lmh170 : List (Int × Int × Int) := (275, 2, 120) :: lmh169
def lmg171 : List (Int × Int × Int) := (245, 38, 275) :: lmg166
def lmg172 : List (Int × Int × Int) := (245, 40, 276) :: lmg171
def lmg173 : List (Int × Int × Int) := (245, 41, 277) :: lmg172
def lmg174 : List (Int × Int × Int) := (245, 42, 278) :: lmg173
def lmg175 : List (Int × Int × Int) := (245, 43, 279) :: lmg174
def lmg176 : List (Int × Int × Int) := (245, 44, 280) :: lmg175
def lmg177 : List (Int × Int × Int) := (245, 45, 281) :: lmg176
def lmg178 : List (Int × Int × Int) := (245, 46, 282) :: lmg177
def lmh180 : List (Int × Int × Int) := (283, 0, (-1)) :: lmh170
def lmh181 : List (Int × Int × Int) := (283, 1, (-1)) :: lmh180
def lmh182 : List (Int × Int × Int) := (283, 2, (-1)) :: lmh181
def lmh183 : List (Int × Int × Int) := (283, 3, (-1)) :: lmh182
def lmh184 : List (Int × Int × Int) := (283, 4, (-1)) :: lmh183
def lmh185 : List (Int × Int × Int) := (283, 5, (-1)) :: lmh184
def lmh186 : List (Int × Int × Int) := (283, 6, (-1)) :: lmh185
def lmh187 : List (Int × Int × Int) := (283, 7, (-1)) :: lmh186
def lmg188 : List (Int × Int × Int) := (245, 49, 283) :: lmg178
def lmg189 : List (Int × Int × Int) := (245, 50, 284) :: lmg188
def lmg190 : List (Int × Int × Int) := (245, 51, 285) :: lmg189
def lmg191 : List (Int × Int × Int) := (245, 56, 286) :: lmg190
def lmg192 : List (Int × Int × Int) := (245, 57, 287) :: lmg191
def lmg193 : List (Int × Int × Int) := (245, 63, 288) :: lmg192
def lmg194 : List (Int × Int × Int) := (245, 64, 289) :: lmg193
def lmg195 : List (Int × Int × Int) := (245, 66, 290) :: lmg194
def lmg196 : List (Int × Int × Int) := (245, 67, 291) :: lmg195
def lmg197 : List (Int × Int × Int) := (245, 68, 292) :: lmg196
def lmh198 : List (Int × Int × Int) := (245, 71, 1) :: lmh187
def lmh200 : List (Int × Int × Int) := (293, 0, 102) :: lmh198
def lmh201 : List (Int × Int × Int) := (293, 1, 105) :: lmh200
def lmh202 : List (Int × Int × Int) := (293, 2, 114) :: lmh201
def lmh203 : List (Int × Int × Int) := (293, 3, 115) :: lmh202
def lmh204 : List (Int × Int × Int) := (293, 4, 116) :: lmh203
def lmg205 : List (Int × Int × Int) := (245, 72, 293) :: lmg197
def lmh207 : List (Int × Int × Int) := (294, 0, 108) :: lmh204
def lmh208 : List (Int × Int × Int) := (294, 1, 97) :: lmh207
def lmh209 : List (Int × Int × Int) := (294, 2, 115) :: lmh208
def lmh210 : List (Int × Int × Int) := (294, 3, 116) :: lmh209
def lmg211 : List (Int × Int × Int) := (245, 73, 294) :: lmg205
def lmh213 : List (Int × Int × Int) := (295, 0, 111) :: lmh210
def lmh214 : List (Int × Int × Int) := (295, 1, 102) :: lmh213
def lmh215 : List (Int × Int × Int) := (295, 2, 116) :: lmh214
def lmh216 : List (Int × Int × Int) := (295, 3, 101) :: lmh215
def lmh217 : List (Int × Int × Int) := (295, 4, 110) :: lmh216
def lmg218 : List (Int × Int × Int) := (245, 74, 295) :: lmg211
def lmh220 : List (Int × Int × Int) := (296, 0, 116) :: lmh217
def lmh221 : List (Int × Int × Int) := (296, 1, 111) :: lmh220
def lmh222 : List (Int × Int × Int) := (296, 2, 116) :: lmh221
def lmh223 : List (Int × Int × Int) := (296, 3, 97) :: lmh222
def lmh224 : List (Int × Int × Int) := (296, 4, 108) :: lmh223
def lmg225 : List (Int × Int × Int) := (245, 75, 296) :: lmg218
def lmh227 : List (Int × Int × Int) := (297, 0, 109) :: lmh224
def lmh228 : List (Int × Int × Int) := (297, 1, 111) :: lmh227
def lmh229 : List (Int × Int × Int) := (297, 2, 115) :: lmh228
def lmh230 : List (Int × Int × Int) := (297, 3, 116) :: lmh229
def lmg231 : List (Int × Int × Int) := (245, 76, 297) :: lmg225
def lmh233 : List (Int × Int × Int) := (298, 0, 108) :: lmh230
def lmh234 : List (Int × Int × Int) := (298, 1, 101) :: lmh233
def lmh235 : List (Int × Int × Int) := (298, 2, 97) :: lmh234
def lmh236 : List (Int × Int × Int) := (298, 3, 115) :: lmh235
def lmh237 : List (Int × Int × Int) := (298, 4, 116) :: lmh236
def lmg238 : List (Int × Int × Int) := (245, 77, 298) :: lmg231
def lmh240 : List (Int × Int × Int) := (299, 0, 110) :: lmh237
def lmh241 : List (Int × Int × Int) := (299, 1, 111) :: lmh240
def lmh242 : List (Int × Int × Int) := (299, 2, 116) :: lmh241
def lmg243 : List (Int × Int × Int) := (245, 78, 299) :: lmg238
def lmh245 : List (Int × Int × Int) := (300, 0, 97) :: lmh242
def lmh246 : List (Int × Int × Int) := (300, 1, 110) :: lmh245
def lmh247 : List (Int × Int × Int) := (300, 2, 100) :: lmh246
def lmg248 : List (Int × Int × Int) := (245, 79, 300) :: lmg243
def lmh250 : List (Int × Int × Int) := (301, 0, 111) :: lmh247
def lmh251 : List (Int × Int × Int) := (301, 1, 114) :: lmh250
def lmg252 : List (Int × Int × Int) := (245, 80, 301) :: lmg248
def lmh254 : List (Int × Int × Int) := (302, 0, 97) :: lmh251
def lmh255 : List (Int × Int × Int) := (302, 1, 108) :: lmh254
def lmh256 : List (Int × Int × Int) := (302, 2, 108) :: lmh255
def lmg257 : List (Int × Int × Int) := (245, 81, 302) :: lmg252
def lmh259 : List (Int × Int × Int) := (303, 0, 109) :: lmh256
def lmh260 : List (Int × Int × Int) := (303, 1, 105) :: lmh259
def lmh261 : List (Int × Int × Int) := (303, 2, 110) :: lmh260
def lmg262 : List (Int × Int × Int) := (245, 82, 303) :: lmg257
def lmh264 : List (Int × Int × Int) := (304, 0, 109) :: lmh261
def lmh265 : List (Int × Int × Int) := (304, 1, 97) :: lmh264
def lmh266 : List (Int × Int × Int) := (304, 2, 120) :: lmh265
def lmg267 : List (Int × Int × Int) := (245, 83, 304) :: lmg262
def lmh269 : List (Int × Int × Int) := (305, 0, 100) :: lmh266
def lmh270 : List (Int × Int × Int) := (305, 1, 97) :: lmh269
def lmh271 : List (Int × Int × Int) := (305, 2, 121) :: lmh270
def lmg272 : List (Int × Int × Int) := (245, 84, 305) :: lmg267
def lmh274 : List (Int × Int × Int) := (306, 0, 108) :: lmh271
def lmh275 : List (Int × Int × Int) := (306, 1, 101) :: lmh274
def lmh276 : List (Int × Int × Int) := (306, 2, 97) :: lmh275
def lmh277 : List (Int × Int × Int) := (306, 3, 102) :: lmh276
def lmg278 : List (Int × Int × Int) := (245, 85, 306) :: lmg272
def lmh280 : List (Int × Int × Int) := (307, 0, 99) :: lmh277
def lmh281 : List (Int × Int × Int) := (307, 1, 101) :: lmh280
def lmh282 : List (Int × Int × Int) := (307, 2, 108) :: lmh281
def lmh283 : List (Int × Int × Int) := (307, 3, 108) :: lmh282
def lmg284 : List (Int × Int × Int) := (245, 86, 307) :: lmg278
def lmh286 : List (Int × Int × Int) := (308, 0, 116) :: lmh283
def lmh287 : List (Int × Int × Int) := (308, 1, 114) :: lmh286
def lmh288 : List (Int × Int × Int) := (308, 2, 97) :: lmh287
def lmh289 : List (Int × Int × Int) := (308, 3, 100) :: lmh288
def lmh290 : List (Int × Int × Int) := (308, 4, 101) :: lmh289
def lmg291 : List (Int × Int × Int) := (245, 87, 308) :: lmg284
def lmh293 : List (Int × Int × Int) := (309, 0, 112) :: lmh290
def lmh294 : List (Int × Int × Int) := (309, 1, 117) :: lmh293
def lmh295 : List (Int × Int × Int) := (309, 2, 114) :: lmh294
def lmh296 : List (Int × Int × Int) := (309, 3, 115) :: lmh295
def lmh297 : List (Int × Int × Int) := (309, 4, 101) :: lmh296
def lmg298 : List (Int × Int × Int) := (245, 88, 309) :: lmg291
def lmh300 : List (Int × Int × Int) := (310, 0, 111) :: lmh297
def lmh301 : List (Int × Int × Int) := (310, 1, 112) :: lmh300
def lmh302 : List (Int × Int × Int) := (310, 2, 101) :: lmh301
def lmh303 : List (Int × Int × Int) := (310, 3, 110) :: lmh302
def lmg304 : List (Int × Int × Int) := (245, 89, 310) :: lmg298
def lmh306 : List (Int × Int × Int) := (311, 0, 111) :: lmh303
def lmh307 : List (Int × Int × Int) := (311, 1, 116) :: lmh306
def lmh308 : List (Int × Int × Int) := (311, 2, 104) :: lmh307
def lmh309 : List (Int × Int × Int) := (311, 3, 101) :: lmh308
def lmh310 : List (Int × Int × Int) := (311, 4, 114) :: lmh309
def lmg311 : List (Int × Int × Int) := (245, 90, 311) :: lmg304
def lmh313 : List (Int × Int × Int) := (312, 0, 110) :: lmh310
def lmh314 : List (Int × Int × Int) := (312, 1, 117) :: lmh313
def lmh315 : List (Int × Int × Int) := (312, 2, 109) :: lmh314
def lmh316 : List (Int × Int × Int) := (312, 3, 98) :: lmh315
def lmh317 : List (Int × Int × Int) := (312, 4, 101) :: lmh316
def lmh318 : List (Int × Int × Int) := (312, 5, 114) :: lmh317
def lmg319 : List (Int × Int × Int) := (245, 91, 312) :: lmg311
def lmh321 : List (Int × Int × Int) := (313, 0, 109) :: lmh318
def lmh322 : List (Int × Int × Int) := (313, 1, 101) :: lmh321
def lmh323 : List (Int × Int × Int) := (313, 2, 116) :: lmh322
def lmg324 : List (Int × Int × Int) := (245, 92, 313) :: lmg319
def lmh326 : List (Int × Int × Int) := (314, 0, 109) :: lmh323
def lmh327 : List (Int × Int × Int) := (314, 1, 101) :: lmh326
def lmh328 : List (Int × Int × Int) := (314, 2, 101) :: lmh327
def lmh329 : List (Int × Int × Int) := (314, 3, 116) :: lmh328
def lmh330 : List (Int × Int × Int) := (314, 4, 115) :: lmh329
def lmg331 : List (Int × Int × Int) := (245, 93, 314) :: lmg324
def lmg332 : List (Int × Int × Int) := (245, 94, 315) :: lmg331
def lmg333 : List (Int × Int × Int) := (245, 96, 316) :: lmg332
def lmg334 : List (Int × Int × Int) := (245, 100, 317) :: lmg333
def lmg335 : List (Int × Int × Int) := (245, 104, 318) :: lmg334
set_option maxRecDepth 100000 in
set_option maxHeartbeats 8000000 in
theorem c12 {C : mf_G} {l : Launch} {d : Nat} {K : mf_Kt} {g h : mf_M} (hd : 1 ≤ d) (F0 : frs 246 g h) (hK : ∀ g' h', ent lmg335 g' → ent lmh330 h' → frm [245] g g' → frm mdR h h' → frk mdK h h' → K 0 g' h') : mf_MT C l d YX12_init [(2, 245)] 246 319 g h K := by
  have EG0 : ent lmg0 g := fun q hq => absurd hq (by simp [lmg0])
  have EH0 : ent lmh0 h := fun q hq => absurd hq (by simp [lmh0])
  have FG0 : frm [245] g g := fun _ _ => rfl
  have FH0 : frm mdR h h := fun _ _ => rfl
  have HC0 : frk mdK h h := fun _ _ => rfl
  refine mX12_init hd ⟨by decide, by decide +kernel, moreR (by decide), fun j => F0.1 _ (by decide) _, fun j => F0.2 _ (by decide) _, ⟨by decide, by decide, by decide +kernel⟩, fun g7 e1 => ?_⟩
  replace e1 : g7 = mf_up g 245 0 246 := e1
  have EG1 : ent lmg1 g7 := by rw [e1]; exact EG0.up (by decide +kernel)
  have FG1 : frm [245] g g7 := by rw [e1]; exact FG0.up (by decide)
  have F1 : frs 246 g7 h := by rw [e1]; exact (F0.mono (by decide)).ug (by decide)
  refine fun h8 e2 => ?_
  replace e2 : h8 = mf_up h 245 8 (-1) := e2
  have EH2 : ent lmh2 h8 := by rw [e2]; exact EH0.up (by decide +kernel)
  have FH2 : frm mdR h h8 := by rw [e2]; exact FH0.up (by decide)
  have HC2 : frk mdK h h8 := by rw [e2]; exact HC0.up (by decide)
  have F2 : frs 246 g7 h8 := by rw [e2]; exact (F1.mono (by decide)).uh (by decide)
  refine ⟨by decide +kernel, moreR (by decide), fun j => F2.1 _ (by decide) _, fun j => F2.2 _ (by decide) _, ⟨by decide, by decide, by decide +kernel⟩, fun g14 e3 => ?_⟩
  replace e3 : g14 = mf_up g7 245 9 247 := e3
  have EG3 : ent lmg3 g14 := by rw [e3]; exact EG1.up (by decide +kernel)
  have FG3 : frm [245] g g14 := by rw [e3]; exact FG1.up (by decide)
  have F3 : frs 246 g14 h8 := by rw [e3]; exact (F2.mono (by decide)).ug (by decide)
  refine ⟨by decide +kernel, moreR (by decide), fun j => F3.1 _ (by decide) _, fun j => F3.2 _ (by decide) _, fun v19 e4 => ?_⟩
  replace e4 : v19 = 248 := e4
  subst e4
  refine ⟨⟨by decide, by decide, by decide +kernel⟩, by decide +kernel, fun h22 e5 => ?_⟩
  replace e5 : h22 = mf_up h8 248 0 102 := e5
  have EH5 : ent lmh5 h22 := by rw [e5]; exact EH2.up (by decide +kernel)
  have FH5 : frm mdR h h22 := by rw [e5]; exact FH2.up (by decide)
  have HC5 : frk mdK h h22 := by rw [e5]; exact HC2.up (by decide)
  have F5 : frs 249 g14 h22 := by rw [e5]; exact (F3.mono (by decide)).uh (by decide)
  refine ⟨by decide +kernel, fun h24 e6 => ?_⟩
  replace e6 : h24 = mf_up h22 248 1 111 := e6
  have EH6 : ent lmh6 h24 := by rw [e6]; exact EH5.up (by decide +kernel)
  have FH6 : frm mdR h h24 := by rw [e6]; exact FH5.up (by decide)
  have HC6 : frk mdK h h24 := by rw [e6]; exact HC5.up (by decide)
  have F6 : frs 249 g14 h24 := by rw [e6]; exact (F5.mono (by decide)).uh (by decide)
  refine ⟨by decide +kernel, fun h26 e7 => ?_⟩
  replace e7 : h26 = mf_up h24 248 2 108 := e7
  have EH7 : ent lmh7 h26 := by rw [e7]; exact EH6.up (by decide +kernel)
  have FH7 : frm mdR h h26 := by rw [e7]; exact FH6.up (by decide)
  have HC7 : frk mdK h h26 := by rw [e7]; exact HC6.up (by decide)
  have F7 : frs 249 g14 h26 := by rw [e7]; exact (F6.mono (by decide)).uh (by decide)
  refine ⟨by decide +kernel, fun h28 e8 => ?_⟩
  replace e8 : h28 = mf_up h26 248 3 105 := e8
  have EH8 : ent lmh8 h28 := by rw [e8]; exact EH7.up (by decide +kernel)
  have FH8 : frm mdR h h28 := by rw [e8]; exact FH7.up (by decide)
  have HC8 : frk mdK h h28 := by rw [e8]; exact HC7.up (by decide)
  have F8 : frs 249 g14 h28 := by rw [e8]; exact (F7.mono (by decide)).uh (by decide)
  refine ⟨by decide +kernel, fun h30 e9 => ?_⟩
  replace e9 : h30 = mf_up h28 248 4 111 := e9
  have EH9 : ent lmh9 h30 := by rw [e9]; exact EH8.up (by decide +kernel)
  have FH9 : frm mdR h h30 := by rw [e9]; exact FH8.up (by decide)
  have HC9 : frk mdK h h30 := by rw [e9]; exact HC8.up (by decide)
  have F9 : frs 249 g14 h30 := by rw [e9]; exact (F8.mono (by decide)).uh (by decide)
  refine ⟨⟨by decide, by decide, by decide +kernel⟩, fun g32 e10 => ?_⟩
  replace e10 : g32 = mf_up g14 245 11 248 := e10
  have EG10 : ent lmg10 g32 := by rw [e10]; exact EG3.up (by decide +kernel)
  have FG10 : frm [245] g g32 := by rw [e10]; exact FG3.up (by decide)
  have F10 : frs 249 g32 h30 := by rw [e10]; exact (F9.mono (by decide)).ug (by decide)
  refine ⟨by decide +kernel, moreR (by decide), fun j => F10.1 _ (by decide) _, fun j => F10.2 _ (by decide) _, fun v37 e11 => ?_⟩
  replace e11 : v37 = 249 := e11
  subst e11
  refine ⟨⟨by decide, by decide, by decide +kernel⟩, by decide +kernel, fun h40 e12 => ?_⟩
  replace e12 : h40 = mf_up h30 249 0 99 := e12
  have EH12 : ent lmh12 h40 := by rw [e12]; exact EH9.up (by decide +kernel)
  have FH12 : frm mdR h h40 := by rw [e12]; exact FH9.up (by decide)
  have HC12 : frk mdK h h40 := by rw [e12]; exact HC9.up (by decide)
  have F12 : frs 250 g32 h40 := by rw [e12]; exact (F10.mono (by decide)).uh (by decide)
  refine ⟨by decide +kernel, fun h42 e13 => ?_⟩
  replace e13 : h42 = mf_up h40 249 1 101 := e13
  have EH13 : ent lmh13 h42 := by rw [e13]; exact EH12.up (by decide +kernel)
  have FH13 : frm mdR h h42 := by rw [e13]; exact FH12.up (by decide)
  have HC13 : frk mdK h h42 := by rw [e13]; exact HC12.up (by decide)
  have F13 : frs 250 g32 h42 := by rw [e13]; exact (F12.mono (by decide)).uh (by decide)
  refine ⟨by decide +kernel, fun h44 e14 => ?_⟩
  replace e14 : h44 = mf_up h42 249 2 108 := e14
  have EH14 : ent lmh14 h44 := by rw [e14]; exact EH13.up (by decide +kernel)
  have FH14 : frm mdR h h44 := by rw [e14]; exact FH13.up (by decide)
  have HC14 : frk mdK h h44 := by rw [e14]; exact HC13.up (by decide)
  have F14 : frs 250 g32 h44 := by rw [e14]; exact (F13.mono (by decide)).uh (by decide)
  refine ⟨by decide +kernel, fun h46 e15 => ?_⟩
  replace e15 : h46 = mf_up h44 249 3 108 := e15
  have EH15 : ent lmh15 h46 := by rw [e15]; exact EH14.up (by decide +kernel)
  have FH15 : frm mdR h h46 := by rw [e15]; exact FH14.up (by decide)
  have HC15 : frk mdK h h46 := by rw [e15]; exact HC14.up (by decide)
  have F15 : frs 250 g32 h46 := by rw [e15]; exact (F14.mono (by decide)).uh (by decide)
  refine ⟨by decide +kernel, fun h48 e16 => ?_⟩
  replace e16 : h48 = mf_up h46 249 4 115 := e16
  have EH16 : ent lmh16 h48 := by rw [e16]; exact EH15.up (by decide +kernel)
  have FH16 : frm mdR h h48 := by rw [e16]; exact FH15.up (by decide)
  have HC16 : frk mdK h h48 := by rw [e16]; exact HC15.up (by decide)
  have F16 : frs 250 g32 h48 := by rw [e16]; exact (F15.mono (by decide)).uh (by decide)
  refine ⟨⟨by decide, by decide, by decide +kernel⟩, fun g50 e17 => ?_⟩
  replace e17 : g50 = mf_up g32 245 12 249 := e17
  have EG17 : ent lmg17 g50 := by rw [e17]; exact EG10.up (by decide +kernel)
  have FG17 : frm [245] g g50 := by rw [e17]; exact FG10.up (by decide)
  have F17 : frs 250 g50 h48 := by rw [e17]; exact (F16.mono (by decide)).ug (by decide)
  refine ⟨by decide +kernel, moreR (by decide), fun j => F17.1 _ (by decide) _, fun j => F17.2 _ (by decide) _, fun v55 e18 => ?_⟩
  replace e18 : v55 = 250 := e18
  subst e18
  refine ⟨⟨by decide, by decide, by decide +kernel⟩, by decide +kernel, fun h58 e19 => ?_⟩
  replace e19 : h58 = mf_up h48 250 0 103 := e19
  have EH19 : ent lmh19 h58 := by rw [e19]; exact EH16.up (by decide +kernel)
  have FH19 : frm mdR h h58 := by rw [e19]; exact FH16.up (by decide)
  have HC19 : frk mdK h h58 := by rw [e19]; exact HC16.up (by decide)
  have F19 : frs 251 g50 h58 := by rw [e19]; exact (F17.mono (by decide)).uh (by decide)
  refine ⟨by decide +kernel, fun h60 e20 => ?_⟩
  replace e20 : h60 = mf_up h58 250 1 108 := e20
  have EH20 : ent lmh20 h60 := by rw [e20]; exact EH19.up (by decide +kernel)
  have FH20 : frm mdR h h60 := by rw [e20]; exact FH19.up (by decide)
  have HC20 : frk mdK h h60 := by rw [e20]; exact HC19.up (by decide)
  have F20 : frs 251 g50 h60 := by rw [e20]; exact (F19.mono (by decide)).uh (by decide)
  refine ⟨by decide +kernel, fun h62 e21 => ?_⟩
  replace e21 : h62 = mf_up h60 250 2 111 := e21
  have EH21 : ent lmh21 h62 := by rw [e21]; exact EH20.up (by decide +kernel)
  have FH21 : frm mdR h h62 := by rw [e21]; exact FH20.up (by decide)
  have HC21 : frk mdK h h62 := by rw [e21]; exact HC20.up (by decide)
  have F21 : frs 251 g50 h62 := by rw [e21]; exact (F20.mono (by decide)).uh (by decide)
  refine ⟨by decide +kernel, fun h64 e22 => ?_⟩
  replace e22 : h64 = mf_up h62 250 3 115 := e22
  have EH22 : ent lmh22 h64 := by rw [e22]; exact EH21.up (by decide +kernel)
  have FH22 : frm mdR h h64 := by rw [e22]; exact FH21.up (by decide)
  have HC22 : frk mdK h h64 := by rw [e22]; exact HC21.up (by decide)
  have F22 : frs 251 g50 h64 := by rw [e22]; exact (F21.mono (by decide)).uh (by decide)
  refine ⟨by decide +kernel, fun h66 e23 => ?_⟩
  replace e23 : h66 = mf_up h64 250 4 115 := e23
  have EH23 : ent lmh23 h66 := by rw [e23]; exact EH22.up (by decide +kernel)
  have FH23 : frm mdR h h66 := by rw [e23]; exact FH22.up (by decide)
  have HC23 : frk mdK h h66 := by rw [e23]; exact HC22.up (by decide)
  have F23 : frs 251 g50 h66 := by rw [e23]; exact (F22.mono (by decide)).uh (by decide)
  refine ⟨⟨by decide, by decide, by decide +kernel⟩, fun g68 e24 => ?_⟩
  replace e24 : g68 = mf_up g50 245 13 250 := e24
  have EG24 : ent lmg24 g68 := by rw [e24]; exact EG17.up (by decide +kernel)
  have FG24 : frm [245] g g68 := by rw [e24]; exact FG17.up (by decide)
  have F24 : frs 251 g68 h66 := by rw [e24]; exact (F23.mono (by decide)).ug (by decide)
  refine ⟨by decide +kernel, moreR (by decide), fun j => F24.1 _ (by decide) _, fun j => F24.2 _ (by decide) _, fun v73 e25 => ?_⟩
  replace e25 : v73 = 251 := e25
  subst e25
  refine ⟨⟨by decide, by decide, by decide +kernel⟩, by decide +kernel, fun h76 e26 => ?_⟩
  replace e26 : h76 = mf_up h66 251 0 119 := e26
  have EH26 : ent lmh26 h76 := by rw [e26]; exact EH23.up (by decide +kernel)
  have FH26 : frm mdR h h76 := by rw [e26]; exact FH23.up (by decide)
  have HC26 : frk mdK h h76 := by rw [e26]; exact HC23.up (by decide)
  have F26 : frs 252 g68 h76 := by rw [e26]; exact (F24.mono (by decide)).uh (by decide)
  refine ⟨by decide +kernel, fun h78 e27 => ?_⟩
  replace e27 : h78 = mf_up h76 251 1 111 := e27
  have EH27 : ent lmh27 h78 := by rw [e27]; exact EH26.up (by decide +kernel)
  have FH27 : frm mdR h h78 := by rw [e27]; exact FH26.up (by decide)
  have HC27 : frk mdK h h78 := by rw [e27]; exact HC26.up (by decide)
  have F27 : frs 252 g68 h78 := by rw [e27]; exact (F26.mono (by decide)).uh (by decide)
  refine ⟨by decide +kernel, fun h80 e28 => ?_⟩
  replace e28 : h80 = mf_up h78 251 2 114 := e28
  have EH28 : ent lmh28 h80 := by rw [e28]; exact EH27.up (by decide +kernel)
  have FH28 : frm mdR h h80 := by rw [e28]; exact FH27.up (by decide)
  have HC28 : frk mdK h h80 := by rw [e28]; exact HC27.up (by decide)
  have F28 : frs 252 g68 h80 := by rw [e28]; exact (F27.mono (by decide)).uh (by decide)
  refine ⟨by decide +kernel, fun h82 e29 => ?_⟩
  replace e29 : h82 = mf_up h80 251 3 109 := e29
  have EH29 : ent lmh29 h82 := by rw [e29]; exact EH28.up (by decide +kernel)
  have FH29 : frm mdR h h82 := by rw [e29]; exact FH28.up (by decide)
  have HC29 : frk mdK h h82 := by rw [e29]; exact HC28.up (by decide)
  have F29 : frs 252 g68 h82 := by rw [e29]; exact (F28.mono (by decide)).uh (by decide)
  refine ⟨⟨by decide, by decide, by decide +kernel⟩, fun g84 e30 => ?_⟩
  replace e30 : g84 = mf_up g68 245 14 251 := e30
  have EG30 : ent lmg30 g84 := by rw [e30]; exact EG24.up (by decide +kernel)
  have FG30 : frm [245] g g84 := by rw [e30]; exact FG24.up (by decide)
  have F30 : frs 252 g84 h82 := by rw [e30]; exact (F29.mono (by decide)).ug (by decide)
  refine ⟨by decide +kernel, moreR (by decide), fun j => F30.1 _ (by decide) _, fun j => F30.2 _ (by decide) _, fun v89 e31 => ?_⟩
  replace e31 : v89 = 252 := e31
  subst e31
  refine ⟨⟨by decide, by decide, by decide +kernel⟩, by decide +kernel, fun h92 e32 => ?_⟩
  replace e32 : h92 = mf_up h82 252 0 98 := e32
  have EH32 : ent lmh32 h92 := by rw [e32]; exact EH29.up (by decide +kernel)
  have FH32 : frm mdR h h92 := by rw [e32]; exact FH29.up (by decide)
  have HC32 : frk mdK h h92 := by rw [e32]; exact HC29.up (by decide)
  have F32 : frs 253 g84 h92 := by rw [e32]; exact (F30.mono (by decide)).uh (by decide)
  refine ⟨by decide +kernel, fun h94 e33 => ?_⟩
  replace e33 : h94 = mf_up h92 252 1 101 := e33
  have EH33 : ent lmh33 h94 := by rw [e33]; exact EH32.up (by decide +kernel)
  have FH33 : frm mdR h h94 := by rw [e33]; exact FH32.up (by decide)
  have HC33 : frk mdK h h94 := by rw [e33]; exact HC32.up (by decide)
  have F33 : frs 253 g84 h94 := by rw [e33]; exact (F32.mono (by decide)).uh (by decide)
  refine ⟨by decide +kernel, fun h96 e34 => ?_⟩
  replace e34 : h96 = mf_up h94 252 2 105 := e34
  have EH34 : ent lmh34 h96 := by rw [e34]; exact EH33.up (by decide +kernel)
  have FH34 : frm mdR h h96 := by rw [e34]; exact FH33.up (by decide)
  have HC34 : frk mdK h h96 := by rw [e34]; exact HC33.up (by decide)
  have F34 : frs 253 g84 h96 := by rw [e34]; exact (F33.mono (by decide)).uh (by decide)
  refine ⟨by decide +kernel, fun h98 e35 => ?_⟩
  replace e35 : h98 = mf_up h96 252 3 110 := e35
  have EH35 : ent lmh35 h98 := by rw [e35]; exact EH34.up (by decide +kernel)
  have FH35 : frm mdR h h98 := by rw [e35]; exact FH34.up (by decide)
  have HC35 : frk mdK h h98 := by rw [e35]; exact HC34.up (by decide)
  have F35 : frs 253 g84 h98 := by rw [e35]; exact (F34.mono (by decide)).uh (by decide)
  refine ⟨by decide +kernel, fun h100 e36 => ?_⟩
  replace e36 : h100 = mf_up h98 252 4 103 := e36
  have EH36 : ent lmh36 h100 := by rw [e36]; exact EH35.up (by decide +kernel)
  have FH36 : frm mdR h h100 := by rw [e36]; exact FH35.up (by decide)
  have HC36 : frk mdK h h100 := by rw [e36]; exact HC35.up (by decide)
  have F36 : frs 253 g84 h100 := by rw [e36]; exact (F35.mono (by decide)).uh (by decide)
  refine ⟨⟨by decide, by decide, by decide +kernel⟩, fun g102 e37 => ?_⟩
  replace e37 : g102 = mf_up g84 245 15 252 := e37
  have EG37 : ent lmg37 g102 := by rw [e37]; exact EG30.up (by decide +kernel)
  have FG37 : frm [245] g g102 := by rw [e37]; exact FG30.up (by decide)
  have F37 : frs 253 g102 h100 := by rw [e37]; exact (F36.mono (by decide)).ug (by decide)
  refine ⟨by decide +kernel, moreR (by decide), fun j => F37.1 _ (by decide) _, fun j => F37.2 _ (by decide) _, fun v107 e38 => ?_⟩
  replace e38 : v107 = 253 := e38
  subst e38
  refine ⟨⟨by decide, by decide, by decide +kernel⟩, by decide +kernel, fun h110 e39 => ?_⟩
  replace e39 : h110 = mf_up h100 253 0 111 := e39
  have EH39 : ent lmh39 h110 := by rw [e39]; exact EH36.up (by decide +kernel)
  have FH39 : frm mdR h h110 := by rw [e39]; exact FH36.up (by decide)
  have HC39 : frk mdK h h110 := by rw [e39]; exact HC36.up (by decide)
  have F39 : frs 254 g102 h110 := by rw [e39]; exact (F37.mono (by decide)).uh (by decide)
  refine ⟨by decide +kernel, fun h112 e40 => ?_⟩
  replace e40 : h112 = mf_up h110 253 1 110 := e40
  have EH40 : ent lmh40 h112 := by rw [e40]; exact EH39.up (by decide +kernel)
  have FH40 : frm mdR h h112 := by rw [e40]; exact FH39.up (by decide)
  have HC40 : frk mdK h h112 := by rw [e40]; exact HC39.up (by decide)
  have F40 : frs 254 g102 h112 := by rw [e40]; exact (F39.mono (by decide)).uh (by decide)
  refine ⟨⟨by decide, by decide, by decide +kernel⟩, fun g114 e41 => ?_⟩
  replace e41 : g114 = mf_up g102 245 16 253 := e41
  have EG41 : ent lmg41 g114 := by rw [e41]; exact EG37.up (by decide +kernel)
  have FG41 : frm [245] g g114 := by rw [e41]; exact FG37.up (by decide)
  have F41 : frs 254 g114 h112 := by rw [e41]; exact (F40.mono (by decide)).ug (by decide)
  refine ⟨by decide +kernel, moreR (by decide), fun j => F41.1 _ (by decide) _, fun j => F41.2 _ (by decide) _, fun v119 e42 => ?_⟩
  replace e42 : v119 = 254 := e42
  subst e42
  refine ⟨⟨by decide, by decide, by decide +kernel⟩, by decide +kernel, fun h122 e43 => ?_⟩
  replace e43 : h122 = mf_up h112 254 0 97 := e43
  have EH43 : ent lmh43 h122 := by rw [e43]; exact EH40.up (by decide +kernel)
  have FH43 : frm mdR h h122 := by rw [e43]; exact FH40.up (by decide)
  have HC43 : frk mdK h h122 := by rw [e43]; exact HC40.up (by decide)
  have F43 : frs 255 g114 h122 := by rw [e43]; exact (F41.mono (by decide)).uh (by decide)
  refine ⟨by decide +kernel, fun h124 e44 => ?_⟩
  replace e44 : h124 = mf_up h122 254 1 116 := e44
  have EH44 : ent lmh44 h124 := by rw [e44]; exact EH43.up (by decide +kernel)
  have FH44 : frm mdR h h124 := by rw [e44]; exact FH43.up (by decide)
  have HC44 : frk mdK h h124 := by rw [e44]; exact HC43.up (by decide)
  have F44 : frs 255 g114 h124 := by rw [e44]; exact (F43.mono (by decide)).uh (by decide)
  refine ⟨⟨by decide, by decide, by decide +kernel⟩, fun g126 e45 => ?_⟩
  replace e45 : g126 = mf_up g114 245 17 254 := e45
  have EG45 : ent lmg45 g126 := by rw [e45]; exact EG41.up (by decide +kernel)
  have FG45 : frm [245] g g126 := by rw [e45]; exact FG41.up (by decide)
  have F45 : frs 255 g126 h124 := by rw [e45]; exact (F44.mono (by decide)).ug (by decide)
  refine ⟨by decide +kernel, moreR (by decide), fun j => F45.1 _ (by decide) _, fun j => F45.2 _ (by decide) _, fun v131 e46 => ?_⟩
  replace e46 : v131 = 255 := e46
  subst e46
  refine ⟨⟨by decide, by decide, by decide +kernel⟩, by decide +kernel, fun h134 e47 => ?_⟩
  replace e47 : h134 = mf_up h124 255 0 116 := e47
  have EH47 : ent lmh47 h134 := by rw [e47]; exact EH44.up (by decide +kernel)
  have FH47 : frm mdR h h134 := by rw [e47]; exact FH44.up (by decide)
  have HC47 : frk mdK h h134 := by rw [e47]; exact HC44.up (by decide)
  have F47 : frs 256 g126 h134 := by rw [e47]; exact (F45.mono (by decide)).uh (by decide)
  refine ⟨by decide +kernel, fun h136 e48 => ?_⟩
  replace e48 : h136 = mf_up h134 255 1 114 := e48
  have EH48 : ent lmh48 h136 := by rw [e48]; exact EH47.up (by decide +kernel)
  have FH48 : frm mdR h h136 := by rw [e48]; exact FH47.up (by decide)
  have HC48 : frk mdK h h136 := by rw [e48]; exact HC47.up (by decide)
  have F48 : frs 256 g126 h136 := by rw [e48]; exact (F47.mono (by decide)).uh (by decide)
  refine ⟨by decide +kernel, fun h138 e49 => ?_⟩
  replace e49 : h138 = mf_up h136 255 2 97 := e49
  have EH49 : ent lmh49 h138 := by rw [e49]; exact EH48.up (by decide +kernel)
  have FH49 : frm mdR h h138 := by rw [e49]; exact FH48.up (by decide)
  have HC49 : frk mdK h h138 := by rw [e49]; exact HC48.up (by decide)
  have F49 : frs 256 g126 h138 := by rw [e49]; exact (F48.mono (by decide)).uh (by decide)
  refine ⟨by decide +kernel, fun h140 e50 => ?_⟩
  replace e50 : h140 = mf_up h138 255 3 100 := e50
  have EH50 : ent lmh50 h140 := by rw [e50]; exact EH49.up (by decide +kernel)
  have FH50 : frm mdR h h140 := by rw [e50]; exact FH49.up (by decide)
  have HC50 : frk mdK h h140 := by rw [e50]; exact HC49.up (by decide)
  have F50 : frs 256 g126 h140 := by rw [e50]; exact (F49.mono (by decide)).uh (by decide)
  refine ⟨by decide +kernel, fun h142 e51 => ?_⟩
  replace e51 : h142 = mf_up h140 255 4 101 := e51
  have EH51 : ent lmh51 h142 := by rw [e51]; exact EH50.up (by decide +kernel)
  have FH51 : frm mdR h h142 := by rw [e51]; exact FH50.up (by decide)
  have HC51 : frk mdK h h142 := by rw [e51]; exact HC50.up (by decide)
  have F51 : frs 256 g126 h142 := by rw [e51]; exact (F50.mono (by decide)).uh (by decide)
  refine ⟨⟨by decide, by decide, by decide +kernel⟩, fun g144 e52 => ?_⟩
  replace e52 : g144 = mf_up g126 245 18 255 := e52
  have EG52 : ent lmg52 g144 := by rw [e52]; exact EG45.up (by decide +kernel)
  have FG52 : frm [245] g g144 := by rw [e52]; exact FG45.up (by decide)
  have F52 : frs 256 g144 h142 := by rw [e52]; exact (F51.mono (by decide)).ug (by decide)
  refine ⟨by decide +kernel, moreR (by decide), fun j => F52.1 _ (by decide) _, fun j => F52.2 _ (by decide) _, fun v149 e53 => ?_⟩
  replace e53 : v149 = 256 := e53
  subst e53
  refine ⟨⟨by decide, by decide, by decide +kernel⟩, by decide +kernel, fun h152 e54 => ?_⟩
  replace e54 : h152 = mf_up h142 256 0 111 := e54
  have EH54 : ent lmh54 h152 := by rw [e54]; exact EH51.up (by decide +kernel)
  have FH54 : frm mdR h h152 := by rw [e54]; exact FH51.up (by decide)
  have HC54 : frk mdK h h152 := by rw [e54]; exact HC51.up (by decide)
  have F54 : frs 257 g144 h152 := by rw [e54]; exact (F52.mono (by decide)).uh (by decide)
  refine ⟨by decide +kernel, fun h154 e55 => ?_⟩
  replace e55 : h154 = mf_up h152 256 1 112 := e55
  have EH55 : ent lmh55 h154 := by rw [e55]; exact EH54.up (by decide +kernel)
  have FH55 : frm mdR h h154 := by rw [e55]; exact FH54.up (by decide)
  have HC55 : frk mdK h h154 := by rw [e55]; exact HC54.up (by decide)
  have F55 : frs 257 g144 h154 := by rw [e55]; exact (F54.mono (by decide)).uh (by decide)
  refine ⟨by decide +kernel, fun h156 e56 => ?_⟩
  replace e56 : h156 = mf_up h154 256 2 101 := e56
  have EH56 : ent lmh56 h156 := by rw [e56]; exact EH55.up (by decide +kernel)
  have FH56 : frm mdR h h156 := by rw [e56]; exact FH55.up (by decide)
  have HC56 : frk mdK h h156 := by rw [e56]; exact HC55.up (by decide)
  have F56 : frs 257 g144 h156 := by rw [e56]; exact (F55.mono (by decide)).uh (by decide)
  refine ⟨by decide +kernel, fun h158 e57 => ?_⟩
  replace e57 : h158 = mf_up h156 256 3 110 := e57
  have EH57 : ent lmh57 h158 := by rw [e57]; exact EH56.up (by decide +kernel)
  have FH57 : frm mdR h h158 := by rw [e57]; exact FH56.up (by decide)
  have HC57 : frk mdK h h158 := by rw [e57]; exact HC56.up (by decide)
  have F57 : frs 257 g144 h158 := by rw [e57]; exact (F56.mono (by decide)).uh (by decide)
  refine ⟨by decide +kernel, fun h160 e58 => ?_⟩
  replace e58 : h160 = mf_up h158 256 4 115 := e58
  have EH58 : ent lmh58 h160 := by rw [e58]; exact EH57.up (by decide +kernel)
  have FH58 : frm mdR h h160 := by rw [e58]; exact FH57.up (by decide)
  have HC58 : frk mdK h h160 := by rw [e58]; exact HC57.up (by decide)
  have F58 : frs 257 g144 h160 := by rw [e58]; exact (F57.mono (by decide)).uh (by decide)
  refine ⟨⟨by decide, by decide, by decide +kernel⟩, fun g162 e59 => ?_⟩
  replace e59 : g162 = mf_up g144 245 19 256 := e59
  have EG59 : ent lmg59 g162 := by rw [e59]; exact EG52.up (by decide +kernel)
  have FG59 : frm [245] g g162 := by rw [e59]; exact FG52.up (by decide)
  have F59 : frs 257 g162 h160 := by rw [e59]; exact (F58.mono (by decide)).ug (by decide)
  refine ⟨by decide +kernel, moreR (by decide), fun j => F59.1 _ (by decide) _, fun j => F59.2 _ (by decide) _, fun v167 e60 => ?_⟩
  replace e60 : v167 = 257 := e60
  subst e60
  refine ⟨⟨by decide, by decide, by decide +kernel⟩, by decide +kernel, fun h170 e61 => ?_⟩
  replace e61 : h170 = mf_up h160 257 0 99 := e61
  have EH61 : ent lmh61 h170 := by rw [e61]; exact EH58.up (by decide +kernel)
  have FH61 : frm mdR h h170 := by rw [e61]; exact FH58.up (by decide)
  have HC61 : frk mdK h h170 := by rw [e61]; exact HC58.up (by decide)
  have F61 : frs 258 g162 h170 := by rw [e61]; exact (F59.mono (by decide)).uh (by decide)
  refine ⟨by decide +kernel, fun h172 e62 => ?_⟩
  replace e62 : h172 = mf_up h170 257 1 111 := e62
  have EH62 : ent lmh62 h172 := by rw [e62]; exact EH61.up (by decide +kernel)
  have FH62 : frm mdR h h172 := by rw [e62]; exact FH61.up (by decide)
  have HC62 : frk mdK h h172 := by rw [e62]; exact HC61.up (by decide)
  have F62 : frs 258 g162 h172 := by rw [e62]; exact (F61.mono (by decide)).uh (by decide)
  refine ⟨by decide +kernel, fun h174 e63 => ?_⟩
  replace e63 : h174 = mf_up h172 257 2 114 := e63
  have EH63 : ent lmh63 h174 := by rw [e63]; exact EH62.up (by decide +kernel)
  have FH63 : frm mdR h h174 := by rw [e63]; exact FH62.up (by decide)
  have HC63 : frk mdK h h174 := by rw [e63]; exact HC62.up (by decide)
  have F63 : frs 258 g162 h174 := by rw [e63]; exact (F62.mono (by decide)).uh (by decide)
  refine ⟨by decide +kernel, fun h176 e64 => ?_⟩
  replace e64 : h176 = mf_up h174 257 3 110 := e64
  have EH64 : ent lmh64 h176 := by rw [e64]; exact EH63.up (by decide +kernel)
  have FH64 : frm mdR h h176 := by rw [e64]; exact FH63.up (by decide)
  have HC64 : frk mdK h h176 := by rw [e64]; exact HC63.up (by decide)
  have F64 : frs 258 g162 h176 := by rw [e64]; exact (F63.mono (by decide)).uh (by decide)
  refine ⟨⟨by decide, by decide, by decide +kernel⟩, fun g178 e65 => ?_⟩
  replace e65 : g178 = mf_up g162 245 20 257 := e65
  have EG65 : ent lmg65 g178 := by rw [e65]; exact EG59.up (by decide +kernel)
  have FG65 : frm [245] g g178 := by rw [e65]; exact FG59.up (by decide)
  have F65 : frs 258 g178 h176 := by rw [e65]; exact (F64.mono (by decide)).ug (by decide)
  refine ⟨by decide +kernel, moreR (by decide), fun j => F65.1 _ (by decide) _, fun j => F65.2 _ (by decide) _, fun v183 e66 => ?_⟩
  replace e66 : v183 = 258 := e66
  subst e66
  refine ⟨⟨by decide, by decide, by decide +kernel⟩, by decide +kernel, fun h186 e67 => ?_⟩
  replace e67 : h186 = mf_up h176 258 0 116 := e67
  have EH67 : ent lmh67 h186 := by rw [e67]; exact EH64.up (by decide +kernel)
  have FH67 : frm mdR h h186 := by rw [e67]; exact FH64.up (by decide)
  have HC67 : frk mdK h h186 := by rw [e67]; exact HC64.up (by decide)
  have F67 : frs 259 g178 h186 := by rw [e67]; exact (F65.mono (by decide)).uh (by decide)
  refine ⟨by decide +kernel, fun h188 e68 => ?_⟩
  replace e68 : h188 = mf_up h186 258 1 111 := e68
  have EH68 : ent lmh68 h188 := by rw [e68]; exact EH67.up (by decide +kernel)
  have FH68 : frm mdR h h188 := by rw [e68]; exact FH67.up (by decide)
  have HC68 : frk mdK h h188 := by rw [e68]; exact HC67.up (by decide)
  have F68 : frs 259 g178 h188 := by rw [e68]; exact (F67.mono (by decide)).uh (by decide)
  refine ⟨by decide +kernel, fun h190 e69 => ?_⟩
  replace e69 : h190 = mf_up h188 258 2 108 := e69
  have EH69 : ent lmh69 h190 := by rw [e69]; exact EH68.up (by decide +kernel)
  have FH69 : frm mdR h h190 := by rw [e69]; exact FH68.up (by decide)
  have HC69 : frk mdK h h190 := by rw [e69]; exact HC68.up (by decide)
  have F69 : frs 259 g178 h190 := by rw [e69]; exact (F68.mono (by decide)).uh (by decide)
  refine ⟨by decide +kernel, fun h192 e70 => ?_⟩
  replace e70 : h192 = mf_up h190 258 3 108 := e70
  have EH70 : ent lmh70 h192 := by rw [e70]; exact EH69.up (by decide +kernel)
  have FH70 : frm mdR h h192 := by rw [e70]; exact FH69.up (by decide)
  have HC70 : frk mdK h h192 := by rw [e70]; exact HC69.up (by decide)
  have F70 : frs 259 g178 h192 := by rw [e70]; exact (F69.mono (by decide)).uh (by decide)
  refine ⟨⟨by decide, by decide, by decide +kernel⟩, fun g194 e71 => ?_⟩
  replace e71 : g194 = mf_up g178 245 21 258 := e71
  have EG71 : ent lmg71 g194 := by rw [e71]; exact EG65.up (by decide +kernel)
  have FG71 : frm [245] g g194 := by rw [e71]; exact FG65.up (by decide)
  have F71 : frs 259 g194 h192 := by rw [e71]; exact (F70.mono (by decide)).ug (by decide)
  refine ⟨by decide +kernel, moreR (by decide), fun j => F71.1 _ (by decide) _, fun j => F71.2 _ (by decide) _, fun v199 e72 => ?_⟩
  replace e72 : v199 = 259 := e72
  subst e72
  refine ⟨⟨by decide, by decide, by decide +kernel⟩, by decide +kernel, fun h202 e73 => ?_⟩
  replace e73 : h202 = mf_up h192 259 0 115 := e73
  have EH73 : ent lmh73 h202 := by rw [e73]; exact EH70.up (by decide +kernel)
  have FH73 : frm mdR h h202 := by rw [e73]; exact FH70.up (by decide)
  have HC73 : frk mdK h h202 := by rw [e73]; exact HC70.up (by decide)
  have F73 : frs 260 g194 h202 := by rw [e73]; exact (F71.mono (by decide)).uh (by decide)
  refine ⟨by decide +kernel, fun h204 e74 => ?_⟩
  replace e74 : h204 = mf_up h202 259 1 116 := e74
  have EH74 : ent lmh74 h204 := by rw [e74]; exact EH73.up (by decide +kernel)
  have FH74 : frm mdR h h204 := by rw [e74]; exact FH73.up (by decide)
  have HC74 : frk mdK h h204 := by rw [e74]; exact HC73.up (by decide)
  have F74 : frs 260 g194 h204 := by rw [e74]; exact (F73.mono (by decide)).uh (by decide)
  refine ⟨by decide +kernel, fun h206 e75 => ?_⟩
  replace e75 : h206 = mf_up h204 259 2 101 := e75
  have EH75 : ent lmh75 h206 := by rw [e75]; exact EH74.up (by decide +kernel)
  have FH75 : frm mdR h h206 := by rw [e75]; exact FH74.up (by decide)
  have HC75 : frk mdK h h206 := by rw [e75]; exact HC74.up (by decide)
  have F75 : frs 260 g194 h206 := by rw [e75]; exact (F74.mono (by decide)).uh (by decide)
  refine ⟨by decide +kernel, fun h208 e76 => ?_⟩
  replace e76 : h208 = mf_up h206 259 3 112 := e76
  have EH76 : ent lmh76 h208 := by rw [e76]; exact EH75.up (by decide +kernel)
  have FH76 : frm mdR h h208 := by rw [e76]; exact FH75.up (by decide)
  have HC76 : frk mdK h h208 := by rw [e76]; exact HC75.up (by decide)
  have F76 : frs 260 g194 h208 := by rw [e76]; exact (F75.mono (by decide)).uh (by decide)
  refine ⟨by decide +kernel, fun h210 e77 => ?_⟩
  replace e77 : h210 = mf_up h208 259 4 115 := e77
  have EH77 : ent lmh77 h210 := by rw [e77]; exact EH76.up (by decide +kernel)
  have FH77 : frm mdR h h210 := by rw [e77]; exact FH76.up (by decide)
  have HC77 : frk mdK h h210 := by rw [e77]; exact HC76.up (by decide)
  have F77 : frs 260 g194 h210 := by rw [e77]; exact (F76.mono (by decide)).uh (by decide)
  refine ⟨⟨by decide, by decide, by decide +kernel⟩, fun g212 e78 => ?_⟩
  replace e78 : g212 = mf_up g194 245 22 259 := e78
  have EG78 : ent lmg78 g212 := by rw [e78]; exact EG71.up (by decide +kernel)
  have FG78 : frm [245] g g212 := by rw [e78]; exact FG71.up (by decide)
  have F78 : frs 260 g212 h210 := by rw [e78]; exact (F77.mono (by decide)).ug (by decide)
  refine ⟨by decide +kernel, moreR (by decide), fun j => F78.1 _ (by decide) _, fun j => F78.2 _ (by decide) _, fun v217 e79 => ?_⟩
  replace e79 : v217 = 260 := e79
  subst e79
  refine ⟨⟨by decide, by decide, by decide +kernel⟩, by decide +kernel, fun h220 e80 => ?_⟩
  replace e80 : h220 = mf_up h210 260 0 116 := e80
  have EH80 : ent lmh80 h220 := by rw [e80]; exact EH77.up (by decide +kernel)
  have FH80 : frm mdR h h220 := by rw [e80]; exact FH77.up (by decide)
  have HC80 : frk mdK h h220 := by rw [e80]; exact HC77.up (by decide)
  have F80 : frs 261 g212 h220 := by rw [e80]; exact (F78.mono (by decide)).uh (by decide)
  refine ⟨by decide +kernel, fun h222 e81 => ?_⟩
  replace e81 : h222 = mf_up h220 260 1 104 := e81
  have EH81 : ent lmh81 h222 := by rw [e81]; exact EH80.up (by decide +kernel)
  have FH81 : frm mdR h h222 := by rw [e81]; exact FH80.up (by decide)
  have HC81 : frk mdK h h222 := by rw [e81]; exact HC80.up (by decide)
  have F81 : frs 261 g212 h222 := by rw [e81]; exact (F80.mono (by decide)).uh (by decide)
  refine ⟨by decide +kernel, fun h224 e82 => ?_⟩
  replace e82 : h224 = mf_up h222 260 2 117 := e82
  have EH82 : ent lmh82 h224 := by rw [e82]; exact EH81.up (by decide +kernel)
  have FH82 : frm mdR h h224 := by rw [e82]; exact FH81.up (by decide)
  have HC82 : frk mdK h h224 := by rw [e82]; exact HC81.up (by decide)
  have F82 : frs 261 g212 h224 := by rw [e82]; exact (F81.mono (by decide)).uh (by decide)
  refine ⟨by decide +kernel, fun h226 e83 => ?_⟩
  replace e83 : h226 = mf_up h224 260 3 109 := e83
  have EH83 : ent lmh83 h226 := by rw [e83]; exact EH82.up (by decide +kernel)
  have FH83 : frm mdR h h226 := by rw [e83]; exact FH82.up (by decide)
  have HC83 : frk mdK h h226 := by rw [e83]; exact HC82.up (by decide)
  have F83 : frs 261 g212 h226 := by rw [e83]; exact (F82.mono (by decide)).uh (by decide)
  refine ⟨by decide +kernel, fun h228 e84 => ?_⟩
  replace e84 : h228 = mf_up h226 260 4 98 := e84
  have EH84 : ent lmh84 h228 := by rw [e84]; exact EH83.up (by decide +kernel)
  have FH84 : frm mdR h h228 := by rw [e84]; exact FH83.up (by decide)
  have HC84 : frk mdK h h228 := by rw [e84]; exact HC83.up (by decide)
  have F84 : frs 261 g212 h228 := by rw [e84]; exact (F83.mono (by decide)).uh (by decide)
  refine ⟨⟨by decide, by decide, by decide +kernel⟩, fun g230 e85 => ?_⟩
  replace e85 : g230 = mf_up g212 245 23 260 := e85
  have EG85 : ent lmg85 g230 := by rw [e85]; exact EG78.up (by decide +kernel)
  have FG85 : frm [245] g g230 := by rw [e85]; exact FG78.up (by decide)
  have F85 : frs 261 g230 h228 := by rw [e85]; exact (F84.mono (by decide)).ug (by decide)
  refine ⟨by decide +kernel, moreR (by decide), fun j => F85.1 _ (by decide) _, fun j => F85.2 _ (by decide) _, fun v235 e86 => ?_⟩
  replace e86 : v235 = 261 := e86
  subst e86
  refine ⟨⟨by decide, by decide, by decide +kernel⟩, by decide +kernel, fun h238 e87 => ?_⟩
  replace e87 : h238 = mf_up h228 261 0 100 := e87
  have EH87 : ent lmh87 h238 := by rw [e87]; exact EH84.up (by decide +kernel)
  have FH87 : frm mdR h h238 := by rw [e87]; exact FH84.up (by decide)
  have HC87 : frk mdK h h238 := by rw [e87]; exact HC84.up (by decide)
  have F87 : frs 262 g230 h238 := by rw [e87]; exact (F85.mono (by decide)).uh (by decide)
  refine ⟨by decide +kernel, fun h240 e88 => ?_⟩
  replace e88 : h240 = mf_up h238 261 1 97 := e88
  have EH88 : ent lmh88 h240 := by rw [e88]; exact EH87.up (by decide +kernel)
  have FH88 : frm mdR h h240 := by rw [e88]; exact FH87.up (by decide)
  have HC88 : frk mdK h h240 := by rw [e88]; exact HC87.up (by decide)
  have F88 : frs 262 g230 h240 := by rw [e88]; exact (F87.mono (by decide)).uh (by decide)
  refine ⟨by decide +kernel, fun h242 e89 => ?_⟩
  replace e89 : h242 = mf_up h240 261 2 121 := e89
  have EH89 : ent lmh89 h242 := by rw [e89]; exact EH88.up (by decide +kernel)
  have FH89 : frm mdR h h242 := by rw [e89]; exact FH88.up (by decide)
  have HC89 : frk mdK h h242 := by rw [e89]; exact HC88.up (by decide)
  have F89 : frs 262 g230 h242 := by rw [e89]; exact (F88.mono (by decide)).uh (by decide)
  refine ⟨⟨by decide, by decide, by decide +kernel⟩, fun g244 e90 => ?_⟩
  replace e90 : g244 = mf_up g230 245 24 261 := e90
  have EG90 : ent lmg90 g244 := by rw [e90]; exact EG85.up (by decide +kernel)
  have FG90 : frm [245] g g244 := by rw [e90]; exact FG85.up (by decide)
  have F90 : frs 262 g244 h242 := by rw [e90]; exact (F89.mono (by decide)).ug (by decide)
  refine ⟨by decide +kernel, moreR (by decide), fun j => F90.1 _ (by decide) _, fun j => F90.2 _ (by decide) _, fun v249 e91 => ?_⟩
  replace e91 : v249 = 262 := e91
  subst e91
  refine ⟨⟨by decide, by decide, by decide +kernel⟩, by decide +kernel, fun h252 e92 => ?_⟩
  replace e92 : h252 = mf_up h242 262 0 108 := e92
  have EH92 : ent lmh92 h252 := by rw [e92]; exact EH89.up (by decide +kernel)
  have FH92 : frm mdR h h252 := by rw [e92]; exact FH89.up (by decide)
  have HC92 : frk mdK h h252 := by rw [e92]; exact HC89.up (by decide)
  have F92 : frs 263 g244 h252 := by rw [e92]; exact (F90.mono (by decide)).uh (by decide)
  refine ⟨by decide +kernel, fun h254 e93 => ?_⟩
  replace e93 : h254 = mf_up h252 262 1 101 := e93
  have EH93 : ent lmh93 h254 := by rw [e93]; exact EH92.up (by decide +kernel)
  have FH93 : frm mdR h h254 := by rw [e93]; exact FH92.up (by decide)
  have HC93 : frk mdK h h254 := by rw [e93]; exact HC92.up (by decide)
  have F93 : frs 263 g244 h254 := by rw [e93]; exact (F92.mono (by decide)).uh (by decide)
  refine ⟨by decide +kernel, fun h256 e94 => ?_⟩
  replace e94 : h256 = mf_up h254 262 2 97 := e94
  have EH94 : ent lmh94 h256 := by rw [e94]; exact EH93.up (by decide +kernel)
  have FH94 : frm mdR h h256 := by rw [e94]; exact FH93.up (by decide)
  have HC94 : frk mdK h h256 := by rw [e94]; exact HC93.up (by decide)
  have F94 : frs 263 g244 h256 := by rw [e94]; exact (F93.mono (by decide)).uh (by decide)
  refine ⟨by decide +kernel, fun h258 e95 => ?_⟩
  replace e95 : h258 = mf_up h256 262 3 102 := e95
  have EH95 : ent lmh95 h258 := by rw [e95]; exact EH94.up (by decide +kernel)
  have FH95 : frm mdR h h258 := by rw [e95]; exact FH94.up (by decide)
  have HC95 : frk mdK h h258 := by rw [e95]; exact HC94.up (by decide)
  have F95 : frs 263 g244 h258 := by rw [e95]; exact (F94.mono (by decide)).uh (by decide)
  refine ⟨⟨by decide, by decide, by decide +kernel⟩, fun g260 e96 => ?_⟩
  replace e96 : g260 = mf_up g244 245 25 262 := e96
  have EG96 : ent lmg96 g260 := by rw [e96]; exact EG90.up (by decide +kernel)
  have FG96 : frm [245] g g260 := by rw [e96]; exact FG90.up (by decide)
  have F96 : frs 263 g260 h258 := by rw [e96]; exact (F95.mono (by decide)).ug (by decide)
  refine ⟨by decide +kernel, moreR (by decide), fun j => F96.1 _ (by decide) _, fun j => F96.2 _ (by decide) _, fun v265 e97 => ?_⟩
  replace e97 : v265 = 263 := e97
  subst e97
  refine ⟨⟨by decide, by decide, by decide +kernel⟩, by decide +kernel, fun h268 e98 => ?_⟩
  replace e98 : h268 = mf_up h258 263 0 99 := e98
  have EH98 : ent lmh98 h268 := by rw [e98]; exact EH95.up (by decide +kernel)
  have FH98 : frm mdR h h268 := by rw [e98]; exact FH95.up (by decide)
  have HC98 : frk mdK h h268 := by rw [e98]; exact HC95.up (by decide)
  have F98 : frs 264 g260 h268 := by rw [e98]; exact (F96.mono (by decide)).uh (by decide)
  refine ⟨by decide +kernel, fun h270 e99 => ?_⟩
  replace e99 : h270 = mf_up h268 263 1 101 := e99
  have EH99 : ent lmh99 h270 := by rw [e99]; exact EH98.up (by decide +kernel)
  have FH99 : frm mdR h h270 := by rw [e99]; exact FH98.up (by decide)
  have HC99 : frk mdK h h270 := by rw [e99]; exact HC98.up (by decide)
  have F99 : frs 264 g260 h270 := by rw [e99]; exact (F98.mono (by decide)).uh (by decide)
  refine ⟨by decide +kernel, fun h272 e100 => ?_⟩
  replace e100 : h272 = mf_up h270 263 2 108 := e100
  have EH100 : ent lmh100 h272 := by rw [e100]; exact EH99.up (by decide +kernel)
  have FH100 : frm mdR h h272 := by rw [e100]; exact FH99.up (by decide)
  have HC100 : frk mdK h h272 := by rw [e100]; exact HC99.up (by decide)
  have F100 : frs 264 g260 h272 := by rw [e100]; exact (F99.mono (by decide)).uh (by decide)
  refine ⟨by decide +kernel, fun h274 e101 => ?_⟩
  replace e101 : h274 = mf_up h272 263 3 108 := e101
  have EH101 : ent lmh101 h274 := by rw [e101]; exact EH100.up (by decide +kernel)
  have FH101 : frm mdR h h274 := by rw [e101]; exact FH100.up (by decide)
  have HC101 : frk mdK h h274 := by rw [e101]; exact HC100.up (by decide)
  have F101 : frs 264 g260 h274 := by rw [e101]; exact (F100.mono (by decide)).uh (by decide)
  refine ⟨⟨by decide, by decide, by decide +kernel⟩, fun g276 e102 => ?_⟩
  replace e102 : g276 = mf_up g260 245 26 263 := e102
  have EG102 : ent lmg102 g276 := by rw [e102]; exact EG96.up (by decide +kernel)
  have FG102 : frm [245] g g276 := by rw [e102]; exact FG96.up (by decide)
  have F102 : frs 264 g276 h274 := by rw [e102]; exact (F101.mono (by decide)).ug (by decide)
  refine ⟨by decide +kernel, moreR (by decide), fun j => F102.1 _ (by decide) _, fun j => F102.2 _ (by decide) _, fun v281 e103 => ?_⟩
  replace e103 : v281 = 264 := e103
  subst e103
  refine ⟨⟨by decide, by decide, by decide +kernel⟩, by decide +kernel, fun h284 e104 => ?_⟩
  replace e104 : h284 = mf_up h274 264 0 112 := e104
  have EH104 : ent lmh104 h284 := by rw [e104]; exact EH101.up (by decide +kernel)
  have FH104 : frm mdR h h284 := by rw [e104]; exact FH101.up (by decide)
  have HC104 : frk mdK h h284 := by rw [e104]; exact HC101.up (by decide)
  have F104 : frs 265 g276 h284 := by rw [e104]; exact (F102.mono (by decide)).uh (by decide)
  refine ⟨by decide +kernel, fun h286 e105 => ?_⟩
  replace e105 : h286 = mf_up h284 264 1 117 := e105
  have EH105 : ent lmh105 h286 := by rw [e105]; exact EH104.up (by decide +kernel)
  have FH105 : frm mdR h h286 := by rw [e105]; exact FH104.up (by decide)
  have HC105 : frk mdK h h286 := by rw [e105]; exact HC104.up (by decide)
  have F105 : frs 265 g276 h286 := by rw [e105]; exact (F104.mono (by decide)).uh (by decide)
  refine ⟨by decide +kernel, fun h288 e106 => ?_⟩
  replace e106 : h288 = mf_up h286 264 2 114 := e106
  have EH106 : ent lmh106 h288 := by rw [e106]; exact EH105.up (by decide +kernel)
  have FH106 : frm mdR h h288 := by rw [e106]; exact FH105.up (by decide)
  have HC106 : frk mdK h h288 := by rw [e106]; exact HC105.up (by decide)
  have F106 : frs 265 g276 h288 := by rw [e106]; exact (F105.mono (by decide)).uh (by decide)
  refine ⟨by decide +kernel, fun h290 e107 => ?_⟩
  replace e107 : h290 = mf_up h288 264 3 115 := e107
  have EH107 : ent lmh107 h290 := by rw [e107]; exact EH106.up (by decide +kernel)
  have FH107 : frm mdR h h290 := by rw [e107]; exact FH106.up (by decide)
  have HC107 : frk mdK h h290 := by rw [e107]; exact HC106.up (by decide)
  have F107 : frs 265 g276 h290 := by rw [e107]; exact (F106.mono (by decide)).uh (by decide)
  refine ⟨by decide +kernel, fun h292 e108 => ?_⟩
  replace e108 : h292 = mf_up h290 264 4 101 := e108
  have EH108 : ent lmh108 h292 := by rw [e108]; exact EH107.up (by decide +kernel)
  have FH108 : frm mdR h h292 := by rw [e108]; exact FH107.up (by decide)
  have HC108 : frk mdK h h292 := by rw [e108]; exact HC107.up (by decide)
  have F108 : frs 265 g276 h292 := by rw [e108]; exact (F107.mono (by decide)).uh (by decide)
  refine ⟨⟨by decide, by decide, by decide +kernel⟩, fun g294 e109 => ?_⟩
  replace e109 : g294 = mf_up g276 245 27 264 := e109
  have EG109 : ent lmg109 g294 := by rw [e109]; exact EG102.up (by decide +kernel)
  have FG109 : frm [245] g g294 := by rw [e109]; exact FG102.up (by decide)
  have F109 : frs 265 g294 h292 := by rw [e109]; exact (F108.mono (by decide)).ug (by decide)
  refine ⟨by decide +kernel, moreR (by decide), fun j => F109.1 _ (by decide) _, fun j => F109.2 _ (by decide) _, fun v299 e110 => ?_⟩
  replace e110 : v299 = 265 := e110
  subst e110
  refine ⟨⟨by decide, by decide, by decide +kernel⟩, by decide +kernel, fun h302 e111 => ?_⟩
  replace e111 : h302 = mf_up h292 265 0 111 := e111
  have EH111 : ent lmh111 h302 := by rw [e111]; exact EH108.up (by decide +kernel)
  have FH111 : frm mdR h h302 := by rw [e111]; exact FH108.up (by decide)
  have HC111 : frk mdK h h302 := by rw [e111]; exact HC108.up (by decide)
  have F111 : frs 266 g294 h302 := by rw [e111]; exact (F109.mono (by decide)).uh (by decide)
  refine ⟨by decide +kernel, fun h304 e112 => ?_⟩
  replace e112 : h304 = mf_up h302 265 1 112 := e112
  have EH112 : ent lmh112 h304 := by rw [e112]; exact EH111.up (by decide +kernel)
  have FH112 : frm mdR h h304 := by rw [e112]; exact FH111.up (by decide)
  have HC112 : frk mdK h h304 := by rw [e112]; exact HC111.up (by decide)
  have F112 : frs 266 g294 h304 := by rw [e112]; exact (F111.mono (by decide)).uh (by decide)
  refine ⟨by decide +kernel, fun h306 e113 => ?_⟩
  replace e113 : h306 = mf_up h304 265 2 101 := e113
  have EH113 : ent lmh113 h306 := by rw [e113]; exact EH112.up (by decide +kernel)
  have FH113 : frm mdR h h306 := by rw [e113]; exact FH112.up (by decide)
  have HC113 : frk mdK h h306 := by rw [e113]; exact HC112.up (by decide)
  have F113 : frs 266 g294 h306 := by rw [e113]; exact (F112.mono (by decide)).uh (by decide)
  refine ⟨by decide +kernel, fun h308 e114 => ?_⟩
  replace e114 : h308 = mf_up h306 265 3 110 := e114
  have EH114 : ent lmh114 h308 := by rw [e114]; exact EH113.up (by decide +kernel)
  have FH114 : frm mdR h h308 := by rw [e114]; exact FH113.up (by decide)
  have HC114 : frk mdK h h308 := by rw [e114]; exact HC113.up (by decide)
  have F114 : frs 266 g294 h308 := by rw [e114]; exact (F113.mono (by decide)).uh (by decide)
  refine ⟨⟨by decide, by decide, by decide +kernel⟩, fun g310 e115 => ?_⟩
  replace e115 : g310 = mf_up g294 245 28 265 := e115
  have EG115 : ent lmg115 g310 := by rw [e115]; exact EG109.up (by decide +kernel)
  have FG115 : frm [245] g g310 := by rw [e115]; exact FG109.up (by decide)
  have F115 : frs 266 g310 h308 := by rw [e115]; exact (F114.mono (by decide)).ug (by decide)
  refine ⟨by decide +kernel, moreR (by decide), fun j => F115.1 _ (by decide) _, fun j => F115.2 _ (by decide) _, fun v315 e116 => ?_⟩
  replace e116 : v315 = 266 := e116
  subst e116
  refine ⟨⟨by decide, by decide, by decide +kernel⟩, by decide +kernel, fun h318 e117 => ?_⟩
  replace e117 : h318 = mf_up h308 266 0 111 := e117
  have EH117 : ent lmh117 h318 := by rw [e117]; exact EH114.up (by decide +kernel)
  have FH117 : frm mdR h h318 := by rw [e117]; exact FH114.up (by decide)
  have HC117 : frk mdK h h318 := by rw [e117]; exact HC114.up (by decide)
  have F117 : frs 267 g310 h318 := by rw [e117]; exact (F115.mono (by decide)).uh (by decide)
  refine ⟨by decide +kernel, fun h320 e118 => ?_⟩
  replace e118 : h320 = mf_up h318 266 1 116 := e118
  have EH118 : ent lmh118 h320 := by rw [e118]; exact EH117.up (by decide +kernel)
  have FH118 : frm mdR h h320 := by rw [e118]; exact FH117.up (by decide)
  have HC118 : frk mdK h h320 := by rw [e118]; exact HC117.up (by decide)
  have F118 : frs 267 g310 h320 := by rw [e118]; exact (F117.mono (by decide)).uh (by decide)
  refine ⟨by decide +kernel, fun h322 e119 => ?_⟩
  replace e119 : h322 = mf_up h320 266 2 104 := e119
  have EH119 : ent lmh119 h322 := by rw [e119]; exact EH118.up (by decide +kernel)
  have FH119 : frm mdR h h322 := by rw [e119]; exact FH118.up (by decide)
  have HC119 : frk mdK h h322 := by rw [e119]; exact HC118.up (by decide)
  have F119 : frs 267 g310 h322 := by rw [e119]; exact (F118.mono (by decide)).uh (by decide)
  refine ⟨by decide +kernel, fun h324 e120 => ?_⟩
  replace e120 : h324 = mf_up h322 266 3 101 := e120
  have EH120 : ent lmh120 h324 := by rw [e120]; exact EH119.up (by decide +kernel)
  have FH120 : frm mdR h h324 := by rw [e120]; exact FH119.up (by decide)
  have HC120 : frk mdK h h324 := by rw [e120]; exact HC119.up (by decide)
  have F120 : frs 267 g310 h324 := by rw [e120]; exact (F119.mono (by decide)).uh (by decide)
  refine ⟨by decide +kernel, fun h326 e121 => ?_⟩
  replace e121 : h326 = mf_up h324 266 4 114 := e121
  have EH121 : ent lmh121 h326 := by rw [e121]; exact EH120.up (by decide +kernel)
  have FH121 : frm mdR h h326 := by rw [e121]; exact FH120.up (by decide)
  have HC121 : frk mdK h h326 := by rw [e121]; exact HC120.up (by decide)
  have F121 : frs 267 g310 h326 := by rw [e121]; exact (F120.mono (by decide)).uh (by decide)
  refine ⟨⟨by decide, by decide, by decide +kernel⟩, fun g328 e122 => ?_⟩
  replace e122 : g328 = mf_up g310 245 29 266 := e122
  have EG122 : ent lmg122 g328 := by rw [e122]; exact EG115.up (by decide +kernel)
  have FG122 : frm [245] g g328 := by rw [e122]; exact FG115.up (by decide)
  have F122 : frs 267 g328 h326 := by rw [e122]; exact (F121.mono (by decide)).ug (by decide)
  refine ⟨by decide +kernel, moreR (by decide), fun j => F122.1 _ (by decide) _, fun j => F122.2 _ (by decide) _, fun v333 e123 => ?_⟩
  replace e123 : v333 = 267 := e123
  subst e123
  refine ⟨⟨by decide, by decide, by decide +kernel⟩, by decide +kernel, fun h336 e124 => ?_⟩
  replace e124 : h336 = mf_up h326 267 0 110 := e124
  have EH124 : ent lmh124 h336 := by rw [e124]; exact EH121.up (by decide +kernel)
  have FH124 : frm mdR h h336 := by rw [e124]; exact FH121.up (by decide)
  have HC124 : frk mdK h h336 := by rw [e124]; exact HC121.up (by decide)
  have F124 : frs 268 g328 h336 := by rw [e124]; exact (F122.mono (by decide)).uh (by decide)
  refine ⟨by decide +kernel, fun h338 e125 => ?_⟩
  replace e125 : h338 = mf_up h336 267 1 117 := e125
  have EH125 : ent lmh125 h338 := by rw [e125]; exact EH124.up (by decide +kernel)
  have FH125 : frm mdR h h338 := by rw [e125]; exact FH124.up (by decide)
  have HC125 : frk mdK h h338 := by rw [e125]; exact HC124.up (by decide)
  have F125 : frs 268 g328 h338 := by rw [e125]; exact (F124.mono (by decide)).uh (by decide)
  refine ⟨by decide +kernel, fun h340 e126 => ?_⟩
  replace e126 : h340 = mf_up h338 267 2 109 := e126
  have EH126 : ent lmh126 h340 := by rw [e126]; exact EH125.up (by decide +kernel)
  have FH126 : frm mdR h h340 := by rw [e126]; exact FH125.up (by decide)
  have HC126 : frk mdK h h340 := by rw [e126]; exact HC125.up (by decide)
  have F126 : frs 268 g328 h340 := by rw [e126]; exact (F125.mono (by decide)).uh (by decide)
  refine ⟨by decide +kernel, fun h342 e127 => ?_⟩
  replace e127 : h342 = mf_up h340 267 3 98 := e127
  have EH127 : ent lmh127 h342 := by rw [e127]; exact EH126.up (by decide +kernel)
  have FH127 : frm mdR h h342 := by rw [e127]; exact FH126.up (by decide)
  have HC127 : frk mdK h h342 := by rw [e127]; exact HC126.up (by decide)
  have F127 : frs 268 g328 h342 := by rw [e127]; exact (F126.mono (by decide)).uh (by decide)
  refine ⟨by decide +kernel, fun h344 e128 => ?_⟩
  replace e128 : h344 = mf_up h342 267 4 101 := e128
  have EH128 : ent lmh128 h344 := by rw [e128]; exact EH127.up (by decide +kernel)
  have FH128 : frm mdR h h344 := by rw [e128]; exact FH127.up (by decide)
  have HC128 : frk mdK h h344 := by rw [e128]; exact HC127.up (by decide)
  have F128 : frs 268 g328 h344 := by rw [e128]; exact (F127.mono (by decide)).uh (by decide)
  refine ⟨by decide +kernel, fun h346 e129 => ?_⟩
  replace e129 : h346 = mf_up h344 267 5 114 := e129
  have EH129 : ent lmh129 h346 := by rw [e129]; exact EH128.up (by decide +kernel)
  have FH129 : frm mdR h h346 := by rw [e129]; exact FH128.up (by decide)
  have HC129 : frk mdK h h346 := by rw [e129]; exact HC128.up (by decide)
  have F129 : frs 268 g328 h346 := by rw [e129]; exact (F128.mono (by decide)).uh (by decide)
  refine ⟨⟨by decide, by decide, by decide +kernel⟩, fun g348 e130 => ?_⟩
  replace e130 : g348 = mf_up g328 245 30 267 := e130
  have EG130 : ent lmg130 g348 := by rw [e130]; exact EG122.up (by decide +kernel)
  have FG130 : frm [245] g g348 := by rw [e130]; exact FG122.up (by decide)
  have F130 : frs 268 g348 h346 := by rw [e130]; exact (F129.mono (by decide)).ug (by decide)
  refine ⟨by decide +kernel, moreR (by decide), fun j => F130.1 _ (by decide) _, fun j => F130.2 _ (by decide) _, fun v353 e131 => ?_⟩
  replace e131 : v353 = 268 := e131
  subst e131
  refine ⟨⟨by decide, by decide, by decide +kernel⟩, by decide +kernel, fun h356 e132 => ?_⟩
  replace e132 : h356 = mf_up h346 268 0 109 := e132
  have EH132 : ent lmh132 h356 := by rw [e132]; exact EH129.up (by decide +kernel)
  have FH132 : frm mdR h h356 := by rw [e132]; exact FH129.up (by decide)
  have HC132 : frk mdK h h356 := by rw [e132]; exact HC129.up (by decide)
  have F132 : frs 269 g348 h356 := by rw [e132]; exact (F130.mono (by decide)).uh (by decide)
  refine ⟨by decide +kernel, fun h358 e133 => ?_⟩
  replace e133 : h358 = mf_up h356 268 1 101 := e133
  have EH133 : ent lmh133 h358 := by rw [e133]; exact EH132.up (by decide +kernel)
  have FH133 : frm mdR h h358 := by rw [e133]; exact FH132.up (by decide)
  have HC133 : frk mdK h h358 := by rw [e133]; exact HC132.up (by decide)
  have F133 : frs 269 g348 h358 := by rw [e133]; exact (F132.mono (by decide)).uh (by decide)
  refine ⟨by decide +kernel, fun h360 e134 => ?_⟩
  replace e134 : h360 = mf_up h358 268 2 116 := e134
  have EH134 : ent lmh134 h360 := by rw [e134]; exact EH133.up (by decide +kernel)
  have FH134 : frm mdR h h360 := by rw [e134]; exact FH133.up (by decide)
  have HC134 : frk mdK h h360 := by rw [e134]; exact HC133.up (by decide)
  have F134 : frs 269 g348 h360 := by rw [e134]; exact (F133.mono (by decide)).uh (by decide)
  refine ⟨⟨by decide, by decide, by decide +kernel⟩, fun g362 e135 => ?_⟩
  replace e135 : g362 = mf_up g348 245 31 268 := e135
  have EG135 : ent lmg135 g362 := by rw [e135]; exact EG130.up (by decide +kernel)
  have FG135 : frm [245] g g362 := by rw [e135]; exact FG130.up (by decide)
  have F135 : frs 269 g362 h360 := by rw [e135]; exact (F134.mono (by decide)).ug (by decide)
  refine ⟨by decide +kernel, moreR (by decide), fun j => F135.1 _ (by decide) _, fun j => F135.2 _ (by decide) _, fun v367 e136 => ?_⟩
  replace e136 : v367 = 269 := e136
  subst e136
  refine ⟨⟨by decide, by decide, by decide +kernel⟩, by decide +kernel, fun h370 e137 => ?_⟩
  replace e137 : h370 = mf_up h360 269 0 109 := e137
  have EH137 : ent lmh137 h370 := by rw [e137]; exact EH134.up (by decide +kernel)
  have FH137 : frm mdR h h370 := by rw [e137]; exact FH134.up (by decide)
  have HC137 : frk mdK h h370 := by rw [e137]; exact HC134.up (by decide)
  have F137 : frs 270 g362 h370 := by rw [e137]; exact (F135.mono (by decide)).uh (by decide)
  refine ⟨by decide +kernel, fun h372 e138 => ?_⟩
  replace e138 : h372 = mf_up h370 269 1 101 := e138
  have EH138 : ent lmh138 h372 := by rw [e138]; exact EH137.up (by decide +kernel)
  have FH138 : frm mdR h h372 := by rw [e138]; exact FH137.up (by decide)
  have HC138 : frk mdK h h372 := by rw [e138]; exact HC137.up (by decide)
  have F138 : frs 270 g362 h372 := by rw [e138]; exact (F137.mono (by decide)).uh (by decide)
  refine ⟨by decide +kernel, fun h374 e139 => ?_⟩
  replace e139 : h374 = mf_up h372 269 2 101 := e139
  have EH139 : ent lmh139 h374 := by rw [e139]; exact EH138.up (by decide +kernel)
  have FH139 : frm mdR h h374 := by rw [e139]; exact FH138.up (by decide)
  have HC139 : frk mdK h h374 := by rw [e139]; exact HC138.up (by decide)
  have F139 : frs 270 g362 h374 := by rw [e139]; exact (F138.mono (by decide)).uh (by decide)
  refine ⟨by decide +kernel, fun h376 e140 => ?_⟩
  replace e140 : h376 = mf_up h374 269 3 116 := e140
  have EH140 : ent lmh140 h376 := by rw [e140]; exact EH139.up (by decide +kernel)
  have FH140 : frm mdR h h376 := by rw [e140]; exact FH139.up (by decide)
  have HC140 : frk mdK h h376 := by rw [e140]; exact HC139.up (by decide)
  have F140 : frs 270 g362 h376 := by rw [e140]; exact (F139.mono (by decide)).uh (by decide)
  refine ⟨by decide +kernel, fun h378 e141 => ?_⟩
  replace e141 : h378 = mf_up h376 269 4 115 := e141
  have EH141 : ent lmh141 h378 := by rw [e141]; exact EH140.up (by decide +kernel)
  have FH141 : frm mdR h h378 := by rw [e141]; exact FH140.up (by decide)
  have HC141 : frk mdK h h378 := by rw [e141]; exact HC140.up (by decide)
  have F141 : frs 270 g362 h378 := by rw [e141]; exact (F140.mono (by decide)).uh (by decide)
  refine ⟨⟨by decide, by decide, by decide +kernel⟩, fun g380 e142 => ?_⟩
  replace e142 : g380 = mf_up g362 245 32 269 := e142
  have EG142 : ent lmg142 g380 := by rw [e142]; exact EG135.up (by decide +kernel)
  have FG142 : frm [245] g g380 := by rw [e142]; exact FG135.up (by decide)
  have F142 : frs 270 g380 h378 := by rw [e142]; exact (F141.mono (by decide)).ug (by decide)
  refine ⟨by decide +kernel, moreR (by decide), fun j => F142.1 _ (by decide) _, fun j => F142.2 _ (by decide) _, fun v385 e143 => ?_⟩
  replace e143 : v385 = 270 := e143
  subst e143
  refine ⟨⟨by decide, by decide, by decide +kernel⟩, by decide +kernel, fun h388 e144 => ?_⟩
  replace e144 : h388 = mf_up h378 270 0 111 := e144
  have EH144 : ent lmh144 h388 := by rw [e144]; exact EH141.up (by decide +kernel)
  have FH144 : frm mdR h h388 := by rw [e144]; exact FH141.up (by decide)
  have HC144 : frk mdK h h388 := by rw [e144]; exact HC141.up (by decide)
  have F144 : frs 271 g380 h388 := by rw [e144]; exact (F142.mono (by decide)).uh (by decide)
  refine ⟨by decide +kernel, fun h390 e145 => ?_⟩
  replace e145 : h390 = mf_up h388 270 1 114 := e145
  have EH145 : ent lmh145 h390 := by rw [e145]; exact EH144.up (by decide +kernel)
  have FH145 : frm mdR h h390 := by rw [e145]; exact FH144.up (by decide)
  have HC145 : frk mdK h h390 := by rw [e145]; exact HC144.up (by decide)
  have F145 : frs 271 g380 h390 := by rw [e145]; exact (F144.mono (by decide)).uh (by decide)
  refine ⟨⟨by decide, by decide, by decide +kernel⟩, fun g392 e146 => ?_⟩
  replace e146 : g392 = mf_up g380 245 33 270 := e146
  have EG146 : ent lmg146 g392 := by rw [e146]; exact EG142.up (by decide +kernel)
  have FG146 : frm [245] g g392 := by rw [e146]; exact FG142.up (by decide)
  have F146 : frs 271 g392 h390 := by rw [e146]; exact (F145.mono (by decide)).ug (by decide)
  refine ⟨by decide +kernel, moreR (by decide), fun j => F146.1 _ (by decide) _, fun j => F146.2 _ (by decide) _, fun v397 e147 => ?_⟩
  replace e147 : v397 = 271 := e147
  subst e147
  refine ⟨⟨by decide, by decide, by decide +kernel⟩, by decide +kernel, fun h400 e148 => ?_⟩
  replace e148 : h400 = mf_up h390 271 0 97 := e148
  have EH148 : ent lmh148 h400 := by rw [e148]; exact EH145.up (by decide +kernel)
  have FH148 : frm mdR h h400 := by rw [e148]; exact FH145.up (by decide)
  have HC148 : frk mdK h h400 := by rw [e148]; exact HC145.up (by decide)
  have F148 : frs 272 g392 h400 := by rw [e148]; exact (F146.mono (by decide)).uh (by decide)
  refine ⟨by decide +kernel, fun h402 e149 => ?_⟩
  replace e149 : h402 = mf_up h400 271 1 110 := e149
  have EH149 : ent lmh149 h402 := by rw [e149]; exact EH148.up (by decide +kernel)
  have FH149 : frm mdR h h402 := by rw [e149]; exact FH148.up (by decide)
  have HC149 : frk mdK h h402 := by rw [e149]; exact HC148.up (by decide)
  have F149 : frs 272 g392 h402 := by rw [e149]; exact (F148.mono (by decide)).uh (by decide)
  refine ⟨by decide +kernel, fun h404 e150 => ?_⟩
  replace e150 : h404 = mf_up h402 271 2 100 := e150
  have EH150 : ent lmh150 h404 := by rw [e150]; exact EH149.up (by decide +kernel)
  have FH150 : frm mdR h h404 := by rw [e150]; exact FH149.up (by decide)
  have HC150 : frk mdK h h404 := by rw [e150]; exact HC149.up (by decide)
  have F150 : frs 272 g392 h404 := by rw [e150]; exact (F149.mono (by decide)).uh (by decide)
  refine ⟨⟨by decide, by decide, by decide +kernel⟩, fun g406 e151 => ?_⟩
  replace e151 : g406 = mf_up g392 245 34 271 := e151
  have EG151 : ent lmg151 g406 := by rw [e151]; exact EG146.up (by decide +kernel)
  have FG151 : frm [245] g g406 := by rw [e151]; exact FG146.up (by decide)
  have F151 : frs 272 g406 h404 := by rw [e151]; exact (F150.mono (by decide)).ug (by decide)
  refine ⟨by decide +kernel, moreR (by decide), fun j => F151.1 _ (by decide) _, fun j => F151.2 _ (by decide) _, fun v411 e152 => ?_⟩
  replace e152 : v411 = 272 := e152
  subst e152
  refine ⟨⟨by decide, by decide, by decide +kernel⟩, by decide +kernel, fun h414 e153 => ?_⟩
  replace e153 : h414 = mf_up h404 272 0 110 := e153
  have EH153 : ent lmh153 h414 := by rw [e153]; exact EH150.up (by decide +kernel)
  have FH153 : frm mdR h h414 := by rw [e153]; exact FH150.up (by decide)
  have HC153 : frk mdK h h414 := by rw [e153]; exact HC150.up (by decide)
  have F153 : frs 273 g406 h414 := by rw [e153]; exact (F151.mono (by decide)).uh (by decide)
  refine ⟨by decide +kernel, fun h416 e154 => ?_⟩
  replace e154 : h416 = mf_up h414 272 1 111 := e154
  have EH154 : ent lmh154 h416 := by rw [e154]; exact EH153.up (by decide +kernel)
  have FH154 : frm mdR h h416 := by rw [e154]; exact FH153.up (by decide)
  have HC154 : frk mdK h h416 := by rw [e154]; exact HC153.up (by decide)
  have F154 : frs 273 g406 h416 := by rw [e154]; exact (F153.mono (by decide)).uh (by decide)
  refine ⟨by decide +kernel, fun h418 e155 => ?_⟩
  replace e155 : h418 = mf_up h416 272 2 116 := e155
  have EH155 : ent lmh155 h418 := by rw [e155]; exact EH154.up (by decide +kernel)
  have FH155 : frm mdR h h418 := by rw [e155]; exact FH154.up (by decide)
  have HC155 : frk mdK h h418 := by rw [e155]; exact HC154.up (by decide)
  have F155 : frs 273 g406 h418 := by rw [e155]; exact (F154.mono (by decide)).uh (by decide)
  refine ⟨⟨by decide, by decide, by decide +kernel⟩, fun g420 e156 => ?_⟩
  replace e156 : g420 = mf_up g406 245 35 272 := e156
  have EG156 : ent lmg156 g420 := by rw [e156]; exact EG151.up (by decide +kernel)
  have FG156 : frm [245] g g420 := by rw [e156]; exact FG151.up (by decide)
  have F156 : frs 273 g420 h418 := by rw [e156]; exact (F155.mono (by decide)).ug (by decide)
  refine ⟨by decide +kernel, moreR (by decide), fun j => F156.1 _ (by decide) _, fun j => F156.2 _ (by decide) _, fun v425 e157 => ?_⟩
  replace e157 : v425 = 273 := e157
  subst e157
  refine ⟨⟨by decide, by decide, by decide +kernel⟩, by decide +kernel, fun h428 e158 => ?_⟩
  replace e158 : h428 = mf_up h418 273 0 97 := e158
  have EH158 : ent lmh158 h428 := by rw [e158]; exact EH155.up (by decide +kernel)
  have FH158 : frm mdR h h428 := by rw [e158]; exact FH155.up (by decide)
  have HC158 : frk mdK h h428 := by rw [e158]; exact HC155.up (by decide)
  have F158 : frs 274 g420 h428 := by rw [e158]; exact (F156.mono (by decide)).uh (by decide)
  refine ⟨by decide +kernel, fun h430 e159 => ?_⟩
  replace e159 : h430 = mf_up h428 273 1 108 := e159
  have EH159 : ent lmh159 h430 := by rw [e159]; exact EH158.up (by decide +kernel)
  have FH159 : frm mdR h h430 := by rw [e159]; exact FH158.up (by decide)
  have HC159 : frk mdK h h430 := by rw [e159]; exact HC158.up (by decide)
  have F159 : frs 274 g420 h430 := by rw [e159]; exact (F158.mono (by decide)).uh (by decide)
  refine ⟨by decide +kernel, fun h432 e160 => ?_⟩
  replace e160 : h432 = mf_up h430 273 2 108 := e160
  have EH160 : ent lmh160 h432 := by rw [e160]; exact EH159.up (by decide +kernel)
  have FH160 : frm mdR h h432 := by rw [e160]; exact FH159.up (by decide)
  have HC160 : frk mdK h h432 := by rw [e160]; exact HC159.up (by decide)
  have F160 : frs 274 g420 h432 := by rw [e160]; exact (F159.mono (by decide)).uh (by decide)
  refine ⟨⟨by decide, by decide, by decide +kernel⟩, fun g434 e161 => ?_⟩
  replace e161 : g434 = mf_up g420 245 36 273 := e161
  have EG161 : ent lmg161 g434 := by rw [e161]; exact EG156.up (by decide +kernel)
  have FG161 : frm [245] g g434 := by rw [e161]; exact FG156.up (by decide)
  have F161 : frs 274 g434 h432 := by rw [e161]; exact (F160.mono (by decide)).ug (by decide)
  refine ⟨by decide +kernel, moreR (by decide), fun j => F161.1 _ (by decide) _, fun j => F161.2 _ (by decide) _, fun v439 e162 => ?_⟩
  replace e162 : v439 = 274 := e162
  subst e162
  refine ⟨⟨by decide, by decide, by decide +kernel⟩, by decide +kernel, fun h442 e163 => ?_⟩
  replace e163 : h442 = mf_up h432 274 0 109 := e163
  have EH163 : ent lmh163 h442 := by rw [e163]; exact EH160.up (by decide +kernel)
  have FH163 : frm mdR h h442 := by rw [e163]; exact FH160.up (by decide)
  have HC163 : frk mdK h h442 := by rw [e163]; exact HC160.up (by decide)
  have F163 : frs 275 g434 h442 := by rw [e163]; exact (F161.mono (by decide)).uh (by decide)
  refine ⟨by decide +kernel, fun h444 e164 => ?_⟩
  replace e164 : h444 = mf_up h442 274 1 105 := e164
  have EH164 : ent lmh164 h444 := by rw [e164]; exact EH163.up (by decide +kernel)
  have FH164 : frm mdR h h444 := by rw [e164]; exact FH163.up (by decide)
  have HC164 : frk mdK h h444 := by rw [e164]; exact HC163.up (by decide)
  have F164 : frs 275 g434 h444 := by rw [e164]; exact (F163.mono (by decide)).uh (by decide)
  refine ⟨by decide +kernel, fun h446 e165 => ?_⟩
  replace e165 : h446 = mf_up h444 274 2 110 := e165
  have EH165 : ent lmh165 h446 := by rw [e165]; exact EH164.up (by decide +kernel)
  have FH165 : frm mdR h h446 := by rw [e165]; exact FH164.up (by decide)
  have HC165 : frk mdK h h446 := by rw [e165]; exact HC164.up (by decide)
  have F165 : frs 275 g434 h446 := by rw [e165]; exact (F164.mono (by decide)).uh (by decide)
  refine ⟨⟨by decide, by decide, by decide +kernel⟩, fun g448 e166 => ?_⟩
  replace e166 : g448 = mf_up g434 245 37 274 := e166
  have EG166 : ent lmg166 g448 := by rw [e166]; exact EG161.up (by decide +kernel)
  have FG166 : frm [245] g g448 := by rw [e166]; exact FG161.up (by decide)
  have F166 : frs 275 g448 h446 := by rw [e166]; exact (F165.mono (by decide)).ug (by decide)
  refine ⟨by decide +kernel, moreR (by decide), fun j => F166.1 _ (by decide) _, fun j => F166.2 _ (by decide) _, fun v453 e167 => ?_⟩
  replace e167 : v453 = 275 := e167
  subst e167
  refine ⟨⟨by decide, by decide, by decide +kernel⟩, by decide +kernel, fun h456 e168 => ?_⟩
  replace e168 : h456 = mf_up h446 275 0 109 := e168
  have EH168 : ent lmh168 h456 := by rw [e168]; exact EH165.up (by decide +kernel)
  have FH168 : frm mdR h h456 := by rw [e168]; exact FH165.up (by decide)
  have HC168 : frk mdK h h456 := by rw [e168]; exact HC165.up (by decide)
  have F168 : frs 276 g448 h456 := by rw [e168]; exact (F166.mono (by decide)).uh (by decide)
  refine ⟨by decide +kernel, fun h458 e169 => ?_⟩
  replace e169 : h458 = mf_up h456 275 1 97 := e169
  have EH169 : ent lmh169 h458 := by rw [e169]; exact EH168.up (by decide +kernel)
  have FH169 : frm mdR h h458 := by rw [e169]; exact FH168.up (by decide)
  have HC169 : frk mdK h h458 := by rw [e169]; exact HC168.up (by decide)
  have F169 : frs 276 g448 h458 := by rw [e169]; exact (F168.mono (by decide)).uh (by decide)
  refine ⟨by decide +kernel, fun h460 e170 => ?_⟩
  replace e170 : h460 = mf_up h458 275 2 120 := e170
  have EH170 : ent lmh170 h460 := by rw [e170]; exact EH169.up (by decide +kernel)
  have FH170 : frm mdR h h460 := by rw [e170]; exact FH169.up (by decide)
  have HC170 : frk mdK h h460 := by rw [e170]; exact HC169.up (by decide)
  have F170 : frs 276 g448 h460 := by rw [e170]; exact (F169.mono (by decide)).uh (by decide)
  refine ⟨⟨by decide, by decide, by decide +kernel⟩, fun g462 e171 => ?_⟩
  replace e171 : g462 = mf_up g448 245 38 275 := e171
  have EG171 : ent lmg171 g462 := by rw [e171]; exact EG166.up (by decide +kernel)
  have FG171 : frm [245] g g462 := by rw [e171]; exact FG166.up (by decide)
  have F171 : frs 276 g462 h460 := by rw [e171]; exact (F170.mono (by decide)).ug (by decide)
  refine ⟨by decide +kernel, moreR (by decide), fun j => F171.1 _ (by decide) _, fun j => F171.2 _ (by decide) _, ⟨by decide, by decide, by decide +kernel⟩, fun g468 e172 => ?_⟩
  replace e172 : g468 = mf_up g462 245 40 276 := e172
  have EG172 : ent lmg172 g468 := by rw [e172]; exact EG171.up (by decide +kernel)
  have FG172 : frm [245] g g468 := by rw [e172]; exact FG171.up (by decide)
  have F172 : frs 276 g468 h460 := by rw [e172]; exact (F171.mono (by decide)).ug (by decide)
  refine ⟨by decide +kernel, moreR (by decide), fun j => F172.1 _ (by decide) _, fun j => F172.2 _ (by decide) _, ⟨by decide, by decide, by decide +kernel⟩, fun g474 e173 => ?_⟩
  replace e173 : g474 = mf_up g468 245 41 277 := e173
  have EG173 : ent lmg173 g474 := by rw [e173]; exact EG172.up (by decide +kernel)
  have FG173 : frm [245] g g474 := by rw [e173]; exact FG172.up (by decide)
  have F173 : frs 276 g474 h460 := by rw [e173]; exact (F172.mono (by decide)).ug (by decide)
  refine ⟨by decide +kernel, moreR (by decide), fun j => F173.1 _ (by decide) _, fun j => F173.2 _ (by decide) _, ⟨by decide, by decide, by decide +kernel⟩, fun g480 e174 => ?_⟩
  replace e174 : g480 = mf_up g474 245 42 278 := e174
  have EG174 : ent lmg174 g480 := by rw [e174]; exact EG173.up (by decide +kernel)
  have FG174 : frm [245] g g480 := by rw [e174]; exact FG173.up (by decide)
  have F174 : frs 276 g480 h460 := by rw [e174]; exact (F173.mono (by decide)).ug (by decide)
  refine ⟨by decide +kernel, moreR (by decide), fun j => F174.1 _ (by decide) _, fun j => F174.2 _ (by decide) _, ⟨by decide, by decide, by decide +kernel⟩, fun g486 e175 => ?_⟩
  replace e175 : g486 = mf_up g480 245 43 279 := e175
  have EG175 : ent lmg175 g486 := by rw [e175]; exact EG174.up (by decide +kernel)
  have FG175 : frm [245] g g486 := by rw [e175]; exact FG174.up (by decide)
  have F175 : frs 276 g486 h460 := by rw [e175]; exact (F174.mono (by decide)).ug (by decide)
  refine ⟨by decide +kernel, moreR (by decide), fun j => F175.1 _ (by decide) _, fun j => F175.2 _ (by decide) _, ⟨by decide, by decide, by decide +kernel⟩, fun g492 e176 => ?_⟩
  replace e176 : g492 = mf_up g486 245 44 280 := e176
  have EG176 : ent lmg176 g492 := by rw [e176]; exact EG175.up (by decide +kernel)
  have FG176 : frm [245] g g492 := by rw [e176]; exact FG175.up (by decide)
  have F176 : frs 276 g492 h460 := by rw [e176]; exact (F175.mono (by decide)).ug (by decide)
  refine ⟨by decide +kernel, moreR (by decide), fun j => F176.1 _ (by decide) _, fun j => F176.2 _ (by decide) _, ⟨by decide, by decide, by decide +kernel⟩, fun g498 e177 => ?_⟩
  replace e177 : g498 = mf_up g492 245 45 281 := e177
  have EG177 : ent lmg177 g498 := by rw [e177]; exact EG176.up (by decide +kernel)
  have FG177 : frm [245] g g498 := by rw [e177]; exact FG176.up (by decide)
  have F177 : frs 276 g498 h460 := by rw [e177]; exact (F176.mono (by decide)).ug (by decide)
  refine ⟨by decide +kernel, moreR (by decide), fun j => F177.1 _ (by decide) _, fun j => F177.2 _ (by decide) _, ⟨by decide, by decide, by decide +kernel⟩, fun g504 e178 => ?_⟩
  replace e178 : g504 = mf_up g498 245 46 282 := e178
  have EG178 : ent lmg178 g504 := by rw [e178]; exact EG177.up (by decide +kernel)
  have FG178 : frm [245] g g504 := by rw [e178]; exact FG177.up (by decide)
  have F178 : frs 276 g504 h460 := by rw [e178]; exact (F177.mono (by decide)).ug (by decide)
  refine ⟨by decide +kernel, moreR (by decide), fun j => F178.1 _ (by decide) _, fun j => F178.2 _ (by decide) _, fun v509 e179 => ?_⟩
  replace e179 : v509 = 283 := e179
  subst e179
  refine ⟨⟨by decide, by decide, by decide +kernel⟩, by decide +kernel, fun h512 e180 => ?_⟩
  replace e180 : h512 = mf_up h460 283 0 (-1) := e180
  have EH180 : ent lmh180 h512 := by rw [e180]; exact EH170.up (by decide +kernel)
  have FH180 : frm mdR h h512 := by rw [e180]; exact FH170.up (by decide)
  have HC180 : frk mdK h h512 := by rw [e180]; exact HC170.up (by decide)
  have F180 : frs 284 g504 h512 := by rw [e180]; exact (F178.mono (by decide)).uh (by decide)
  refine ⟨by decide +kernel, fun h514 e181 => ?_⟩
  replace e181 : h514 = mf_up h512 283 1 (-1) := e181
  have EH181 : ent lmh181 h514 := by rw [e181]; exact EH180.up (by decide +kernel)
  have FH181 : frm mdR h h514 := by rw [e181]; exact FH180.up (by decide)
  have HC181 : frk mdK h h514 := by rw [e181]; exact HC180.up (by decide)
  have F181 : frs 284 g504 h514 := by rw [e181]; exact (F180.mono (by decide)).uh (by decide)
  refine ⟨by decide +kernel, fun h516 e182 => ?_⟩
  replace e182 : h516 = mf_up h514 283 2 (-1) := e182
  have EH182 : ent lmh182 h516 := by rw [e182]; exact EH181.up (by decide +kernel)
  have FH182 : frm mdR h h516 := by rw [e182]; exact FH181.up (by decide)
  have HC182 : frk mdK h h516 := by rw [e182]; exact HC181.up (by decide)
  have F182 : frs 284 g504 h516 := by rw [e182]; exact (F181.mono (by decide)).uh (by decide)
  refine ⟨by decide +kernel, fun h518 e183 => ?_⟩
  replace e183 : h518 = mf_up h516 283 3 (-1) := e183
  have EH183 : ent lmh183 h518 := by rw [e183]; exact EH182.up (by decide +kernel)
  have FH183 : frm mdR h h518 := by rw [e183]; exact FH182.up (by decide)
  have HC183 : frk mdK h h518 := by rw [e183]; exact HC182.up (by decide)
  have F183 : frs 284 g504 h518 := by rw [e183]; exact (F182.mono (by decide)).uh (by decide)
  refine ⟨by decide +kernel, fun h520 e184 => ?_⟩
  replace e184 : h520 = mf_up h518 283 4 (-1) := e184
  have EH184 : ent lmh184 h520 := by rw [e184]; exact EH183.up (by decide +kernel)
  have FH184 : frm mdR h h520 := by rw [e184]; exact FH183.up (by decide)
  have HC184 : frk mdK h h520 := by rw [e184]; exact HC183.up (by decide)
  have F184 : frs 284 g504 h520 := by rw [e184]; exact (F183.mono (by decide)).uh (by decide)
  refine ⟨by decide +kernel, fun h522 e185 => ?_⟩
  replace e185 : h522 = mf_up h520 283 5 (-1) := e185
  have EH185 : ent lmh185 h522 := by rw [e185]; exact EH184.up (by decide +kernel)
  have FH185 : frm mdR h h522 := by rw [e185]; exact FH184.up (by decide)
  have HC185 : frk mdK h h522 := by rw [e185]; exact HC184.up (by decide)
  have F185 : frs 284 g504 h522 := by rw [e185]; exact (F184.mono (by decide)).uh (by decide)
  refine ⟨by decide +kernel, fun h524 e186 => ?_⟩
  replace e186 : h524 = mf_up h522 283 6 (-1) := e186
  have EH186 : ent lmh186 h524 := by rw [e186]; exact EH185.up (by decide +kernel)
  have FH186 : frm mdR h h524 := by rw [e186]; exact FH185.up (by decide)
  have HC186 : frk mdK h h524 := by rw [e186]; exact HC185.up (by decide)
  have F186 : frs 284 g504 h524 := by rw [e186]; exact (F185.mono (by decide)).uh (by decide)
  refine ⟨by decide +kernel, fun h526 e187 => ?_⟩
  replace e187 : h526 = mf_up h524 283 7 (-1) := e187
  have EH187 : ent lmh187 h526 := by rw [e187]; exact EH186.up (by decide +kernel)
  have FH187 : frm mdR h h526 := by rw [e187]; exact FH186.up (by decide)
  have HC187 : frk mdK h h526 := by rw [e187]; exact HC186.up (by decide)
  have F187 : frs 284 g504 h526 := by rw [e187]; exact (F186.mono (by decide)).uh (by decide)
  refine ⟨⟨by decide, by decide, by decide +kernel⟩, fun g528 e188 => ?_⟩
  replace e188 : g528 = mf_up g504 245 49 283 := e188
  have EG188 : ent lmg188 g528 := by rw [e188]; exact EG178.up (by decide +kernel)
  have FG188 : frm [245] g g528 := by rw [e188]; exact FG178.up (by decide)
  have F188 : frs 284 g528 h526 := by rw [e188]; exact (F187.mono (by decide)).ug (by decide)
  refine ⟨by decide +kernel, moreR (by decide), fun j => F188.1 _ (by decide) _, fun j => F188.2 _ (by decide) _, ⟨by decide, by decide, by decide +kernel⟩, fun g534 e189 => ?_⟩
  replace e189 : g534 = mf_up g528 245 50 284 := e189
  have EG189 : ent lmg189 g534 := by rw [e189]; exact EG188.up (by decide +kernel)
  have FG189 : frm [245] g g534 := by rw [e189]; exact FG188.up (by decide)
  have F189 : frs 284 g534 h526 := by rw [e189]; exact (F188.mono (by decide)).ug (by decide)
  refine ⟨by decide +kernel, moreR (by decide), fun j => F189.1 _ (by decide) _, fun j => F189.2 _ (by decide) _, ⟨by decide, by decide, by decide +kernel⟩, fun g540 e190 => ?_⟩
  replace e190 : g540 = mf_up g534 245 51 285 := e190
  have EG190 : ent lmg190 g540 := by rw [e190]; exact EG189.up (by decide +kernel)
  have FG190 : frm [245] g g540 := by rw [e190]; exact FG189.up (by decide)
  have F190 : frs 284 g540 h526 := by rw [e190]; exact (F189.mono (by decide)).ug (by decide)
  refine ⟨by decide +kernel, moreR (by decide), fun j => F190.1 _ (by decide) _, fun j => F190.2 _ (by decide) _, ⟨by decide, by decide, by decide +kernel⟩, fun g546 e191 => ?_⟩
  replace e191 : g546 = mf_up g540 245 56 286 := e191
  have EG191 : ent lmg191 g546 := by rw [e191]; exact EG190.up (by decide +kernel)
  have FG191 : frm [245] g g546 := by rw [e191]; exact FG190.up (by decide)
  have F191 : frs 284 g546 h526 := by rw [e191]; exact (F190.mono (by decide)).ug (by decide)
  refine ⟨by decide +kernel, moreR (by decide), fun j => F191.1 _ (by decide) _, fun j => F191.2 _ (by decide) _, ⟨by decide, by decide, by decide +kernel⟩, fun g552 e192 => ?_⟩
  replace e192 : g552 = mf_up g546 245 57 287 := e192
  have EG192 : ent lmg192 g552 := by rw [e192]; exact EG191.up (by decide +kernel)
  have FG192 : frm [245] g g552 := by rw [e192]; exact FG191.up (by decide)
  have F192 : frs 284 g552 h526 := by rw [e192]; exact (F191.mono (by decide)).ug (by decide)
  refine ⟨by decide +kernel, moreR (by decide), fun j => F192.1 _ (by decide) _, fun j => F192.2 _ (by decide) _, ⟨by decide, by decide, by decide +kernel⟩, fun g558 e193 => ?_⟩
  replace e193 : g558 = mf_up g552 245 63 288 := e193
  have EG193 : ent lmg193 g558 := by rw [e193]; exact EG192.up (by decide +kernel)
  have FG193 : frm [245] g g558 := by rw [e193]; exact FG192.up (by decide)
  have F193 : frs 284 g558 h526 := by rw [e193]; exact (F192.mono (by decide)).ug (by decide)
  refine ⟨by decide +kernel, moreR (by decide), fun j => F193.1 _ (by decide) _, fun j => F193.2 _ (by decide) _, ⟨by decide, by decide, by decide +kernel⟩, fun g564 e194 => ?_⟩
  replace e194 : g564 = mf_up g558 245 64 289 := e194
  have EG194 : ent lmg194 g564 := by rw [e194]; exact EG193.up (by decide +kernel)
  have FG194 : frm [245] g g564 := by rw [e194]; exact FG193.up (by decide)
  have F194 : frs 284 g564 h526 := by rw [e194]; exact (F193.mono (by decide)).ug (by decide)
  refine ⟨by decide +kernel, moreR (by decide), fun j => F194.1 _ (by decide) _, fun j => F194.2 _ (by decide) _, ⟨by decide, by decide, by decide +kernel⟩, fun g570 e195 => ?_⟩
  replace e195 : g570 = mf_up g564 245 66 290 := e195
  have EG195 : ent lmg195 g570 := by rw [e195]; exact EG194.up (by decide +kernel)
  have FG195 : frm [245] g g570 := by rw [e195]; exact FG194.up (by decide)
  have F195 : frs 284 g570 h526 := by rw [e195]; exact (F194.mono (by decide)).ug (by decide)
  refine ⟨by decide +kernel, moreR (by decide), fun j => F195.1 _ (by decide) _, fun j => F195.2 _ (by decide) _, ⟨by decide, by decide, by decide +kernel⟩, fun g576 e196 => ?_⟩
  replace e196 : g576 = mf_up g570 245 67 291 := e196
  have EG196 : ent lmg196 g576 := by rw [e196]; exact EG195.up (by decide +kernel)
  have FG196 : frm [245] g g576 := by rw [e196]; exact FG195.up (by decide)
  have F196 : frs 284 g576 h526 := by rw [e196]; exact (F195.mono (by decide)).ug (by decide)
  refine ⟨by decide +kernel, moreR (by decide), fun j => F196.1 _ (by decide) _, fun j => F196.2 _ (by decide) _, ⟨by decide, by decide, by decide +kernel⟩, fun g582 e197 => ?_⟩
  replace e197 : g582 = mf_up g576 245 68 292 := e197
  have EG197 : ent lmg197 g582 := by rw [e197]; exact EG196.up (by decide +kernel)
  have FG197 : frm [245] g g582 := by rw [e197]; exact FG196.up (by decide)
  have F197 : frs 284 g582 h526 := by rw [e197]; exact (F196.mono (by decide)).ug (by decide)
  refine fun h583 e198 => ?_
  replace e198 : h583 = mf_up h526 245 71 1 := e198
  have EH198 : ent lmh198 h583 := by rw [e198]; exact EH187.up (by decide +kernel)
  have FH198 : frm mdR h h583 := by rw [e198]; exact FH187.up (by decide)
  have HC198 : frk mdK h h583 := by rw [e198]; exact HC187.up (by decide)
  have F198 : frs 284 g582 h583 := by rw [e198]; exact (F197.mono (by decide)).uh (by decide)
  refine ⟨by decide +kernel, moreR (by decide), fun j => F198.1 _ (by decide) _, fun j => F198.2 _ (by decide) _, fun v588 e199 => ?_⟩
  replace e199 : v588 = 293 := e199
  subst e199
  refine ⟨⟨by decide, by decide, by decide +kernel⟩, by decide +kernel, fun h591 e200 => ?_⟩
  replace e200 : h591 = mf_up h583 293 0 102 := e200
  have EH200 : ent lmh200 h591 := by rw [e200]; exact EH198.up (by decide +kernel)
  have FH200 : frm mdR h h591 := by rw [e200]; exact FH198.up (by decide)
  have HC200 : frk mdK h h591 := by rw [e200]; exact HC198.up (by decide)
  have F200 : frs 294 g582 h591 := by rw [e200]; exact (F198.mono (by decide)).uh (by decide)
  refine ⟨by decide +kernel, fun h593 e201 => ?_⟩
  replace e201 : h593 = mf_up h591 293 1 105 := e201
  have EH201 : ent lmh201 h593 := by rw [e201]; exact EH200.up (by decide +kernel)
  have FH201 : frm mdR h h593 := by rw [e201]; exact FH200.up (by decide)
  have HC201 : frk mdK h h593 := by rw [e201]; exact HC200.up (by decide)
  have F201 : frs 294 g582 h593 := by rw [e201]; exact (F200.mono (by decide)).uh (by decide)
  refine ⟨by decide +kernel, fun h595 e202 => ?_⟩
  replace e202 : h595 = mf_up h593 293 2 114 := e202
  have EH202 : ent lmh202 h595 := by rw [e202]; exact EH201.up (by decide +kernel)
  have FH202 : frm mdR h h595 := by rw [e202]; exact FH201.up (by decide)
  have HC202 : frk mdK h h595 := by rw [e202]; exact HC201.up (by decide)
  have F202 : frs 294 g582 h595 := by rw [e202]; exact (F201.mono (by decide)).uh (by decide)
  refine ⟨by decide +kernel, fun h597 e203 => ?_⟩
  replace e203 : h597 = mf_up h595 293 3 115 := e203
  have EH203 : ent lmh203 h597 := by rw [e203]; exact EH202.up (by decide +kernel)
  have FH203 : frm mdR h h597 := by rw [e203]; exact FH202.up (by decide)
  have HC203 : frk mdK h h597 := by rw [e203]; exact HC202.up (by decide)
  have F203 : frs 294 g582 h597 := by rw [e203]; exact (F202.mono (by decide)).uh (by decide)
  refine ⟨by decide +kernel, fun h599 e204 => ?_⟩
  replace e204 : h599 = mf_up h597 293 4 116 := e204
  have EH204 : ent lmh204 h599 := by rw [e204]; exact EH203.up (by decide +kernel)
  have FH204 : frm mdR h h599 := by rw [e204]; exact FH203.up (by decide)
  have HC204 : frk mdK h h599 := by rw [e204]; exact HC203.up (by decide)
  have F204 : frs 294 g582 h599 := by rw [e204]; exact (F203.mono (by decide)).uh (by decide)
  refine ⟨⟨by decide, by decide, by decide +kernel⟩, fun g601 e205 => ?_⟩
  replace e205 : g601 = mf_up g582 245 72 293 := e205
  have EG205 : ent lmg205 g601 := by rw [e205]; exact EG197.up (by decide +kernel)
  have FG205 : frm [245] g g601 := by rw [e205]; exact FG197.up (by decide)
  have F205 : frs 294 g601 h599 := by rw [e205]; exact (F204.mono (by decide)).ug (by decide)
  refine ⟨by decide +kernel, moreR (by decide), fun j => F205.1 _ (by decide) _, fun j => F205.2 _ (by decide) _, fun v606 e206 => ?_⟩
  replace e206 : v606 = 294 := e206
  subst e206
  refine ⟨⟨by decide, by decide, by decide +kernel⟩, by decide +kernel, fun h609 e207 => ?_⟩
  replace e207 : h609 = mf_up h599 294 0 108 := e207
  have EH207 : ent lmh207 h609 := by rw [e207]; exact EH204.up (by decide +kernel)
  have FH207 : frm mdR h h609 := by rw [e207]; exact FH204.up (by decide)
  have HC207 : frk mdK h h609 := by rw [e207]; exact HC204.up (by decide)
  have F207 : frs 295 g601 h609 := by rw [e207]; exact (F205.mono (by decide)).uh (by decide)
  refine ⟨by decide +kernel, fun h611 e208 => ?_⟩
  replace e208 : h611 = mf_up h609 294 1 97 := e208
  have EH208 : ent lmh208 h611 := by rw [e208]; exact EH207.up (by decide +kernel)
  have FH208 : frm mdR h h611 := by rw [e208]; exact FH207.up (by decide)
  have HC208 : frk mdK h h611 := by rw [e208]; exact HC207.up (by decide)
  have F208 : frs 295 g601 h611 := by rw [e208]; exact (F207.mono (by decide)).uh (by decide)
  refine ⟨by decide +kernel, fun h613 e209 => ?_⟩
  replace e209 : h613 = mf_up h611 294 2 115 := e209
  have EH209 : ent lmh209 h613 := by rw [e209]; exact EH208.up (by decide +kernel)
  have FH209 : frm mdR h h613 := by rw [e209]; exact FH208.up (by decide)
  have HC209 : frk mdK h h613 := by rw [e209]; exact HC208.up (by decide)
  have F209 : frs 295 g601 h613 := by rw [e209]; exact (F208.mono (by decide)).uh (by decide)
  refine ⟨by decide +kernel, fun h615 e210 => ?_⟩
  replace e210 : h615 = mf_up h613 294 3 116 := e210
  have EH210 : ent lmh210 h615 := by rw [e210]; exact EH209.up (by decide +kernel)
  have FH210 : frm mdR h h615 := by rw [e210]; exact FH209.up (by decide)
  have HC210 : frk mdK h h615 := by rw [e210]; exact HC209.up (by decide)
  have F210 : frs 295 g601 h615 := by rw [e210]; exact (F209.mono (by decide)).uh (by decide)
  refine ⟨⟨by decide, by decide, by decide +kernel⟩, fun g617 e211 => ?_⟩
  replace e211 : g617 = mf_up g601 245 73 294 := e211
  have EG211 : ent lmg211 g617 := by rw [e211]; exact EG205.up (by decide +kernel)
  have FG211 : frm [245] g g617 := by rw [e211]; exact FG205.up (by decide)
  have F211 : frs 295 g617 h615 := by rw [e211]; exact (F210.mono (by decide)).ug (by decide)
  refine ⟨by decide +kernel, moreR (by decide), fun j => F211.1 _ (by decide) _, fun j => F211.2 _ (by decide) _, fun v622 e212 => ?_⟩
  replace e212 : v622 = 295 := e212
  subst e212
  refine ⟨⟨by decide, by decide, by decide +kernel⟩, by decide +kernel, fun h625 e213 => ?_⟩
  replace e213 : h625 = mf_up h615 295 0 111 := e213
  have EH213 : ent lmh213 h625 := by rw [e213]; exact EH210.up (by decide +kernel)
  have FH213 : frm mdR h h625 := by rw [e213]; exact FH210.up (by decide)
  have HC213 : frk mdK h h625 := by rw [e213]; exact HC210.up (by decide)
  have F213 : frs 296 g617 h625 := by rw [e213]; exact (F211.mono (by decide)).uh (by decide)
  refine ⟨by decide +kernel, fun h627 e214 => ?_⟩
  replace e214 : h627 = mf_up h625 295 1 102 := e214
  have EH214 : ent lmh214 h627 := by rw [e214]; exact EH213.up (by decide +kernel)
  have FH214 : frm mdR h h627 := by rw [e214]; exact FH213.up (by decide)
  have HC214 : frk mdK h h627 := by rw [e214]; exact HC213.up (by decide)
  have F214 : frs 296 g617 h627 := by rw [e214]; exact (F213.mono (by decide)).uh (by decide)
  refine ⟨by decide +kernel, fun h629 e215 => ?_⟩
  replace e215 : h629 = mf_up h627 295 2 116 := e215
  have EH215 : ent lmh215 h629 := by rw [e215]; exact EH214.up (by decide +kernel)
  have FH215 : frm mdR h h629 := by rw [e215]; exact FH214.up (by decide)
  have HC215 : frk mdK h h629 := by rw [e215]; exact HC214.up (by decide)
  have F215 : frs 296 g617 h629 := by rw [e215]; exact (F214.mono (by decide)).uh (by decide)
  refine ⟨by decide +kernel, fun h631 e216 => ?_⟩
  replace e216 : h631 = mf_up h629 295 3 101 := e216
  have EH216 : ent lmh216 h631 := by rw [e216]; exact EH215.up (by decide +kernel)
  have FH216 : frm mdR h h631 := by rw [e216]; exact FH215.up (by decide)
  have HC216 : frk mdK h h631 := by rw [e216]; exact HC215.up (by decide)
  have F216 : frs 296 g617 h631 := by rw [e216]; exact (F215.mono (by decide)).uh (by decide)
  refine ⟨by decide +kernel, fun h633 e217 => ?_⟩
  replace e217 : h633 = mf_up h631 295 4 110 := e217
  have EH217 : ent lmh217 h633 := by rw [e217]; exact EH216.up (by decide +kernel)
  have FH217 : frm mdR h h633 := by rw [e217]; exact FH216.up (by decide)
  have HC217 : frk mdK h h633 := by rw [e217]; exact HC216.up (by decide)
  have F217 : frs 296 g617 h633 := by rw [e217]; exact (F216.mono (by decide)).uh (by decide)
  refine ⟨⟨by decide, by decide, by decide +kernel⟩, fun g635 e218 => ?_⟩
  replace e218 : g635 = mf_up g617 245 74 295 := e218
  have EG218 : ent lmg218 g635 := by rw [e218]; exact EG211.up (by decide +kernel)
  have FG218 : frm [245] g g635 := by rw [e218]; exact FG211.up (by decide)
  have F218 : frs 296 g635 h633 := by rw [e218]; exact (F217.mono (by decide)).ug (by decide)
  refine ⟨by decide +kernel, moreR (by decide), fun j => F218.1 _ (by decide) _, fun j => F218.2 _ (by decide) _, fun v640 e219 => ?_⟩
  replace e219 : v640 = 296 := e219
  subst e219
  refine ⟨⟨by decide, by decide, by decide +kernel⟩, by decide +kernel, fun h643 e220 => ?_⟩
  replace e220 : h643 = mf_up h633 296 0 116 := e220
  have EH220 : ent lmh220 h643 := by rw [e220]; exact EH217.up (by decide +kernel)
  have FH220 : frm mdR h h643 := by rw [e220]; exact FH217.up (by decide)
  have HC220 : frk mdK h h643 := by rw [e220]; exact HC217.up (by decide)
  have F220 : frs 297 g635 h643 := by rw [e220]; exact (F218.mono (by decide)).uh (by decide)
  refine ⟨by decide +kernel, fun h645 e221 => ?_⟩
  replace e221 : h645 = mf_up h643 296 1 111 := e221
  have EH221 : ent lmh221 h645 := by rw [e221]; exact EH220.up (by decide +kernel)
  have FH221 : frm mdR h h645 := by rw [e221]; exact FH220.up (by decide)
  have HC221 : frk mdK h h645 := by rw [e221]; exact HC220.up (by decide)
  have F221 : frs 297 g635 h645 := by rw [e221]; exact (F220.mono (by decide)).uh (by decide)
  refine ⟨by decide +kernel, fun h647 e222 => ?_⟩
  replace e222 : h647 = mf_up h645 296 2 116 := e222
  have EH222 : ent lmh222 h647 := by rw [e222]; exact EH221.up (by decide +kernel)
  have FH222 : frm mdR h h647 := by rw [e222]; exact FH221.up (by decide)
  have HC222 : frk mdK h h647 := by rw [e222]; exact HC221.up (by decide)
  have F222 : frs 297 g635 h647 := by rw [e222]; exact (F221.mono (by decide)).uh (by decide)
  refine ⟨by decide +kernel, fun h649 e223 => ?_⟩
  replace e223 : h649 = mf_up h647 296 3 97 := e223
  have EH223 : ent lmh223 h649 := by rw [e223]; exact EH222.up (by decide +kernel)
  have FH223 : frm mdR h h649 := by rw [e223]; exact FH222.up (by decide)
  have HC223 : frk mdK h h649 := by rw [e223]; exact HC222.up (by decide)
  have F223 : frs 297 g635 h649 := by rw [e223]; exact (F222.mono (by decide)).uh (by decide)
  refine ⟨by decide +kernel, fun h651 e224 => ?_⟩
  replace e224 : h651 = mf_up h649 296 4 108 := e224
  have EH224 : ent lmh224 h651 := by rw [e224]; exact EH223.up (by decide +kernel)
  have FH224 : frm mdR h h651 := by rw [e224]; exact FH223.up (by decide)
  have HC224 : frk mdK h h651 := by rw [e224]; exact HC223.up (by decide)
  have F224 : frs 297 g635 h651 := by rw [e224]; exact (F223.mono (by decide)).uh (by decide)
  refine ⟨⟨by decide, by decide, by decide +kernel⟩, fun g653 e225 => ?_⟩
  replace e225 : g653 = mf_up g635 245 75 296 := e225
  have EG225 : ent lmg225 g653 := by rw [e225]; exact EG218.up (by decide +kernel)
  have FG225 : frm [245] g g653 := by rw [e225]; exact FG218.up (by decide)
  have F225 : frs 297 g653 h651 := by rw [e225]; exact (F224.mono (by decide)).ug (by decide)
  refine ⟨by decide +kernel, moreR (by decide), fun j => F225.1 _ (by decide) _, fun j => F225.2 _ (by decide) _, fun v658 e226 => ?_⟩
  replace e226 : v658 = 297 := e226
  subst e226
  refine ⟨⟨by decide, by decide, by decide +kernel⟩, by decide +kernel, fun h661 e227 => ?_⟩
  replace e227 : h661 = mf_up h651 297 0 109 := e227
  have EH227 : ent lmh227 h661 := by rw [e227]; exact EH224.up (by decide +kernel)
  have FH227 : frm mdR h h661 := by rw [e227]; exact FH224.up (by decide)
  have HC227 : frk mdK h h661 := by rw [e227]; exact HC224.up (by decide)
  have F227 : frs 298 g653 h661 := by rw [e227]; exact (F225.mono (by decide)).uh (by decide)
  refine ⟨by decide +kernel, fun h663 e228 => ?_⟩
  replace e228 : h663 = mf_up h661 297 1 111 := e228
  have EH228 : ent lmh228 h663 := by rw [e228]; exact EH227.up (by decide +kernel)
  have FH228 : frm mdR h h663 := by rw [e228]; exact FH227.up (by decide)
  have HC228 : frk mdK h h663 := by rw [e228]; exact HC227.up (by decide)
  have F228 : frs 298 g653 h663 := by rw [e228]; exact (F227.mono (by decide)).uh (by decide)
  refine ⟨by decide +kernel, fun h665 e229 => ?_⟩
  replace e229 : h665 = mf_up h663 297 2 115 := e229
  have EH229 : ent lmh229 h665 := by rw [e229]; exact EH228.up (by decide +kernel)
  have FH229 : frm mdR h h665 := by rw [e229]; exact FH228.up (by decide)
  have HC229 : frk mdK h h665 := by rw [e229]; exact HC228.up (by decide)
  have F229 : frs 298 g653 h665 := by rw [e229]; exact (F228.mono (by decide)).uh (by decide)
  refine ⟨by decide +kernel, fun h667 e230 => ?_⟩
  replace e230 : h667 = mf_up h665 297 3 116 := e230
  have EH230 : ent lmh230 h667 := by rw [e230]; exact EH229.up (by decide +kernel)
  have FH230 : frm mdR h h667 := by rw [e230]; exact FH229.up (by decide)
  have HC230 : frk mdK h h667 := by rw [e230]; exact HC229.up (by decide)
  have F230 : frs 298 g653 h667 := by rw [e230]; exact (F229.mono (by decide)).uh (by decide)
  refine ⟨⟨by decide, by decide, by decide +kernel⟩, fun g669 e231 => ?_⟩
  replace e231 : g669 = mf_up g653 245 76 297 := e231
  have EG231 : ent lmg231 g669 := by rw [e231]; exact EG225.up (by decide +kernel)
  have FG231 : frm [245] g g669 := by rw [e231]; exact FG225.up (by decide)
  have F231 : frs 298 g669 h667 := by rw [e231]; exact (F230.mono (by decide)).ug (by decide)
  refine ⟨by decide +kernel, moreR (by decide), fun j => F231.1 _ (by decide) _, fun j => F231.2 _ (by decide) _, fun v674 e232 => ?_⟩
  replace e232 : v674 = 298 := e232
  subst e232
  refine ⟨⟨by decide, by decide, by decide +kernel⟩, by decide +kernel, fun h677 e233 => ?_⟩
  replace e233 : h677 = mf_up h667 298 0 108 := e233
  have EH233 : ent lmh233 h677 := by rw [e233]; exact EH230.up (by decide +kernel)
  have FH233 : frm mdR h h677 := by rw [e233]; exact FH230.up (by decide)
  have HC233 : frk mdK h h677 := by rw [e233]; exact HC230.up (by decide)
  have F233 : frs 299 g669 h677 := by rw [e233]; exact (F231.mono (by decide)).uh (by decide)
  refine ⟨by decide +kernel, fun h679 e234 => ?_⟩
  replace e234 : h679 = mf_up h677 298 1 101 := e234
  have EH234 : ent lmh234 h679 := by rw [e234]; exact EH233.up (by decide +kernel)
  have FH234 : frm mdR h h679 := by rw [e234]; exact FH233.up (by decide)
  have HC234 : frk mdK h h679 := by rw [e234]; exact HC233.up (by decide)
  have F234 : frs 299 g669 h679 := by rw [e234]; exact (F233.mono (by decide)).uh (by decide)
  refine ⟨by decide +kernel, fun h681 e235 => ?_⟩
  replace e235 : h681 = mf_up h679 298 2 97 := e235
  have EH235 : ent lmh235 h681 := by rw [e235]; exact EH234.up (by decide +kernel)
  have FH235 : frm mdR h h681 := by rw [e235]; exact FH234.up (by decide)
  have HC235 : frk mdK h h681 := by rw [e235]; exact HC234.up (by decide)
  have F235 : frs 299 g669 h681 := by rw [e235]; exact (F234.mono (by decide)).uh (by decide)
  refine ⟨by decide +kernel, fun h683 e236 => ?_⟩
  replace e236 : h683 = mf_up h681 298 3 115 := e236
  have EH236 : ent lmh236 h683 := by rw [e236]; exact EH235.up (by decide +kernel)
  have FH236 : frm mdR h h683 := by rw [e236]; exact FH235.up (by decide)
  have HC236 : frk mdK h h683 := by rw [e236]; exact HC235.up (by decide)
  have F236 : frs 299 g669 h683 := by rw [e236]; exact (F235.mono (by decide)).uh (by decide)
  refine ⟨by decide +kernel, fun h685 e237 => ?_⟩
  replace e237 : h685 = mf_up h683 298 4 116 := e237
  have EH237 : ent lmh237 h685 := by rw [e237]; exact EH236.up (by decide +kernel)
  have FH237 : frm mdR h h685 := by rw [e237]; exact FH236.up (by decide)
  have HC237 : frk mdK h h685 := by rw [e237]; exact HC236.up (by decide)
  have F237 : frs 299 g669 h685 := by rw [e237]; exact (F236.mono (by decide)).uh (by decide)
  refine ⟨⟨by decide, by decide, by decide +kernel⟩, fun g687 e238 => ?_⟩
  replace e238 : g687 = mf_up g669 245 77 298 := e238
  have EG238 : ent lmg238 g687 := by rw [e238]; exact EG231.up (by decide +kernel)
  have FG238 : frm [245] g g687 := by rw [e238]; exact FG231.up (by decide)
  have F238 : frs 299 g687 h685 := by rw [e238]; exact (F237.mono (by decide)).ug (by decide)
  refine ⟨by decide +kernel, moreR (by decide), fun j => F238.1 _ (by decide) _, fun j => F238.2 _ (by decide) _, fun v692 e239 => ?_⟩
  replace e239 : v692 = 299 := e239
  subst e239
  refine ⟨⟨by decide, by decide, by decide +kernel⟩, by decide +kernel, fun h695 e240 => ?_⟩
  replace e240 : h695 = mf_up h685 299 0 110 := e240
  have EH240 : ent lmh240 h695 := by rw [e240]; exact EH237.up (by decide +kernel)
  have FH240 : frm mdR h h695 := by rw [e240]; exact FH237.up (by decide)
  have HC240 : frk mdK h h695 := by rw [e240]; exact HC237.up (by decide)
  have F240 : frs 300 g687 h695 := by rw [e240]; exact (F238.mono (by decide)).uh (by decide)
  refine ⟨by decide +kernel, fun h697 e241 => ?_⟩
  replace e241 : h697 = mf_up h695 299 1 111 := e241
  have EH241 : ent lmh241 h697 := by rw [e241]; exact EH240.up (by decide +kernel)
  have FH241 : frm mdR h h697 := by rw [e241]; exact FH240.up (by decide)
  have HC241 : frk mdK h h697 := by rw [e241]; exact HC240.up (by decide)
  have F241 : frs 300 g687 h697 := by rw [e241]; exact (F240.mono (by decide)).uh (by decide)
  refine ⟨by decide +kernel, fun h699 e242 => ?_⟩
  replace e242 : h699 = mf_up h697 299 2 116 := e242
  have EH242 : ent lmh242 h699 := by rw [e242]; exact EH241.up (by decide +kernel)
  have FH242 : frm mdR h h699 := by rw [e242]; exact FH241.up (by decide)
  have HC242 : frk mdK h h699 := by rw [e242]; exact HC241.up (by decide)
  have F242 : frs 300 g687 h699 := by rw [e242]; exact (F241.mono (by decide)).uh (by decide)
  refine ⟨⟨by decide, by decide, by decide +kernel⟩, fun g701 e243 => ?_⟩
  replace e243 : g701 = mf_up g687 245 78 299 := e243
  have EG243 : ent lmg243 g701 := by rw [e243]; exact EG238.up (by decide +kernel)
  have FG243 : frm [245] g g701 := by rw [e243]; exact FG238.up (by decide)
  have F243 : frs 300 g701 h699 := by rw [e243]; exact (F242.mono (by decide)).ug (by decide)
  refine ⟨by decide +kernel, moreR (by decide), fun j => F243.1 _ (by decide) _, fun j => F243.2 _ (by decide) _, fun v706 e244 => ?_⟩
  replace e244 : v706 = 300 := e244
  subst e244
  refine ⟨⟨by decide, by decide, by decide +kernel⟩, by decide +kernel, fun h709 e245 => ?_⟩
  replace e245 : h709 = mf_up h699 300 0 97 := e245
  have EH245 : ent lmh245 h709 := by rw [e245]; exact EH242.up (by decide +kernel)
  have FH245 : frm mdR h h709 := by rw [e245]; exact FH242.up (by decide)
  have HC245 : frk mdK h h709 := by rw [e245]; exact HC242.up (by decide)
  have F245 : frs 301 g701 h709 := by rw [e245]; exact (F243.mono (by decide)).uh (by decide)
  refine ⟨by decide +kernel, fun h711 e246 => ?_⟩
  replace e246 : h711 = mf_up h709 300 1 110 := e246
  have EH246 : ent lmh246 h711 := by rw [e246]; exact EH245.up (by decide +kernel)
  have FH246 : frm mdR h h711 := by rw [e246]; exact FH245.up (by decide)
  have HC246 : frk mdK h h711 := by rw [e246]; exact HC245.up (by decide)
  have F246 : frs 301 g701 h711 := by rw [e246]; exact (F245.mono (by decide)).uh (by decide)
  refine ⟨by decide +kernel, fun h713 e247 => ?_⟩
  replace e247 : h713 = mf_up h711 300 2 100 := e247
  have EH247 : ent lmh247 h713 := by rw [e247]; exact EH246.up (by decide +kernel)
  have FH247 : frm mdR h h713 := by rw [e247]; exact FH246.up (by decide)
  have HC247 : frk mdK h h713 := by rw [e247]; exact HC246.up (by decide)
  have F247 : frs 301 g701 h713 := by rw [e247]; exact (F246.mono (by decide)).uh (by decide)
  refine ⟨⟨by decide, by decide, by decide +kernel⟩, fun g715 e248 => ?_⟩
  replace e248 : g715 = mf_up g701 245 79 300 := e248
  have EG248 : ent lmg248 g715 := by rw [e248]; exact EG243.up (by decide +kernel)
  have FG248 : frm [245] g g715 := by rw [e248]; exact FG243.up (by decide)
  have F248 : frs 301 g715 h713 := by rw [e248]; exact (F247.mono (by decide)).ug (by decide)
  refine ⟨by decide +kernel, moreR (by decide), fun j => F248.1 _ (by decide) _, fun j => F248.2 _ (by decide) _, fun v720 e249 => ?_⟩
  replace e249 : v720 = 301 := e249
  subst e249
  refine ⟨⟨by decide, by decide, by decide +kernel⟩, by decide +kernel, fun h723 e250 => ?_⟩
  replace e250 : h723 = mf_up h713 301 0 111 := e250
  have EH250 : ent lmh250 h723 := by rw [e250]; exact EH247.up (by decide +kernel)
  have FH250 : frm mdR h h723 := by rw [e250]; exact FH247.up (by decide)
  have HC250 : frk mdK h h723 := by rw [e250]; exact HC247.up (by decide)
  have F250 : frs 302 g715 h723 := by rw [e250]; exact (F248.mono (by decide)).uh (by decide)
  refine ⟨by decide +kernel, fun h725 e251 => ?_⟩
  replace e251 : h725 = mf_up h723 301 1 114 := e251
  have EH251 : ent lmh251 h725 := by rw [e251]; exact EH250.up (by decide +kernel)
  have FH251 : frm mdR h h725 := by rw [e251]; exact FH250.up (by decide)
  have HC251 : frk mdK h h725 := by rw [e251]; exact HC250.up (by decide)
  have F251 : frs 302 g715 h725 := by rw [e251]; exact (F250.mono (by decide)).uh (by decide)
  refine ⟨⟨by decide, by decide, by decide +kernel⟩, fun g727 e252 => ?_⟩
  replace e252 : g727 = mf_up g715 245 80 301 := e252
  have EG252 : ent lmg252 g727 := by rw [e252]; exact EG248.up (by decide +kernel)
  have FG252 : frm [245] g g727 := by rw [e252]; exact FG248.up (by decide)
  have F252 : frs 302 g727 h725 := by rw [e252]; exact (F251.mono (by decide)).ug (by decide)
  refine ⟨by decide +kernel, moreR (by decide), fun j => F252.1 _ (by decide) _, fun j => F252.2 _ (by decide) _, fun v732 e253 => ?_⟩
  replace e253 : v732 = 302 := e253
  subst e253
  refine ⟨⟨by decide, by decide, by decide +kernel⟩, by decide +kernel, fun h735 e254 => ?_⟩
  replace e254 : h735 = mf_up h725 302 0 97 := e254
  have EH254 : ent lmh254 h735 := by rw [e254]; exact EH251.up (by decide +kernel)
  have FH254 : frm mdR h h735 := by rw [e254]; exact FH251.up (by decide)
  have HC254 : frk mdK h h735 := by rw [e254]; exact HC251.up (by decide)
  have F254 : frs 303 g727 h735 := by rw [e254]; exact (F252.mono (by decide)).uh (by decide)
  refine ⟨by decide +kernel, fun h737 e255 => ?_⟩
  replace e255 : h737 = mf_up h735 302 1 108 := e255
  have EH255 : ent lmh255 h737 := by rw [e255]; exact EH254.up (by decide +kernel)
  have FH255 : frm mdR h h737 := by rw [e255]; exact FH254.up (by decide)
  have HC255 : frk mdK h h737 := by rw [e255]; exact HC254.up (by decide)
  have F255 : frs 303 g727 h737 := by rw [e255]; exact (F254.mono (by decide)).uh (by decide)
  refine ⟨by decide +kernel, fun h739 e256 => ?_⟩
  replace e256 : h739 = mf_up h737 302 2 108 := e256
  have EH256 : ent lmh256 h739 := by rw [e256]; exact EH255.up (by decide +kernel)
  have FH256 : frm mdR h h739 := by rw [e256]; exact FH255.up (by decide)
  have HC256 : frk mdK h h739 := by rw [e256]; exact HC255.up (by decide)
  have F256 : frs 303 g727 h739 := by rw [e256]; exact (F255.mono (by decide)).uh (by decide)
  refine ⟨⟨by decide, by decide, by decide +kernel⟩, fun g741 e257 => ?_⟩
  replace e257 : g741 = mf_up g727 245 81 302 := e257
  have EG257 : ent lmg257 g741 := by rw [e257]; exact EG252.up (by decide +kernel)
  have FG257 : frm [245] g g741 := by rw [e257]; exact FG252.up (by decide)
  have F257 : frs 303 g741 h739 := by rw [e257]; exact (F256.mono (by decide)).ug (by decide)
  refine ⟨by decide +kernel, moreR (by decide), fun j => F257.1 _ (by decide) _, fun j => F257.2 _ (by decide) _, fun v746 e258 => ?_⟩
  replace e258 : v746 = 303 := e258
  subst e258
  refine ⟨⟨by decide, by decide, by decide +kernel⟩, by decide +kernel, fun h749 e259 => ?_⟩
  replace e259 : h749 = mf_up h739 303 0 109 := e259
  have EH259 : ent lmh259 h749 := by rw [e259]; exact EH256.up (by decide +kernel)
  have FH259 : frm mdR h h749 := by rw [e259]; exact FH256.up (by decide)
  have HC259 : frk mdK h h749 := by rw [e259]; exact HC256.up (by decide)
  have F259 : frs 304 g741 h749 := by rw [e259]; exact (F257.mono (by decide)).uh (by decide)
  refine ⟨by decide +kernel, fun h751 e260 => ?_⟩
  replace e260 : h751 = mf_up h749 303 1 105 := e260
  have EH260 : ent lmh260 h751 := by rw [e260]; exact EH259.up (by decide +kernel)
  have FH260 : frm mdR h h751 := by rw [e260]; exact FH259.up (by decide)
  have HC260 : frk mdK h h751 := by rw [e260]; exact HC259.up (by decide)
  have F260 : frs 304 g741 h751 := by rw [e260]; exact (F259.mono (by decide)).uh (by decide)
  refine ⟨by decide +kernel, fun h753 e261 => ?_⟩
  replace e261 : h753 = mf_up h751 303 2 110 := e261
  have EH261 : ent lmh261 h753 := by rw [e261]; exact EH260.up (by decide +kernel)
  have FH261 : frm mdR h h753 := by rw [e261]; exact FH260.up (by decide)
  have HC261 : frk mdK h h753 := by rw [e261]; exact HC260.up (by decide)
  have F261 : frs 304 g741 h753 := by rw [e261]; exact (F260.mono (by decide)).uh (by decide)
  refine ⟨⟨by decide, by decide, by decide +kernel⟩, fun g755 e262 => ?_⟩
  replace e262 : g755 = mf_up g741 245 82 303 := e262
  have EG262 : ent lmg262 g755 := by rw [e262]; exact EG257.up (by decide +kernel)
  have FG262 : frm [245] g g755 := by rw [e262]; exact FG257.up (by decide)
  have F262 : frs 304 g755 h753 := by rw [e262]; exact (F261.mono (by decide)).ug (by decide)
  refine ⟨by decide +kernel, moreR (by decide), fun j => F262.1 _ (by decide) _, fun j => F262.2 _ (by decide) _, fun v760 e263 => ?_⟩
  replace e263 : v760 = 304 := e263
  subst e263
  refine ⟨⟨by decide, by decide, by decide +kernel⟩, by decide +kernel, fun h763 e264 => ?_⟩
  replace e264 : h763 = mf_up h753 304 0 109 := e264
  have EH264 : ent lmh264 h763 := by rw [e264]; exact EH261.up (by decide +kernel)
  have FH264 : frm mdR h h763 := by rw [e264]; exact FH261.up (by decide)
  have HC264 : frk mdK h h763 := by rw [e264]; exact HC261.up (by decide)
  have F264 : frs 305 g755 h763 := by rw [e264]; exact (F262.mono (by decide)).uh (by decide)
  refine ⟨by decide +kernel, fun h765 e265 => ?_⟩
  replace e265 : h765 = mf_up h763 304 1 97 := e265
  have EH265 : ent lmh265 h765 := by rw [e265]; exact EH264.up (by decide +kernel)
  have FH265 : frm mdR h h765 := by rw [e265]; exact FH264.up (by decide)
  have HC265 : frk mdK h h765 := by rw [e265]; exact HC264.up (by decide)
  have F265 : frs 305 g755 h765 := by rw [e265]; exact (F264.mono (by decide)).uh (by decide)
  refine ⟨by decide +kernel, fun h767 e266 => ?_⟩
  replace e266 : h767 = mf_up h765 304 2 120 := e266
  have EH266 : ent lmh266 h767 := by rw [e266]; exact EH265.up (by decide +kernel)
  have FH266 : frm mdR h h767 := by rw [e266]; exact FH265.up (by decide)
  have HC266 : frk mdK h h767 := by rw [e266]; exact HC265.up (by decide)
  have F266 : frs 305 g755 h767 := by rw [e266]; exact (F265.mono (by decide)).uh (by decide)
  refine ⟨⟨by decide, by decide, by decide +kernel⟩, fun g769 e267 => ?_⟩
  replace e267 : g769 = mf_up g755 245 83 304 := e267
  have EG267 : ent lmg267 g769 := by rw [e267]; exact EG262.up (by decide +kernel)
  have FG267 : frm [245] g g769 := by rw [e267]; exact FG262.up (by decide)
  have F267 : frs 305 g769 h767 := by rw [e267]; exact (F266.mono (by decide)).ug (by decide)
  refine ⟨by decide +kernel, moreR (by decide), fun j => F267.1 _ (by decide) _, fun j => F267.2 _ (by decide) _, fun v774 e268 => ?_⟩
  replace e268 : v774 = 305 := e268
  subst e268
  refine ⟨⟨by decide, by decide, by decide +kernel⟩, by decide +kernel, fun h777 e269 => ?_⟩
  replace e269 : h777 = mf_up h767 305 0 100 := e269
  have EH269 : ent lmh269 h777 := by rw [e269]; exact EH266.up (by decide +kernel)
  have FH269 : frm mdR h h777 := by rw [e269]; exact FH266.up (by decide)
  have HC269 : frk mdK h h777 := by rw [e269]; exact HC266.up (by decide)
  have F269 : frs 306 g769 h777 := by rw [e269]; exact (F267.mono (by decide)).uh (by decide)
  refine ⟨by decide +kernel, fun h779 e270 => ?_⟩
  replace e270 : h779 = mf_up h777 305 1 97 := e270
  have EH270 : ent lmh270 h779 := by rw [e270]; exact EH269.up (by decide +kernel)
  have FH270 : frm mdR h h779 := by rw [e270]; exact FH269.up (by decide)
  have HC270 : frk mdK h h779 := by rw [e270]; exact HC269.up (by decide)
  have F270 : frs 306 g769 h779 := by rw [e270]; exact (F269.mono (by decide)).uh (by decide)
  refine ⟨by decide +kernel, fun h781 e271 => ?_⟩
  replace e271 : h781 = mf_up h779 305 2 121 := e271
  have EH271 : ent lmh271 h781 := by rw [e271]; exact EH270.up (by decide +kernel)
  have FH271 : frm mdR h h781 := by rw [e271]; exact FH270.up (by decide)
  have HC271 : frk mdK h h781 := by rw [e271]; exact HC270.up (by decide)
  have F271 : frs 306 g769 h781 := by rw [e271]; exact (F270.mono (by decide)).uh (by decide)
  refine ⟨⟨by decide, by decide, by decide +kernel⟩, fun g783 e272 => ?_⟩
  replace e272 : g783 = mf_up g769 245 84 305 := e272
  have EG272 : ent lmg272 g783 := by rw [e272]; exact EG267.up (by decide +kernel)
  have FG272 : frm [245] g g783 := by rw [e272]; exact FG267.up (by decide)
  have F272 : frs 306 g783 h781 := by rw [e272]; exact (F271.mono (by decide)).ug (by decide)
  refine ⟨by decide +kernel, moreR (by decide), fun j => F272.1 _ (by decide) _, fun j => F272.2 _ (by decide) _, fun v788 e273 => ?_⟩
  replace e273 : v788 = 306 := e273
  subst e273
  refine ⟨⟨by decide, by decide, by decide +kernel⟩, by decide +kernel, fun h791 e274 => ?_⟩
  replace e274 : h791 = mf_up h781 306 0 108 := e274
  have EH274 : ent lmh274 h791 := by rw [e274]; exact EH271.up (by decide +kernel)
  have FH274 : frm mdR h h791 := by rw [e274]; exact FH271.up (by decide)
  have HC274 : frk mdK h h791 := by rw [e274]; exact HC271.up (by decide)
  have F274 : frs 307 g783 h791 := by rw [e274]; exact (F272.mono (by decide)).uh (by decide)
  refine ⟨by decide +kernel, fun h793 e275 => ?_⟩
  replace e275 : h793 = mf_up h791 306 1 101 := e275
  have EH275 : ent lmh275 h793 := by rw [e275]; exact EH274.up (by decide +kernel)
  have FH275 : frm mdR h h793 := by rw [e275]; exact FH274.up (by decide)
  have HC275 : frk mdK h h793 := by rw [e275]; exact HC274.up (by decide)
  have F275 : frs 307 g783 h793 := by rw [e275]; exact (F274.mono (by decide)).uh (by decide)
  refine ⟨by decide +kernel, fun h795 e276 => ?_⟩
  replace e276 : h795 = mf_up h793 306 2 97 := e276
  have EH276 : ent lmh276 h795 := by rw [e276]; exact EH275.up (by decide +kernel)
  have FH276 : frm mdR h h795 := by rw [e276]; exact FH275.up (by decide)
  have HC276 : frk mdK h h795 := by rw [e276]; exact HC275.up (by decide)
  have F276 : frs 307 g783 h795 := by rw [e276]; exact (F275.mono (by decide)).uh (by decide)
  refine ⟨by decide +kernel, fun h797 e277 => ?_⟩
  replace e277 : h797 = mf_up h795 306 3 102 := e277
  have EH277 : ent lmh277 h797 := by rw [e277]; exact EH276.up (by decide +kernel)
  have FH277 : frm mdR h h797 := by rw [e277]; exact FH276.up (by decide)
  have HC277 : frk mdK h h797 := by rw [e277]; exact HC276.up (by decide)
  have F277 : frs 307 g783 h797 := by rw [e277]; exact (F276.mono (by decide)).uh (by decide)
  refine ⟨⟨by decide, by decide, by decide +kernel⟩, fun g799 e278 => ?_⟩
  replace e278 : g799 = mf_up g783 245 85 306 := e278
  have EG278 : ent lmg278 g799 := by rw [e278]; exact EG272.up (by decide +kernel)
  have FG278 : frm [245] g g799 := by rw [e278]; exact FG272.up (by decide)
  have F278 : frs 307 g799 h797 := by rw [e278]; exact (F277.mono (by decide)).ug (by decide)
  refine ⟨by decide +kernel, moreR (by decide), fun j => F278.1 _ (by decide) _, fun j => F278.2 _ (by decide) _, fun v804 e279 => ?_⟩
  replace e279 : v804 = 307 := e279
  subst e279
  refine ⟨⟨by decide, by decide, by decide +kernel⟩, by decide +kernel, fun h807 e280 => ?_⟩
  replace e280 : h807 = mf_up h797 307 0 99 := e280
  have EH280 : ent lmh280 h807 := by rw [e280]; exact EH277.up (by decide +kernel)
  have FH280 : frm mdR h h807 := by rw [e280]; exact FH277.up (by decide)
  have HC280 : frk mdK h h807 := by rw [e280]; exact HC277.up (by decide)
  have F280 : frs 308 g799 h807 := by rw [e280]; exact (F278.mono (by decide)).uh (by decide)
  refine ⟨by decide +kernel, fun h809 e281 => ?_⟩
  replace e281 : h809 = mf_up h807 307 1 101 := e281
  have EH281 : ent lmh281 h809 := by rw [e281]; exact EH280.up (by decide +kernel)
  have FH281 : frm mdR h h809 := by rw [e281]; exact FH280.up (by decide)
  have HC281 : frk mdK h h809 := by rw [e281]; exact HC280.up (by decide)
  have F281 : frs 308 g799 h809 := by rw [e281]; exact (F280.mono (by decide)).uh (by decide)
  refine ⟨by decide +kernel, fun h811 e282 => ?_⟩
  replace e282 : h811 = mf_up h809 307 2 108 := e282
  have EH282 : ent lmh282 h811 := by rw [e282]; exact EH281.up (by decide +kernel)
  have FH282 : frm mdR h h811 := by rw [e282]; exact FH281.up (by decide)
  have HC282 : frk mdK h h811 := by rw [e282]; exact HC281.up (by decide)
  have F282 : frs 308 g799 h811 := by rw [e282]; exact (F281.mono (by decide)).uh (by decide)
  refine ⟨by decide +kernel, fun h813 e283 => ?_⟩
  replace e283 : h813 = mf_up h811 307 3 108 := e283
  have EH283 : ent lmh283 h813 := by rw [e283]; exact EH282.up (by decide +kernel)
  have FH283 : frm mdR h h813 := by rw [e283]; exact FH282.up (by decide)
  have HC283 : frk mdK h h813 := by rw [e283]; exact HC282.up (by decide)
  have F283 : frs 308 g799 h813 := by rw [e283]; exact (F282.mono (by decide)).uh (by decide)
  refine ⟨⟨by decide, by decide, by decide +kernel⟩, fun g815 e284 => ?_⟩
  replace e284 : g815 = mf_up g799 245 86 307 := e284
  have EG284 : ent lmg284 g815 := by rw [e284]; exact EG278.up (by decide +kernel)
  have FG284 : frm [245] g g815 := by rw [e284]; exact FG278.up (by decide)
  have F284 : frs 308 g815 h813 := by rw [e284]; exact (F283.mono (by decide)).ug (by decide)
  refine ⟨by decide +kernel, moreR (by decide), fun j => F284.1 _ (by decide) _, fun j => F284.2 _ (by decide) _, fun v820 e285 => ?_⟩
  replace e285 : v820 = 308 := e285
  subst e285
  refine ⟨⟨by decide, by decide, by decide +kernel⟩, by decide +kernel, fun h823 e286 => ?_⟩
  replace e286 : h823 = mf_up h813 308 0 116 := e286
  have EH286 : ent lmh286 h823 := by rw [e286]; exact EH283.up (by decide +kernel)
  have FH286 : frm mdR h h823 := by rw [e286]; exact FH283.up (by decide)
  have HC286 : frk mdK h h823 := by rw [e286]; exact HC283.up (by decide)
  have F286 : frs 309 g815 h823 := by rw [e286]; exact (F284.mono (by decide)).uh (by decide)
  refine ⟨by decide +kernel, fun h825 e287 => ?_⟩
  replace e287 : h825 = mf_up h823 308 1 114 := e287
  have EH287 : ent lmh287 h825 := by rw [e287]; exact EH286.up (by decide +kernel)
  have FH287 : frm mdR h h825 := by rw [e287]; exact FH286.up (by decide)
  have HC287 : frk mdK h h825 := by rw [e287]; exact HC286.up (by decide)
  have F287 : frs 309 g815 h825 := by rw [e287]; exact (F286.mono (by decide)).uh (by decide)
  refine ⟨by decide +kernel, fun h827 e288 => ?_⟩
  replace e288 : h827 = mf_up h825 308 2 97 := e288
  have EH288 : ent lmh288 h827 := by rw [e288]; exact EH287.up (by decide +kernel)
  have FH288 : frm mdR h h827 := by rw [e288]; exact FH287.up (by decide)
  have HC288 : frk mdK h h827 := by rw [e288]; exact HC287.up (by decide)
  have F288 : frs 309 g815 h827 := by rw [e288]; exact (F287.mono (by decide)).uh (by decide)
  refine ⟨by decide +kernel, fun h829 e289 => ?_⟩
  replace e289 : h829 = mf_up h827 308 3 100 := e289
  have EH289 : ent lmh289 h829 := by rw [e289]; exact EH288.up (by decide +kernel)
  have FH289 : frm mdR h h829 := by rw [e289]; exact FH288.up (by decide)
  have HC289 : frk mdK h h829 := by rw [e289]; exact HC288.up (by decide)
  have F289 : frs 309 g815 h829 := by rw [e289]; exact (F288.mono (by decide)).uh (by decide)
  refine ⟨by decide +kernel, fun h831 e290 => ?_⟩
  replace e290 : h831 = mf_up h829 308 4 101 := e290
  have EH290 : ent lmh290 h831 := by rw [e290]; exact EH289.up (by decide +kernel)
  have FH290 : frm mdR h h831 := by rw [e290]; exact FH289.up (by decide)
  have HC290 : frk mdK h h831 := by rw [e290]; exact HC289.up (by decide)
  have F290 : frs 309 g815 h831 := by rw [e290]; exact (F289.mono (by decide)).uh (by decide)
  refine ⟨⟨by decide, by decide, by decide +kernel⟩, fun g833 e291 => ?_⟩
  replace e291 : g833 = mf_up g815 245 87 308 := e291
  have EG291 : ent lmg291 g833 := by rw [e291]; exact EG284.up (by decide +kernel)
  have FG291 : frm [245] g g833 := by rw [e291]; exact FG284.up (by decide)
  have F291 : frs 309 g833 h831 := by rw [e291]; exact (F290.mono (by decide)).ug (by decide)
  refine ⟨by decide +kernel, moreR (by decide), fun j => F291.1 _ (by decide) _, fun j => F291.2 _ (by decide) _, fun v838 e292 => ?_⟩
  replace e292 : v838 = 309 := e292
  subst e292
  refine ⟨⟨by decide, by decide, by decide +kernel⟩, by decide +kernel, fun h841 e293 => ?_⟩
  replace e293 : h841 = mf_up h831 309 0 112 := e293
  have EH293 : ent lmh293 h841 := by rw [e293]; exact EH290.up (by decide +kernel)
  have FH293 : frm mdR h h841 := by rw [e293]; exact FH290.up (by decide)
  have HC293 : frk mdK h h841 := by rw [e293]; exact HC290.up (by decide)
  have F293 : frs 310 g833 h841 := by rw [e293]; exact (F291.mono (by decide)).uh (by decide)
  refine ⟨by decide +kernel, fun h843 e294 => ?_⟩
  replace e294 : h843 = mf_up h841 309 1 117 := e294
  have EH294 : ent lmh294 h843 := by rw [e294]; exact EH293.up (by decide +kernel)
  have FH294 : frm mdR h h843 := by rw [e294]; exact FH293.up (by decide)
  have HC294 : frk mdK h h843 := by rw [e294]; exact HC293.up (by decide)
  have F294 : frs 310 g833 h843 := by rw [e294]; exact (F293.mono (by decide)).uh (by decide)
  refine ⟨by decide +kernel, fun h845 e295 => ?_⟩
  replace e295 : h845 = mf_up h843 309 2 114 := e295
  have EH295 : ent lmh295 h845 := by rw [e295]; exact EH294.up (by decide +kernel)
  have FH295 : frm mdR h h845 := by rw [e295]; exact FH294.up (by decide)
  have HC295 : frk mdK h h845 := by rw [e295]; exact HC294.up (by decide)
  have F295 : frs 310 g833 h845 := by rw [e295]; exact (F294.mono (by decide)).uh (by decide)
  refine ⟨by decide +kernel, fun h847 e296 => ?_⟩
  replace e296 : h847 = mf_up h845 309 3 115 := e296
  have EH296 : ent lmh296 h847 := by rw [e296]; exact EH295.up (by decide +kernel)
  have FH296 : frm mdR h h847 := by rw [e296]; exact FH295.up (by decide)
  have HC296 : frk mdK h h847 := by rw [e296]; exact HC295.up (by decide)
  have F296 : frs 310 g833 h847 := by rw [e296]; exact (F295.mono (by decide)).uh (by decide)
  refine ⟨by decide +kernel, fun h849 e297 => ?_⟩
  replace e297 : h849 = mf_up h847 309 4 101 := e297
  have EH297 : ent lmh297 h849 := by rw [e297]; exact EH296.up (by decide +kernel)
  have FH297 : frm mdR h h849 := by rw [e297]; exact FH296.up (by decide)
  have HC297 : frk mdK h h849 := by rw [e297]; exact HC296.up (by decide)
  have F297 : frs 310 g833 h849 := by rw [e297]; exact (F296.mono (by decide)).uh (by decide)
  refine ⟨⟨by decide, by decide, by decide +kernel⟩, fun g851 e298 => ?_⟩
  replace e298 : g851 = mf_up g833 245 88 309 := e298
  have EG298 : ent lmg298 g851 := by rw [e298]; exact EG291.up (by decide +kernel)
  have FG298 : frm [245] g g851 := by rw [e298]; exact FG291.up (by decide)
  have F298 : frs 310 g851 h849 := by rw [e298]; exact (F297.mono (by decide)).ug (by decide)
  refine ⟨by decide +kernel, moreR (by decide), fun j => F298.1 _ (by decide) _, fun j => F298.2 _ (by decide) _, fun v856 e299 => ?_⟩
  replace e299 : v856 = 310 := e299
  subst e299
  refine ⟨⟨by decide, by decide, by decide +kernel⟩, by decide +kernel, fun h859 e300 => ?_⟩
  replace e300 : h859 = mf_up h849 310 0 111 := e300
  have EH300 : ent lmh300 h859 := by rw [e300]; exact EH297.up (by decide +kernel)
  have FH300 : frm mdR h h859 := by rw [e300]; exact FH297.up (by decide)
  have HC300 : frk mdK h h859 := by rw [e300]; exact HC297.up (by decide)
  have F300 : frs 311 g851 h859 := by rw [e300]; exact (F298.mono (by decide)).uh (by decide)
  refine ⟨by decide +kernel, fun h861 e301 => ?_⟩
  replace e301 : h861 = mf_up h859 310 1 112 := e301
  have EH301 : ent lmh301 h861 := by rw [e301]; exact EH300.up (by decide +kernel)
  have FH301 : frm mdR h h861 := by rw [e301]; exact FH300.up (by decide)
  have HC301 : frk mdK h h861 := by rw [e301]; exact HC300.up (by decide)
  have F301 : frs 311 g851 h861 := by rw [e301]; exact (F300.mono (by decide)).uh (by decide)
  refine ⟨by decide +kernel, fun h863 e302 => ?_⟩
  replace e302 : h863 = mf_up h861 310 2 101 := e302
  have EH302 : ent lmh302 h863 := by rw [e302]; exact EH301.up (by decide +kernel)
  have FH302 : frm mdR h h863 := by rw [e302]; exact FH301.up (by decide)
  have HC302 : frk mdK h h863 := by rw [e302]; exact HC301.up (by decide)
  have F302 : frs 311 g851 h863 := by rw [e302]; exact (F301.mono (by decide)).uh (by decide)
  refine ⟨by decide +kernel, fun h865 e303 => ?_⟩
  replace e303 : h865 = mf_up h863 310 3 110 := e303
  have EH303 : ent lmh303 h865 := by rw [e303]; exact EH302.up (by decide +kernel)
  have FH303 : frm mdR h h865 := by rw [e303]; exact FH302.up (by decide)
  have HC303 : frk mdK h h865 := by rw [e303]; exact HC302.up (by decide)
  have F303 : frs 311 g851 h865 := by rw [e303]; exact (F302.mono (by decide)).uh (by decide)
  refine ⟨⟨by decide, by decide, by decide +kernel⟩, fun g867 e304 => ?_⟩
  replace e304 : g867 = mf_up g851 245 89 310 := e304
  have EG304 : ent lmg304 g867 := by rw [e304]; exact EG298.up (by decide +kernel)
  have FG304 : frm [245] g g867 := by rw [e304]; exact FG298.up (by decide)
  have F304 : frs 311 g867 h865 := by rw [e304]; exact (F303.mono (by decide)).ug (by decide)
  refine ⟨by decide +kernel, moreR (by decide), fun j => F304.1 _ (by decide) _, fun j => F304.2 _ (by decide) _, fun v872 e305 => ?_⟩
  replace e305 : v872 = 311 := e305
  subst e305
  refine ⟨⟨by decide, by decide, by decide +kernel⟩, by decide +kernel, fun h875 e306 => ?_⟩
  replace e306 : h875 = mf_up h865 311 0 111 := e306
  have EH306 : ent lmh306 h875 := by rw [e306]; exact EH303.up (by decide +kernel)
  have FH306 : frm mdR h h875 := by rw [e306]; exact FH303.up (by decide)
  have HC306 : frk mdK h h875 := by rw [e306]; exact HC303.up (by decide)
  have F306 : frs 312 g867 h875 := by rw [e306]; exact (F304.mono (by decide)).uh (by decide)
  refine ⟨by decide +kernel, fun h877 e307 => ?_⟩
  replace e307 : h877 = mf_up h875 311 1 116 := e307
  have EH307 : ent lmh307 h877 := by rw [e307]; exact EH306.up (by decide +kernel)
  have FH307 : frm mdR h h877 := by rw [e307]; exact FH306.up (by decide)
  have HC307 : frk mdK h h877 := by rw [e307]; exact HC306.up (by decide)
  have F307 : frs 312 g867 h877 := by rw [e307]; exact (F306.mono (by decide)).uh (by decide)
  refine ⟨by decide +kernel, fun h879 e308 => ?_⟩
  replace e308 : h879 = mf_up h877 311 2 104 := e308
  have EH308 : ent lmh308 h879 := by rw [e308]; exact EH307.up (by decide +kernel)
  have FH308 : frm mdR h h879 := by rw [e308]; exact FH307.up (by decide)
  have HC308 : frk mdK h h879 := by rw [e308]; exact HC307.up (by decide)
  have F308 : frs 312 g867 h879 := by rw [e308]; exact (F307.mono (by decide)).uh (by decide)
  refine ⟨by decide +kernel, fun h881 e309 => ?_⟩
  replace e309 : h881 = mf_up h879 311 3 101 := e309
  have EH309 : ent lmh309 h881 := by rw [e309]; exact EH308.up (by decide +kernel)
  have FH309 : frm mdR h h881 := by rw [e309]; exact FH308.up (by decide)
  have HC309 : frk mdK h h881 := by rw [e309]; exact HC308.up (by decide)
  have F309 : frs 312 g867 h881 := by rw [e309]; exact (F308.mono (by decide)).uh (by decide)
  refine ⟨by decide +kernel, fun h883 e310 => ?_⟩
  replace e310 : h883 = mf_up h881 311 4 114 := e310
  have EH310 : ent lmh310 h883 := by rw [e310]; exact EH309.up (by decide +kernel)
  have FH310 : frm mdR h h883 := by rw [e310]; exact FH309.up (by decide)
  have HC310 : frk mdK h h883 := by rw [e310]; exact HC309.up (by decide)
  have F310 : frs 312 g867 h883 := by rw [e310]; exact (F309.mono (by decide)).uh (by decide)
  refine ⟨⟨by decide, by decide, by decide +kernel⟩, fun g885 e311 => ?_⟩
  replace e311 : g885 = mf_up g867 245 90 311 := e311
  have EG311 : ent lmg311 g885 := by rw [e311]; exact EG304.up (by decide +kernel)
  have FG311 : frm [245] g g885 := by rw [e311]; exact FG304.up (by decide)
  have F311 : frs 312 g885 h883 := by rw [e311]; exact (F310.mono (by decide)).ug (by decide)
  refine ⟨by decide +kernel, moreR (by decide), fun j => F311.1 _ (by decide) _, fun j => F311.2 _ (by decide) _, fun v890 e312 => ?_⟩
  replace e312 : v890 = 312 := e312
  subst e312
  refine ⟨⟨by decide, by decide, by decide +kernel⟩, by decide +kernel, fun h893 e313 => ?_⟩
  replace e313 : h893 = mf_up h883 312 0 110 := e313
  have EH313 : ent lmh313 h893 := by rw [e313]; exact EH310.up (by decide +kernel)
  have FH313 : frm mdR h h893 := by rw [e313]; exact FH310.up (by decide)
  have HC313 : frk mdK h h893 := by rw [e313]; exact HC310.up (by decide)
  have F313 : frs 313 g885 h893 := by rw [e313]; exact (F311.mono (by decide)).uh (by decide)
  refine ⟨by decide +kernel, fun h895 e314 => ?_⟩
  replace e314 : h895 = mf_up h893 312 1 117 := e314
  have EH314 : ent lmh314 h895 := by rw [e314]; exact EH313.up (by decide +kernel)
  have FH314 : frm mdR h h895 := by rw [e314]; exact FH313.up (by decide)
  have HC314 : frk mdK h h895 := by rw [e314]; exact HC313.up (by decide)
  have F314 : frs 313 g885 h895 := by rw [e314]; exact (F313.mono (by decide)).uh (by decide)
  refine ⟨by decide +kernel, fun h897 e315 => ?_⟩
  replace e315 : h897 = mf_up h895 312 2 109 := e315
  have EH315 : ent lmh315 h897 := by rw [e315]; exact EH314.up (by decide +kernel)
  have FH315 : frm mdR h h897 := by rw [e315]; exact FH314.up (by decide)
  have HC315 : frk mdK h h897 := by rw [e315]; exact HC314.up (by decide)
  have F315 : frs 313 g885 h897 := by rw [e315]; exact (F314.mono (by decide)).uh (by decide)
  refine ⟨by decide +kernel, fun h899 e316 => ?_⟩
  replace e316 : h899 = mf_up h897 312 3 98 := e316
  have EH316 : ent lmh316 h899 := by rw [e316]; exact EH315.up (by decide +kernel)
  have FH316 : frm mdR h h899 := by rw [e316]; exact FH315.up (by decide)
  have HC316 : frk mdK h h899 := by rw [e316]; exact HC315.up (by decide)
  have F316 : frs 313 g885 h899 := by rw [e316]; exact (F315.mono (by decide)).uh (by decide)
  refine ⟨by decide +kernel, fun h901 e317 => ?_⟩
  replace e317 : h901 = mf_up h899 312 4 101 := e317
  have EH317 : ent lmh317 h901 := by rw [e317]; exact EH316.up (by decide +kernel)
  have FH317 : frm mdR h h901 := by rw [e317]; exact FH316.up (by decide)
  have HC317 : frk mdK h h901 := by rw [e317]; exact HC316.up (by decide)
  have F317 : frs 313 g885 h901 := by rw [e317]; exact (F316.mono (by decide)).uh (by decide)
  refine ⟨by decide +kernel, fun h903 e318 => ?_⟩
  replace e318 : h903 = mf_up h901 312 5 114 := e318
  have EH318 : ent lmh318 h903 := by rw [e318]; exact EH317.up (by decide +kernel)
  have FH318 : frm mdR h h903 := by rw [e318]; exact FH317.up (by decide)
  have HC318 : frk mdK h h903 := by rw [e318]; exact HC317.up (by decide)
  have F318 : frs 313 g885 h903 := by rw [e318]; exact (F317.mono (by decide)).uh (by decide)
  refine ⟨⟨by decide, by decide, by decide +kernel⟩, fun g905 e319 => ?_⟩
  replace e319 : g905 = mf_up g885 245 91 312 := e319
  have EG319 : ent lmg319 g905 := by rw [e319]; exact EG311.up (by decide +kernel)
  have FG319 : frm [245] g g905 := by rw [e319]; exact FG311.up (by decide)
  have F319 : frs 313 g905 h903 := by rw [e319]; exact (F318.mono (by decide)).ug (by decide)
  refine ⟨by decide +kernel, moreR (by decide), fun j => F319.1 _ (by decide) _, fun j => F319.2 _ (by decide) _, fun v910 e320 => ?_⟩
  replace e320 : v910 = 313 := e320
  subst e320
  refine ⟨⟨by decide, by decide, by decide +kernel⟩, by decide +kernel, fun h913 e321 => ?_⟩
  replace e321 : h913 = mf_up h903 313 0 109 := e321
  have EH321 : ent lmh321 h913 := by rw [e321]; exact EH318.up (by decide +kernel)
  have FH321 : frm mdR h h913 := by rw [e321]; exact FH318.up (by decide)
  have HC321 : frk mdK h h913 := by rw [e321]; exact HC318.up (by decide)
  have F321 : frs 314 g905 h913 := by rw [e321]; exact (F319.mono (by decide)).uh (by decide)
  refine ⟨by decide +kernel, fun h915 e322 => ?_⟩
  replace e322 : h915 = mf_up h913 313 1 101 := e322
  have EH322 : ent lmh322 h915 := by rw [e322]; exact EH321.up (by decide +kernel)
  have FH322 : frm mdR h h915 := by rw [e322]; exact FH321.up (by decide)
  have HC322 : frk mdK h h915 := by rw [e322]; exact HC321.up (by decide)
  have F322 : frs 314 g905 h915 := by rw [e322]; exact (F321.mono (by decide)).uh (by decide)
  refine ⟨by decide +kernel, fun h917 e323 => ?_⟩
  replace e323 : h917 = mf_up h915 313 2 116 := e323
  have EH323 : ent lmh323 h917 := by rw [e323]; exact EH322.up (by decide +kernel)
  have FH323 : frm mdR h h917 := by rw [e323]; exact FH322.up (by decide)
  have HC323 : frk mdK h h917 := by rw [e323]; exact HC322.up (by decide)
  have F323 : frs 314 g905 h917 := by rw [e323]; exact (F322.mono (by decide)).uh (by decide)
  refine ⟨⟨by decide, by decide, by decide +kernel⟩, fun g919 e324 => ?_⟩
  replace e324 : g919 = mf_up g905 245 92 313 := e324
  have EG324 : ent lmg324 g919 := by rw [e324]; exact EG319.up (by decide +kernel)
  have FG324 : frm [245] g g919 := by rw [e324]; exact FG319.up (by decide)
  have F324 : frs 314 g919 h917 := by rw [e324]; exact (F323.mono (by decide)).ug (by decide)
  refine ⟨by decide +kernel, moreR (by decide), fun j => F324.1 _ (by decide) _, fun j => F324.2 _ (by decide) _, fun v924 e325 => ?_⟩
  replace e325 : v924 = 314 := e325
  subst e325
  refine ⟨⟨by decide, by decide, by decide +kernel⟩, by decide +kernel, fun h927 e326 => ?_⟩
  replace e326 : h927 = mf_up h917 314 0 109 := e326
  have EH326 : ent lmh326 h927 := by rw [e326]; exact EH323.up (by decide +kernel)
  have FH326 : frm mdR h h927 := by rw [e326]; exact FH323.up (by decide)
  have HC326 : frk mdK h h927 := by rw [e326]; exact HC323.up (by decide)
  have F326 : frs 315 g919 h927 := by rw [e326]; exact (F324.mono (by decide)).uh (by decide)
  refine ⟨by decide +kernel, fun h929 e327 => ?_⟩
  replace e327 : h929 = mf_up h927 314 1 101 := e327
  have EH327 : ent lmh327 h929 := by rw [e327]; exact EH326.up (by decide +kernel)
  have FH327 : frm mdR h h929 := by rw [e327]; exact FH326.up (by decide)
  have HC327 : frk mdK h h929 := by rw [e327]; exact HC326.up (by decide)
  have F327 : frs 315 g919 h929 := by rw [e327]; exact (F326.mono (by decide)).uh (by decide)
  refine ⟨by decide +kernel, fun h931 e328 => ?_⟩
  replace e328 : h931 = mf_up h929 314 2 101 := e328
  have EH328 : ent lmh328 h931 := by rw [e328]; exact EH327.up (by decide +kernel)
  have FH328 : frm mdR h h931 := by rw [e328]; exact FH327.up (by decide)
  have HC328 : frk mdK h h931 := by rw [e328]; exact HC327.up (by decide)
  have F328 : frs 315 g919 h931 := by rw [e328]; exact (F327.mono (by decide)).uh (by decide)
  refine ⟨by decide +kernel, fun h933 e329 => ?_⟩
  replace e329 : h933 = mf_up h931 314 3 116 := e329
  have EH329 : ent lmh329 h933 := by rw [e329]; exact EH328.up (by decide +kernel)
  have FH329 : frm mdR h h933 := by rw [e329]; exact FH328.up (by decide)
  have HC329 : frk mdK h h933 := by rw [e329]; exact HC328.up (by decide)
  have F329 : frs 315 g919 h933 := by rw [e329]; exact (F328.mono (by decide)).uh (by decide)
  refine ⟨by decide +kernel, fun h935 e330 => ?_⟩
  replace e330 : h935 = mf_up h933 314 4 115 := e330
  have EH330 : ent lmh330 h935 := by rw [e330]; exact EH329.up (by decide +kernel)
  have FH330 : frm mdR h h935 := by rw [e330]; exact FH329.up (by decide)
  have HC330 : frk mdK h h935 := by rw [e330]; exact HC329.up (by decide)
  have F330 : frs 315 g919 h935 := by rw [e330]; exact (F329.mono (by decide)).uh (by decide)
  refine ⟨⟨by decide, by decide, by decide +kernel⟩, fun g937 e331 => ?_⟩
  replace e331 : g937 = mf_up g919 245 93 314 := e331
  have EG331 : ent lmg331 g937 := by rw [e331]; exact EG324.up (by decide +kernel)
  have FG331 : frm [245] g g937 := by rw [e331]; exact FG324.up (by decide)
  have F331 : frs 315 g937 h935 := by rw [e331]; exact (F330.mono (by decide)).ug (by decide)
  refine ⟨by decide +kernel, moreR (by decide), fun j => F331.1 _ (by decide) _, fun j => F331.2 _ (by decide) _, ⟨by decide, by decide, by decide +kernel⟩, fun g943 e332 => ?_⟩
  replace e332 : g943 = mf_up g937 245 94 315 := e332
  have EG332 : ent lmg332 g943 := by rw [e332]; exact EG331.up (by decide +kernel)
  have FG332 : frm [245] g g943 := by rw [e332]; exact FG331.up (by decide)
  have F332 : frs 315 g943 h935 := by rw [e332]; exact (F331.mono (by decide)).ug (by decide)
  refine ⟨by decide +kernel, moreR (by decide), fun j => F332.1 _ (by decide) _, fun j => F332.2 _ (by decide) _, ⟨by decide, by decide, by decide +kernel⟩, fun g949 e333 => ?_⟩
  replace e333 : g949 = mf_up g943 245 96 316 := e333
  have EG333 : ent lmg333 g949 := by rw [e333]; exact EG332.up (by decide +kernel)
  have FG333 : frm [245] g g949 := by rw [e333]; exact FG332.up (by decide)
  have F333 : frs 315 g949 h935 := by rw [e333]; exact (F332.mono (by decide)).ug (by decide)
  refine ⟨by decide +kernel, moreR (by decide), fun j => F333.1 _ (by decide) _, fun j => F333.2 _ (by decide) _, ⟨by decide, by decide, by decide +kernel⟩, fun g955 e334 => ?_⟩
  replace e334 : g955 = mf_up g949 245 100 317 := e334
  have EG334 : ent lmg334 g955 := by rw [e334]; exact EG333.up (by decide +kernel)
  have FG334 : frm [245] g g955 := by rw [e334]; exact FG333.up (by decide)
  have F334 : frs 315 g955 h935 := by rw [e334]; exact (F333.mono (by decide)).ug (by decide)
  refine ⟨by decide +kernel, moreR (by decide), fun j => F334.1 _ (by decide) _, fun j => F334.2 _ (by decide) _, ⟨by decide, by decide, by decide +kernel⟩, fun g961 e335 => ?_⟩
  replace e335 : g961 = mf_up g955 245 104 318 := e335
  have EG335 : ent lmg335 g961 := by rw [e335]; exact EG334.up (by decide +kernel)
  have FG335 : frm [245] g g961 := by rw [e335]; exact FG334.up (by decide)
  have F335 : frs 315 g961 h935 := by rw [e335]; exact (F334.mono (by decide)).ug (by decide)
  exact ⟨rfl, hK g961 h935 EG335 EH330 FG335 FH330 HC330⟩
