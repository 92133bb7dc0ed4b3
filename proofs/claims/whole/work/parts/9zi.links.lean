/-! the law: what its words link to -/
theorem lL_9 : Cond.methodLink RL 9 yX9_init ∈ gw := gw_in (i := 130) (by decide +kernel) (by decide +kernel)
theorem lL_13 : Cond.methodLink RL 13 yX9_feed ∈ gw := gw_in (i := 558) (by decide +kernel) (by decide +kernel)
theorem lL_18 : Cond.methodLink RL 18 yX9_end ∈ gw := gw_in (i := 566) (by decide +kernel) (by decide +kernel)
theorem lL_23 : Cond.methodLink RL 23 yX9_text ∈ gw := gw_in (i := 570) (by decide +kernel) (by decide +kernel)
theorem lL_28 : Cond.methodLink RL 28 yX9_fault ∈ gw := gw_in (i := 683) (by decide +kernel) (by decide +kernel)
theorem lL_32 : Cond.methodLink RL 32 yX9_load ∈ gw := gw_in (i := 687) (by decide +kernel) (by decide +kernel)
theorem lL_38 : Cond.methodLink RL 38 yX9_encode ∈ gw := gw_in (i := 709) (by decide +kernel) (by decide +kernel)
theorem lL_43 : Cond.methodLink RL 43 yX9_raise ∈ gw := gw_in (i := 720) (by decide +kernel) (by decide +kernel)
theorem lL_48 : Cond.methodLink RL 48 yX9_slide ∈ gw := gw_in (i := 732) (by decide +kernel) (by decide +kernel)
theorem lL_52 : Cond.methodLink RL 52 yX9_hear ∈ gw := gw_in (i := 736) (by decide +kernel) (by decide +kernel)
theorem lL_56 : Cond.methodLink RL 56 yX9_send ∈ gw := gw_in (i := 744) (by decide +kernel) (by decide +kernel)
theorem lL_61 : Cond.methodLink RL 61 yX9_begin ∈ gw := gw_in (i := 758) (by decide +kernel) (by decide +kernel)
theorem lL_65 : Cond.methodLink RL 65 yX9_order ∈ gw := gw_in (i := 763) (by decide +kernel) (by decide +kernel)
theorem lL_70 : Cond.methodLink RL 70 yX9_step ∈ gw := gw_in (i := 772) (by decide +kernel) (by decide +kernel)
theorem lL_74 : Cond.methodLink RL 74 yX9_undo ∈ gw := gw_in (i := 812) (by decide +kernel) (by decide +kernel)
theorem lL_78 : Cond.methodLink RL 78 yX9_tell ∈ gw := gw_in (i := 820) (by decide +kernel) (by decide +kernel)
theorem lL_82 : Cond.methodLink RL 82 yX9_is ∈ gw := gw_in (i := 824) (by decide +kernel) (by decide +kernel)
theorem lL_86 : Cond.methodLink RL 86 yX9_shift ∈ gw := gw_in (i := 828) (by decide +kernel) (by decide +kernel)
theorem lL_90 : Cond.methodLink RL 90 yX9_layer ∈ gw := gw_in (i := 832) (by decide +kernel) (by decide +kernel)
theorem lL_94 : Cond.methodLink RL 94 yX9_has ∈ gw := gw_in (i := 836) (by decide +kernel) (by decide +kernel)
theorem lL_98 : Cond.methodLink RL 98 yX9_both ∈ gw := gw_in (i := 844) (by decide +kernel) (by decide +kernel)
theorem lL_102 : Cond.methodLink RL 102 yX9_loose ∈ gw := gw_in (i := 848) (by decide +kernel) (by decide +kernel)
theorem lL_107 : Cond.methodLink RL 107 yX9_degree ∈ gw := gw_in (i := 852) (by decide +kernel) (by decide +kernel)
theorem lL_111 : Cond.methodLink RL 111 yX9_bit ∈ gw := gw_in (i := 862) (by decide +kernel) (by decide +kernel)
theorem lL_115 : Cond.methodLink RL 115 yX9_message ∈ gw := gw_in (i := 866) (by decide +kernel) (by decide +kernel)
theorem lL_119 : Cond.methodLink RL 119 yX9_odd ∈ gw := gw_in (i := 870) (by decide +kernel) (by decide +kernel)
theorem lL_123 : Cond.methodLink RL 123 yX9_book ∈ gw := gw_in (i := 875) (by decide +kernel) (by decide +kernel)
theorem lL_127 : Cond.methodLink RL 127 yX9_turned ∈ gw := gw_in (i := 880) (by decide +kernel) (by decide +kernel)
theorem lL_131 : Cond.methodLink RL 131 yX9_restless ∈ gw := gw_in (i := 884) (by decide +kernel) (by decide +kernel)
theorem lL_135 : Cond.methodLink RL 135 yX9_guess ∈ gw := gw_in (i := 888) (by decide +kernel) (by decide +kernel)
theorem lL_139 : Cond.methodLink RL 139 yX9_sent ∈ gw := gw_in (i := 892) (by decide +kernel) (by decide +kernel)
theorem lL_143 : Cond.methodLink RL 143 yX9_wrong ∈ gw := gw_in (i := 896) (by decide +kernel) (by decide +kernel)
theorem lL_147 : Cond.methodLink RL 147 yX9_rank ∈ gw := gw_in (i := 900) (by decide +kernel) (by decide +kernel)
theorem lL_151 : Cond.methodLink RL 151 yX9_carrier ∈ gw := gw_in (i := 904) (by decide +kernel) (by decide +kernel)
theorem lL_155 : Cond.methodLink RL 155 yX9_girth ∈ gw := gw_in (i := 908) (by decide +kernel) (by decide +kernel)
theorem lL_159 : Cond.methodLink RL 159 yX9_fours ∈ gw := gw_in (i := 919) (by decide +kernel) (by decide +kernel)
theorem lL_163 : Cond.methodLink RL 163 yX9_sixes ∈ gw := gw_in (i := 927) (by decide +kernel) (by decide +kernel)
theorem lL_167 : Cond.methodLink RL 167 yX9_path ∈ gw := gw_in (i := 937) (by decide +kernel) (by decide +kernel)
theorem lL_171 : Cond.methodLink RL 171 yX9_pieces ∈ gw := gw_in (i := 942) (by decide +kernel) (by decide +kernel)
theorem lL_175 : Cond.methodLink RL 175 yX9_odds ∈ gw := gw_in (i := 952) (by decide +kernel) (by decide +kernel)
theorem lL_179 : Cond.methodLink RL 179 yX9_knot ∈ gw := gw_in (i := 961) (by decide +kernel) (by decide +kernel)
theorem lL_184 : Cond.methodLink RL 184 yX9_knots ∈ gw := gw_in (i := 974) (by decide +kernel) (by decide +kernel)
theorem lL_188 : Cond.methodLink RL 188 yX9_least ∈ gw := gw_in (i := 1050) (by decide +kernel) (by decide +kernel)
theorem lL_193 : Cond.methodLink RL 193 yX9_stoppers ∈ gw := gw_in (i := 1058) (by decide +kernel) (by decide +kernel)
theorem lL_197 : Cond.methodLink RL 197 yX9_words ∈ gw := gw_in (i := 1062) (by decide +kernel) (by decide +kernel)
theorem lL_201 : Cond.methodLink RL 201 yX9_trapped ∈ gw := gw_in (i := 1066) (by decide +kernel) (by decide +kernel)
theorem lL_206 : Cond.methodLink RL 206 yX9_traps ∈ gw := gw_in (i := 1075) (by decide +kernel) (by decide +kernel)
theorem lL_210 : Cond.methodLink RL 210 yX9_weakest ∈ gw := gw_in (i := 1079) (by decide +kernel) (by decide +kernel)
theorem lL_215 : Cond.methodLink RL 215 yX9_peeled ∈ gw := gw_in (i := 1083) (by decide +kernel) (by decide +kernel)
theorem lL_220 : Cond.methodLink RL 220 yX9_known ∈ gw := gw_in (i := 1091) (by decide +kernel) (by decide +kernel)
theorem lL_224 : Cond.methodLink RL 224 yX9_erasable ∈ gw := gw_in (i := 1095) (by decide +kernel) (by decide +kernel)
theorem lL_228 : Cond.methodLink RL 228 yX9_cost ∈ gw := gw_in (i := 1099) (by decide +kernel) (by decide +kernel)
theorem lL_232 : Cond.methodLink RL 232 yX9_likeliest ∈ gw := gw_in (i := 1110) (by decide +kernel) (by decide +kernel)
theorem lL_236 : Cond.methodLink RL 236 yX9_lightest ∈ gw := gw_in (i := 1124) (by decide +kernel) (by decide +kernel)
theorem lL_240 : Cond.methodLink RL 240 yX9_spectrum ∈ gw := gw_in (i := 1128) (by decide +kernel) (by decide +kernel)
theorem lL_244 : Cond.methodLink RL 244 yX9_nearest ∈ gw := gw_in (i := 1132) (by decide +kernel) (by decide +kernel)
theorem lL_248 : Cond.methodLink RL 248 yX9_pipe ∈ gw := gw_in (i := 1136) (by decide +kernel) (by decide +kernel)
theorem lL_252 : Cond.methodLink RL 252 yX9_quietest ∈ gw := gw_in (i := 1161) (by decide +kernel) (by decide +kernel)
theorem lL_256 : Cond.methodLink RL 256 yX9_clashes ∈ gw := gw_in (i := 1165) (by decide +kernel) (by decide +kernel)
theorem lL_260 : Cond.methodLink RL 260 yX9_calmest ∈ gw := gw_in (i := 1174) (by decide +kernel) (by decide +kernel)
theorem lL_264 : Cond.methodLink RL 264 yX9_foretold ∈ gw := gw_in (i := 1178) (by decide +kernel) (by decide +kernel)
theorem lL_268 : Cond.methodLink RL 268 yX9_believed ∈ gw := gw_in (i := 1182) (by decide +kernel) (by decide +kernel)
theorem lL_272 : Cond.methodLink RL 272 yX9_till ∈ gw := gw_in (i := 1186) (by decide +kernel) (by decide +kernel)
theorem lL_276 : Cond.methodLink RL 276 yX9_fewer ∈ gw := gw_in (i := 1190) (by decide +kernel) (by decide +kernel)
theorem lL_280 : Cond.methodLink RL 280 yX9_trials ∈ gw := gw_in (i := 1198) (by decide +kernel) (by decide +kernel)
theorem lL_285 : Cond.methodLink RL 285 yX9_mean ∈ gw := gw_in (i := 1206) (by decide +kernel) (by decide +kernel)
theorem lL_289 : Cond.methodLink RL 289 yX9_image ∈ gw := gw_in (i := 1216) (by decide +kernel) (by decide +kernel)
theorem lL_293 : Cond.methodLink RL 293 yX9_back ∈ gw := gw_in (i := 1229) (by decide +kernel) (by decide +kernel)
theorem lL_297 : Cond.methodLink RL 297 yX9_about ∈ gw := gw_in (i := 1233) (by decide +kernel) (by decide +kernel)
theorem lL_12 : Cond.methodLink RL 12 yX10_init ∈ gw := gw_in (i := 1239) (by decide +kernel) (by decide +kernel)
theorem lL_17 : Cond.methodLink RL 17 yX10_feed ∈ gw := gw_in (i := 1362) (by decide +kernel) (by decide +kernel)
theorem lL_22 : Cond.methodLink RL 22 yX10_end ∈ gw := gw_in (i := 1370) (by decide +kernel) (by decide +kernel)
theorem lL_27 : Cond.methodLink RL 27 yX10_text ∈ gw := gw_in (i := 1377) (by decide +kernel) (by decide +kernel)
theorem lL_31 : Cond.methodLink RL 31 yX10_fault ∈ gw := gw_in (i := 1419) (by decide +kernel) (by decide +kernel)
theorem lL_77 : Cond.methodLink RL 77 yX10_undo ∈ gw := gw_in (i := 1423) (by decide +kernel) (by decide +kernel)
theorem lL_35 : Cond.methodLink RL 35 yX10_load ∈ gw := gw_in (i := 1430) (by decide +kernel) (by decide +kernel)
theorem lL_47 : Cond.methodLink RL 47 yX10_raise ∈ gw := gw_in (i := 1446) (by decide +kernel) (by decide +kernel)
theorem lL_51 : Cond.methodLink RL 51 yX10_slide ∈ gw := gw_in (i := 1454) (by decide +kernel) (by decide +kernel)
theorem lL_42 : Cond.methodLink RL 42 yX10_encode ∈ gw := gw_in (i := 1458) (by decide +kernel) (by decide +kernel)
theorem lL_55 : Cond.methodLink RL 55 yX10_hear ∈ gw := gw_in (i := 1481) (by decide +kernel) (by decide +kernel)
theorem lL_60 : Cond.methodLink RL 60 yX10_send ∈ gw := gw_in (i := 1489) (by decide +kernel) (by decide +kernel)
theorem lL_64 : Cond.methodLink RL 64 yX10_begin ∈ gw := gw_in (i := 1500) (by decide +kernel) (by decide +kernel)
theorem lL_69 : Cond.methodLink RL 69 yX10_order ∈ gw := gw_in (i := 1504) (by decide +kernel) (by decide +kernel)
theorem lL_73 : Cond.methodLink RL 73 yX10_step ∈ gw := gw_in (i := 1512) (by decide +kernel) (by decide +kernel)
theorem lL_81 : Cond.methodLink RL 81 yX10_tell ∈ gw := gw_in (i := 1565) (by decide +kernel) (by decide +kernel)
theorem lL_85 : Cond.methodLink RL 85 yX10_is ∈ gw := gw_in (i := 1569) (by decide +kernel) (by decide +kernel)
theorem lL_89 : Cond.methodLink RL 89 yX10_shift ∈ gw := gw_in (i := 1573) (by decide +kernel) (by decide +kernel)
theorem lL_93 : Cond.methodLink RL 93 yX10_layer ∈ gw := gw_in (i := 1577) (by decide +kernel) (by decide +kernel)
theorem lL_97 : Cond.methodLink RL 97 yX10_has ∈ gw := gw_in (i := 1581) (by decide +kernel) (by decide +kernel)
theorem lL_110 : Cond.methodLink RL 110 yX10_degree ∈ gw := gw_in (i := 1589) (by decide +kernel) (by decide +kernel)
theorem lL_114 : Cond.methodLink RL 114 yX10_bit ∈ gw := gw_in (i := 1593) (by decide +kernel) (by decide +kernel)
theorem lL_118 : Cond.methodLink RL 118 yX10_message ∈ gw := gw_in (i := 1597) (by decide +kernel) (by decide +kernel)
theorem lL_122 : Cond.methodLink RL 122 yX10_odd ∈ gw := gw_in (i := 1601) (by decide +kernel) (by decide +kernel)
theorem lL_138 : Cond.methodLink RL 138 yX10_guess ∈ gw := gw_in (i := 1605) (by decide +kernel) (by decide +kernel)
theorem lL_142 : Cond.methodLink RL 142 yX10_sent ∈ gw := gw_in (i := 1609) (by decide +kernel) (by decide +kernel)
theorem lL_146 : Cond.methodLink RL 146 yX10_wrong ∈ gw := gw_in (i := 1613) (by decide +kernel) (by decide +kernel)
theorem lL_150 : Cond.methodLink RL 150 yX10_rank ∈ gw := gw_in (i := 1617) (by decide +kernel) (by decide +kernel)
theorem lL_154 : Cond.methodLink RL 154 yX10_carrier ∈ gw := gw_in (i := 1621) (by decide +kernel) (by decide +kernel)
theorem lL_126 : Cond.methodLink RL 126 yX10_book ∈ gw := gw_in (i := 1629) (by decide +kernel) (by decide +kernel)
theorem lL_130 : Cond.methodLink RL 130 yX10_turned ∈ gw := gw_in (i := 1633) (by decide +kernel) (by decide +kernel)
theorem lL_134 : Cond.methodLink RL 134 yX10_restless ∈ gw := gw_in (i := 1637) (by decide +kernel) (by decide +kernel)
theorem lL_158 : Cond.methodLink RL 158 yX10_girth ∈ gw := gw_in (i := 1641) (by decide +kernel) (by decide +kernel)
theorem lL_101 : Cond.methodLink RL 101 yX10_both ∈ gw := gw_in (i := 1650) (by decide +kernel) (by decide +kernel)
theorem lL_106 : Cond.methodLink RL 106 yX10_loose ∈ gw := gw_in (i := 1658) (by decide +kernel) (by decide +kernel)
theorem lL_162 : Cond.methodLink RL 162 yX10_fours ∈ gw := gw_in (i := 1663) (by decide +kernel) (by decide +kernel)
theorem lL_166 : Cond.methodLink RL 166 yX10_sixes ∈ gw := gw_in (i := 1667) (by decide +kernel) (by decide +kernel)
theorem lL_170 : Cond.methodLink RL 170 yX10_path ∈ gw := gw_in (i := 1675) (by decide +kernel) (by decide +kernel)
theorem lL_174 : Cond.methodLink RL 174 yX10_pieces ∈ gw := gw_in (i := 1683) (by decide +kernel) (by decide +kernel)
theorem lL_178 : Cond.methodLink RL 178 yX10_odds ∈ gw := gw_in (i := 1687) (by decide +kernel) (by decide +kernel)
theorem lL_183 : Cond.methodLink RL 183 yX10_knot ∈ gw := gw_in (i := 1695) (by decide +kernel) (by decide +kernel)
theorem lL_187 : Cond.methodLink RL 187 yX10_knots ∈ gw := gw_in (i := 1707) (by decide +kernel) (by decide +kernel)
theorem lL_196 : Cond.methodLink RL 196 yX10_stoppers ∈ gw := gw_in (i := 1739) (by decide +kernel) (by decide +kernel)
theorem lL_200 : Cond.methodLink RL 200 yX10_words ∈ gw := gw_in (i := 1743) (by decide +kernel) (by decide +kernel)
theorem lL_227 : Cond.methodLink RL 227 yX10_erasable ∈ gw := gw_in (i := 1747) (by decide +kernel) (by decide +kernel)
theorem lL_192 : Cond.methodLink RL 192 yX10_least ∈ gw := gw_in (i := 1751) (by decide +kernel) (by decide +kernel)
theorem lL_205 : Cond.methodLink RL 205 yX10_trapped ∈ gw := gw_in (i := 1755) (by decide +kernel) (by decide +kernel)
theorem lL_209 : Cond.methodLink RL 209 yX10_traps ∈ gw := gw_in (i := 1772) (by decide +kernel) (by decide +kernel)
theorem lL_214 : Cond.methodLink RL 214 yX10_weakest ∈ gw := gw_in (i := 1780) (by decide +kernel) (by decide +kernel)
theorem lL_219 : Cond.methodLink RL 219 yX10_peeled ∈ gw := gw_in (i := 1784) (by decide +kernel) (by decide +kernel)
theorem lL_223 : Cond.methodLink RL 223 yX10_known ∈ gw := gw_in (i := 1792) (by decide +kernel) (by decide +kernel)
theorem lL_231 : Cond.methodLink RL 231 yX10_cost ∈ gw := gw_in (i := 1796) (by decide +kernel) (by decide +kernel)
theorem lL_239 : Cond.methodLink RL 239 yX10_lightest ∈ gw := gw_in (i := 1804) (by decide +kernel) (by decide +kernel)
theorem lL_243 : Cond.methodLink RL 243 yX10_spectrum ∈ gw := gw_in (i := 1812) (by decide +kernel) (by decide +kernel)
theorem lL_247 : Cond.methodLink RL 247 yX10_nearest ∈ gw := gw_in (i := 1816) (by decide +kernel) (by decide +kernel)
theorem lL_235 : Cond.methodLink RL 235 yX10_likeliest ∈ gw := gw_in (i := 1820) (by decide +kernel) (by decide +kernel)
theorem lL_251 : Cond.methodLink RL 251 yX10_pipe ∈ gw := gw_in (i := 1824) (by decide +kernel) (by decide +kernel)
theorem lL_255 : Cond.methodLink RL 255 yX10_quietest ∈ gw := gw_in (i := 1840) (by decide +kernel) (by decide +kernel)
theorem lL_259 : Cond.methodLink RL 259 yX10_clashes ∈ gw := gw_in (i := 1844) (by decide +kernel) (by decide +kernel)
theorem lL_263 : Cond.methodLink RL 263 yX10_calmest ∈ gw := gw_in (i := 1852) (by decide +kernel) (by decide +kernel)
theorem lL_267 : Cond.methodLink RL 267 yX10_foretold ∈ gw := gw_in (i := 1856) (by decide +kernel) (by decide +kernel)
theorem lL_271 : Cond.methodLink RL 271 yX10_believed ∈ gw := gw_in (i := 1860) (by decide +kernel) (by decide +kernel)
theorem lL_275 : Cond.methodLink RL 275 yX10_till ∈ gw := gw_in (i := 1864) (by decide +kernel) (by decide +kernel)
theorem lL_279 : Cond.methodLink RL 279 yX10_fewer ∈ gw := gw_in (i := 1868) (by decide +kernel) (by decide +kernel)
theorem lL_284 : Cond.methodLink RL 284 yX10_trials ∈ gw := gw_in (i := 1876) (by decide +kernel) (by decide +kernel)
theorem lL_288 : Cond.methodLink RL 288 yX10_mean ∈ gw := gw_in (i := 1880) (by decide +kernel) (by decide +kernel)
theorem lL_292 : Cond.methodLink RL 292 yX10_image ∈ gw := gw_in (i := 1894) (by decide +kernel) (by decide +kernel)
theorem lL_296 : Cond.methodLink RL 296 yX10_back ∈ gw := gw_in (i := 1898) (by decide +kernel) (by decide +kernel)
theorem lL_300 : Cond.methodLink RL 300 yX10_about ∈ gw := gw_in (i := 1902) (by decide +kernel) (by decide +kernel)
theorem nL_7 : NWd RL 7 8 7 [.null, .null, .null, .null, .null, .null, .null] := ⟨RX9, TX9, tyX9, rfl, cwX9, tyX9_ok, by decide +kernel, gw_in (i := 128) (by decide +kernel) (by decide +kernel), gw_in (i := 129) (by decide +kernel) (by decide +kernel), gw_in (i := 106) (by decide +kernel) (by decide +kernel)⟩
theorem nL_10 : NWd RL 10 9 28 [.null, .null, .null, .null, .int 0, .int 0, .int 0, .int 0, .int 0, .int 0, .int 0, .int 0, .int 0, .int 0, .null, .null, .long 0, .int 0, .null, .null, .null, .null, .int 0, .long 0, .null, .int 0, .int 0, .null] := ⟨RX10, TX10, tyX10, rfl, cwX10, tyX10_ok, by decide +kernel, gw_in (i := 1237) (by decide +kernel) (by decide +kernel), gw_in (i := 1238) (by decide +kernel) (by decide +kernel), gw_in (i := 120) (by decide +kernel) (by decide +kernel)⟩
abbrev mLaw (nm : String) : MT := (⟨RL, nm, "([I)Z"⟩, cL_law, 4, ret, 12, 428)
def RHP (h : HP) (r : Nat) (A : Nat → Int) (ia : Nat → Nat → Int) (la : Nat → Nat → BitVec 64) (fi : Nat → Int) (fl : Nat → BitVec 64) : Prop := ∀ j, j ≤ 12 → h.2 (r + j) = some (rcell r A ia la fi fl j)
theorem RHP.self {h : HP} {r : Nat} {A : Nat → Int} {ia : Nat → Nat → Int} {la : Nat → Nat → BitVec 64} {fi : Nat → Int} {fl : Nat → BitVec 64} (H : RHP h r A ia la fi fl) : RH r A ia la fi fl h = h := by
  refine Prod.ext rfl (funext fun x => ?_)
  show (if r ≤ x ∧ x ≤ r + 12 then some (rcell r A ia la fi fl (x - r)) else h.2 x) = h.2 x
  by_cases hx : r ≤ x ∧ x ≤ r + 12
  · rw [if_pos hx, ← H (x - r) (by omega), show r + (x - r) = x by omega]
  · rw [if_neg hx]
theorem RHP.rh {h0 : HP} {r : Nat} {A : Nat → Int} {ia : Nat → Nat → Int} {la : Nat → Nat → BitVec 64} {fi : Nat → Int} {fl : Nat → BitVec 64} : RHP (RH r A ia la fi fl h0) r A ia la fi fl := fun j hj => RHg hj
theorem RHn {h0 : HP} {r : Nat} {A : Nat → Int} {ia : Nat → Nat → Int} {la : Nat → Nat → BitVec 64} {fi : Nat → Int} {fl : Nat → BitVec 64} {x : Nat} (hx : ¬ (r ≤ x ∧ x ≤ r + 12)) : (RH r A ia la fi fl h0).2 x = h0.2 x := if_neg hx
def LI (o : Nat) (h : HP) (cap : Nat → Nat) (A : Nat → Int) (ia : Nat → Nat → Int) (la : Nat → Nat → BitVec 64) (fi : Nat → Int) (fl : Nat → BitVec 64) (L R C : Nat) : Prop := CLS o h cap A (ia 2) (ia 3) (ia 4) (fi 4) (fi 5) (fi 6) L R C ∧ RHP h (o + 60) A ia la fi fl
theorem cls_cap {o : Nat} {h : HP} {cap : Nat → Nat} {A im tx tp : Nat → Int} {f4 f5 f6 : Int} {L R C : Nat} (H : CLS o h cap A im tx tp f4 f5 f6 L R C) : smC cap ≤ 426168 := by
  obtain ⟨ow, cd, cb, c, hRs, -⟩ := H
  exact cpb_sm (rest_cpb hRs)
theorem cls_top {o : Nat} {h : HP} {cap : Nat → Nat} {A im tx tp : Nat → Int} {f4 f5 f6 : Int} {L R C : Nat} (H : CLS o h cap A im tx tp f4 f5 f6 L R C) : TOP A L R C := by
  obtain ⟨ow, cd, cb, c, hRs, sa, si, sl, b1, b2, b3, b4, b5⟩ := H
  exact hRs.top b5
theorem cls_o {o : Nat} {h : HP} {cap : Nat → Nat} {A im tx tp : Nat → Int} {f4 f5 f6 : Int} {L R C : Nat} (H : CLS o h cap A im tx tp f4 f5 f6 L R C) : h.2 o = some (.inr (8, xfs o)) := by
  obtain ⟨ow, cd, cb, c, hRs, -⟩ := H
  exact hRs.2.2.1
theorem cls_pur {o : Nat} {h : HP} {cap : Nat → Nat} {A im tx tp : Nat → Int} {f4 f5 f6 : Int} {L R C : Nat} (H : CLS o h cap A im tx tp f4 f5 f6 L R C) : PUR A im tx tp f4 f5 f6 := by
  obtain ⟨ow, cd, cb, c, hRs, -⟩ := H
  exact hRs.2.2.2.2.2.2.2.2.2
def RO (r : Nat) (w : Option Value) (A : Nat → Int) (i2 i3 i4 : Nat → Int) (f4 f5 f6 : Int) (h0 : HP) : Option Value → HP → Prop := fun v h' => v = w ∧ ∃ (ia : Nat → Nat → Int) (la : Nat → Nat → BitVec 64) (fi : Nat → Int) (fl : Nat → BitVec 64), (ia 2 = i2 ∧ ia 3 = i3 ∧ ia 4 = i4 ∧ fi 4 = f4 ∧ fi 5 = f5 ∧ fi 6 = f6) ∧ h' = RH r A ia la fi fl h0
/-! from the contracts to one form -/
theorem ad_xp {o : Nat} {h : HP} {cap : Nat → Nat} {im tx tp : Nat → Int} {f4 f5 f6 : Int} {L R C : Nat} {D : Nat → Int} {Y : MT} {av : List Value} {mc ms : Nat} {w : Option Value} (hs : sp Y av h mc ms (XP o h cap im tx tp f4 f5 f6 L R C w D)) : sp Y av h mc ms (XPT o h cap w D im tx tp f4 f5 f6) := sp_mono hs (fun _ _ q => ⟨q.1, q.2.1, L, R, C, q.2.2⟩)
theorem ad_xe {o : Nat} {h : HP} {cap : Nat → Nat} {im tx tp : Nat → Int} {f4 f5 f6 : Int} {D : Nat → Int} {Y : MT} {av : List Value} {mc ms : Nat} {w : Option Value} (hs : sp Y av h mc ms (XPE o h cap im tx tp f4 f5 f6 w D)) : sp Y av h mc ms (XPT o h cap w D im tx tp f4 f5 f6) := sp_mono hs (fun _ _ q => q)
theorem ad_pd {o : Nat} {h : HP} {cap : Nat → Nat} {A im tx tp : Nat → Int} {f4 f5 f6 : Int} {L R C : Nat} {Y : MT} {av : List Value} {mc ms : Nat} {w : Option Value} (H : CLS o h cap A im tx tp f4 f5 f6 L R C) (hs : sp Y av h mc ms (pd w h)) : sp Y av h mc ms (XPT o h cap w A im tx tp f4 f5 f6) := sp_mono hs (fun _ _ q => by obtain ⟨rfl, rfl⟩ := q; exact ⟨rfl, FRM.refl, L, R, C, H⟩)
theorem ad_aw {o : Nat} {h : HP} {cap : Nat → Nat} {A im tx tp : Nat → Int} {f4 f5 f6 : Int} {L R C : Nat} {Y : MT} {av : List Value} {w : Option Value} (H : CLS o h cap A im tx tp f4 f5 f6 L R C) (hs : ∀ (bl : Nat → Nat → BitVec 64) (bi : Nat → Int) (bq : Nat → BitVec 64), sp Y av (AWH (o + 55) bl bi bq h) 0 0 (px w (fun _ : (Nat → Nat → BitVec 64) × (Nat → Int) × (Nat → BitVec 64) => True) (fun q => AWH (o + 55) q.1 q.2.1 q.2.2 h))) : sp Y av h 0 0 (XPT o h cap w A im tx tp f4 f5 f6) := by
  obtain ⟨ow, cd, cb, c, hRs, -⟩ := id H
  obtain ⟨⟨bl, bi2, bq, w1⟩, fa, fb, w2⟩ := id hRs.2.2.2.2.2.2.2.2.1
  obtain ⟨pc, psa, psi, psl, p1⟩ := id hRs.2.2.2.2.2.2.1
  have h1 := hs bl bi2 bq
  rw [AWP.self w1] at h1
  refine sp_mono h1 (fun v h' q => ?_)
  obtain ⟨rfl, q, -, rfl⟩ := q
  exact ⟨rfl, ⟨Nat.le_refl _, fun x hx => AWn (by omega)⟩, L, R, C, H.sc rfl (fun x n1 n2 => AWn (by omega)) ⟨pc, psa, psi, psl, fun j hj => (AWn (by omega)).trans (p1 j hj)⟩ ⟨_, _, _, AWP.sh⟩ ⟨fa, fb, fun j hj => (AWn (by omega)).trans (w2 j hj)⟩⟩
theorem ad_fl {o : Nat} {h : HP} {cap : Nat → Nat} {A im tx tp : Nat → Int} {f4 f5 f6 : Int} {L R C : Nat} {Y : MT} {av : List Value} {w : Option Value} (H : CLS o h cap A im tx tp f4 f5 f6 L R C) (hs : ∀ (ba : Nat → Nat → Int) (bi : Nat → Int), sp Y av (FLH (o + 57) ba bi h) 0 0 (px w (fun _ : (Nat → Nat → Int) × (Nat → Int) => True) (fun q => FLH (o + 57) q.1 q.2 h))) : sp Y av h 0 0 (XPT o h cap w A im tx tp f4 f5 f6) := by
  obtain ⟨ow, cd, cb, c, hRs, -⟩ := id H
  obtain ⟨⟨bl, bi2, bq, w1⟩, fa, fb, w2⟩ := id hRs.2.2.2.2.2.2.2.2.1
  obtain ⟨pc, psa, psi, psl, p1⟩ := id hRs.2.2.2.2.2.2.1
  have h1 := hs fa fb
  rw [FLP.self w2] at h1
  refine sp_mono h1 (fun v h' q => ?_)
  obtain ⟨rfl, q, -, rfl⟩ := q
  exact ⟨rfl, ⟨Nat.le_refl _, fun x hx => FLn (by omega)⟩, L, R, C, H.sc rfl (fun x n1 n2 => FLn (by omega)) ⟨pc, psa, psi, psl, fun j hj => (FLn (by omega)).trans (p1 j hj)⟩ ⟨bl, bi2, bq, fun j hj => (FLn (by omega)).trans (w1 j hj)⟩ ⟨_, _, FLP.sh⟩⟩
theorem ad_sh {o : Nat} {h : HP} {cap : Nat → Nat} {A im tx tp : Nat → Int} {f4 f5 f6 : Int} {L R C : Nat} {Y : MT} {av : List Value} {w : Option Value} (H : CLS o h cap A im tx tp f4 f5 f6 L R C) (hs : ∀ (c1 : Nat) (sb : Nat → Nat → Int) (sj : Nat → Int) (sm : Nat → BitVec 64), sp Y av (SH (o + 35) c1 sb sj sm h) 0 0 (px w (fun _ : TR4 => True) (fun q => SH (o + 35) q.1 q.2.1 q.2.2.1 q.2.2.2 h))) : sp Y av h 0 0 (XPT o h cap w A im tx tp f4 f5 f6) := by
  obtain ⟨ow, cd, cb, c, hRs, -⟩ := id H
  obtain ⟨⟨bl, bi2, bq, w1⟩, fa, fb, w2⟩ := id hRs.2.2.2.2.2.2.2.2.1
  obtain ⟨pc, psa, psi, psl, p1⟩ := id hRs.2.2.2.2.2.2.1
  have h1 := hs pc psa psi psl
  rw [SCP.self p1] at h1
  refine sp_mono h1 (fun v h' q => ?_)
  obtain ⟨rfl, q, -, rfl⟩ := q
  exact ⟨rfl, ⟨Nat.le_refl _, fun x hx => SHn (by unfold outS; omega)⟩, L, R, C, H.sc rfl (fun x n1 n2 => SHn (by unfold outS; omega)) ⟨_, _, _, _, SCP.sh⟩ ⟨bl, bi2, bq, fun j hj => (SHn (by unfold outS; omega)).trans (w1 j hj)⟩ ⟨fa, fb, fun j hj => (SHn (by unfold outS; omega)).trans (w2 j hj)⟩⟩
theorem ad_pr {h0 : HP} {r : Nat} {A : Nat → Int} {ia : Nat → Nat → Int} {la : Nat → Nat → BitVec 64} {fi : Nat → Int} {fl : Nat → BitVec 64} {Y : MT} {av : List Value} {w : Option Value} {D : Nat → Int} (hs : sp Y av (RH r A ia la fi fl h0) 0 0 (pr w r D ia fi h0)) : sp Y av (RH r A ia la fi fl h0) 0 0 (RO r w D (ia 2) (ia 3) (ia 4) (fi 4) (fi 5) (fi 6) h0) := sp_mono hs (fun _ _ q => q)
theorem ad_pq {h0 : HP} {r : Nat} {A : Nat → Int} {ia : Nat → Nat → Int} {la : Nat → Nat → BitVec 64} {fi : Nat → Int} {fl : Nat → BitVec 64} {Y : MT} {av : List Value} {w : Option Value} {D : Nat → Int} {ia' : Nat → Nat → Int} {la' : Nat → Nat → BitVec 64} {fi' : Nat → Int} {fl' : Nat → BitVec 64} (hs : sp Y av (RH r A ia la fi fl h0) 0 0 (pd w (RH r D ia' la' fi' fl' h0))) : sp Y av (RH r A ia la fi fl h0) 0 0 (RO r w D (ia' 2) (ia' 3) (ia' 4) (fi' 4) (fi' 5) (fi' 6) h0) := sp_mono hs (fun _ _ q => ⟨q.1, ia', la', fi', fl', ⟨rfl, rfl, rfl, rfl, rfl, rfl⟩, q.2⟩)
/-- the next call: what is left to do from the place where the law goes on -/
def NX (sb L0 : Nat) (xs : Nat → Int32) (nm : String) (o i m : Nat) (Φ : Option Value → HP → Prop) : Prop := ∀ (h : HP) (cap : Nat → Nat) (A : Nat → Int) (ia : Nat → Nat → Int) (la : Nat → Nat → BitVec 64) (fi : Nat → Int) (fl : Nat → BitVec 64) (L R C rc rs : Nat), LI o h cap A ia la fi fl L R C → 200 * m + (426168 - smC cap) ≤ rc → 8300 * m + 2 * (426168 - smC cap) ≤ rs → wl sb L0 xs (mLaw nm) 2113 [.ref sb, .ref o, .ref (o + 60), .int (zI (i : Int))] [] h rc rs Φ
theorem nx_go {sb L0 : Nat} {xs : Nat → Int32} {nm : String} {o i m : Nat} {Φ : Option Value → HP → Prop} (N : NX sb L0 xs nm o i m Φ) {h1 h2 : HP} {cap' : Nat → Nat} {D im tx tp : Nat → Int} {f4 f5 f6 : Int} {ia' : Nat → Nat → Int} {la' : Nat → Nat → BitVec 64} {fi' : Nat → Int} {fl' : Nat → BitVec 64} {L R C rc rs : Nat} (H1 : CLS o h1 cap' D im tx tp f4 f5 f6 L R C) (e : (ia' 2 = im ∧ ia' 3 = tx ∧ ia' 4 = tp ∧ fi' 4 = f4 ∧ fi' 5 = f5 ∧ fi' 6 = f6) ∧ h2 = RH (o + 60) D ia' la' fi' fl' h1) (r1 : 200 * m + (426168 - smC cap') ≤ rc) (r2 : 8300 * m + 2 * (426168 - smC cap') ≤ rs) : wl sb L0 xs (mLaw nm) 2113 [.ref sb, .ref o, .ref (o + 60), .int (zI (i : Int))] [] h2 rc rs Φ := by
  obtain ⟨⟨e1, e2, e3, e4, e5, e6⟩, rfl⟩ := e
  subst e1; subst e2; subst e3; subst e4; subst e5; subst e6
  exact N _ cap' D ia' la' fi' fl' L R C rc rs ⟨H1.ref rfl (fun x hx => RHn (by omega)), RHP.rh⟩ r1 r2
theorem li_frm {o : Nat} {h h1 : HP} {A : Nat → Int} {ia : Nat → Nat → Int} {la : Nat → Nat → BitVec 64} {fi : Nat → Int} {fl : Nat → BitVec 64} (H : RHP h (o + 60) A ia la fi fl) (hF : FRM o h h1) : RHP h1 (o + 60) A ia la fi fl := fun j hj => (hF.2 _ (Or.inr (by omega))).trans (H j hj)
