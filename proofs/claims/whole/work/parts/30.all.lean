/-! All methods, all classes. By program. -/
set_option maxRecDepth 100000 in
theorem moc_0 : ∀ m, 0 ≤ m → m < 25 → (am_MT m).2.2.1 ≤ 45 → am_mok am_TB am_MT PG m := am_stepN (a := 0) (b := 25) (fun _ => mo_0) (am_stepN (a := 1) (b := 25) (fun _ => mo_1) (am_stepN (a := 2) (b := 25) (fun _ => mo_2) (am_stepN (a := 3) (b := 25) (fun _ => mo_3) (am_stepN (a := 4) (b := 25) (fun _ => mo_4) (am_stepN (a := 5) (b := 25) (fun _ => mo_5) (am_stepN (a := 6) (b := 25) (fun _ => mo_6) (am_stepN (a := 7) (b := 25) (fun _ => mo_7) (am_stepN (a := 8) (b := 25) (fun _ => mo_8) (am_stepN (a := 9) (b := 25) (fun _ => mo_9) (am_stepN (a := 10) (b := 25) (fun _ => mo_10) (am_stepN (a := 11) (b := 25) (fun _ => mo_11) (am_stepN (a := 12) (b := 25) (fun _ => mo_12) (am_stepN (a := 13) (b := 25) (fun _ => mo_13) (am_stepN (a := 14) (b := 25) (fun _ => mo_14) (am_stepN (a := 15) (b := 25) (fun _ => mo_15) (am_stepN (a := 16) (b := 25) (fun _ => mo_16) (am_stepN (a := 17) (b := 25) (fun _ => mo_17) (am_stepN (a := 18) (b := 25) (fun _ => mo_18) (am_stepN (a := 19) (b := 25) (fun _ => mo_19) (am_stepN (a := 20) (b := 25) (fun _ => mo_20) (am_stepN (a := 21) (b := 25) (fun _ => mo_21) (am_stepN (a := 22) (b := 25) (fun _ => mo_22) (am_stepN (a := 23) (b := 25) (fun _ => mo_23) (am_stepN (a := 24) (b := 25) (fun _ => mo_24) (fun m h1 h2 => absurd h2 (by omega))))))))))))))))))))))))))
set_option maxRecDepth 100000 in
theorem moc_25 : ∀ m, 25 ≤ m → m < 50 → (am_MT m).2.2.1 ≤ 45 → am_mok am_TB am_MT PG m := am_stepN (a := 25) (b := 50) (fun _ => mo_25) (am_stepN (a := 26) (b := 50) (fun _ => mo_26) (am_stepN (a := 27) (b := 50) (fun _ => mo_27) (am_stepN (a := 28) (b := 50) (fun _ => mo_28) (am_stepN (a := 29) (b := 50) (fun _ => mo_29) (am_stepN (a := 30) (b := 50) (fun _ => mo_30) (am_stepN (a := 31) (b := 50) (fun _ => mo_31) (am_stepN (a := 32) (b := 50) (fun _ => mo_32) (am_stepN (a := 33) (b := 50) (fun _ => mo_33) (am_stepN (a := 34) (b := 50) (fun _ => mo_34) (am_stepN (a := 35) (b := 50) (fun _ => mo_35) (am_stepN (a := 36) (b := 50) (fun _ => mo_36) (am_stepN (a := 37) (b := 50) (fun _ => mo_37) (am_stepN (a := 38) (b := 50) (fun _ => mo_38) (am_stepN (a := 39) (b := 50) (fun _ => mo_39) (am_stepN (a := 40) (b := 50) (fun _ => mo_40) (am_stepN (a := 41) (b := 50) (fun _ => mo_41) (am_stepN (a := 42) (b := 50) (fun _ => mo_42) (am_stepN (a := 43) (b := 50) (fun _ => mo_43) (am_stepN (a := 44) (b := 50) (fun _ => mo_44) (am_stepN (a := 45) (b := 50) (fun _ => mo_45) (am_stepN (a := 46) (b := 50) (fun _ => mo_46) (am_stepN (a := 47) (b := 50) (fun _ => mo_47) (am_stepN (a := 48) (b := 50) (fun _ => mo_48) (am_stepN (a := 49) (b := 50) (fun _ => mo_49) (fun m h1 h2 => absurd h2 (by omega))))))))))))))))))))))))))
set_option maxRecDepth 100000 in
theorem moc_50 : ∀ m, 50 ≤ m → m < 75 → (am_MT m).2.2.1 ≤ 45 → am_mok am_TB am_MT PG m := am_stepN (a := 50) (b := 75) (fun _ => mo_50) (am_stepN (a := 51) (b := 75) (fun _ => mo_51) (am_stepN (a := 52) (b := 75) (fun _ => mo_52) (am_stepN (a := 53) (b := 75) (fun _ => mo_53) (am_stepN (a := 54) (b := 75) (fun _ => mo_54) (am_stepN (a := 55) (b := 75) (fun _ => mo_55) (am_stepN (a := 56) (b := 75) (fun _ => mo_56) (am_stepN (a := 57) (b := 75) (fun _ => mo_57) (am_stepN (a := 58) (b := 75) (fun _ => mo_58) (am_stepN (a := 59) (b := 75) (fun _ => mo_59) (am_stepN (a := 60) (b := 75) (fun _ => mo_60) (am_stepN (a := 61) (b := 75) (fun _ => mo_61) (am_stepN (a := 62) (b := 75) (fun _ => mo_62) (am_stepN (a := 63) (b := 75) (fun _ => mo_63) (am_stepN (a := 64) (b := 75) (fun _ => mo_64) (am_stepN (a := 65) (b := 75) (fun _ => mo_65) (am_stepN (a := 66) (b := 75) (fun _ => mo_66) (am_stepN (a := 67) (b := 75) (fun _ => mo_67) (am_stepN (a := 68) (b := 75) (fun _ => mo_68) (am_stepN (a := 69) (b := 75) (fun _ => mo_69) (am_stepN (a := 70) (b := 75) (fun _ => mo_70) (am_stepN (a := 71) (b := 75) (fun _ => mo_71) (am_stepN (a := 72) (b := 75) (fun _ => mo_72) (am_stepN (a := 73) (b := 75) (fun _ => mo_73) (am_stepN (a := 74) (b := 75) (fun _ => mo_74) (fun m h1 h2 => absurd h2 (by omega))))))))))))))))))))))))))
set_option maxRecDepth 100000 in
theorem moc_75 : ∀ m, 75 ≤ m → m < 100 → (am_MT m).2.2.1 ≤ 45 → am_mok am_TB am_MT PG m := am_stepN (a := 75) (b := 100) (fun _ => mo_75) (am_stepN (a := 76) (b := 100) (fun _ => mo_76) (am_stepN (a := 77) (b := 100) (fun _ => mo_77) (am_stepN (a := 78) (b := 100) (fun _ => mo_78) (am_stepN (a := 79) (b := 100) (fun _ => mo_79) (am_stepN (a := 80) (b := 100) (fun _ => mo_80) (am_stepN (a := 81) (b := 100) (fun _ => mo_81) (am_stepN (a := 82) (b := 100) (fun _ => mo_82) (am_stepN (a := 83) (b := 100) (fun _ => mo_83) (am_stepN (a := 84) (b := 100) (fun _ => mo_84) (am_stepN (a := 85) (b := 100) (fun _ => mo_85) (am_stepN (a := 86) (b := 100) (fun _ => mo_86) (am_stepN (a := 87) (b := 100) (fun _ => mo_87) (am_stepN (a := 88) (b := 100) (fun _ => mo_88) (am_stepN (a := 89) (b := 100) (fun _ => mo_89) (am_stepN (a := 90) (b := 100) (fun _ => mo_90) (am_stepN (a := 91) (b := 100) (fun _ => mo_91) (am_stepN (a := 92) (b := 100) (fun _ => mo_92) (am_stepN (a := 93) (b := 100) (fun _ => mo_93) (am_stepN (a := 94) (b := 100) (fun _ => mo_94) (am_stepN (a := 95) (b := 100) (fun _ => mo_95) (am_stepN (a := 96) (b := 100) (fun _ => mo_96) (am_stepN (a := 97) (b := 100) (fun _ => mo_97) (am_stepN (a := 98) (b := 100) (fun _ => mo_98) (am_stepN (a := 99) (b := 100) (fun _ => mo_99) (fun m h1 h2 => absurd h2 (by omega))))))))))))))))))))))))))
set_option maxRecDepth 100000 in
theorem moc_100 : ∀ m, 100 ≤ m → m < 125 → (am_MT m).2.2.1 ≤ 45 → am_mok am_TB am_MT PG m := am_stepN (a := 100) (b := 125) (fun _ => mo_100) (am_stepN (a := 101) (b := 125) (fun _ => mo_101) (am_stepN (a := 102) (b := 125) (fun _ => mo_102) (am_stepN (a := 103) (b := 125) (fun _ => mo_103) (am_stepN (a := 104) (b := 125) (fun _ => mo_104) (am_stepN (a := 105) (b := 125) (fun _ => mo_105) (am_stepN (a := 106) (b := 125) (fun _ => mo_106) (am_stepN (a := 107) (b := 125) (fun _ => mo_107) (am_stepN (a := 108) (b := 125) (fun _ => mo_108) (am_stepN (a := 109) (b := 125) (fun _ => mo_109) (am_stepN (a := 110) (b := 125) (fun _ => mo_110) (am_stepN (a := 111) (b := 125) (fun _ => mo_111) (am_stepN (a := 112) (b := 125) (fun _ => mo_112) (am_stepN (a := 113) (b := 125) (fun _ => mo_113) (am_stepN (a := 114) (b := 125) (fun _ => mo_114) (am_stepN (a := 115) (b := 125) (fun _ => mo_115) (am_stepN (a := 116) (b := 125) (fun _ => mo_116) (am_stepN (a := 117) (b := 125) (fun _ => mo_117) (am_stepN (a := 118) (b := 125) (fun _ => mo_118) (am_stepN (a := 119) (b := 125) (fun _ => mo_119) (am_stepN (a := 120) (b := 125) (fun _ => mo_120) (am_stepN (a := 121) (b := 125) (fun _ => mo_121) (am_stepN (a := 122) (b := 125) (fun _ => mo_122) (am_stepN (a := 123) (b := 125) (fun _ => mo_123) (am_stepN (a := 124) (b := 125) (fun _ => mo_124) (fun m h1 h2 => absurd h2 (by omega))))))))))))))))))))))))))
set_option maxRecDepth 100000 in
theorem moc_125 : ∀ m, 125 ≤ m → m < 150 → (am_MT m).2.2.1 ≤ 45 → am_mok am_TB am_MT PG m := am_stepN (a := 125) (b := 150) (fun _ => mo_125) (am_stepN (a := 126) (b := 150) (fun _ => mo_126) (am_stepN (a := 127) (b := 150) (fun _ => mo_127) (am_stepN (a := 128) (b := 150) (fun _ => mo_128) (am_stepN (a := 129) (b := 150) (fun _ => mo_129) (am_stepN (a := 130) (b := 150) (fun _ => mo_130) (am_stepN (a := 131) (b := 150) (fun _ => mo_131) (am_stepN (a := 132) (b := 150) (fun _ => mo_132) (am_stepN (a := 133) (b := 150) (fun _ => mo_133) (am_stepN (a := 134) (b := 150) (fun _ => mo_134) (am_stepN (a := 135) (b := 150) (fun _ => mo_135) (am_stepN (a := 136) (b := 150) (fun _ => mo_136) (am_stepN (a := 137) (b := 150) (fun _ => mo_137) (am_stepN (a := 138) (b := 150) (fun _ => mo_138) (am_stepN (a := 139) (b := 150) (fun _ => mo_139) (am_stepN (a := 140) (b := 150) (fun _ => mo_140) (am_stepN (a := 141) (b := 150) (fun _ => mo_141) (am_stepN (a := 142) (b := 150) (fun _ => mo_142) (am_stepN (a := 143) (b := 150) (fun _ => mo_143) (am_stepN (a := 144) (b := 150) (fun _ => mo_144) (am_stepN (a := 145) (b := 150) (fun _ => mo_145) (am_stepN (a := 146) (b := 150) (fun _ => mo_146) (am_stepN (a := 147) (b := 150) (fun _ => mo_147) (am_stepN (a := 148) (b := 150) (fun _ => mo_148) (am_stepN (a := 149) (b := 150) (fun _ => mo_149) (fun m h1 h2 => absurd h2 (by omega))))))))))))))))))))))))))
set_option maxRecDepth 100000 in
theorem moc_150 : ∀ m, 150 ≤ m → m < 175 → (am_MT m).2.2.1 ≤ 45 → am_mok am_TB am_MT PG m := am_stepN (a := 150) (b := 175) (fun _ => mo_150) (am_stepN (a := 151) (b := 175) (fun _ => mo_151) (am_stepN (a := 152) (b := 175) (fun _ => mo_152) (am_stepN (a := 153) (b := 175) (fun _ => mo_153) (am_stepN (a := 154) (b := 175) (fun _ => mo_154) (am_stepN (a := 155) (b := 175) (fun z => absurd z (by decide +kernel)) (am_stepN (a := 156) (b := 175) (fun _ => mo_156) (am_stepN (a := 157) (b := 175) (fun _ => mo_157) (am_stepN (a := 158) (b := 175) (fun _ => mo_158) (am_stepN (a := 159) (b := 175) (fun _ => mo_159) (am_stepN (a := 160) (b := 175) (fun _ => mo_160) (am_stepN (a := 161) (b := 175) (fun _ => mo_161) (am_stepN (a := 162) (b := 175) (fun _ => mo_162) (am_stepN (a := 163) (b := 175) (fun _ => mo_163) (am_stepN (a := 164) (b := 175) (fun _ => mo_164) (am_stepN (a := 165) (b := 175) (fun _ => mo_165) (am_stepN (a := 166) (b := 175) (fun _ => mo_166) (am_stepN (a := 167) (b := 175) (fun _ => mo_167) (am_stepN (a := 168) (b := 175) (fun _ => mo_168) (am_stepN (a := 169) (b := 175) (fun _ => mo_169) (am_stepN (a := 170) (b := 175) (fun _ => mo_170) (am_stepN (a := 171) (b := 175) (fun _ => mo_171) (am_stepN (a := 172) (b := 175) (fun _ => mo_172) (am_stepN (a := 173) (b := 175) (fun _ => mo_173) (am_stepN (a := 174) (b := 175) (fun _ => mo_174) (fun m h1 h2 => absurd h2 (by omega))))))))))))))))))))))))))
set_option maxRecDepth 100000 in
theorem moc_175 : ∀ m, 175 ≤ m → m < 200 → (am_MT m).2.2.1 ≤ 45 → am_mok am_TB am_MT PG m := am_stepN (a := 175) (b := 200) (fun _ => mo_175) (am_stepN (a := 176) (b := 200) (fun _ => mo_176) (am_stepN (a := 177) (b := 200) (fun _ => mo_177) (am_stepN (a := 178) (b := 200) (fun _ => mo_178) (am_stepN (a := 179) (b := 200) (fun _ => mo_179) (am_stepN (a := 180) (b := 200) (fun _ => mo_180) (am_stepN (a := 181) (b := 200) (fun _ => mo_181) (am_stepN (a := 182) (b := 200) (fun _ => mo_182) (am_stepN (a := 183) (b := 200) (fun _ => mo_183) (am_stepN (a := 184) (b := 200) (fun _ => mo_184) (am_stepN (a := 185) (b := 200) (fun _ => mo_185) (am_stepN (a := 186) (b := 200) (fun _ => mo_186) (am_stepN (a := 187) (b := 200) (fun _ => mo_187) (am_stepN (a := 188) (b := 200) (fun _ => mo_188) (am_stepN (a := 189) (b := 200) (fun _ => mo_189) (am_stepN (a := 190) (b := 200) (fun _ => mo_190) (am_stepN (a := 191) (b := 200) (fun _ => mo_191) (am_stepN (a := 192) (b := 200) (fun _ => mo_192) (am_stepN (a := 193) (b := 200) (fun _ => mo_193) (am_stepN (a := 194) (b := 200) (fun _ => mo_194) (am_stepN (a := 195) (b := 200) (fun _ => mo_195) (am_stepN (a := 196) (b := 200) (fun _ => mo_196) (am_stepN (a := 197) (b := 200) (fun _ => mo_197) (am_stepN (a := 198) (b := 200) (fun _ => mo_198) (am_stepN (a := 199) (b := 200) (fun _ => mo_199) (fun m h1 h2 => absurd h2 (by omega))))))))))))))))))))))))))
set_option maxRecDepth 100000 in
theorem moc_200 : ∀ m, 200 ≤ m → m < 225 → (am_MT m).2.2.1 ≤ 45 → am_mok am_TB am_MT PG m := am_stepN (a := 200) (b := 225) (fun _ => mo_200) (am_stepN (a := 201) (b := 225) (fun _ => mo_201) (am_stepN (a := 202) (b := 225) (fun _ => mo_202) (am_stepN (a := 203) (b := 225) (fun _ => mo_203) (am_stepN (a := 204) (b := 225) (fun _ => mo_204) (am_stepN (a := 205) (b := 225) (fun _ => mo_205) (am_stepN (a := 206) (b := 225) (fun _ => mo_206) (am_stepN (a := 207) (b := 225) (fun _ => mo_207) (am_stepN (a := 208) (b := 225) (fun _ => mo_208) (am_stepN (a := 209) (b := 225) (fun _ => mo_209) (am_stepN (a := 210) (b := 225) (fun _ => mo_210) (am_stepN (a := 211) (b := 225) (fun _ => mo_211) (am_stepN (a := 212) (b := 225) (fun _ => mo_212) (am_stepN (a := 213) (b := 225) (fun _ => mo_213) (am_stepN (a := 214) (b := 225) (fun _ => mo_214) (am_stepN (a := 215) (b := 225) (fun _ => mo_215) (am_stepN (a := 216) (b := 225) (fun _ => mo_216) (am_stepN (a := 217) (b := 225) (fun _ => mo_217) (am_stepN (a := 218) (b := 225) (fun _ => mo_218) (am_stepN (a := 219) (b := 225) (fun _ => mo_219) (am_stepN (a := 220) (b := 225) (fun _ => mo_220) (am_stepN (a := 221) (b := 225) (fun _ => mo_221) (am_stepN (a := 222) (b := 225) (fun _ => mo_222) (am_stepN (a := 223) (b := 225) (fun _ => mo_223) (am_stepN (a := 224) (b := 225) (fun _ => mo_224) (fun m h1 h2 => absurd h2 (by omega))))))))))))))))))))))))))
set_option maxRecDepth 100000 in
theorem moc_225 : ∀ m, 225 ≤ m → m < 250 → (am_MT m).2.2.1 ≤ 45 → am_mok am_TB am_MT PG m := am_stepN (a := 225) (b := 250) (fun _ => mo_225) (am_stepN (a := 226) (b := 250) (fun _ => mo_226) (am_stepN (a := 227) (b := 250) (fun _ => mo_227) (am_stepN (a := 228) (b := 250) (fun _ => mo_228) (am_stepN (a := 229) (b := 250) (fun _ => mo_229) (am_stepN (a := 230) (b := 250) (fun _ => mo_230) (am_stepN (a := 231) (b := 250) (fun _ => mo_231) (am_stepN (a := 232) (b := 250) (fun _ => mo_232) (am_stepN (a := 233) (b := 250) (fun _ => mo_233) (am_stepN (a := 234) (b := 250) (fun _ => mo_234) (am_stepN (a := 235) (b := 250) (fun _ => mo_235) (am_stepN (a := 236) (b := 250) (fun _ => mo_236) (am_stepN (a := 237) (b := 250) (fun _ => mo_237) (am_stepN (a := 238) (b := 250) (fun _ => mo_238) (am_stepN (a := 239) (b := 250) (fun _ => mo_239) (am_stepN (a := 240) (b := 250) (fun _ => mo_240) (am_stepN (a := 241) (b := 250) (fun _ => mo_241) (am_stepN (a := 242) (b := 250) (fun _ => mo_242) (am_stepN (a := 243) (b := 250) (fun _ => mo_243) (am_stepN (a := 244) (b := 250) (fun _ => mo_244) (am_stepN (a := 245) (b := 250) (fun _ => mo_245) (am_stepN (a := 246) (b := 250) (fun _ => mo_246) (am_stepN (a := 247) (b := 250) (fun _ => mo_247) (am_stepN (a := 248) (b := 250) (fun _ => mo_248) (am_stepN (a := 249) (b := 250) (fun _ => mo_249) (fun m h1 h2 => absurd h2 (by omega))))))))))))))))))))))))))
set_option maxRecDepth 100000 in
theorem moc_250 : ∀ m, 250 ≤ m → m < 275 → (am_MT m).2.2.1 ≤ 45 → am_mok am_TB am_MT PG m := am_stepN (a := 250) (b := 275) (fun _ => mo_250) (am_stepN (a := 251) (b := 275) (fun _ => mo_251) (am_stepN (a := 252) (b := 275) (fun _ => mo_252) (am_stepN (a := 253) (b := 275) (fun _ => mo_253) (am_stepN (a := 254) (b := 275) (fun _ => mo_254) (am_stepN (a := 255) (b := 275) (fun _ => mo_255) (am_stepN (a := 256) (b := 275) (fun _ => mo_256) (am_stepN (a := 257) (b := 275) (fun _ => mo_257) (am_stepN (a := 258) (b := 275) (fun _ => mo_258) (am_stepN (a := 259) (b := 275) (fun _ => mo_259) (am_stepN (a := 260) (b := 275) (fun _ => mo_260) (am_stepN (a := 261) (b := 275) (fun _ => mo_261) (am_stepN (a := 262) (b := 275) (fun _ => mo_262) (am_stepN (a := 263) (b := 275) (fun _ => mo_263) (am_stepN (a := 264) (b := 275) (fun _ => mo_264) (am_stepN (a := 265) (b := 275) (fun _ => mo_265) (am_stepN (a := 266) (b := 275) (fun _ => mo_266) (am_stepN (a := 267) (b := 275) (fun _ => mo_267) (am_stepN (a := 268) (b := 275) (fun _ => mo_268) (am_stepN (a := 269) (b := 275) (fun _ => mo_269) (am_stepN (a := 270) (b := 275) (fun _ => mo_270) (am_stepN (a := 271) (b := 275) (fun _ => mo_271) (am_stepN (a := 272) (b := 275) (fun _ => mo_272) (am_stepN (a := 273) (b := 275) (fun z => absurd z (by decide +kernel)) (am_stepN (a := 274) (b := 275) (fun z => absurd z (by decide +kernel)) (fun m h1 h2 => absurd h2 (by omega))))))))))))))))))))))))))
theorem am_hall : ∀ m, (am_MT m).2.2.1 ≤ 45 → am_mok am_TB am_MT PG m := by
  intro m hm
  by_cases g_0 : m < 25
  · exact moc_0 m (by omega) g_0 hm
  by_cases g_25 : m < 50
  · exact moc_25 m (by omega) g_25 hm
  by_cases g_50 : m < 75
  · exact moc_50 m (by omega) g_50 hm
  by_cases g_75 : m < 100
  · exact moc_75 m (by omega) g_75 hm
  by_cases g_100 : m < 125
  · exact moc_100 m (by omega) g_100 hm
  by_cases g_125 : m < 150
  · exact moc_125 m (by omega) g_125 hm
  by_cases g_150 : m < 175
  · exact moc_150 m (by omega) g_150 hm
  by_cases g_175 : m < 200
  · exact moc_175 m (by omega) g_175 hm
  by_cases g_200 : m < 225
  · exact moc_200 m (by omega) g_200 hm
  by_cases g_225 : m < 250
  · exact moc_225 m (by omega) g_225 hm
  by_cases g_250 : m < 275
  · exact moc_250 m (by omega) g_250 hm
  · exfalso
    have hl : am_MTL.length = 275 := by decide +kernel
    have : am_MT m = (⟨"", "", ""⟩, ⟨#[]⟩, 1000, none) := by
      show am_MTL.getD m (⟨"", "", ""⟩, ⟨#[]⟩, 1000, none) = _
      rw [List.getD_eq_getElem?_getD, List.getElem?_eq_none (by omega)]
      rfl
    rw [this] at hm
    exact absurd hm (by decide)
theorem am_hgd : ∀ w ∈ am_TB, goodWord w = true := fun w hw => (List.mem_filter.mp hw).2
set_option maxRecDepth 100000 in
theorem uw_0 : ∀ w ∈ u_ws RX0 TX0 3, w ∈ am_TB := am_inTB [507, 509, 511] rfl rfl
set_option maxRecDepth 100000 in
theorem uw_1 : ∀ w ∈ u_ws RX1 TX1 17, w ∈ am_TB := am_inTB [538, 540, 542, 544, 546, 548, 550, 552, 554, 556, 558, 560, 562, 564, 566, 568, 570] rfl rfl
set_option maxRecDepth 100000 in
theorem uw_2 : ∀ w ∈ u_ws RX2 TX2 5, w ∈ am_TB := am_inTB [431, 433, 435, 437, 439] rfl rfl
set_option maxRecDepth 100000 in
theorem uw_3 : ∀ w ∈ u_ws RX3 TX3 6, w ∈ am_TB := am_inTB [466, 468, 470, 472, 474, 476] rfl rfl
set_option maxRecDepth 100000 in
theorem uw_4 : ∀ w ∈ u_ws RX4 TX4 3, w ∈ am_TB := am_inTB [238, 240, 242] rfl rfl
set_option maxRecDepth 100000 in
theorem uw_5 : ∀ w ∈ u_ws RX5 TX5 20, w ∈ am_TB := am_inTB [376, 378, 380, 382, 384, 386, 388, 390, 392, 394, 396, 398, 400, 402, 404, 406, 408, 410, 412, 414] rfl rfl
set_option maxRecDepth 100000 in
theorem uw_6 : ∀ w ∈ u_ws RX6 TX6 6, w ∈ am_TB := am_inTB [206, 208, 210, 212, 214, 216] rfl rfl
set_option maxRecDepth 100000 in
theorem uw_7 : ∀ w ∈ u_ws RX7 TX7 9, w ∈ am_TB := am_inTB [291, 293, 295, 297, 299, 301, 303, 305, 307] rfl rfl
set_option maxRecDepth 100000 in
theorem uw_8 : ∀ w ∈ u_ws RX8 TX8 3, w ∈ am_TB := am_inTB [485, 487, 489] rfl rfl
set_option maxRecDepth 100000 in
theorem uw_9 : ∀ w ∈ u_ws RX9 TX9 9, w ∈ am_TB := am_inTB [174, 176, 178, 180, 182, 184, 186, 188, 190] rfl rfl
set_option maxRecDepth 100000 in
theorem uw_11 : ∀ w ∈ u_ws RX11 TX11 14, w ∈ am_TB := am_inTB [587, 589, 591, 593, 595, 597, 599, 601, 603, 605, 607, 609, 611, 613] rfl rfl
set_option maxRecDepth 100000 in
theorem uw_12 : ∀ w ∈ u_ws RX12 TX12 82, w ∈ am_TB := am_inTB [1470, 1472, 1474, 1476, 1478, 1480, 1482, 1484, 1486, 1488, 1490, 1492, 1494, 1496, 1498, 1500, 1502, 1504, 1506, 1508, 1510, 1512, 1514, 1516, 1518, 1520, 1522, 1524, 1526, 1528, 1530, 1532, 1534, 1536, 1538, 1540, 1542, 1544, 1546, 1548, 1550, 1552, 1554, 1556, 1558, 1560, 1562, 1564, 1566, 1568, 1570, 1572, 1574, 1576, 1578, 1580, 1582, 1584, 1586, 1588, 1590, 1592, 1594, 1596, 1598, 1600, 1602, 1604, 1606, 1608, 1610, 1612, 1614, 1616, 1618, 1620, 1622, 1624, 1626, 1628, 1630, 1632] rfl rfl
def am_dv (ci k : Nat) : Value := match am_tyc ci k with
  | 1 => .long 0
  | 2 => .null
  | 3 => .null
  | _ => .int 0
set_option maxRecDepth 100000 in
theorem dv_0 : ∀ k, k < 3 → defaultValue (am_ft 0 k) = am_dv 0 k := by
  have e : (List.range 3).map (fun k => defaultValue (am_ft 0 k)) = (List.range 3).map (am_dv 0) := rfl
  exact fun k hk => List.map_inj_left.mp e k (List.mem_range.mpr hk)
set_option maxRecDepth 100000 in
theorem dv_1 : ∀ k, k < 17 → defaultValue (am_ft 1 k) = am_dv 1 k := by
  have e : (List.range 17).map (fun k => defaultValue (am_ft 1 k)) = (List.range 17).map (am_dv 1) := rfl
  exact fun k hk => List.map_inj_left.mp e k (List.mem_range.mpr hk)
set_option maxRecDepth 100000 in
theorem dv_2 : ∀ k, k < 5 → defaultValue (am_ft 2 k) = am_dv 2 k := by
  have e : (List.range 5).map (fun k => defaultValue (am_ft 2 k)) = (List.range 5).map (am_dv 2) := rfl
  exact fun k hk => List.map_inj_left.mp e k (List.mem_range.mpr hk)
set_option maxRecDepth 100000 in
theorem dv_3 : ∀ k, k < 6 → defaultValue (am_ft 3 k) = am_dv 3 k := by
  have e : (List.range 6).map (fun k => defaultValue (am_ft 3 k)) = (List.range 6).map (am_dv 3) := rfl
  exact fun k hk => List.map_inj_left.mp e k (List.mem_range.mpr hk)
set_option maxRecDepth 100000 in
theorem dv_4 : ∀ k, k < 3 → defaultValue (am_ft 4 k) = am_dv 4 k := by
  have e : (List.range 3).map (fun k => defaultValue (am_ft 4 k)) = (List.range 3).map (am_dv 4) := rfl
  exact fun k hk => List.map_inj_left.mp e k (List.mem_range.mpr hk)
set_option maxRecDepth 100000 in
theorem dv_5 : ∀ k, k < 20 → defaultValue (am_ft 5 k) = am_dv 5 k := by
  have e : (List.range 20).map (fun k => defaultValue (am_ft 5 k)) = (List.range 20).map (am_dv 5) := rfl
  exact fun k hk => List.map_inj_left.mp e k (List.mem_range.mpr hk)
set_option maxRecDepth 100000 in
theorem dv_6 : ∀ k, k < 6 → defaultValue (am_ft 6 k) = am_dv 6 k := by
  have e : (List.range 6).map (fun k => defaultValue (am_ft 6 k)) = (List.range 6).map (am_dv 6) := rfl
  exact fun k hk => List.map_inj_left.mp e k (List.mem_range.mpr hk)
set_option maxRecDepth 100000 in
theorem dv_7 : ∀ k, k < 9 → defaultValue (am_ft 7 k) = am_dv 7 k := by
  have e : (List.range 9).map (fun k => defaultValue (am_ft 7 k)) = (List.range 9).map (am_dv 7) := rfl
  exact fun k hk => List.map_inj_left.mp e k (List.mem_range.mpr hk)
set_option maxRecDepth 100000 in
theorem dv_8 : ∀ k, k < 3 → defaultValue (am_ft 8 k) = am_dv 8 k := by
  have e : (List.range 3).map (fun k => defaultValue (am_ft 8 k)) = (List.range 3).map (am_dv 8) := rfl
  exact fun k hk => List.map_inj_left.mp e k (List.mem_range.mpr hk)
set_option maxRecDepth 100000 in
theorem dv_9 : ∀ k, k < 9 → defaultValue (am_ft 9 k) = am_dv 9 k := by
  have e : (List.range 9).map (fun k => defaultValue (am_ft 9 k)) = (List.range 9).map (am_dv 9) := rfl
  exact fun k hk => List.map_inj_left.mp e k (List.mem_range.mpr hk)
set_option maxRecDepth 100000 in
theorem dv_11 : ∀ k, k < 14 → defaultValue (am_ft 11 k) = am_dv 11 k := by
  have e : (List.range 14).map (fun k => defaultValue (am_ft 11 k)) = (List.range 14).map (am_dv 11) := rfl
  exact fun k hk => List.map_inj_left.mp e k (List.mem_range.mpr hk)
set_option maxRecDepth 100000 in
theorem dv_12 : ∀ k, k < 82 → defaultValue (am_ft 12 k) = am_dv 12 k := by
  have e : (List.range 82).map (fun k => defaultValue (am_ft 12 k)) = (List.range 82).map (am_dv 12) := rfl
  exact fun k hk => List.map_inj_left.mp e k (List.mem_range.mpr hk)
theorem am_cokTB : am_cok am_TB := by
  intro ci C T N h
  match ci, h with
  | 0, h =>
    have h : some (RX0, TX0, 3) = some (C, T, N) := h
    cases h
    exact ⟨tyX0_ok, nmX0, uw_0, dv_0⟩
  | 1, h =>
    have h : some (RX1, TX1, 17) = some (C, T, N) := h
    cases h
    exact ⟨tyX1_ok, nmX1, uw_1, dv_1⟩
  | 2, h =>
    have h : some (RX2, TX2, 5) = some (C, T, N) := h
    cases h
    exact ⟨tyX2_ok, nmX2, uw_2, dv_2⟩
  | 3, h =>
    have h : some (RX3, TX3, 6) = some (C, T, N) := h
    cases h
    exact ⟨tyX3_ok, nmX3, uw_3, dv_3⟩
  | 4, h =>
    have h : some (RX4, TX4, 3) = some (C, T, N) := h
    cases h
    exact ⟨tyX4_ok, nmX4, uw_4, dv_4⟩
  | 5, h =>
    have h : some (RX5, TX5, 20) = some (C, T, N) := h
    cases h
    exact ⟨tyX5_ok, nmX5, uw_5, dv_5⟩
  | 6, h =>
    have h : some (RX6, TX6, 6) = some (C, T, N) := h
    cases h
    exact ⟨tyX6_ok, nmX6, uw_6, dv_6⟩
  | 7, h =>
    have h : some (RX7, TX7, 9) = some (C, T, N) := h
    cases h
    exact ⟨tyX7_ok, nmX7, uw_7, dv_7⟩
  | 8, h =>
    have h : some (RX8, TX8, 3) = some (C, T, N) := h
    cases h
    exact ⟨tyX8_ok, nmX8, uw_8, dv_8⟩
  | 9, h =>
    have h : some (RX9, TX9, 9) = some (C, T, N) := h
    cases h
    exact ⟨tyX9_ok, nmX9, uw_9, dv_9⟩
  | 10, h =>
    have h : some (RX9, TX9, 0) = some (C, T, N) := h
    cases h
    exact ⟨fun k hk => absurd hk (Nat.not_lt_zero k), fun a ha => absurd ha (Nat.not_lt_zero a), fun w hw => absurd hw (by simp [u_ws]), fun k hk => absurd hk (Nat.not_lt_zero k)⟩
  | 11, h =>
    have h : some (RX11, TX11, 14) = some (C, T, N) := h
    cases h
    exact ⟨tyX11_ok, nmX11, uw_11, dv_11⟩
  | 12, h =>
    have h : some (RX12, TX12, 82) = some (C, T, N) := h
    cases h
    exact ⟨tyX12_ok, nmX12, uw_12, dv_12⟩
  | n + 13, h => cases h
theorem am_Met_PG {E : AE} {l : Launch} {d mid : Nat} {as : List Value} {h : AH} {rv : Option Value} {h1 : AH} (h45 : (am_MT mid).2.2.1 ≤ 45) (hr : am_C PG d mid as h = some (rv, h1)) (hN : hNX h1 ≤ 1000000) : am_Met E l d (am_MT mid).1 (am_cd (am_MT mid) :: am_TB) as h rv h1 := am_Met_all am_hall am_hgd am_cokTB h45 hr hN
