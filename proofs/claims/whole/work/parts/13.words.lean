theorem g_1 : Cond.initialized RX6 ∈ gw := gw_t 1 (by decide +kernel) rfl
theorem g_2 : Cond.initialized RX2 ∈ gw := gw_t 2 (by decide +kernel) rfl
theorem g_3 : Cond.initialized RX1 ∈ gw := gw_t 3 (by decide +kernel) rfl
theorem g_4 : Cond.initialized RX5 ∈ gw := gw_t 4 (by decide +kernel) rfl
theorem g_5 : Cond.initialized "java/lang/Math" ∈ gw := gw_t 5 (by decide +kernel) rfl
theorem g_6 : Cond.initialized RX3 ∈ gw := gw_t 6 (by decide +kernel) rfl
theorem g_7 : Cond.initialized RX4 ∈ gw := gw_t 7 (by decide +kernel) rfl
theorem g_8 : Cond.initialized RX0 ∈ gw := gw_t 8 (by decide +kernel) rfl
theorem g_9 : Cond.initialized RX7 ∈ gw := gw_t 9 (by decide +kernel) rfl
theorem g_10 : Cond.initialized RJ0 ∈ gw := gw_t 10 (by decide +kernel) rfl
theorem g_11 : Cond.initialized RJ1 ∈ gw := gw_t 11 (by decide +kernel) rfl
theorem g_12 : Cond.initialized RJ3 ∈ gw := gw_t 12 (by decide +kernel) rfl
theorem g_14 : Cond.initialized RJ6 ∈ gw := gw_t 14 (by decide +kernel) rfl
theorem g_20 : Cond.methodLink RX6 1 objectInit ∈ gw := gw_t 20 (by decide +kernel) rfl
theorem g_21 : Cond.instanceMethod objectInit ∈ gw := gw_t 21 (by decide +kernel) rfl
theorem g_22 : Cond.code objectInit ⟨#[0xb1]⟩ 1 none ∈ gw := gw_t 22 (by decide +kernel) rfl
theorem g_23 : Cond.classLink RX6 7 RX2 ∈ gw := gw_t 23 (by decide +kernel) rfl
theorem g_24 : Cond.instantiable RX2 15 ∈ gw := gw_t 24 (by decide +kernel) rfl
theorem g_26 : Cond.instanceMethod yX2_init ∈ gw := gw_t 26 (by decide +kernel) rfl
theorem g_27 : Cond.code yX2_init cX2_init 2 none ∈ gw := gw_t 27 (by decide +kernel) rfl
theorem g_28 : Cond.methodLink RX2 3 objectInit ∈ gw := gw_t 28 (by decide +kernel) rfl
theorem g_29 : Cond.classLink RX2 28 RX1 ∈ gw := gw_t 29 (by decide +kernel) rfl
theorem g_30 : Cond.instantiable RX1 5 ∈ gw := gw_t 30 (by decide +kernel) rfl
theorem g_32 : Cond.instanceMethod yX1_init ∈ gw := gw_t 32 (by decide +kernel) rfl
theorem g_33 : Cond.code yX1_init cX1_init 1 none ∈ gw := gw_t 33 (by decide +kernel) rfl
theorem g_34 : Cond.methodLink RX1 3 objectInit ∈ gw := gw_t 34 (by decide +kernel) rfl
theorem g_35 : Cond.fieldLink RX1 9 "StringPuppets$Pose" "lift" "I" ∈ gw := gw_t 35 (by decide +kernel) rfl
theorem g_39 : Cond.fieldLink RX1 15 "StringPuppets$Pose" "tilt" "I" ∈ gw := gw_t 39 (by decide +kernel) rfl
theorem g_43 : Cond.fieldLink RX1 18 "StringPuppets$Pose" "move" "I" ∈ gw := gw_t 43 (by decide +kernel) rfl
theorem g_47 : Cond.fieldLink RX1 21 "StringPuppets$Pose" "holes" "[I" ∈ gw := gw_t 47 (by decide +kernel) rfl
theorem g_51 : Cond.fieldLink RX1 25 "StringPuppets$Pose" "worn" "[I" ∈ gw := gw_t 51 (by decide +kernel) rfl
theorem g_66 : Cond.arrayClass .int ∈ gw := gw_t 66 (by decide +kernel) rfl
theorem g_68 : Cond.classLink RX2 54 RX5 ∈ gw := gw_t 68 (by decide +kernel) rfl
theorem g_69 : Cond.instantiable RX5 4 ∈ gw := gw_t 69 (by decide +kernel) rfl
theorem g_71 : Cond.instanceMethod yX5_init ∈ gw := gw_t 71 (by decide +kernel) rfl
theorem g_72 : Cond.code yX5_init cX5_init 3 none ∈ gw := gw_t 72 (by decide +kernel) rfl
theorem g_73 : Cond.methodLink RX5 1 objectInit ∈ gw := gw_t 73 (by decide +kernel) rfl
theorem g_74 : Cond.methodLink RX5 13 Lib.Math.max.name ∈ gw := gw_t 74 (by decide +kernel) rfl
theorem g_75 : Cond.static Lib.Math.max.name ∈ gw := gw_t 75 (by decide +kernel) rfl
theorem g_76 : Cond.code Lib.Math.max.name Lib.Math.max.code 2 (some .int) ∈ gw := gw_t 76 (by decide +kernel) rfl
theorem g_77 : Cond.fieldLink RX5 19 "StringPuppets$Table" "width" "I" ∈ gw := gw_t 77 (by decide +kernel) rfl
theorem g_78 : Cond.fieldLink RX5 25 "StringPuppets$Table" "cells" "[I" ∈ gw := gw_t 78 (by decide +kernel) rfl
theorem g_79 : Cond.fieldLink RX5 22 "StringPuppets$Table" "room" "I" ∈ gw := gw_t 79 (by decide +kernel) rfl
theorem g_80 : Cond.fieldLink RX5 7 "StringPuppets$Table" "size" "I" ∈ gw := gw_t 80 (by decide +kernel) rfl
theorem g_91 : Cond.fieldLink RX2 9 "StringPuppets$Puppet" "kinds" "[I" ∈ gw := gw_t 91 (by decide +kernel) rfl
theorem g_93 : Cond.fieldLink RX2 15 "StringPuppets$Puppet" "strings" "[I" ∈ gw := gw_t 93 (by decide +kernel) rfl
theorem g_95 : Cond.fieldLink RX2 18 "StringPuppets$Puppet" "weights" "[I" ∈ gw := gw_t 95 (by decide +kernel) rfl
theorem g_96 : Cond.fieldLink RX2 21 "StringPuppets$Puppet" "lengths" "[I" ∈ gw := gw_t 96 (by decide +kernel) rfl
theorem g_97 : Cond.fieldLink RX2 24 "StringPuppets$Puppet" "size" "I" ∈ gw := gw_t 97 (by decide +kernel) rfl
theorem g_100 : Cond.fieldLink RX2 31 "StringPuppets$Puppet" "pose" "LStringPuppets$Pose;" ∈ gw := gw_t 100 (by decide +kernel) rfl
theorem g_105 : Cond.fieldLink RX2 35 "StringPuppets$Puppet" "past" "[LStringPuppets$Pose;" ∈ gw := gw_t 105 (by decide +kernel) rfl
theorem g_106 : Cond.fieldLink RX2 39 "StringPuppets$Puppet" "nextPast" "I" ∈ gw := gw_t 106 (by decide +kernel) rfl
theorem g_107 : Cond.fieldLink RX2 42 "StringPuppets$Puppet" "undoable" "I" ∈ gw := gw_t 107 (by decide +kernel) rfl
theorem g_109 : Cond.fieldLink RX2 45 "StringPuppets$Puppet" "danceMoves" "[I" ∈ gw := gw_t 109 (by decide +kernel) rfl
theorem g_111 : Cond.fieldLink RX2 48 "StringPuppets$Puppet" "danceHighs" "[I" ∈ gw := gw_t 111 (by decide +kernel) rfl
theorem g_113 : Cond.fieldLink RX2 51 "StringPuppets$Puppet" "dancer" "I" ∈ gw := gw_t 113 (by decide +kernel) rfl
theorem g_115 : Cond.fieldLink RX2 59 "StringPuppets$Puppet" "sights" "LStringPuppets$Table;" ∈ gw := gw_t 115 (by decide +kernel) rfl
theorem g_117 : Cond.fieldLink RX2 63 "StringPuppets$Puppet" "notes" "LStringPuppets$Table;" ∈ gw := gw_t 117 (by decide +kernel) rfl
theorem g_119 : Cond.fieldLink RX2 66 "StringPuppets$Puppet" "marks" "LStringPuppets$Table;" ∈ gw := gw_t 119 (by decide +kernel) rfl
theorem g_152 : Cond.classLink RX6 32 RX3 ∈ gw := gw_t 152 (by decide +kernel) rfl
theorem g_153 : Cond.instantiable RX3 6 ∈ gw := gw_t 153 (by decide +kernel) rfl
theorem g_155 : Cond.instanceMethod yX3_init ∈ gw := gw_t 155 (by decide +kernel) rfl
theorem g_156 : Cond.code yX3_init cX3_init 1 none ∈ gw := gw_t 156 (by decide +kernel) rfl
theorem g_157 : Cond.methodLink RX3 3 objectInit ∈ gw := gw_t 157 (by decide +kernel) rfl
theorem g_158 : Cond.fieldLink RX3 9 "StringPuppets$Reader" "text" "[I" ∈ gw := gw_t 158 (by decide +kernel) rfl
theorem g_159 : Cond.fieldLink RX3 15 "StringPuppets$Reader" "length" "I" ∈ gw := gw_t 159 (by decide +kernel) rfl
theorem g_161 : Cond.fieldLink RX3 19 "StringPuppets$Reader" "start" "I" ∈ gw := gw_t 161 (by decide +kernel) rfl
theorem g_162 : Cond.fieldLink RX3 22 "StringPuppets$Reader" "end" "I" ∈ gw := gw_t 162 (by decide +kernel) rfl
theorem g_163 : Cond.fieldLink RX3 25 "StringPuppets$Reader" "sort" "I" ∈ gw := gw_t 163 (by decide +kernel) rfl
theorem g_164 : Cond.fieldLink RX3 28 "StringPuppets$Reader" "number" "I" ∈ gw := gw_t 164 (by decide +kernel) rfl
theorem g_178 : Cond.classLink RX6 39 RX4 ∈ gw := gw_t 178 (by decide +kernel) rfl
theorem g_179 : Cond.instantiable RX4 8 ∈ gw := gw_t 179 (by decide +kernel) rfl
theorem g_181 : Cond.instanceMethod yX4_init ∈ gw := gw_t 181 (by decide +kernel) rfl
theorem g_182 : Cond.code yX4_init cX4_init 1 none ∈ gw := gw_t 182 (by decide +kernel) rfl
theorem g_183 : Cond.methodLink RX4 3 objectInit ∈ gw := gw_t 183 (by decide +kernel) rfl
theorem g_184 : Cond.fieldLink RX4 9 "StringPuppets$Search" "row" "[I" ∈ gw := gw_t 184 (by decide +kernel) rfl
theorem g_186 : Cond.fieldLink RX4 15 "StringPuppets$Search" "length" "I" ∈ gw := gw_t 186 (by decide +kernel) rfl
theorem g_187 : Cond.fieldLink RX4 19 "StringPuppets$Search" "firstLimb" "I" ∈ gw := gw_t 187 (by decide +kernel) rfl
theorem g_188 : Cond.fieldLink RX4 22 "StringPuppets$Search" "firstGoal" "I" ∈ gw := gw_t 188 (by decide +kernel) rfl
theorem g_189 : Cond.fieldLink RX4 25 "StringPuppets$Search" "firstWeight" "I" ∈ gw := gw_t 189 (by decide +kernel) rfl
theorem g_190 : Cond.fieldLink RX4 28 "StringPuppets$Search" "secondLimb" "I" ∈ gw := gw_t 190 (by decide +kernel) rfl
theorem g_191 : Cond.fieldLink RX4 31 "StringPuppets$Search" "secondGoal" "I" ∈ gw := gw_t 191 (by decide +kernel) rfl
theorem g_192 : Cond.fieldLink RX4 34 "StringPuppets$Search" "secondWeight" "I" ∈ gw := gw_t 192 (by decide +kernel) rfl
theorem g_210 : Cond.classLink RX6 46 RX0 ∈ gw := gw_t 210 (by decide +kernel) rfl
theorem g_211 : Cond.instantiable RX0 2 ∈ gw := gw_t 211 (by decide +kernel) rfl
theorem g_213 : Cond.instanceMethod yX0_init ∈ gw := gw_t 213 (by decide +kernel) rfl
theorem g_214 : Cond.code yX0_init cX0_init 1 none ∈ gw := gw_t 214 (by decide +kernel) rfl
theorem g_215 : Cond.methodLink RX0 3 objectInit ∈ gw := gw_t 215 (by decide +kernel) rfl
theorem g_216 : Cond.fieldLink RX0 9 "StringPuppets$Bargain" "firstGains" "[I" ∈ gw := gw_t 216 (by decide +kernel) rfl
theorem g_217 : Cond.fieldLink RX0 15 "StringPuppets$Bargain" "secondGains" "[I" ∈ gw := gw_t 217 (by decide +kernel) rfl
theorem g_223 : Cond.classLink RX6 53 RX1 ∈ gw := gw_t 223 (by decide +kernel) rfl
theorem g_225 : Cond.fieldLink RX6 10 "StringPuppets" "now" "LStringPuppets$Puppet;" ∈ gw := gw_t 225 (by decide +kernel) rfl
theorem g_226 : Cond.fieldLink RX6 16 "StringPuppets" "draft" "LStringPuppets$Puppet;" ∈ gw := gw_t 226 (by decide +kernel) rfl
theorem g_227 : Cond.fieldLink RX6 19 "StringPuppets" "firstImage" "LStringPuppets$Puppet;" ∈ gw := gw_t 227 (by decide +kernel) rfl
theorem g_228 : Cond.fieldLink RX6 22 "StringPuppets" "secondImage" "LStringPuppets$Puppet;" ∈ gw := gw_t 228 (by decide +kernel) rfl
theorem g_229 : Cond.fieldLink RX6 25 "StringPuppets" "firstKept" "Z" ∈ gw := gw_t 229 (by decide +kernel) rfl
theorem g_230 : Cond.fieldLink RX6 29 "StringPuppets" "secondKept" "Z" ∈ gw := gw_t 230 (by decide +kernel) rfl
theorem g_231 : Cond.fieldLink RX6 35 "StringPuppets" "reader" "LStringPuppets$Reader;" ∈ gw := gw_t 231 (by decide +kernel) rfl
theorem g_232 : Cond.fieldLink RX6 42 "StringPuppets" "search" "LStringPuppets$Search;" ∈ gw := gw_t 232 (by decide +kernel) rfl
theorem g_233 : Cond.fieldLink RX6 49 "StringPuppets" "bargain" "LStringPuppets$Bargain;" ∈ gw := gw_t 233 (by decide +kernel) rfl
theorem g_234 : Cond.fieldLink RX6 56 "StringPuppets" "trial" "LStringPuppets$Pose;" ∈ gw := gw_t 234 (by decide +kernel) rfl
theorem g_235 : Cond.fieldLink RX6 60 "StringPuppets" "crowd" "[I" ∈ gw := gw_t 235 (by decide +kernel) rfl
theorem g_236 : Cond.fieldLink RX6 64 "StringPuppets" "above" "J" ∈ gw := gw_t 236 (by decide +kernel) rfl
theorem g_237 : Cond.fieldLink RX6 68 "StringPuppets" "below" "J" ∈ gw := gw_t 237 (by decide +kernel) rfl
theorem g_238 : Cond.fieldLink RX6 71 "StringPuppets" "badCalls" "I" ∈ gw := gw_t 238 (by decide +kernel) rfl
theorem g_239 : Cond.fieldLink RX6 75 "StringPuppets" "noCalls" "I" ∈ gw := gw_t 239 (by decide +kernel) rfl
theorem g_240 : Cond.fieldLink RX6 78 "StringPuppets" "fullCalls" "I" ∈ gw := gw_t 240 (by decide +kernel) rfl
theorem g_274 : Cond.methodLink RL 13 yX6_puppet ∈ gw := gw_t 274 (by decide +kernel) rfl
theorem g_275 : Cond.instanceMethod yX6_puppet ∈ gw := gw_t 275 (by decide +kernel) rfl
theorem g_276 : Cond.selects RX6 yX6_puppet yX6_puppet ∈ gw := gw_t 276 (by decide +kernel) rfl
theorem g_277 : Cond.code yX6_puppet cX6_puppet 3 (some .int) ∈ gw := gw_t 277 (by decide +kernel) rfl
theorem g_278 : Cond.methodLink RX6 81 yX6_outside ∈ gw := gw_t 278 (by decide +kernel) rfl
theorem g_279 : Cond.static yX6_outside ∈ gw := gw_t 279 (by decide +kernel) rfl
theorem g_280 : Cond.code yX6_outside cX6_outside 3 (some .boolean) ∈ gw := gw_t 280 (by decide +kernel) rfl
theorem g_281 : Cond.methodLink RX6 85 yX6_refuseBad ∈ gw := gw_t 281 (by decide +kernel) rfl
theorem g_283 : Cond.instanceMethod yX6_refuseBad ∈ gw := gw_t 283 (by decide +kernel) rfl
theorem g_284 : Cond.code yX6_refuseBad cX6_refuseBad 2 (some .int) ∈ gw := gw_t 284 (by decide +kernel) rfl
theorem g_287 : Cond.instanceMethod yX2_begin ∈ gw := gw_t 287 (by decide +kernel) rfl
theorem g_288 : Cond.code yX2_begin cX2_begin 3 none ∈ gw := gw_t 288 (by decide +kernel) rfl
theorem g_291 : Cond.instanceMethod yX1_begin ∈ gw := gw_t 291 (by decide +kernel) rfl
theorem g_292 : Cond.code yX1_begin cX1_begin 2 none ∈ gw := gw_t 292 (by decide +kernel) rfl
theorem g_294 : Cond.static yX6_put ∈ gw := gw_t 294 (by decide +kernel) rfl
theorem g_295 : Cond.code yX6_put cX6_put 3 none ∈ gw := gw_t 295 (by decide +kernel) rfl
theorem g_298 : Cond.instanceMethod yX5_drain ∈ gw := gw_t 298 (by decide +kernel) rfl
theorem g_299 : Cond.code yX5_drain cX5_drain 2 (some .int) ∈ gw := gw_t 299 (by decide +kernel) rfl
theorem g_300 : Cond.methodLink RL 18 yX6_limb ∈ gw := gw_t 300 (by decide +kernel) rfl
theorem g_301 : Cond.instanceMethod yX6_limb ∈ gw := gw_t 301 (by decide +kernel) rfl
theorem g_302 : Cond.selects RX6 yX6_limb yX6_limb ∈ gw := gw_t 302 (by decide +kernel) rfl
theorem g_303 : Cond.code yX6_limb cX6_limb 6 (some .int) ∈ gw := gw_t 303 (by decide +kernel) rfl
theorem g_304 : Cond.methodLink RX6 96 yX6_refuseFull ∈ gw := gw_t 304 (by decide +kernel) rfl
theorem g_306 : Cond.instanceMethod yX6_refuseFull ∈ gw := gw_t 306 (by decide +kernel) rfl
theorem g_307 : Cond.code yX6_refuseFull cX6_refuseFull 1 (some .int) ∈ gw := gw_t 307 (by decide +kernel) rfl
theorem g_310 : Cond.instanceMethod yX2_add ∈ gw := gw_t 310 (by decide +kernel) rfl
theorem g_311 : Cond.code yX2_add cX2_add 7 (some .int) ∈ gw := gw_t 311 (by decide +kernel) rfl
theorem g_312 : Cond.methodLink RL 23 yX6_type ∈ gw := gw_t 312 (by decide +kernel) rfl
theorem g_313 : Cond.instanceMethod yX6_type ∈ gw := gw_t 313 (by decide +kernel) rfl
theorem g_314 : Cond.selects RX6 yX6_type yX6_type ∈ gw := gw_t 314 (by decide +kernel) rfl
theorem g_315 : Cond.code yX6_type cX6_type 2 (some .int) ∈ gw := gw_t 315 (by decide +kernel) rfl
theorem g_318 : Cond.instanceMethod yX3_append ∈ gw := gw_t 318 (by decide +kernel) rfl
theorem g_319 : Cond.code yX3_append cX3_append 2 (some .int) ∈ gw := gw_t 319 (by decide +kernel) rfl
theorem g_321 : Cond.methodLink RL 27 yX6_clear ∈ gw := gw_t 321 (by decide +kernel) rfl
theorem g_322 : Cond.instanceMethod yX6_clear ∈ gw := gw_t 322 (by decide +kernel) rfl
theorem g_323 : Cond.selects RX6 yX6_clear yX6_clear ∈ gw := gw_t 323 (by decide +kernel) rfl
theorem g_324 : Cond.code yX6_clear cX6_clear 2 (some .int) ∈ gw := gw_t 324 (by decide +kernel) rfl
theorem g_325 : Cond.methodLink RL 32 yX6_read ∈ gw := gw_t 325 (by decide +kernel) rfl
theorem g_326 : Cond.instanceMethod yX6_read ∈ gw := gw_t 326 (by decide +kernel) rfl
theorem g_327 : Cond.selects RX6 yX6_read yX6_read ∈ gw := gw_t 327 (by decide +kernel) rfl
theorem g_328 : Cond.code yX6_read cX6_read 2 (some .int) ∈ gw := gw_t 328 (by decide +kernel) rfl
theorem g_331 : Cond.instanceMethod yX3_readInto ∈ gw := gw_t 331 (by decide +kernel) rfl
theorem g_332 : Cond.code yX3_readInto cX3_readInto 3 (some .int) ∈ gw := gw_t 332 (by decide +kernel) rfl
theorem g_333 : Cond.methodLink RX3 35 yX3_takeOpening ∈ gw := gw_t 333 (by decide +kernel) rfl
theorem g_335 : Cond.instanceMethod yX3_takeOpening ∈ gw := gw_t 335 (by decide +kernel) rfl
theorem g_336 : Cond.code yX3_takeOpening cX3_takeOpening 2 (some .boolean) ∈ gw := gw_t 336 (by decide +kernel) rfl
theorem g_337 : Cond.methodLink RX3 39 yX3_advance ∈ gw := gw_t 337 (by decide +kernel) rfl
theorem g_339 : Cond.instanceMethod yX3_advance ∈ gw := gw_t 339 (by decide +kernel) rfl
theorem g_340 : Cond.code yX3_advance cX3_advance 2 none ∈ gw := gw_t 340 (by decide +kernel) rfl
theorem g_341 : Cond.methodLink RX3 136 yX3_runEnd ∈ gw := gw_t 341 (by decide +kernel) rfl
theorem g_343 : Cond.instanceMethod yX3_runEnd ∈ gw := gw_t 343 (by decide +kernel) rfl
theorem g_344 : Cond.code yX3_runEnd cX3_runEnd 5 (some .int) ∈ gw := gw_t 344 (by decide +kernel) rfl
theorem g_346 : Cond.static yX6_cell ∈ gw := gw_t 346 (by decide +kernel) rfl
theorem g_347 : Cond.code yX6_cell cX6_cell 2 (some .int) ∈ gw := gw_t 347 (by decide +kernel) rfl
theorem g_350 : Cond.methodLink RX3 47 yX3_isWord ∈ gw := gw_t 350 (by decide +kernel) rfl
theorem g_352 : Cond.instanceMethod yX3_isWord ∈ gw := gw_t 352 (by decide +kernel) rfl
theorem g_353 : Cond.code yX3_isWord cX3_isWord 3 (some .boolean) ∈ gw := gw_t 353 (by decide +kernel) rfl
theorem g_354 : Cond.methodLink RX3 123 yJ0_length_8abf5 ∈ gw := gw_t 354 (by decide +kernel) rfl
theorem g_355 : Cond.instanceMethod yJ0_length_8abf5 ∈ gw := gw_t 355 (by decide +kernel) rfl
theorem g_356 : Cond.selects RJ0 yJ0_length_8abf5 yJ0_length_8abf5 ∈ gw := gw_t 356 (by decide +kernel) rfl
theorem g_357 : Cond.code yJ0_length_8abf5 cJ0_length_8abf5 1 (some .int) ∈ gw := gw_t 357 (by decide +kernel) rfl
theorem g_358 : Cond.methodLink RJ0 335 yJ0_coder_7d493 ∈ gw := gw_t 358 (by decide +kernel) rfl
theorem g_359 : Cond.instanceMethod yJ0_coder_7d493 ∈ gw := gw_t 359 (by decide +kernel) rfl
theorem g_360 : Cond.selects RJ0 yJ0_coder_7d493 yJ0_coder_7d493 ∈ gw := gw_t 360 (by decide +kernel) rfl
theorem g_361 : Cond.code yJ0_coder_7d493 cJ0_coder_7d493 1 (some .byte) ∈ gw := gw_t 361 (by decide +kernel) rfl
theorem g_362 : Cond.fieldLink RJ0 38 "java/lang/String" "COMPACT_STRINGS" "Z" ∈ gw := gw_t 362 (by decide +kernel) rfl
theorem g_364 : Cond.methodLink RX3 132 yJ0_charAt_5068e ∈ gw := gw_t 364 (by decide +kernel) rfl
theorem g_365 : Cond.instanceMethod yJ0_charAt_5068e ∈ gw := gw_t 365 (by decide +kernel) rfl
theorem g_366 : Cond.selects RJ0 yJ0_charAt_5068e yJ0_charAt_5068e ∈ gw := gw_t 366 (by decide +kernel) rfl
theorem g_367 : Cond.code yJ0_charAt_5068e cJ0_charAt_5068e 2 (some .char) ∈ gw := gw_t 367 (by decide +kernel) rfl
theorem g_368 : Cond.methodLink RJ0 492 yJ0_isLatin1_aae02 ∈ gw := gw_t 368 (by decide +kernel) rfl
theorem g_369 : Cond.instanceMethod yJ0_isLatin1_aae02 ∈ gw := gw_t 369 (by decide +kernel) rfl
theorem g_370 : Cond.selects RJ0 yJ0_isLatin1_aae02 yJ0_isLatin1_aae02 ∈ gw := gw_t 370 (by decide +kernel) rfl
theorem g_371 : Cond.code yJ0_isLatin1_aae02 cJ0_isLatin1_aae02 1 (some .boolean) ∈ gw := gw_t 371 (by decide +kernel) rfl
theorem g_372 : Cond.methodLink RJ0 495 yJ1_charAt_3b067 ∈ gw := gw_t 372 (by decide +kernel) rfl
theorem g_373 : Cond.static yJ1_charAt_3b067 ∈ gw := gw_t 373 (by decide +kernel) rfl
theorem g_374 : Cond.code yJ1_charAt_3b067 cJ1_charAt_3b067 2 (some .char) ∈ gw := gw_t 374 (by decide +kernel) rfl
theorem g_375 : Cond.methodLink RJ1 9 yJ0_checkIndex_df160 ∈ gw := gw_t 375 (by decide +kernel) rfl
theorem g_376 : Cond.static yJ0_checkIndex_df160 ∈ gw := gw_t 376 (by decide +kernel) rfl
theorem g_377 : Cond.code yJ0_checkIndex_df160 cJ0_checkIndex_df160 2 none ∈ gw := gw_t 377 (by decide +kernel) rfl
theorem g_378 : Cond.fieldLink RJ0 1053 "jdk/internal/util/Preconditions" "SIOOBE_FORMATTER" "Ljava/util/function/BiFunction;" ∈ gw := gw_t 378 (by decide +kernel) rfl
theorem g_380 : Cond.methodLink RJ0 1059 yJ3_checkIndex_8e157 ∈ gw := gw_t 380 (by decide +kernel) rfl
theorem g_381 : Cond.static yJ3_checkIndex_8e157 ∈ gw := gw_t 381 (by decide +kernel) rfl
theorem g_382 : Cond.code yJ3_checkIndex_8e157 cJ3_checkIndex_8e157 3 (some .int) ∈ gw := gw_t 382 (by decide +kernel) rfl
theorem g_402 : Cond.methodLink RX3 51 yX3_takeNumber ∈ gw := gw_t 402 (by decide +kernel) rfl
theorem g_404 : Cond.instanceMethod yX3_takeNumber ∈ gw := gw_t 404 (by decide +kernel) rfl
theorem g_405 : Cond.code yX3_takeNumber cX3_takeNumber 3 (some .boolean) ∈ gw := gw_t 405 (by decide +kernel) rfl
theorem g_406 : Cond.methodLink RX3 92 yX3_isNumber ∈ gw := gw_t 406 (by decide +kernel) rfl
theorem g_408 : Cond.instanceMethod yX3_isNumber ∈ gw := gw_t 408 (by decide +kernel) rfl
theorem g_409 : Cond.code yX3_isNumber cX3_isNumber 3 (some .boolean) ∈ gw := gw_t 409 (by decide +kernel) rfl
theorem g_411 : Cond.methodLink RX3 61 yX3_takeSemicolon ∈ gw := gw_t 411 (by decide +kernel) rfl
theorem g_413 : Cond.instanceMethod yX3_takeSemicolon ∈ gw := gw_t 413 (by decide +kernel) rfl
theorem g_414 : Cond.code yX3_takeSemicolon cX3_takeSemicolon 1 (some .boolean) ∈ gw := gw_t 414 (by decide +kernel) rfl
theorem g_415 : Cond.methodLink RX3 42 yX3_takeItem ∈ gw := gw_t 415 (by decide +kernel) rfl
theorem g_417 : Cond.instanceMethod yX3_takeItem ∈ gw := gw_t 417 (by decide +kernel) rfl
theorem g_418 : Cond.code yX3_takeItem cX3_takeItem 2 (some .boolean) ∈ gw := gw_t 418 (by decide +kernel) rfl
theorem g_420 : Cond.methodLink RX3 70 yX3_takeLimb ∈ gw := gw_t 420 (by decide +kernel) rfl
theorem g_422 : Cond.instanceMethod yX3_takeLimb ∈ gw := gw_t 422 (by decide +kernel) rfl
theorem g_423 : Cond.code yX3_takeLimb cX3_takeLimb 6 (some .boolean) ∈ gw := gw_t 423 (by decide +kernel) rfl
theorem g_426 : Cond.methodLink RX3 75 yX3_takeMoves ∈ gw := gw_t 426 (by decide +kernel) rfl
theorem g_428 : Cond.instanceMethod yX3_takeMoves ∈ gw := gw_t 428 (by decide +kernel) rfl
theorem g_429 : Cond.code yX3_takeMoves cX3_takeMoves 3 (some .boolean) ∈ gw := gw_t 429 (by decide +kernel) rfl
theorem g_432 : Cond.instanceMethod yX2_step ∈ gw := gw_t 432 (by decide +kernel) rfl
theorem g_433 : Cond.code yX2_step cX2_step 4 none ∈ gw := gw_t 433 (by decide +kernel) rfl
theorem g_435 : Cond.static yX6_liftBehind ∈ gw := gw_t 435 (by decide +kernel) rfl
theorem g_436 : Cond.code yX6_liftBehind cX6_liftBehind 2 (some .int) ∈ gw := gw_t 436 (by decide +kernel) rfl
theorem g_437 : Cond.methodLink RX6 316 Lib.Math.min.name ∈ gw := gw_t 437 (by decide +kernel) rfl
theorem g_438 : Cond.static Lib.Math.min.name ∈ gw := gw_t 438 (by decide +kernel) rfl
theorem g_439 : Cond.code Lib.Math.min.name Lib.Math.min.code 2 (some .int) ∈ gw := gw_t 439 (by decide +kernel) rfl
theorem g_440 : Cond.methodLink RX6 311 Lib.Math.max.name ∈ gw := gw_t 440 (by decide +kernel) rfl
theorem g_442 : Cond.static yX6_tiltBehind ∈ gw := gw_t 442 (by decide +kernel) rfl
theorem g_443 : Cond.code yX6_tiltBehind cX6_tiltBehind 2 (some .int) ∈ gw := gw_t 443 (by decide +kernel) rfl
theorem g_445 : Cond.methodLink RX2 122 yX2_weightOf ∈ gw := gw_t 445 (by decide +kernel) rfl
theorem g_447 : Cond.instanceMethod yX2_weightOf ∈ gw := gw_t 447 (by decide +kernel) rfl
theorem g_448 : Cond.code yX2_weightOf cX2_weightOf 2 (some .int) ∈ gw := gw_t 448 (by decide +kernel) rfl
theorem g_450 : Cond.static yX6_wornBehind ∈ gw := gw_t 450 (by decide +kernel) rfl
theorem g_451 : Cond.code yX6_wornBehind cX6_wornBehind 4 (some .int) ∈ gw := gw_t 451 (by decide +kernel) rfl
theorem g_453 : Cond.methodLink RX3 80 yX3_takeTie ∈ gw := gw_t 453 (by decide +kernel) rfl
theorem g_455 : Cond.instanceMethod yX3_takeTie ∈ gw := gw_t 455 (by decide +kernel) rfl
theorem g_456 : Cond.code yX3_takeTie cX3_takeTie 2 (some .boolean) ∈ gw := gw_t 456 (by decide +kernel) rfl
theorem g_459 : Cond.instanceMethod yX2_wornOf ∈ gw := gw_t 459 (by decide +kernel) rfl
theorem g_460 : Cond.code yX2_wornOf cX2_wornOf 2 (some .int) ∈ gw := gw_t 460 (by decide +kernel) rfl
theorem g_462 : Cond.static yX6_isSnapped ∈ gw := gw_t 462 (by decide +kernel) rfl
theorem g_463 : Cond.code yX6_isSnapped cX6_isSnapped 1 (some .boolean) ∈ gw := gw_t 463 (by decide +kernel) rfl
theorem g_465 : Cond.methodLink RX3 85 yX3_takeHang ∈ gw := gw_t 465 (by decide +kernel) rfl
theorem g_467 : Cond.instanceMethod yX3_takeHang ∈ gw := gw_t 467 (by decide +kernel) rfl
theorem g_468 : Cond.code yX3_takeHang cX3_takeHang 3 (some .boolean) ∈ gw := gw_t 468 (by decide +kernel) rfl
theorem g_471 : Cond.instanceMethod yX2_become ∈ gw := gw_t 471 (by decide +kernel) rfl
theorem g_472 : Cond.code yX2_become cX2_become 3 none ∈ gw := gw_t 472 (by decide +kernel) rfl
theorem g_474 : Cond.static yX6_copyRow ∈ gw := gw_t 474 (by decide +kernel) rfl
theorem g_475 : Cond.code yX6_copyRow cX6_copyRow 3 none ∈ gw := gw_t 475 (by decide +kernel) rfl
theorem g_478 : Cond.instanceMethod yX1_become ∈ gw := gw_t 478 (by decide +kernel) rfl
theorem g_479 : Cond.code yX1_become cX1_become 2 none ∈ gw := gw_t 479 (by decide +kernel) rfl
theorem g_481 : Cond.methodLink RX2 89 yX2_pastAt ∈ gw := gw_t 481 (by decide +kernel) rfl
theorem g_483 : Cond.instanceMethod yX2_pastAt ∈ gw := gw_t 483 (by decide +kernel) rfl
theorem g_484 : Cond.code yX2_pastAt cX2_pastAt 3 (some (.object "StringPuppets$Pose")) ∈ gw := gw_t 484 (by decide +kernel) rfl
theorem g_487 : Cond.instanceMethod yX5_become ∈ gw := gw_t 487 (by decide +kernel) rfl
theorem g_488 : Cond.code yX5_become cX5_become 2 none ∈ gw := gw_t 488 (by decide +kernel) rfl
theorem g_491 : Cond.methodLink RL 36 yX6_moves ∈ gw := gw_t 491 (by decide +kernel) rfl
theorem g_492 : Cond.instanceMethod yX6_moves ∈ gw := gw_t 492 (by decide +kernel) rfl
theorem g_493 : Cond.selects RX6 yX6_moves yX6_moves ∈ gw := gw_t 493 (by decide +kernel) rfl
theorem g_494 : Cond.code yX6_moves cX6_moves 2 (some .int) ∈ gw := gw_t 494 (by decide +kernel) rfl
theorem g_495 : Cond.methodLink RX6 124 yX6_refuseNo ∈ gw := gw_t 495 (by decide +kernel) rfl
theorem g_497 : Cond.instanceMethod yX6_refuseNo ∈ gw := gw_t 497 (by decide +kernel) rfl
theorem g_498 : Cond.code yX6_refuseNo cX6_refuseNo 1 (some .int) ∈ gw := gw_t 498 (by decide +kernel) rfl
theorem g_501 : Cond.instanceMethod yX2_remember ∈ gw := gw_t 501 (by decide +kernel) rfl
theorem g_502 : Cond.code yX2_remember cX2_remember 1 none ∈ gw := gw_t 502 (by decide +kernel) rfl
theorem g_503 : Cond.methodLink RX2 157 Lib.Math.min.name ∈ gw := gw_t 503 (by decide +kernel) rfl
theorem g_507 : Cond.instanceMethod yX2_snappedIn ∈ gw := gw_t 507 (by decide +kernel) rfl
theorem g_508 : Cond.code yX2_snappedIn cX2_snappedIn 4 (some .int) ∈ gw := gw_t 508 (by decide +kernel) rfl
theorem g_510 : Cond.methodLink RL 40 yX6_ties ∈ gw := gw_t 510 (by decide +kernel) rfl
theorem g_511 : Cond.instanceMethod yX6_ties ∈ gw := gw_t 511 (by decide +kernel) rfl
theorem g_512 : Cond.selects RX6 yX6_ties yX6_ties ∈ gw := gw_t 512 (by decide +kernel) rfl
theorem g_513 : Cond.code yX6_ties cX6_ties 3 (some .int) ∈ gw := gw_t 513 (by decide +kernel) rfl
theorem g_514 : Cond.methodLink RX6 138 yX6_noLimb ∈ gw := gw_t 514 (by decide +kernel) rfl
theorem g_516 : Cond.instanceMethod yX6_noLimb ∈ gw := gw_t 516 (by decide +kernel) rfl
theorem g_517 : Cond.code yX6_noLimb cX6_noLimb 2 (some .boolean) ∈ gw := gw_t 517 (by decide +kernel) rfl
theorem g_519 : Cond.methodLink RX6 145 yX6_isSnapped ∈ gw := gw_t 519 (by decide +kernel) rfl
theorem g_520 : Cond.methodLink RX6 151 yX6_put ∈ gw := gw_t 520 (by decide +kernel) rfl
theorem g_521 : Cond.methodLink RL 44 yX6_hangs ∈ gw := gw_t 521 (by decide +kernel) rfl
theorem g_522 : Cond.instanceMethod yX6_hangs ∈ gw := gw_t 522 (by decide +kernel) rfl
theorem g_523 : Cond.selects RX6 yX6_hangs yX6_hangs ∈ gw := gw_t 523 (by decide +kernel) rfl
theorem g_524 : Cond.code yX6_hangs cX6_hangs 4 (some .int) ∈ gw := gw_t 524 (by decide +kernel) rfl
theorem g_527 : Cond.instanceMethod yX2_holeOf ∈ gw := gw_t 527 (by decide +kernel) rfl
theorem g_528 : Cond.code yX2_holeOf cX2_holeOf 2 (some .int) ∈ gw := gw_t 528 (by decide +kernel) rfl
theorem g_529 : Cond.methodLink RL 49 yX6_undo ∈ gw := gw_t 529 (by decide +kernel) rfl
theorem g_530 : Cond.instanceMethod yX6_undo ∈ gw := gw_t 530 (by decide +kernel) rfl
theorem g_531 : Cond.selects RX6 yX6_undo yX6_undo ∈ gw := gw_t 531 (by decide +kernel) rfl
theorem g_532 : Cond.code yX6_undo cX6_undo 1 (some .int) ∈ gw := gw_t 532 (by decide +kernel) rfl
theorem g_535 : Cond.instanceMethod yX2_goBack ∈ gw := gw_t 535 (by decide +kernel) rfl
theorem g_536 : Cond.code yX2_goBack cX2_goBack 1 none ∈ gw := gw_t 536 (by decide +kernel) rfl
theorem g_537 : Cond.methodLink RL 53 yX6_of ∈ gw := gw_t 537 (by decide +kernel) rfl
theorem g_538 : Cond.instanceMethod yX6_of ∈ gw := gw_t 538 (by decide +kernel) rfl
theorem g_539 : Cond.selects RX6 yX6_of yX6_of ∈ gw := gw_t 539 (by decide +kernel) rfl
theorem g_540 : Cond.code yX6_of cX6_of 3 (some .int) ∈ gw := gw_t 540 (by decide +kernel) rfl
theorem g_543 : Cond.instanceMethod yX2_tellOf ∈ gw := gw_t 543 (by decide +kernel) rfl
theorem g_544 : Cond.code yX2_tellOf cX2_tellOf 3 (some .int) ∈ gw := gw_t 544 (by decide +kernel) rfl
theorem g_545 : Cond.methodLink RX2 150 yX2_holeOf ∈ gw := gw_t 545 (by decide +kernel) rfl
theorem g_546 : Cond.methodLink RX2 134 yX2_wornOf ∈ gw := gw_t 546 (by decide +kernel) rfl
theorem g_547 : Cond.methodLink RX2 153 yX2_highIn ∈ gw := gw_t 547 (by decide +kernel) rfl
theorem g_549 : Cond.instanceMethod yX2_highIn ∈ gw := gw_t 549 (by decide +kernel) rfl
theorem g_550 : Cond.code yX2_highIn cX2_highIn 4 (some .int) ∈ gw := gw_t 550 (by decide +kernel) rfl
theorem g_552 : Cond.static yX6_holeAt ∈ gw := gw_t 552 (by decide +kernel) rfl
theorem g_553 : Cond.code yX6_holeAt cX6_holeAt 3 (some .int) ∈ gw := gw_t 553 (by decide +kernel) rfl
theorem g_554 : Cond.methodLink RX2 140 yX2_highFrom ∈ gw := gw_t 554 (by decide +kernel) rfl
theorem g_556 : Cond.instanceMethod yX2_highFrom ∈ gw := gw_t 556 (by decide +kernel) rfl
theorem g_557 : Cond.code yX2_highFrom cX2_highFrom 6 (some .int) ∈ gw := gw_t 557 (by decide +kernel) rfl
theorem g_559 : Cond.static yX6_dropOf ∈ gw := gw_t 559 (by decide +kernel) rfl
theorem g_560 : Cond.code yX6_dropOf cX6_dropOf 6 (some .int) ∈ gw := gw_t 560 (by decide +kernel) rfl
theorem g_562 : Cond.static yX6_highOf ∈ gw := gw_t 562 (by decide +kernel) rfl
theorem g_563 : Cond.code yX6_highOf cX6_highOf 5 (some .int) ∈ gw := gw_t 563 (by decide +kernel) rfl
theorem g_564 : Cond.methodLink RL 57 yX6_touch ∈ gw := gw_t 564 (by decide +kernel) rfl
theorem g_565 : Cond.instanceMethod yX6_touch ∈ gw := gw_t 565 (by decide +kernel) rfl
theorem g_566 : Cond.selects RX6 yX6_touch yX6_touch ∈ gw := gw_t 566 (by decide +kernel) rfl
theorem g_567 : Cond.code yX6_touch cX6_touch 5 (some .int) ∈ gw := gw_t 567 (by decide +kernel) rfl
theorem g_568 : Cond.methodLink RX6 171 yX6_touching ∈ gw := gw_t 568 (by decide +kernel) rfl
theorem g_570 : Cond.instanceMethod yX6_touching ∈ gw := gw_t 570 (by decide +kernel) rfl
theorem g_571 : Cond.code yX6_touching cX6_touching 3 (some .boolean) ∈ gw := gw_t 571 (by decide +kernel) rfl
theorem g_573 : Cond.methodLink RL 61 yX6_safe ∈ gw := gw_t 573 (by decide +kernel) rfl
theorem g_574 : Cond.instanceMethod yX6_safe ∈ gw := gw_t 574 (by decide +kernel) rfl
theorem g_575 : Cond.selects RX6 yX6_safe yX6_safe ∈ gw := gw_t 575 (by decide +kernel) rfl
theorem g_576 : Cond.code yX6_safe cX6_safe 4 (some .int) ∈ gw := gw_t 576 (by decide +kernel) rfl
theorem g_578 : Cond.methodLink RX6 181 yX6_wornBehind ∈ gw := gw_t 578 (by decide +kernel) rfl
theorem g_579 : Cond.methodLink RL 65 yX6_few ∈ gw := gw_t 579 (by decide +kernel) rfl
theorem g_580 : Cond.instanceMethod yX6_few ∈ gw := gw_t 580 (by decide +kernel) rfl
theorem g_581 : Cond.selects RX6 yX6_few yX6_few ∈ gw := gw_t 581 (by decide +kernel) rfl
theorem g_582 : Cond.code yX6_few cX6_few 5 (some .int) ∈ gw := gw_t 582 (by decide +kernel) rfl
theorem g_583 : Cond.methodLink RX6 185 yX6_notHigh ∈ gw := gw_t 583 (by decide +kernel) rfl
theorem g_584 : Cond.static yX6_notHigh ∈ gw := gw_t 584 (by decide +kernel) rfl
theorem g_585 : Cond.code yX6_notHigh cX6_notHigh 1 (some .boolean) ∈ gw := gw_t 585 (by decide +kernel) rfl
theorem g_588 : Cond.instanceMethod yX4_fewest ∈ gw := gw_t 588 (by decide +kernel) rfl
theorem g_589 : Cond.code yX4_fewest cX4_fewest 8 (some .int) ∈ gw := gw_t 589 (by decide +kernel) rfl
theorem g_592 : Cond.methodLink RX4 58 yX4_reaches ∈ gw := gw_t 592 (by decide +kernel) rfl
theorem g_594 : Cond.instanceMethod yX4_reaches ∈ gw := gw_t 594 (by decide +kernel) rfl
theorem g_595 : Cond.code yX4_reaches cX4_reaches 12 (some .boolean) ∈ gw := gw_t 595 (by decide +kernel) rfl
theorem g_596 : Cond.methodLink RX4 62 yX4_isHigh ∈ gw := gw_t 596 (by decide +kernel) rfl
theorem g_598 : Cond.instanceMethod yX4_isHigh ∈ gw := gw_t 598 (by decide +kernel) rfl
theorem g_599 : Cond.code yX4_isHigh cX4_isHigh 8 (some .boolean) ∈ gw := gw_t 599 (by decide +kernel) rfl
theorem g_607 : Cond.methodLink RX6 195 yX6_cell ∈ gw := gw_t 607 (by decide +kernel) rfl
theorem g_608 : Cond.methodLink RL 70 yX6_both ∈ gw := gw_t 608 (by decide +kernel) rfl
theorem g_609 : Cond.instanceMethod yX6_both ∈ gw := gw_t 609 (by decide +kernel) rfl
theorem g_610 : Cond.selects RX6 yX6_both yX6_both ∈ gw := gw_t 610 (by decide +kernel) rfl
theorem g_611 : Cond.code yX6_both cX6_both 6 (some .int) ∈ gw := gw_t 611 (by decide +kernel) rfl
theorem g_612 : Cond.methodLink RL 75 yX6_hole ∈ gw := gw_t 612 (by decide +kernel) rfl
theorem g_613 : Cond.instanceMethod yX6_hole ∈ gw := gw_t 613 (by decide +kernel) rfl
theorem g_614 : Cond.selects RX6 yX6_hole yX6_hole ∈ gw := gw_t 614 (by decide +kernel) rfl
theorem g_615 : Cond.code yX6_hole cX6_hole 8 (some .int) ∈ gw := gw_t 615 (by decide +kernel) rfl
theorem g_616 : Cond.methodLink RX6 199 yX6_farFrom ∈ gw := gw_t 616 (by decide +kernel) rfl
theorem g_618 : Cond.instanceMethod yX6_farFrom ∈ gw := gw_t 618 (by decide +kernel) rfl
theorem g_619 : Cond.code yX6_farFrom cX6_farFrom 5 (some .int) ∈ gw := gw_t 619 (by decide +kernel) rfl
theorem g_620 : Cond.methodLink RX6 326 yX6_holeAt ∈ gw := gw_t 620 (by decide +kernel) rfl
theorem g_622 : Cond.methodLink RX6 332 Lib.Math.abs.name ∈ gw := gw_t 622 (by decide +kernel) rfl
theorem g_623 : Cond.static Lib.Math.abs.name ∈ gw := gw_t 623 (by decide +kernel) rfl
theorem g_624 : Cond.code Lib.Math.abs.name Lib.Math.abs.code 1 (some .int) ∈ gw := gw_t 624 (by decide +kernel) rfl
theorem g_625 : Cond.methodLink RL 79 yX6_beat ∈ gw := gw_t 625 (by decide +kernel) rfl
theorem g_626 : Cond.instanceMethod yX6_beat ∈ gw := gw_t 626 (by decide +kernel) rfl
theorem g_627 : Cond.selects RX6 yX6_beat yX6_beat ∈ gw := gw_t 627 (by decide +kernel) rfl
theorem g_628 : Cond.code yX6_beat cX6_beat 5 (some .int) ∈ gw := gw_t 628 (by decide +kernel) rfl
theorem g_629 : Cond.methodLink RL 83 yX6_dance ∈ gw := gw_t 629 (by decide +kernel) rfl
theorem g_630 : Cond.instanceMethod yX6_dance ∈ gw := gw_t 630 (by decide +kernel) rfl
theorem g_631 : Cond.selects RX6 yX6_dance yX6_dance ∈ gw := gw_t 631 (by decide +kernel) rfl
theorem g_632 : Cond.code yX6_dance cX6_dance 3 (some .int) ∈ gw := gw_t 632 (by decide +kernel) rfl
theorem g_633 : Cond.methodLink RL 87 yX6_comesOut ∈ gw := gw_t 633 (by decide +kernel) rfl
theorem g_634 : Cond.instanceMethod yX6_comesOut ∈ gw := gw_t 634 (by decide +kernel) rfl
theorem g_635 : Cond.selects RX6 yX6_comesOut yX6_comesOut ∈ gw := gw_t 635 (by decide +kernel) rfl
theorem g_636 : Cond.code yX6_comesOut cX6_comesOut 3 (some .int) ∈ gw := gw_t 636 (by decide +kernel) rfl
theorem g_638 : Cond.methodLink RL 91 yX6_snaps ∈ gw := gw_t 638 (by decide +kernel) rfl
theorem g_639 : Cond.instanceMethod yX6_snaps ∈ gw := gw_t 639 (by decide +kernel) rfl
theorem g_640 : Cond.selects RX6 yX6_snaps yX6_snaps ∈ gw := gw_t 640 (by decide +kernel) rfl
theorem g_641 : Cond.code yX6_snaps cX6_snaps 3 (some .int) ∈ gw := gw_t 641 (by decide +kernel) rfl
theorem g_642 : Cond.methodLink RL 95 yX6_seen ∈ gw := gw_t 642 (by decide +kernel) rfl
theorem g_643 : Cond.instanceMethod yX6_seen ∈ gw := gw_t 643 (by decide +kernel) rfl
theorem g_644 : Cond.selects RX6 yX6_seen yX6_seen ∈ gw := gw_t 644 (by decide +kernel) rfl
theorem g_645 : Cond.code yX6_seen cX6_seen 5 (some .int) ∈ gw := gw_t 645 (by decide +kernel) rfl
theorem g_648 : Cond.instanceMethod yX5_isFull ∈ gw := gw_t 648 (by decide +kernel) rfl
theorem g_649 : Cond.code yX5_isFull cX5_isFull 1 (some .boolean) ∈ gw := gw_t 649 (by decide +kernel) rfl
theorem g_652 : Cond.instanceMethod yX5_append ∈ gw := gw_t 652 (by decide +kernel) rfl
theorem g_653 : Cond.code yX5_append cX5_append 7 (some .int) ∈ gw := gw_t 653 (by decide +kernel) rfl
theorem g_655 : Cond.methodLink RL 99 yX6_heavy ∈ gw := gw_t 655 (by decide +kernel) rfl
theorem g_656 : Cond.instanceMethod yX6_heavy ∈ gw := gw_t 656 (by decide +kernel) rfl
theorem g_657 : Cond.selects RX6 yX6_heavy yX6_heavy ∈ gw := gw_t 657 (by decide +kernel) rfl
theorem g_658 : Cond.code yX6_heavy cX6_heavy 4 (some .int) ∈ gw := gw_t 658 (by decide +kernel) rfl
theorem g_659 : Cond.methodLink RX6 230 yX6_fittingWeights ∈ gw := gw_t 659 (by decide +kernel) rfl
theorem g_661 : Cond.instanceMethod yX6_fittingWeights ∈ gw := gw_t 661 (by decide +kernel) rfl
theorem g_662 : Cond.code yX6_fittingWeights cX6_fittingWeights 4 (some .int) ∈ gw := gw_t 662 (by decide +kernel) rfl
theorem g_663 : Cond.methodLink RX6 335 yX6_fitsSights ∈ gw := gw_t 663 (by decide +kernel) rfl
theorem g_665 : Cond.instanceMethod yX6_fitsSights ∈ gw := gw_t 665 (by decide +kernel) rfl
theorem g_666 : Cond.code yX6_fitsSights cX6_fitsSights 5 (some .boolean) ∈ gw := gw_t 666 (by decide +kernel) rfl
theorem g_669 : Cond.instanceMethod yX5_value ∈ gw := gw_t 669 (by decide +kernel) rfl
theorem g_670 : Cond.code yX5_value cX5_value 3 (some .int) ∈ gw := gw_t 670 (by decide +kernel) rfl
theorem g_672 : Cond.methodLink RX6 341 yX6_freshHigh ∈ gw := gw_t 672 (by decide +kernel) rfl
theorem g_674 : Cond.instanceMethod yX6_freshHigh ∈ gw := gw_t 674 (by decide +kernel) rfl
theorem g_675 : Cond.code yX6_freshHigh cX6_freshHigh 5 (some .int) ∈ gw := gw_t 675 (by decide +kernel) rfl
theorem g_676 : Cond.methodLink RX6 347 yX6_dropOf ∈ gw := gw_t 676 (by decide +kernel) rfl
theorem g_677 : Cond.methodLink RX6 353 yX6_highOf ∈ gw := gw_t 677 (by decide +kernel) rfl
theorem g_678 : Cond.methodLink RX6 233 yJ6_bitCount_0f7a4 ∈ gw := gw_t 678 (by decide +kernel) rfl
theorem g_679 : Cond.static yJ6_bitCount_0f7a4 ∈ gw := gw_t 679 (by decide +kernel) rfl
theorem g_680 : Cond.code yJ6_bitCount_0f7a4 cJ6_bitCount_0f7a4 1 (some .int) ∈ gw := gw_t 680 (by decide +kernel) rfl
theorem g_681 : Cond.constant RJ6 265 (1431655765) ∈ gw := gw_t 681 (by decide +kernel) rfl
theorem g_682 : Cond.constant RJ6 266 (858993459) ∈ gw := gw_t 682 (by decide +kernel) rfl
theorem g_683 : Cond.constant RJ6 267 (252645135) ∈ gw := gw_t 683 (by decide +kernel) rfl
theorem g_684 : Cond.methodLink RX6 238 yX6_leastBit ∈ gw := gw_t 684 (by decide +kernel) rfl
theorem g_685 : Cond.static yX6_leastBit ∈ gw := gw_t 685 (by decide +kernel) rfl
theorem g_686 : Cond.code yX6_leastBit cX6_leastBit 2 (some .int) ∈ gw := gw_t 686 (by decide +kernel) rfl
theorem g_687 : Cond.methodLink RX6 308 yX6_hasBit ∈ gw := gw_t 687 (by decide +kernel) rfl
theorem g_688 : Cond.static yX6_hasBit ∈ gw := gw_t 688 (by decide +kernel) rfl
theorem g_689 : Cond.code yX6_hasBit cX6_hasBit 2 (some .boolean) ∈ gw := gw_t 689 (by decide +kernel) rfl
theorem g_690 : Cond.methodLink RX6 241 yX6_greatestBit ∈ gw := gw_t 690 (by decide +kernel) rfl
theorem g_691 : Cond.static yX6_greatestBit ∈ gw := gw_t 691 (by decide +kernel) rfl
theorem g_692 : Cond.code yX6_greatestBit cX6_greatestBit 2 (some .int) ∈ gw := gw_t 692 (by decide +kernel) rfl
theorem g_693 : Cond.methodLink RL 103 yX6_tell ∈ gw := gw_t 693 (by decide +kernel) rfl
theorem g_694 : Cond.instanceMethod yX6_tell ∈ gw := gw_t 694 (by decide +kernel) rfl
theorem g_695 : Cond.selects RX6 yX6_tell yX6_tell ∈ gw := gw_t 695 (by decide +kernel) rfl
theorem g_696 : Cond.code yX6_tell cX6_tell 7 (some .int) ∈ gw := gw_t 696 (by decide +kernel) rfl
theorem g_697 : Cond.methodLink RX6 244 yX6_alikeByLength ∈ gw := gw_t 697 (by decide +kernel) rfl
theorem g_699 : Cond.instanceMethod yX6_alikeByLength ∈ gw := gw_t 699 (by decide +kernel) rfl
theorem g_700 : Cond.code yX6_alikeByLength cX6_alikeByLength 6 (some .int) ∈ gw := gw_t 700 (by decide +kernel) rfl
theorem g_701 : Cond.methodLink RX6 356 yX6_mostAlike ∈ gw := gw_t 701 (by decide +kernel) rfl
theorem g_702 : Cond.static yX6_mostAlike ∈ gw := gw_t 702 (by decide +kernel) rfl
theorem g_703 : Cond.code yX6_mostAlike cX6_mostAlike 6 (some .int) ∈ gw := gw_t 703 (by decide +kernel) rfl
theorem g_704 : Cond.methodLink RL 107 yX6_note ∈ gw := gw_t 704 (by decide +kernel) rfl
theorem g_705 : Cond.instanceMethod yX6_note ∈ gw := gw_t 705 (by decide +kernel) rfl
theorem g_706 : Cond.selects RX6 yX6_note yX6_note ∈ gw := gw_t 706 (by decide +kernel) rfl
theorem g_707 : Cond.code yX6_note cX6_note 6 (some .int) ∈ gw := gw_t 707 (by decide +kernel) rfl
theorem g_708 : Cond.methodLink RL 111 yX6_mark ∈ gw := gw_t 708 (by decide +kernel) rfl
theorem g_709 : Cond.instanceMethod yX6_mark ∈ gw := gw_t 709 (by decide +kernel) rfl
theorem g_710 : Cond.selects RX6 yX6_mark yX6_mark ∈ gw := gw_t 710 (by decide +kernel) rfl
theorem g_711 : Cond.code yX6_mark cX6_mark 5 (some .int) ∈ gw := gw_t 711 (by decide +kernel) rfl
theorem g_712 : Cond.methodLink RL 115 yX6_forget ∈ gw := gw_t 712 (by decide +kernel) rfl
theorem g_713 : Cond.instanceMethod yX6_forget ∈ gw := gw_t 713 (by decide +kernel) rfl
theorem g_714 : Cond.selects RX6 yX6_forget yX6_forget ∈ gw := gw_t 714 (by decide +kernel) rfl
theorem g_715 : Cond.code yX6_forget cX6_forget 2 (some .int) ∈ gw := gw_t 715 (by decide +kernel) rfl
theorem g_717 : Cond.methodLink RL 119 yX6_is ∈ gw := gw_t 717 (by decide +kernel) rfl
theorem g_718 : Cond.instanceMethod yX6_is ∈ gw := gw_t 718 (by decide +kernel) rfl
theorem g_719 : Cond.selects RX6 yX6_is yX6_is ∈ gw := gw_t 719 (by decide +kernel) rfl
theorem g_720 : Cond.code yX6_is cX6_is 2 (some .int) ∈ gw := gw_t 720 (by decide +kernel) rfl
theorem g_721 : Cond.methodLink RX6 256 yX6_fittingStrings ∈ gw := gw_t 721 (by decide +kernel) rfl
theorem g_723 : Cond.instanceMethod yX6_fittingStrings ∈ gw := gw_t 723 (by decide +kernel) rfl
theorem g_724 : Cond.code yX6_fittingStrings cX6_fittingStrings 4 (some .int) ∈ gw := gw_t 724 (by decide +kernel) rfl
theorem g_725 : Cond.methodLink RX6 344 yX6_fitsNotes ∈ gw := gw_t 725 (by decide +kernel) rfl
theorem g_727 : Cond.instanceMethod yX6_fitsNotes ∈ gw := gw_t 727 (by decide +kernel) rfl
theorem g_728 : Cond.code yX6_fitsNotes cX6_fitsNotes 5 (some .boolean) ∈ gw := gw_t 728 (by decide +kernel) rfl
theorem g_729 : Cond.methodLink RL 123 yX6_look ∈ gw := gw_t 729 (by decide +kernel) rfl
theorem g_730 : Cond.instanceMethod yX6_look ∈ gw := gw_t 730 (by decide +kernel) rfl
theorem g_731 : Cond.selects RX6 yX6_look yX6_look ∈ gw := gw_t 731 (by decide +kernel) rfl
theorem g_732 : Cond.code yX6_look cX6_look 8 (some .int) ∈ gw := gw_t 732 (by decide +kernel) rfl
theorem g_733 : Cond.methodLink RX6 259 yX6_alikeByDrop ∈ gw := gw_t 733 (by decide +kernel) rfl
theorem g_735 : Cond.instanceMethod yX6_alikeByDrop ∈ gw := gw_t 735 (by decide +kernel) rfl
theorem g_736 : Cond.code yX6_alikeByDrop cX6_alikeByDrop 7 (some .int) ∈ gw := gw_t 736 (by decide +kernel) rfl
theorem g_737 : Cond.methodLink RL 127 yX6_kinds ∈ gw := gw_t 737 (by decide +kernel) rfl
theorem g_738 : Cond.instanceMethod yX6_kinds ∈ gw := gw_t 738 (by decide +kernel) rfl
theorem g_739 : Cond.selects RX6 yX6_kinds yX6_kinds ∈ gw := gw_t 739 (by decide +kernel) rfl
theorem g_740 : Cond.code yX6_kinds cX6_kinds 2 (some .int) ∈ gw := gw_t 740 (by decide +kernel) rfl
theorem g_741 : Cond.methodLink RX6 263 yX6_fittingKinds ∈ gw := gw_t 741 (by decide +kernel) rfl
theorem g_743 : Cond.instanceMethod yX6_fittingKinds ∈ gw := gw_t 743 (by decide +kernel) rfl
theorem g_744 : Cond.code yX6_fittingKinds cX6_fittingKinds 4 (some .int) ∈ gw := gw_t 744 (by decide +kernel) rfl
theorem g_745 : Cond.methodLink RX6 350 yX6_fitsMarks ∈ gw := gw_t 745 (by decide +kernel) rfl
theorem g_747 : Cond.instanceMethod yX6_fitsMarks ∈ gw := gw_t 747 (by decide +kernel) rfl
theorem g_748 : Cond.code yX6_fitsMarks cX6_fitsMarks 5 (some .boolean) ∈ gw := gw_t 748 (by decide +kernel) rfl
theorem g_749 : Cond.methodLink RL 131 yX6_ask ∈ gw := gw_t 749 (by decide +kernel) rfl
theorem g_750 : Cond.instanceMethod yX6_ask ∈ gw := gw_t 750 (by decide +kernel) rfl
theorem g_751 : Cond.selects RX6 yX6_ask yX6_ask ∈ gw := gw_t 751 (by decide +kernel) rfl
theorem g_752 : Cond.code yX6_ask cX6_ask 8 (some .int) ∈ gw := gw_t 752 (by decide +kernel) rfl
theorem g_753 : Cond.methodLink RX6 266 yX6_alikeByHigh ∈ gw := gw_t 753 (by decide +kernel) rfl
theorem g_755 : Cond.instanceMethod yX6_alikeByHigh ∈ gw := gw_t 755 (by decide +kernel) rfl
theorem g_756 : Cond.code yX6_alikeByHigh cX6_alikeByHigh 6 (some .int) ∈ gw := gw_t 756 (by decide +kernel) rfl
theorem g_757 : Cond.methodLink RL 135 yX6_hands ∈ gw := gw_t 757 (by decide +kernel) rfl
theorem g_758 : Cond.instanceMethod yX6_hands ∈ gw := gw_t 758 (by decide +kernel) rfl
theorem g_759 : Cond.selects RX6 yX6_hands yX6_hands ∈ gw := gw_t 759 (by decide +kernel) rfl
theorem g_760 : Cond.code yX6_hands cX6_hands 7 (some .int) ∈ gw := gw_t 760 (by decide +kernel) rfl
theorem g_763 : Cond.instanceMethod yX0_weigh ∈ gw := gw_t 763 (by decide +kernel) rfl
theorem g_764 : Cond.code yX0_weigh cX0_weigh 9 none ∈ gw := gw_t 764 (by decide +kernel) rfl
theorem g_768 : Cond.methodLink RX0 38 yX0_place ∈ gw := gw_t 768 (by decide +kernel) rfl
theorem g_769 : Cond.static yX0_place ∈ gw := gw_t 769 (by decide +kernel) rfl
theorem g_770 : Cond.code yX0_place cX0_place 2 (some .int) ∈ gw := gw_t 770 (by decide +kernel) rfl
theorem g_771 : Cond.methodLink RX0 42 yX0_toll ∈ gw := gw_t 771 (by decide +kernel) rfl
theorem g_772 : Cond.static yX0_toll ∈ gw := gw_t 772 (by decide +kernel) rfl
theorem g_773 : Cond.code yX0_toll cX0_toll 1 (some .int) ∈ gw := gw_t 773 (by decide +kernel) rfl
theorem g_777 : Cond.instanceMethod yX0_rests ∈ gw := gw_t 777 (by decide +kernel) rfl
theorem g_778 : Cond.code yX0_rests cX0_rests 4 (some .boolean) ∈ gw := gw_t 778 (by decide +kernel) rfl
theorem g_780 : Cond.methodLink RL 139 yX6_slack ∈ gw := gw_t 780 (by decide +kernel) rfl
theorem g_781 : Cond.instanceMethod yX6_slack ∈ gw := gw_t 781 (by decide +kernel) rfl
theorem g_782 : Cond.selects RX6 yX6_slack yX6_slack ∈ gw := gw_t 782 (by decide +kernel) rfl
theorem g_783 : Cond.code yX6_slack cX6_slack 6 (some .int) ∈ gw := gw_t 783 (by decide +kernel) rfl
theorem g_784 : Cond.constantLong RX6 276 (10) ∈ gw := gw_t 784 (by decide +kernel) rfl
theorem g_785 : Cond.methodLink RX6 278 yX6_chanceOfSlack ∈ gw := gw_t 785 (by decide +kernel) rfl
theorem g_787 : Cond.instanceMethod yX6_chanceOfSlack ∈ gw := gw_t 787 (by decide +kernel) rfl
theorem g_788 : Cond.code yX6_chanceOfSlack cX6_chanceOfSlack 11 (some .long) ∈ gw := gw_t 788 (by decide +kernel) rfl
theorem g_789 : Cond.methodLink RX6 282 yX6_setFraction ∈ gw := gw_t 789 (by decide +kernel) rfl
theorem g_791 : Cond.instanceMethod yX6_setFraction ∈ gw := gw_t 791 (by decide +kernel) rfl
theorem g_792 : Cond.code yX6_setFraction cX6_setFraction 12 none ∈ gw := gw_t 792 (by decide +kernel) rfl
theorem g_793 : Cond.methodLink RL 143 yX6_nights ∈ gw := gw_t 793 (by decide +kernel) rfl
theorem g_794 : Cond.instanceMethod yX6_nights ∈ gw := gw_t 794 (by decide +kernel) rfl
theorem g_795 : Cond.selects RX6 yX6_nights yX6_nights ∈ gw := gw_t 795 (by decide +kernel) rfl
theorem g_796 : Cond.code yX6_nights cX6_nights 6 (some .int) ∈ gw := gw_t 796 (by decide +kernel) rfl
theorem g_797 : Cond.constant RX6 286 (999999) ∈ gw := gw_t 797 (by decide +kernel) rfl
theorem g_798 : Cond.constantLong RX6 287 (1103515245) ∈ gw := gw_t 798 (by decide +kernel) rfl
theorem g_799 : Cond.constantLong RX6 289 (12345) ∈ gw := gw_t 799 (by decide +kernel) rfl
theorem g_800 : Cond.constantLong RX6 291 (2147483648) ∈ gw := gw_t 800 (by decide +kernel) rfl
theorem g_801 : Cond.constantLong RX6 293 (65536) ∈ gw := gw_t 801 (by decide +kernel) rfl
theorem g_802 : Cond.constantLong RX6 295 (5) ∈ gw := gw_t 802 (by decide +kernel) rfl
theorem g_803 : Cond.methodLink RL 147 yX6_part ∈ gw := gw_t 803 (by decide +kernel) rfl
theorem g_804 : Cond.instanceMethod yX6_part ∈ gw := gw_t 804 (by decide +kernel) rfl
theorem g_805 : Cond.selects RX6 yX6_part yX6_part ∈ gw := gw_t 805 (by decide +kernel) rfl
theorem g_806 : Cond.code yX6_part cX6_part 2 (some .long) ∈ gw := gw_t 806 (by decide +kernel) rfl
theorem g_807 : Cond.methodLink RL 152 yX6_image ∈ gw := gw_t 807 (by decide +kernel) rfl
theorem g_808 : Cond.instanceMethod yX6_image ∈ gw := gw_t 808 (by decide +kernel) rfl
theorem g_809 : Cond.selects RX6 yX6_image yX6_image ∈ gw := gw_t 809 (by decide +kernel) rfl
theorem g_810 : Cond.code yX6_image cX6_image 2 (some .int) ∈ gw := gw_t 810 (by decide +kernel) rfl
theorem g_811 : Cond.methodLink RL 156 yX6_from ∈ gw := gw_t 811 (by decide +kernel) rfl
theorem g_812 : Cond.instanceMethod yX6_from ∈ gw := gw_t 812 (by decide +kernel) rfl
theorem g_813 : Cond.selects RX6 yX6_from yX6_from ∈ gw := gw_t 813 (by decide +kernel) rfl
theorem g_814 : Cond.code yX6_from cX6_from 3 (some .int) ∈ gw := gw_t 814 (by decide +kernel) rfl
theorem g_815 : Cond.methodLink RL 160 yX6_status ∈ gw := gw_t 815 (by decide +kernel) rfl
theorem g_816 : Cond.instanceMethod yX6_status ∈ gw := gw_t 816 (by decide +kernel) rfl
theorem g_817 : Cond.selects RX6 yX6_status yX6_status ∈ gw := gw_t 817 (by decide +kernel) rfl
theorem g_818 : Cond.code yX6_status cX6_status 2 (some .int) ∈ gw := gw_t 818 (by decide +kernel) rfl
theorem g_819 : Cond.methodLink RL 164 yX6_count ∈ gw := gw_t 819 (by decide +kernel) rfl
theorem g_820 : Cond.instanceMethod yX6_count ∈ gw := gw_t 820 (by decide +kernel) rfl
theorem g_821 : Cond.selects RX6 yX6_count yX6_count ∈ gw := gw_t 821 (by decide +kernel) rfl
theorem g_822 : Cond.code yX6_count cX6_count 2 (some .int) ∈ gw := gw_t 822 (by decide +kernel) rfl
theorem g_823 : Cond.methodLink RX6 297 yX6_counted ∈ gw := gw_t 823 (by decide +kernel) rfl
theorem g_825 : Cond.instanceMethod yX6_counted ∈ gw := gw_t 825 (by decide +kernel) rfl
theorem g_826 : Cond.code yX6_counted cX6_counted 2 (some .int) ∈ gw := gw_t 826 (by decide +kernel) rfl
theorem g_829 : Cond.instanceMethod yX2_wornTogether ∈ gw := gw_t 829 (by decide +kernel) rfl
theorem g_830 : Cond.code yX2_wornTogether cX2_wornTogether 3 (some .int) ∈ gw := gw_t 830 (by decide +kernel) rfl
theorem g_831 : Cond.methodLink RL 168 yX6_digest ∈ gw := gw_t 831 (by decide +kernel) rfl
theorem g_832 : Cond.instanceMethod yX6_digest ∈ gw := gw_t 832 (by decide +kernel) rfl
theorem g_833 : Cond.selects RX6 yX6_digest yX6_digest ∈ gw := gw_t 833 (by decide +kernel) rfl
theorem g_834 : Cond.code yX6_digest cX6_digest 5 (some .long) ∈ gw := gw_t 834 (by decide +kernel) rfl
theorem g_835 : Cond.constantLong RX6 300 (1783) ∈ gw := gw_t 835 (by decide +kernel) rfl
theorem g_836 : Cond.constantLong RX6 302 (31) ∈ gw := gw_t 836 (by decide +kernel) rfl
theorem g_839 : Cond.instanceMethod yX5_digestOn ∈ gw := gw_t 839 (by decide +kernel) rfl
theorem g_840 : Cond.code yX5_digestOn cX5_digestOn 6 (some .long) ∈ gw := gw_t 840 (by decide +kernel) rfl
theorem g_841 : Cond.constantLong RX5 43 (31) ∈ gw := gw_t 841 (by decide +kernel) rfl
theorem g_847 : Cond.methodLink RX7 1 objectInit ∈ gw := gw_t 847 (by decide +kernel) rfl
theorem g_848 : Cond.methodLink RX7 38 yX7_begins ∈ gw := gw_t 848 (by decide +kernel) rfl
theorem g_850 : Cond.instanceMethod yX7_begins ∈ gw := gw_t 850 (by decide +kernel) rfl
theorem g_851 : Cond.code yX7_begins cX7_begins 3 none ∈ gw := gw_t 851 (by decide +kernel) rfl
theorem g_852 : Cond.fieldLink RX7 7 "StringPuppetsModel" "now" "[I" ∈ gw := gw_t 852 (by decide +kernel) rfl
theorem g_853 : Cond.fieldLink RX7 42 "StringPuppetsModel" "bads" "I" ∈ gw := gw_t 853 (by decide +kernel) rfl
theorem g_854 : Cond.fieldLink RX7 46 "StringPuppetsModel" "nos" "I" ∈ gw := gw_t 854 (by decide +kernel) rfl
theorem g_855 : Cond.fieldLink RX7 49 "StringPuppetsModel" "fulls" "I" ∈ gw := gw_t 855 (by decide +kernel) rfl
theorem g_856 : Cond.fieldLink RX7 274 "StringPuppetsModel" "above" "J" ∈ gw := gw_t 856 (by decide +kernel) rfl
theorem g_857 : Cond.fieldLink RX7 13 "StringPuppetsModel" "below" "J" ∈ gw := gw_t 857 (by decide +kernel) rfl
theorem g_858 : Cond.fieldLink RX7 17 "StringPuppetsModel" "text" "[I" ∈ gw := gw_t 858 (by decide +kernel) rfl
theorem g_859 : Cond.fieldLink RX7 109 "StringPuppetsModel" "typed" "I" ∈ gw := gw_t 859 (by decide +kernel) rfl
theorem g_860 : Cond.fieldLink RX7 144 "StringPuppetsModel" "place" "I" ∈ gw := gw_t 860 (by decide +kernel) rfl
theorem g_861 : Cond.fieldLink RX7 151 "StringPuppetsModel" "begin" "I" ∈ gw := gw_t 861 (by decide +kernel) rfl
theorem g_862 : Cond.fieldLink RX7 156 "StringPuppetsModel" "token" "I" ∈ gw := gw_t 862 (by decide +kernel) rfl
theorem g_863 : Cond.fieldLink RX7 162 "StringPuppetsModel" "value" "I" ∈ gw := gw_t 863 (by decide +kernel) rfl
theorem g_864 : Cond.fieldLink RX7 169 "StringPuppetsModel" "fault" "I" ∈ gw := gw_t 864 (by decide +kernel) rfl
theorem g_865 : Cond.fieldLink RX7 20 "StringPuppetsModel" "whole" "[I" ∈ gw := gw_t 865 (by decide +kernel) rfl
theorem g_866 : Cond.fieldLink RX7 23 "StringPuppetsModel" "aside" "[I" ∈ gw := gw_t 866 (by decide +kernel) rfl
theorem g_867 : Cond.fieldLink RX7 232 "StringPuppetsModel" "rowNumber" "I" ∈ gw := gw_t 867 (by decide +kernel) rfl
theorem g_868 : Cond.fieldLink RX7 26 "StringPuppetsModel" "would" "[I" ∈ gw := gw_t 868 (by decide +kernel) rfl
theorem g_869 : Cond.fieldLink RX7 29 "StringPuppetsModel" "gainsA" "[I" ∈ gw := gw_t 869 (by decide +kernel) rfl
theorem g_870 : Cond.fieldLink RX7 32 "StringPuppetsModel" "gainsB" "[I" ∈ gw := gw_t 870 (by decide +kernel) rfl
theorem g_871 : Cond.fieldLink RX7 35 "StringPuppetsModel" "kept" "[I" ∈ gw := gw_t 871 (by decide +kernel) rfl
theorem g_872 : Cond.fieldLink RX7 293 "StringPuppetsModel" "keptMany" "I" ∈ gw := gw_t 872 (by decide +kernel) rfl
theorem g_916 : Cond.methodLink RL 17 yX7_puppet ∈ gw := gw_t 916 (by decide +kernel) rfl
theorem g_917 : Cond.instanceMethod yX7_puppet ∈ gw := gw_t 917 (by decide +kernel) rfl
theorem g_918 : Cond.selects RX7 yX7_puppet yX7_puppet ∈ gw := gw_t 918 (by decide +kernel) rfl
theorem g_919 : Cond.code yX7_puppet cX7_puppet 3 (some .int) ∈ gw := gw_t 919 (by decide +kernel) rfl
theorem g_920 : Cond.constantLong RX7 82 (40) ∈ gw := gw_t 920 (by decide +kernel) rfl
theorem g_921 : Cond.methodLink RX7 52 yX7_in ∈ gw := gw_t 921 (by decide +kernel) rfl
theorem g_922 : Cond.static yX7_in ∈ gw := gw_t 922 (by decide +kernel) rfl
theorem g_923 : Cond.code yX7_in cX7_in 6 (some .boolean) ∈ gw := gw_t 923 (by decide +kernel) rfl
theorem g_924 : Cond.methodLink RX7 84 yX7_bad ∈ gw := gw_t 924 (by decide +kernel) rfl
theorem g_926 : Cond.instanceMethod yX7_bad ∈ gw := gw_t 926 (by decide +kernel) rfl
theorem g_927 : Cond.code yX7_bad cX7_bad 1 (some .int) ∈ gw := gw_t 927 (by decide +kernel) rfl
theorem g_928 : Cond.methodLink RL 22 yX7_limb ∈ gw := gw_t 928 (by decide +kernel) rfl
theorem g_929 : Cond.instanceMethod yX7_limb ∈ gw := gw_t 929 (by decide +kernel) rfl
theorem g_930 : Cond.selects RX7 yX7_limb yX7_limb ∈ gw := gw_t 930 (by decide +kernel) rfl
theorem g_931 : Cond.code yX7_limb cX7_limb 6 (some .int) ∈ gw := gw_t 931 (by decide +kernel) rfl
theorem g_932 : Cond.methodLink RX7 96 yX7_isLimbBy ∈ gw := gw_t 932 (by decide +kernel) rfl
theorem g_933 : Cond.static yX7_isLimbBy ∈ gw := gw_t 933 (by decide +kernel) rfl
theorem g_934 : Cond.code yX7_isLimbBy cX7_isLimbBy 5 (some .boolean) ∈ gw := gw_t 934 (by decide +kernel) rfl
theorem g_935 : Cond.constantLong RX7 88 (5) ∈ gw := gw_t 935 (by decide +kernel) rfl
theorem g_936 : Cond.constantLong RX7 90 (9) ∈ gw := gw_t 936 (by decide +kernel) rfl
theorem g_937 : Cond.constantLong RX7 92 (20) ∈ gw := gw_t 937 (by decide +kernel) rfl
theorem g_938 : Cond.constantLong RX7 94 (8) ∈ gw := gw_t 938 (by decide +kernel) rfl
theorem g_939 : Cond.methodLink RX7 100 yX7_full ∈ gw := gw_t 939 (by decide +kernel) rfl
theorem g_941 : Cond.instanceMethod yX7_full ∈ gw := gw_t 941 (by decide +kernel) rfl
theorem g_942 : Cond.code yX7_full cX7_full 1 (some .int) ∈ gw := gw_t 942 (by decide +kernel) rfl
theorem g_943 : Cond.methodLink RX7 103 yX7_limbComes ∈ gw := gw_t 943 (by decide +kernel) rfl
theorem g_945 : Cond.instanceMethod yX7_limbComes ∈ gw := gw_t 945 (by decide +kernel) rfl
theorem g_946 : Cond.code yX7_limbComes cX7_limbComes 7 none ∈ gw := gw_t 946 (by decide +kernel) rfl
theorem g_947 : Cond.methodLink RX7 75 yX7_sets ∈ gw := gw_t 947 (by decide +kernel) rfl
theorem g_949 : Cond.instanceMethod yX7_sets ∈ gw := gw_t 949 (by decide +kernel) rfl
theorem g_950 : Cond.code yX7_sets cX7_sets 4 none ∈ gw := gw_t 950 (by decide +kernel) rfl
theorem g_951 : Cond.methodLink RL 26 yX7_type ∈ gw := gw_t 951 (by decide +kernel) rfl
theorem g_952 : Cond.instanceMethod yX7_type ∈ gw := gw_t 952 (by decide +kernel) rfl
theorem g_953 : Cond.selects RX7 yX7_type yX7_type ∈ gw := gw_t 953 (by decide +kernel) rfl
theorem g_954 : Cond.code yX7_type cX7_type 2 (some .int) ∈ gw := gw_t 954 (by decide +kernel) rfl
theorem g_955 : Cond.constantLong RX7 107 (127) ∈ gw := gw_t 955 (by decide +kernel) rfl
theorem g_956 : Cond.methodLink RL 31 yX7_clear ∈ gw := gw_t 956 (by decide +kernel) rfl
theorem g_957 : Cond.instanceMethod yX7_clear ∈ gw := gw_t 957 (by decide +kernel) rfl
theorem g_958 : Cond.selects RX7 yX7_clear yX7_clear ∈ gw := gw_t 958 (by decide +kernel) rfl
theorem g_959 : Cond.code yX7_clear cX7_clear 2 (some .int) ∈ gw := gw_t 959 (by decide +kernel) rfl
theorem g_960 : Cond.methodLink RL 35 yX7_read ∈ gw := gw_t 960 (by decide +kernel) rfl
theorem g_961 : Cond.instanceMethod yX7_read ∈ gw := gw_t 961 (by decide +kernel) rfl
theorem g_962 : Cond.selects RX7 yX7_read yX7_read ∈ gw := gw_t 962 (by decide +kernel) rfl
theorem g_963 : Cond.code yX7_read cX7_read 4 (some .int) ∈ gw := gw_t 963 (by decide +kernel) rfl
theorem g_964 : Cond.methodLink RX7 172 yX7_looksOn ∈ gw := gw_t 964 (by decide +kernel) rfl
theorem g_966 : Cond.instanceMethod yX7_looksOn ∈ gw := gw_t 966 (by decide +kernel) rfl
theorem g_967 : Cond.code yX7_looksOn cX7_looksOn 2 none ∈ gw := gw_t 967 (by decide +kernel) rfl
theorem g_968 : Cond.methodLink RX7 147 yX7_byteAt ∈ gw := gw_t 968 (by decide +kernel) rfl
theorem g_970 : Cond.instanceMethod yX7_byteAt ∈ gw := gw_t 970 (by decide +kernel) rfl
theorem g_971 : Cond.code yX7_byteAt cX7_byteAt 2 (some .int) ∈ gw := gw_t 971 (by decide +kernel) rfl
theorem g_972 : Cond.constantLong RX7 138 (97) ∈ gw := gw_t 972 (by decide +kernel) rfl
theorem g_973 : Cond.constantLong RX7 154 (122) ∈ gw := gw_t 973 (by decide +kernel) rfl
theorem g_974 : Cond.methodLink RX7 159 yX7_wordAt ∈ gw := gw_t 974 (by decide +kernel) rfl
theorem g_976 : Cond.instanceMethod yX7_wordAt ∈ gw := gw_t 976 (by decide +kernel) rfl
theorem g_977 : Cond.code yX7_wordAt cX7_wordAt 6 (some .int) ∈ gw := gw_t 977 (by decide +kernel) rfl
theorem g_978 : Cond.constantLong RX7 112 (112) ∈ gw := gw_t 978 (by decide +kernel) rfl
theorem g_979 : Cond.constantLong RX7 114 (117) ∈ gw := gw_t 979 (by decide +kernel) rfl
theorem g_980 : Cond.constantLong RX7 116 (101) ∈ gw := gw_t 980 (by decide +kernel) rfl
theorem g_981 : Cond.constantLong RX7 118 (116) ∈ gw := gw_t 981 (by decide +kernel) rfl
theorem g_982 : Cond.methodLink RX7 120 yX7_word ∈ gw := gw_t 982 (by decide +kernel) rfl
theorem g_983 : Cond.static yX7_word ∈ gw := gw_t 983 (by decide +kernel) rfl
theorem g_984 : Cond.code yX7_word cX7_word 12 (some .long) ∈ gw := gw_t 984 (by decide +kernel) rfl
theorem g_985 : Cond.constantLong RX7 124 (108) ∈ gw := gw_t 985 (by decide +kernel) rfl
theorem g_986 : Cond.constantLong RX7 126 (105) ∈ gw := gw_t 986 (by decide +kernel) rfl
theorem g_987 : Cond.constantLong RX7 128 (109) ∈ gw := gw_t 987 (by decide +kernel) rfl
theorem g_988 : Cond.constantLong RX7 130 (98) ∈ gw := gw_t 988 (by decide +kernel) rfl
theorem g_989 : Cond.constantLong RX7 132 (111) ∈ gw := gw_t 989 (by decide +kernel) rfl
theorem g_990 : Cond.constantLong RX7 134 (118) ∈ gw := gw_t 990 (by decide +kernel) rfl
theorem g_991 : Cond.constantLong RX7 136 (104) ∈ gw := gw_t 991 (by decide +kernel) rfl
theorem g_992 : Cond.constantLong RX7 140 (110) ∈ gw := gw_t 992 (by decide +kernel) rfl
theorem g_993 : Cond.constantLong RX7 142 (103) ∈ gw := gw_t 993 (by decide +kernel) rfl
theorem g_994 : Cond.constantLong RX7 165 (48) ∈ gw := gw_t 994 (by decide +kernel) rfl
theorem g_995 : Cond.constantLong RX7 167 (57) ∈ gw := gw_t 995 (by decide +kernel) rfl
theorem g_996 : Cond.methodLink RX7 175 yX7_must ∈ gw := gw_t 996 (by decide +kernel) rfl
theorem g_998 : Cond.instanceMethod yX7_must ∈ gw := gw_t 998 (by decide +kernel) rfl
theorem g_999 : Cond.code yX7_must cX7_must 2 none ∈ gw := gw_t 999 (by decide +kernel) rfl
theorem g_1000 : Cond.methodLink RX7 179 yX7_number ∈ gw := gw_t 1000 (by decide +kernel) rfl
theorem g_1002 : Cond.instanceMethod yX7_number ∈ gw := gw_t 1002 (by decide +kernel) rfl
theorem g_1003 : Cond.code yX7_number cX7_number 4 (some .int) ∈ gw := gw_t 1003 (by decide +kernel) rfl
theorem g_1004 : Cond.methodLink RX7 199 yX7_readsItem ∈ gw := gw_t 1004 (by decide +kernel) rfl
theorem g_1006 : Cond.instanceMethod yX7_readsItem ∈ gw := gw_t 1006 (by decide +kernel) rfl
theorem g_1007 : Cond.code yX7_readsItem cX7_readsItem 4 none ∈ gw := gw_t 1007 (by decide +kernel) rfl
theorem g_1008 : Cond.methodLink RX7 187 yX7_readsLimb ∈ gw := gw_t 1008 (by decide +kernel) rfl
theorem g_1010 : Cond.instanceMethod yX7_readsLimb ∈ gw := gw_t 1010 (by decide +kernel) rfl
theorem g_1011 : Cond.code yX7_readsLimb cX7_readsLimb 6 none ∈ gw := gw_t 1011 (by decide +kernel) rfl
theorem g_1012 : Cond.methodLink RX7 190 yX7_readsMoves ∈ gw := gw_t 1012 (by decide +kernel) rfl
theorem g_1014 : Cond.instanceMethod yX7_readsMoves ∈ gw := gw_t 1014 (by decide +kernel) rfl
theorem g_1015 : Cond.code yX7_readsMoves cX7_readsMoves 3 none ∈ gw := gw_t 1015 (by decide +kernel) rfl
theorem g_1016 : Cond.constantLong RX7 182 (4) ∈ gw := gw_t 1016 (by decide +kernel) rfl
theorem g_1017 : Cond.methodLink RX7 184 yX7_goes ∈ gw := gw_t 1017 (by decide +kernel) rfl
theorem g_1019 : Cond.instanceMethod yX7_goes ∈ gw := gw_t 1019 (by decide +kernel) rfl
theorem g_1020 : Cond.code yX7_goes cX7_goes 4 none ∈ gw := gw_t 1020 (by decide +kernel) rfl
theorem g_1021 : Cond.methodLink RX7 79 yX7_wears ∈ gw := gw_t 1021 (by decide +kernel) rfl
theorem g_1023 : Cond.instanceMethod yX7_wears ∈ gw := gw_t 1023 (by decide +kernel) rfl
theorem g_1024 : Cond.code yX7_wears cX7_wears 4 none ∈ gw := gw_t 1024 (by decide +kernel) rfl
theorem g_1025 : Cond.methodLink RX7 60 yX7_isSnapped ∈ gw := gw_t 1025 (by decide +kernel) rfl
theorem g_1027 : Cond.instanceMethod yX7_isSnapped ∈ gw := gw_t 1027 (by decide +kernel) rfl
theorem g_1028 : Cond.code yX7_isSnapped cX7_isSnapped 2 (some .boolean) ∈ gw := gw_t 1028 (by decide +kernel) rfl
theorem g_1029 : Cond.methodLink RX7 56 yX7_limbOf ∈ gw := gw_t 1029 (by decide +kernel) rfl
theorem g_1031 : Cond.instanceMethod yX7_limbOf ∈ gw := gw_t 1031 (by decide +kernel) rfl
theorem g_1032 : Cond.code yX7_limbOf cX7_limbOf 3 (some .int) ∈ gw := gw_t 1032 (by decide +kernel) rfl
theorem g_1033 : Cond.methodLink RX7 193 yX7_isLimb ∈ gw := gw_t 1033 (by decide +kernel) rfl
theorem g_1035 : Cond.instanceMethod yX7_isLimb ∈ gw := gw_t 1035 (by decide +kernel) rfl
theorem g_1036 : Cond.code yX7_isLimb cX7_isLimb 2 (some .boolean) ∈ gw := gw_t 1036 (by decide +kernel) rfl
theorem g_1037 : Cond.methodLink RX7 196 yX7_unsnaps ∈ gw := gw_t 1037 (by decide +kernel) rfl
theorem g_1039 : Cond.instanceMethod yX7_unsnaps ∈ gw := gw_t 1039 (by decide +kernel) rfl
theorem g_1040 : Cond.code yX7_unsnaps cX7_unsnaps 2 none ∈ gw := gw_t 1040 (by decide +kernel) rfl
theorem g_1041 : Cond.methodLink RL 39 yX7_moves ∈ gw := gw_t 1041 (by decide +kernel) rfl
theorem g_1042 : Cond.instanceMethod yX7_moves ∈ gw := gw_t 1042 (by decide +kernel) rfl
theorem g_1043 : Cond.selects RX7 yX7_moves yX7_moves ∈ gw := gw_t 1043 (by decide +kernel) rfl
theorem g_1044 : Cond.code yX7_moves cX7_moves 2 (some .int) ∈ gw := gw_t 1044 (by decide +kernel) rfl
theorem g_1045 : Cond.methodLink RX7 202 yX7_no ∈ gw := gw_t 1045 (by decide +kernel) rfl
theorem g_1047 : Cond.instanceMethod yX7_no ∈ gw := gw_t 1047 (by decide +kernel) rfl
theorem g_1048 : Cond.code yX7_no cX7_no 1 (some .int) ∈ gw := gw_t 1048 (by decide +kernel) rfl
theorem g_1049 : Cond.methodLink RX7 205 yX7_notes ∈ gw := gw_t 1049 (by decide +kernel) rfl
theorem g_1051 : Cond.instanceMethod yX7_notes ∈ gw := gw_t 1051 (by decide +kernel) rfl
theorem g_1052 : Cond.code yX7_notes cX7_notes 4 none ∈ gw := gw_t 1052 (by decide +kernel) rfl
theorem g_1053 : Cond.methodLink RX7 208 yX7_snapped ∈ gw := gw_t 1053 (by decide +kernel) rfl
theorem g_1055 : Cond.instanceMethod yX7_snapped ∈ gw := gw_t 1055 (by decide +kernel) rfl
theorem g_1056 : Cond.code yX7_snapped cX7_snapped 3 (some .int) ∈ gw := gw_t 1056 (by decide +kernel) rfl
theorem g_1057 : Cond.methodLink RL 43 yX7_ties ∈ gw := gw_t 1057 (by decide +kernel) rfl
theorem g_1058 : Cond.instanceMethod yX7_ties ∈ gw := gw_t 1058 (by decide +kernel) rfl
theorem g_1059 : Cond.selects RX7 yX7_ties yX7_ties ∈ gw := gw_t 1059 (by decide +kernel) rfl
theorem g_1060 : Cond.code yX7_ties cX7_ties 3 (some .int) ∈ gw := gw_t 1060 (by decide +kernel) rfl
theorem g_1061 : Cond.methodLink RL 48 yX7_hangs ∈ gw := gw_t 1061 (by decide +kernel) rfl
theorem g_1062 : Cond.instanceMethod yX7_hangs ∈ gw := gw_t 1062 (by decide +kernel) rfl
theorem g_1063 : Cond.selects RX7 yX7_hangs yX7_hangs ∈ gw := gw_t 1063 (by decide +kernel) rfl
theorem g_1064 : Cond.code yX7_hangs cX7_hangs 4 (some .int) ∈ gw := gw_t 1064 (by decide +kernel) rfl
theorem g_1065 : Cond.methodLink RL 52 yX7_undo ∈ gw := gw_t 1065 (by decide +kernel) rfl
theorem g_1066 : Cond.instanceMethod yX7_undo ∈ gw := gw_t 1066 (by decide +kernel) rfl
theorem g_1067 : Cond.selects RX7 yX7_undo yX7_undo ∈ gw := gw_t 1067 (by decide +kernel) rfl
theorem g_1068 : Cond.code yX7_undo cX7_undo 4 (some .int) ∈ gw := gw_t 1068 (by decide +kernel) rfl
theorem g_1069 : Cond.methodLink RL 56 yX7_of ∈ gw := gw_t 1069 (by decide +kernel) rfl
theorem g_1070 : Cond.instanceMethod yX7_of ∈ gw := gw_t 1070 (by decide +kernel) rfl
theorem g_1071 : Cond.selects RX7 yX7_of yX7_of ∈ gw := gw_t 1071 (by decide +kernel) rfl
theorem g_1072 : Cond.code yX7_of cX7_of 3 (some .int) ∈ gw := gw_t 1072 (by decide +kernel) rfl
theorem g_1073 : Cond.constantLong RX7 211 (7) ∈ gw := gw_t 1073 (by decide +kernel) rfl
theorem g_1074 : Cond.methodLink RX7 213 yX7_high ∈ gw := gw_t 1074 (by decide +kernel) rfl
theorem g_1076 : Cond.instanceMethod yX7_high ∈ gw := gw_t 1076 (by decide +kernel) rfl
theorem g_1077 : Cond.code yX7_high cX7_high 2 (some .int) ∈ gw := gw_t 1077 (by decide +kernel) rfl
theorem g_1078 : Cond.methodLink RX7 72 yX7_highIn ∈ gw := gw_t 1078 (by decide +kernel) rfl
theorem g_1080 : Cond.instanceMethod yX7_highIn ∈ gw := gw_t 1080 (by decide +kernel) rfl
theorem g_1081 : Cond.code yX7_highIn cX7_highIn 4 (some .int) ∈ gw := gw_t 1081 (by decide +kernel) rfl
theorem g_1082 : Cond.methodLink RX7 64 yX7_drops ∈ gw := gw_t 1082 (by decide +kernel) rfl
theorem g_1083 : Cond.static yX7_drops ∈ gw := gw_t 1083 (by decide +kernel) rfl
theorem g_1084 : Cond.code yX7_drops cX7_drops 4 (some .int) ∈ gw := gw_t 1084 (by decide +kernel) rfl
theorem g_1085 : Cond.methodLink RX7 68 yX7_comesTo ∈ gw := gw_t 1085 (by decide +kernel) rfl
theorem g_1086 : Cond.static yX7_comesTo ∈ gw := gw_t 1086 (by decide +kernel) rfl
theorem g_1087 : Cond.code yX7_comesTo cX7_comesTo 5 (some .int) ∈ gw := gw_t 1087 (by decide +kernel) rfl
theorem g_1088 : Cond.methodLink RL 60 yX7_touch ∈ gw := gw_t 1088 (by decide +kernel) rfl
theorem g_1089 : Cond.instanceMethod yX7_touch ∈ gw := gw_t 1089 (by decide +kernel) rfl
theorem g_1090 : Cond.selects RX7 yX7_touch yX7_touch ∈ gw := gw_t 1090 (by decide +kernel) rfl
theorem g_1091 : Cond.code yX7_touch cX7_touch 6 (some .int) ∈ gw := gw_t 1091 (by decide +kernel) rfl
theorem g_1092 : Cond.methodLink RX7 216 yX7_badTen ∈ gw := gw_t 1092 (by decide +kernel) rfl
theorem g_1094 : Cond.instanceMethod yX7_badTen ∈ gw := gw_t 1094 (by decide +kernel) rfl
theorem g_1095 : Cond.code yX7_badTen cX7_badTen 1 (some .int) ∈ gw := gw_t 1095 (by decide +kernel) rfl
theorem g_1096 : Cond.methodLink RX7 219 yX7_found ∈ gw := gw_t 1096 (by decide +kernel) rfl
theorem g_1098 : Cond.instanceMethod yX7_found ∈ gw := gw_t 1098 (by decide +kernel) rfl
theorem g_1099 : Cond.code yX7_found cX7_found 4 (some .int) ∈ gw := gw_t 1099 (by decide +kernel) rfl
theorem g_1100 : Cond.methodLink RL 64 yX7_safe ∈ gw := gw_t 1100 (by decide +kernel) rfl
theorem g_1101 : Cond.instanceMethod yX7_safe ∈ gw := gw_t 1101 (by decide +kernel) rfl
theorem g_1102 : Cond.selects RX7 yX7_safe yX7_safe ∈ gw := gw_t 1102 (by decide +kernel) rfl
theorem g_1103 : Cond.code yX7_safe cX7_safe 3 (some .int) ∈ gw := gw_t 1103 (by decide +kernel) rfl
theorem g_1104 : Cond.methodLink RX7 222 yX7_asides ∈ gw := gw_t 1104 (by decide +kernel) rfl
theorem g_1106 : Cond.instanceMethod yX7_asides ∈ gw := gw_t 1106 (by decide +kernel) rfl
theorem g_1107 : Cond.code yX7_asides cX7_asides 2 none ∈ gw := gw_t 1107 (by decide +kernel) rfl
theorem g_1108 : Cond.methodLink RX7 225 yX7_backs ∈ gw := gw_t 1108 (by decide +kernel) rfl
theorem g_1110 : Cond.instanceMethod yX7_backs ∈ gw := gw_t 1110 (by decide +kernel) rfl
theorem g_1111 : Cond.code yX7_backs cX7_backs 2 none ∈ gw := gw_t 1111 (by decide +kernel) rfl
theorem g_1112 : Cond.methodLink RL 69 yX7_few ∈ gw := gw_t 1112 (by decide +kernel) rfl
theorem g_1113 : Cond.instanceMethod yX7_few ∈ gw := gw_t 1113 (by decide +kernel) rfl
theorem g_1114 : Cond.selects RX7 yX7_few yX7_few ∈ gw := gw_t 1114 (by decide +kernel) rfl
theorem g_1115 : Cond.code yX7_few cX7_few 8 (some .int) ∈ gw := gw_t 1115 (by decide +kernel) rfl
theorem g_1116 : Cond.constantLong RX7 235 (-40) ∈ gw := gw_t 1116 (by decide +kernel) rfl
theorem g_1117 : Cond.constantLong RX7 237 (60) ∈ gw := gw_t 1117 (by decide +kernel) rfl
theorem g_1118 : Cond.methodLink RX7 239 yX7_fewest ∈ gw := gw_t 1118 (by decide +kernel) rfl
theorem g_1120 : Cond.instanceMethod yX7_fewest ∈ gw := gw_t 1120 (by decide +kernel) rfl
theorem g_1121 : Cond.code yX7_fewest cX7_fewest 9 (some .int) ∈ gw := gw_t 1121 (by decide +kernel) rfl
theorem g_1122 : Cond.methodLink RX7 228 yX7_goesBy ∈ gw := gw_t 1122 (by decide +kernel) rfl
theorem g_1124 : Cond.instanceMethod yX7_goesBy ∈ gw := gw_t 1124 (by decide +kernel) rfl
theorem g_1125 : Cond.code yX7_goesBy cX7_goesBy 5 none ∈ gw := gw_t 1125 (by decide +kernel) rfl
theorem g_1126 : Cond.methodLink RL 74 yX7_both ∈ gw := gw_t 1126 (by decide +kernel) rfl
theorem g_1127 : Cond.instanceMethod yX7_both ∈ gw := gw_t 1127 (by decide +kernel) rfl
theorem g_1128 : Cond.selects RX7 yX7_both yX7_both ∈ gw := gw_t 1128 (by decide +kernel) rfl
theorem g_1129 : Cond.code yX7_both cX7_both 5 (some .int) ∈ gw := gw_t 1129 (by decide +kernel) rfl
theorem g_1130 : Cond.methodLink RL 78 yX7_hole ∈ gw := gw_t 1130 (by decide +kernel) rfl
theorem g_1131 : Cond.instanceMethod yX7_hole ∈ gw := gw_t 1131 (by decide +kernel) rfl
theorem g_1132 : Cond.selects RX7 yX7_hole yX7_hole ∈ gw := gw_t 1132 (by decide +kernel) rfl
theorem g_1133 : Cond.code yX7_hole cX7_hole 6 (some .int) ∈ gw := gw_t 1133 (by decide +kernel) rfl
theorem g_1134 : Cond.methodLink RX7 242 yX7_off ∈ gw := gw_t 1134 (by decide +kernel) rfl
theorem g_1135 : Cond.static yX7_off ∈ gw := gw_t 1135 (by decide +kernel) rfl
theorem g_1136 : Cond.code yX7_off cX7_off 2 (some .int) ∈ gw := gw_t 1136 (by decide +kernel) rfl
theorem g_1137 : Cond.methodLink RL 82 yX7_beat ∈ gw := gw_t 1137 (by decide +kernel) rfl
theorem g_1138 : Cond.instanceMethod yX7_beat ∈ gw := gw_t 1138 (by decide +kernel) rfl
theorem g_1139 : Cond.selects RX7 yX7_beat yX7_beat ∈ gw := gw_t 1139 (by decide +kernel) rfl
theorem g_1140 : Cond.code yX7_beat cX7_beat 5 (some .int) ∈ gw := gw_t 1140 (by decide +kernel) rfl
theorem g_1141 : Cond.methodLink RL 86 yX7_dance ∈ gw := gw_t 1141 (by decide +kernel) rfl
theorem g_1142 : Cond.instanceMethod yX7_dance ∈ gw := gw_t 1142 (by decide +kernel) rfl
theorem g_1143 : Cond.selects RX7 yX7_dance yX7_dance ∈ gw := gw_t 1143 (by decide +kernel) rfl
theorem g_1144 : Cond.code yX7_dance cX7_dance 3 (some .int) ∈ gw := gw_t 1144 (by decide +kernel) rfl
theorem g_1145 : Cond.constantLong RX7 245 (6) ∈ gw := gw_t 1145 (by decide +kernel) rfl
theorem g_1146 : Cond.methodLink RL 90 yX7_comesOut ∈ gw := gw_t 1146 (by decide +kernel) rfl
theorem g_1147 : Cond.instanceMethod yX7_comesOut ∈ gw := gw_t 1147 (by decide +kernel) rfl
theorem g_1148 : Cond.selects RX7 yX7_comesOut yX7_comesOut ∈ gw := gw_t 1148 (by decide +kernel) rfl
theorem g_1149 : Cond.code yX7_comesOut cX7_comesOut 3 (some .int) ∈ gw := gw_t 1149 (by decide +kernel) rfl
theorem g_1150 : Cond.methodLink RL 94 yX7_snaps ∈ gw := gw_t 1150 (by decide +kernel) rfl
theorem g_1151 : Cond.instanceMethod yX7_snaps ∈ gw := gw_t 1151 (by decide +kernel) rfl
theorem g_1152 : Cond.selects RX7 yX7_snaps yX7_snaps ∈ gw := gw_t 1152 (by decide +kernel) rfl
theorem g_1153 : Cond.code yX7_snaps cX7_snaps 4 (some .int) ∈ gw := gw_t 1153 (by decide +kernel) rfl
theorem g_1154 : Cond.methodLink RL 98 yX7_seen ∈ gw := gw_t 1154 (by decide +kernel) rfl
theorem g_1155 : Cond.instanceMethod yX7_seen ∈ gw := gw_t 1155 (by decide +kernel) rfl
theorem g_1156 : Cond.selects RX7 yX7_seen yX7_seen ∈ gw := gw_t 1156 (by decide +kernel) rfl
theorem g_1157 : Cond.code yX7_seen cX7_seen 5 (some .int) ∈ gw := gw_t 1157 (by decide +kernel) rfl
theorem g_1158 : Cond.methodLink RX7 247 yX7_tells ∈ gw := gw_t 1158 (by decide +kernel) rfl
theorem g_1160 : Cond.instanceMethod yX7_tells ∈ gw := gw_t 1160 (by decide +kernel) rfl
theorem g_1161 : Cond.code yX7_tells cX7_tells 10 (some .int) ∈ gw := gw_t 1161 (by decide +kernel) rfl
theorem g_1162 : Cond.methodLink RL 110 yX7_note ∈ gw := gw_t 1162 (by decide +kernel) rfl
theorem g_1163 : Cond.instanceMethod yX7_note ∈ gw := gw_t 1163 (by decide +kernel) rfl
theorem g_1164 : Cond.selects RX7 yX7_note yX7_note ∈ gw := gw_t 1164 (by decide +kernel) rfl
theorem g_1165 : Cond.code yX7_note cX7_note 6 (some .int) ∈ gw := gw_t 1165 (by decide +kernel) rfl
theorem g_1166 : Cond.constantLong RX7 251 (99) ∈ gw := gw_t 1166 (by decide +kernel) rfl
theorem g_1167 : Cond.methodLink RL 114 yX7_mark ∈ gw := gw_t 1167 (by decide +kernel) rfl
theorem g_1168 : Cond.instanceMethod yX7_mark ∈ gw := gw_t 1168 (by decide +kernel) rfl
theorem g_1169 : Cond.selects RX7 yX7_mark yX7_mark ∈ gw := gw_t 1169 (by decide +kernel) rfl
theorem g_1170 : Cond.code yX7_mark cX7_mark 5 (some .int) ∈ gw := gw_t 1170 (by decide +kernel) rfl
theorem g_1171 : Cond.methodLink RL 118 yX7_forget ∈ gw := gw_t 1171 (by decide +kernel) rfl
theorem g_1172 : Cond.instanceMethod yX7_forget ∈ gw := gw_t 1172 (by decide +kernel) rfl
theorem g_1173 : Cond.selects RX7 yX7_forget yX7_forget ∈ gw := gw_t 1173 (by decide +kernel) rfl
theorem g_1174 : Cond.code yX7_forget cX7_forget 4 (some .int) ∈ gw := gw_t 1174 (by decide +kernel) rfl
theorem g_1175 : Cond.constantLong RX7 253 (2) ∈ gw := gw_t 1175 (by decide +kernel) rfl
theorem g_1176 : Cond.methodLink RL 102 yX7_heavy ∈ gw := gw_t 1176 (by decide +kernel) rfl
theorem g_1177 : Cond.instanceMethod yX7_heavy ∈ gw := gw_t 1177 (by decide +kernel) rfl
theorem g_1178 : Cond.selects RX7 yX7_heavy yX7_heavy ∈ gw := gw_t 1178 (by decide +kernel) rfl
theorem g_1179 : Cond.code yX7_heavy cX7_heavy 9 (some .int) ∈ gw := gw_t 1179 (by decide +kernel) rfl
theorem g_1180 : Cond.methodLink RX7 258 yX7_weights ∈ gw := gw_t 1180 (by decide +kernel) rfl
theorem g_1182 : Cond.instanceMethod yX7_weights ∈ gw := gw_t 1182 (by decide +kernel) rfl
theorem g_1183 : Cond.code yX7_weights cX7_weights 7 (some .int) ∈ gw := gw_t 1183 (by decide +kernel) rfl
theorem g_1184 : Cond.methodLink RX7 255 yX7_heavyHigh ∈ gw := gw_t 1184 (by decide +kernel) rfl
theorem g_1186 : Cond.instanceMethod yX7_heavyHigh ∈ gw := gw_t 1186 (by decide +kernel) rfl
theorem g_1187 : Cond.code yX7_heavyHigh cX7_heavyHigh 5 (some .int) ∈ gw := gw_t 1187 (by decide +kernel) rfl
theorem g_1188 : Cond.methodLink RL 106 yX7_tell ∈ gw := gw_t 1188 (by decide +kernel) rfl
theorem g_1189 : Cond.instanceMethod yX7_tell ∈ gw := gw_t 1189 (by decide +kernel) rfl
theorem g_1190 : Cond.selects RX7 yX7_tell yX7_tell ∈ gw := gw_t 1190 (by decide +kernel) rfl
theorem g_1191 : Cond.code yX7_tell cX7_tell 7 (some .int) ∈ gw := gw_t 1191 (by decide +kernel) rfl
theorem g_1192 : Cond.methodLink RX7 261 yX7_parted ∈ gw := gw_t 1192 (by decide +kernel) rfl
theorem g_1194 : Cond.instanceMethod yX7_parted ∈ gw := gw_t 1194 (by decide +kernel) rfl
theorem g_1195 : Cond.code yX7_parted cX7_parted 7 (some .int) ∈ gw := gw_t 1195 (by decide +kernel) rfl
theorem g_1196 : Cond.methodLink RL 122 yX7_is ∈ gw := gw_t 1196 (by decide +kernel) rfl
theorem g_1197 : Cond.instanceMethod yX7_is ∈ gw := gw_t 1197 (by decide +kernel) rfl
theorem g_1198 : Cond.selects RX7 yX7_is yX7_is ∈ gw := gw_t 1198 (by decide +kernel) rfl
theorem g_1199 : Cond.code yX7_is cX7_is 2 (some .int) ∈ gw := gw_t 1199 (by decide +kernel) rfl
theorem g_1200 : Cond.methodLink RX7 264 yX7_stringsOf ∈ gw := gw_t 1200 (by decide +kernel) rfl
theorem g_1202 : Cond.instanceMethod yX7_stringsOf ∈ gw := gw_t 1202 (by decide +kernel) rfl
theorem g_1203 : Cond.code yX7_stringsOf cX7_stringsOf 7 (some .int) ∈ gw := gw_t 1203 (by decide +kernel) rfl
theorem g_1204 : Cond.methodLink RL 126 yX7_look ∈ gw := gw_t 1204 (by decide +kernel) rfl
theorem g_1205 : Cond.instanceMethod yX7_look ∈ gw := gw_t 1205 (by decide +kernel) rfl
theorem g_1206 : Cond.selects RX7 yX7_look yX7_look ∈ gw := gw_t 1206 (by decide +kernel) rfl
theorem g_1207 : Cond.code yX7_look cX7_look 7 (some .int) ∈ gw := gw_t 1207 (by decide +kernel) rfl
theorem g_1208 : Cond.methodLink RL 130 yX7_kinds ∈ gw := gw_t 1208 (by decide +kernel) rfl
theorem g_1209 : Cond.instanceMethod yX7_kinds ∈ gw := gw_t 1209 (by decide +kernel) rfl
theorem g_1210 : Cond.selects RX7 yX7_kinds yX7_kinds ∈ gw := gw_t 1210 (by decide +kernel) rfl
theorem g_1211 : Cond.code yX7_kinds cX7_kinds 2 (some .int) ∈ gw := gw_t 1211 (by decide +kernel) rfl
theorem g_1212 : Cond.methodLink RX7 267 yX7_kindsOf ∈ gw := gw_t 1212 (by decide +kernel) rfl
theorem g_1214 : Cond.instanceMethod yX7_kindsOf ∈ gw := gw_t 1214 (by decide +kernel) rfl
theorem g_1215 : Cond.code yX7_kindsOf cX7_kindsOf 7 (some .int) ∈ gw := gw_t 1215 (by decide +kernel) rfl
theorem g_1216 : Cond.methodLink RL 134 yX7_ask ∈ gw := gw_t 1216 (by decide +kernel) rfl
theorem g_1217 : Cond.instanceMethod yX7_ask ∈ gw := gw_t 1217 (by decide +kernel) rfl
theorem g_1218 : Cond.selects RX7 yX7_ask yX7_ask ∈ gw := gw_t 1218 (by decide +kernel) rfl
theorem g_1219 : Cond.code yX7_ask cX7_ask 7 (some .int) ∈ gw := gw_t 1219 (by decide +kernel) rfl
theorem g_1220 : Cond.methodLink RL 138 yX7_hands ∈ gw := gw_t 1220 (by decide +kernel) rfl
theorem g_1221 : Cond.instanceMethod yX7_hands ∈ gw := gw_t 1221 (by decide +kernel) rfl
theorem g_1222 : Cond.selects RX7 yX7_hands yX7_hands ∈ gw := gw_t 1222 (by decide +kernel) rfl
theorem g_1223 : Cond.code yX7_hands cX7_hands 10 (some .int) ∈ gw := gw_t 1223 (by decide +kernel) rfl
theorem g_1224 : Cond.methodLink RX7 270 yX7_rests ∈ gw := gw_t 1224 (by decide +kernel) rfl
theorem g_1226 : Cond.instanceMethod yX7_rests ∈ gw := gw_t 1226 (by decide +kernel) rfl
theorem g_1227 : Cond.code yX7_rests cX7_rests 5 (some .boolean) ∈ gw := gw_t 1227 (by decide +kernel) rfl
theorem g_1228 : Cond.methodLink RL 142 yX7_slack ∈ gw := gw_t 1228 (by decide +kernel) rfl
theorem g_1229 : Cond.instanceMethod yX7_slack ∈ gw := gw_t 1229 (by decide +kernel) rfl
theorem g_1230 : Cond.selects RX7 yX7_slack yX7_slack ∈ gw := gw_t 1230 (by decide +kernel) rfl
theorem g_1231 : Cond.code yX7_slack cX7_slack 12 (some .int) ∈ gw := gw_t 1231 (by decide +kernel) rfl
theorem g_1232 : Cond.constantLong RX7 277 (10) ∈ gw := gw_t 1232 (by decide +kernel) rfl
theorem g_1233 : Cond.methodLink RX7 279 yX7_fraction ∈ gw := gw_t 1233 (by decide +kernel) rfl
theorem g_1235 : Cond.instanceMethod yX7_fraction ∈ gw := gw_t 1235 (by decide +kernel) rfl
theorem g_1236 : Cond.code yX7_fraction cX7_fraction 11 (some .int) ∈ gw := gw_t 1236 (by decide +kernel) rfl
theorem g_1237 : Cond.methodLink RL 146 yX7_nights ∈ gw := gw_t 1237 (by decide +kernel) rfl
theorem g_1238 : Cond.instanceMethod yX7_nights ∈ gw := gw_t 1238 (by decide +kernel) rfl
theorem g_1239 : Cond.selects RX7 yX7_nights yX7_nights ∈ gw := gw_t 1239 (by decide +kernel) rfl
theorem g_1240 : Cond.code yX7_nights cX7_nights 6 (some .int) ∈ gw := gw_t 1240 (by decide +kernel) rfl
theorem g_1241 : Cond.constantLong RX7 283 (999999) ∈ gw := gw_t 1241 (by decide +kernel) rfl
theorem g_1242 : Cond.constantLong RX7 285 (1103515245) ∈ gw := gw_t 1242 (by decide +kernel) rfl
theorem g_1243 : Cond.constantLong RX7 287 (12345) ∈ gw := gw_t 1243 (by decide +kernel) rfl
theorem g_1244 : Cond.constantLong RX7 289 (2147483648) ∈ gw := gw_t 1244 (by decide +kernel) rfl
theorem g_1245 : Cond.constantLong RX7 291 (65536) ∈ gw := gw_t 1245 (by decide +kernel) rfl
theorem g_1246 : Cond.methodLink RL 151 yX7_part ∈ gw := gw_t 1246 (by decide +kernel) rfl
theorem g_1247 : Cond.instanceMethod yX7_part ∈ gw := gw_t 1247 (by decide +kernel) rfl
theorem g_1248 : Cond.selects RX7 yX7_part yX7_part ∈ gw := gw_t 1248 (by decide +kernel) rfl
theorem g_1249 : Cond.code yX7_part cX7_part 2 (some .long) ∈ gw := gw_t 1249 (by decide +kernel) rfl
theorem g_1250 : Cond.methodLink RL 155 yX7_image ∈ gw := gw_t 1250 (by decide +kernel) rfl
theorem g_1251 : Cond.instanceMethod yX7_image ∈ gw := gw_t 1251 (by decide +kernel) rfl
theorem g_1252 : Cond.selects RX7 yX7_image yX7_image ∈ gw := gw_t 1252 (by decide +kernel) rfl
theorem g_1253 : Cond.code yX7_image cX7_image 3 (some .int) ∈ gw := gw_t 1253 (by decide +kernel) rfl
theorem g_1254 : Cond.methodLink RL 159 yX7_from ∈ gw := gw_t 1254 (by decide +kernel) rfl
theorem g_1255 : Cond.instanceMethod yX7_from ∈ gw := gw_t 1255 (by decide +kernel) rfl
theorem g_1256 : Cond.selects RX7 yX7_from yX7_from ∈ gw := gw_t 1256 (by decide +kernel) rfl
theorem g_1257 : Cond.code yX7_from cX7_from 3 (some .int) ∈ gw := gw_t 1257 (by decide +kernel) rfl
theorem g_1258 : Cond.methodLink RL 163 yX7_status ∈ gw := gw_t 1258 (by decide +kernel) rfl
theorem g_1259 : Cond.instanceMethod yX7_status ∈ gw := gw_t 1259 (by decide +kernel) rfl
theorem g_1260 : Cond.selects RX7 yX7_status yX7_status ∈ gw := gw_t 1260 (by decide +kernel) rfl
theorem g_1261 : Cond.code yX7_status cX7_status 2 (some .int) ∈ gw := gw_t 1261 (by decide +kernel) rfl
theorem g_1262 : Cond.methodLink RL 167 yX7_count ∈ gw := gw_t 1262 (by decide +kernel) rfl
theorem g_1263 : Cond.instanceMethod yX7_count ∈ gw := gw_t 1263 (by decide +kernel) rfl
theorem g_1264 : Cond.selects RX7 yX7_count yX7_count ∈ gw := gw_t 1264 (by decide +kernel) rfl
theorem g_1265 : Cond.code yX7_count cX7_count 2 (some .int) ∈ gw := gw_t 1265 (by decide +kernel) rfl
theorem g_1266 : Cond.methodLink RX7 296 yX7_counted ∈ gw := gw_t 1266 (by decide +kernel) rfl
theorem g_1268 : Cond.instanceMethod yX7_counted ∈ gw := gw_t 1268 (by decide +kernel) rfl
theorem g_1269 : Cond.code yX7_counted cX7_counted 4 (some .int) ∈ gw := gw_t 1269 (by decide +kernel) rfl
theorem g_1270 : Cond.methodLink RL 172 yX7_digest ∈ gw := gw_t 1270 (by decide +kernel) rfl
theorem g_1271 : Cond.instanceMethod yX7_digest ∈ gw := gw_t 1271 (by decide +kernel) rfl
theorem g_1272 : Cond.selects RX7 yX7_digest yX7_digest ∈ gw := gw_t 1272 (by decide +kernel) rfl
theorem g_1273 : Cond.code yX7_digest cX7_digest 4 (some .long) ∈ gw := gw_t 1273 (by decide +kernel) rfl
theorem g_1274 : Cond.constantLong RX7 301 (1783) ∈ gw := gw_t 1274 (by decide +kernel) rfl
theorem g_1275 : Cond.constantLong RX7 299 (31) ∈ gw := gw_t 1275 (by decide +kernel) rfl
theorem g_1276 : Cond.methodLink RX7 303 yX7_over ∈ gw := gw_t 1276 (by decide +kernel) rfl
theorem g_1278 : Cond.instanceMethod yX7_over ∈ gw := gw_t 1278 (by decide +kernel) rfl
theorem g_1279 : Cond.code yX7_over cX7_over 8 (some .long) ∈ gw := gw_t 1279 (by decide +kernel) rfl
theorem g_1280 : Cond.fieldLink RJ0 9 "java/lang/String" "value" "[B" ∈ gw := gw_t 1280 (by decide +kernel) rfl
theorem g_1281 : Cond.fieldLink RJ0 15 "java/lang/String" "coder" "B" ∈ gw := gw_t 1281 (by decide +kernel) rfl
theorem gs_0 : Cond.selects RX6 yX6_refuseBad yX6_refuseBad ∈ gw := gw_s 0 (q := (yX6_refuseBad, 16)) (by decide +kernel)
theorem gs_1 : Cond.selects RX2 yX2_begin yX2_begin ∈ gw := gw_s 1 (q := (yX2_begin, 15)) (by decide +kernel)
theorem gs_2 : Cond.selects RX1 yX1_begin yX1_begin ∈ gw := gw_s 2 (q := (yX1_begin, 5)) (by decide +kernel)
theorem gs_3 : Cond.selects RX5 yX5_drain yX5_drain ∈ gw := gw_s 3 (q := (yX5_drain, 4)) (by decide +kernel)
theorem gs_4 : Cond.selects RX6 yX6_refuseFull yX6_refuseFull ∈ gw := gw_s 4 (q := (yX6_refuseFull, 16)) (by decide +kernel)
theorem gs_5 : Cond.selects RX2 yX2_add yX2_add ∈ gw := gw_s 5 (q := (yX2_add, 15)) (by decide +kernel)
theorem gs_6 : Cond.selects RX3 yX3_append yX3_append ∈ gw := gw_s 6 (q := (yX3_append, 6)) (by decide +kernel)
theorem gs_7 : Cond.selects RX3 yX3_readInto yX3_readInto ∈ gw := gw_s 7 (q := (yX3_readInto, 6)) (by decide +kernel)
theorem gs_8 : Cond.selects RX3 yX3_takeOpening yX3_takeOpening ∈ gw := gw_s 8 (q := (yX3_takeOpening, 6)) (by decide +kernel)
theorem gs_9 : Cond.selects RX3 yX3_advance yX3_advance ∈ gw := gw_s 9 (q := (yX3_advance, 6)) (by decide +kernel)
theorem gs_10 : Cond.selects RX3 yX3_runEnd yX3_runEnd ∈ gw := gw_s 10 (q := (yX3_runEnd, 6)) (by decide +kernel)
theorem gs_11 : Cond.selects RX3 yX3_isWord yX3_isWord ∈ gw := gw_s 11 (q := (yX3_isWord, 6)) (by decide +kernel)
theorem gs_12 : Cond.selects RX3 yX3_takeNumber yX3_takeNumber ∈ gw := gw_s 12 (q := (yX3_takeNumber, 6)) (by decide +kernel)
theorem gs_13 : Cond.selects RX3 yX3_isNumber yX3_isNumber ∈ gw := gw_s 13 (q := (yX3_isNumber, 6)) (by decide +kernel)
theorem gs_14 : Cond.selects RX3 yX3_takeSemicolon yX3_takeSemicolon ∈ gw := gw_s 14 (q := (yX3_takeSemicolon, 6)) (by decide +kernel)
theorem gs_15 : Cond.selects RX3 yX3_takeItem yX3_takeItem ∈ gw := gw_s 15 (q := (yX3_takeItem, 6)) (by decide +kernel)
theorem gs_16 : Cond.selects RX3 yX3_takeLimb yX3_takeLimb ∈ gw := gw_s 16 (q := (yX3_takeLimb, 6)) (by decide +kernel)
theorem gs_17 : Cond.selects RX3 yX3_takeMoves yX3_takeMoves ∈ gw := gw_s 17 (q := (yX3_takeMoves, 6)) (by decide +kernel)
theorem gs_18 : Cond.selects RX2 yX2_step yX2_step ∈ gw := gw_s 18 (q := (yX2_step, 15)) (by decide +kernel)
theorem gs_19 : Cond.selects RX2 yX2_weightOf yX2_weightOf ∈ gw := gw_s 19 (q := (yX2_weightOf, 15)) (by decide +kernel)
theorem gs_20 : Cond.selects RX3 yX3_takeTie yX3_takeTie ∈ gw := gw_s 20 (q := (yX3_takeTie, 6)) (by decide +kernel)
theorem gs_21 : Cond.selects RX2 yX2_wornOf yX2_wornOf ∈ gw := gw_s 21 (q := (yX2_wornOf, 15)) (by decide +kernel)
theorem gs_22 : Cond.selects RX3 yX3_takeHang yX3_takeHang ∈ gw := gw_s 22 (q := (yX3_takeHang, 6)) (by decide +kernel)
theorem gs_23 : Cond.selects RX2 yX2_become yX2_become ∈ gw := gw_s 23 (q := (yX2_become, 15)) (by decide +kernel)
theorem gs_24 : Cond.selects RX1 yX1_become yX1_become ∈ gw := gw_s 24 (q := (yX1_become, 5)) (by decide +kernel)
theorem gs_25 : Cond.selects RX2 yX2_pastAt yX2_pastAt ∈ gw := gw_s 25 (q := (yX2_pastAt, 15)) (by decide +kernel)
theorem gs_26 : Cond.selects RX5 yX5_become yX5_become ∈ gw := gw_s 26 (q := (yX5_become, 4)) (by decide +kernel)
theorem gs_27 : Cond.selects RX6 yX6_refuseNo yX6_refuseNo ∈ gw := gw_s 27 (q := (yX6_refuseNo, 16)) (by decide +kernel)
theorem gs_28 : Cond.selects RX2 yX2_remember yX2_remember ∈ gw := gw_s 28 (q := (yX2_remember, 15)) (by decide +kernel)
theorem gs_29 : Cond.selects RX2 yX2_snappedIn yX2_snappedIn ∈ gw := gw_s 29 (q := (yX2_snappedIn, 15)) (by decide +kernel)
theorem gs_30 : Cond.selects RX6 yX6_noLimb yX6_noLimb ∈ gw := gw_s 30 (q := (yX6_noLimb, 16)) (by decide +kernel)
theorem gs_31 : Cond.selects RX2 yX2_holeOf yX2_holeOf ∈ gw := gw_s 31 (q := (yX2_holeOf, 15)) (by decide +kernel)
theorem gs_32 : Cond.selects RX2 yX2_goBack yX2_goBack ∈ gw := gw_s 32 (q := (yX2_goBack, 15)) (by decide +kernel)
theorem gs_33 : Cond.selects RX2 yX2_tellOf yX2_tellOf ∈ gw := gw_s 33 (q := (yX2_tellOf, 15)) (by decide +kernel)
theorem gs_34 : Cond.selects RX2 yX2_highIn yX2_highIn ∈ gw := gw_s 34 (q := (yX2_highIn, 15)) (by decide +kernel)
theorem gs_35 : Cond.selects RX2 yX2_highFrom yX2_highFrom ∈ gw := gw_s 35 (q := (yX2_highFrom, 15)) (by decide +kernel)
theorem gs_36 : Cond.selects RX6 yX6_touching yX6_touching ∈ gw := gw_s 36 (q := (yX6_touching, 16)) (by decide +kernel)
theorem gs_37 : Cond.selects RX4 yX4_fewest yX4_fewest ∈ gw := gw_s 37 (q := (yX4_fewest, 8)) (by decide +kernel)
theorem gs_38 : Cond.selects RX4 yX4_reaches yX4_reaches ∈ gw := gw_s 38 (q := (yX4_reaches, 8)) (by decide +kernel)
theorem gs_39 : Cond.selects RX4 yX4_isHigh yX4_isHigh ∈ gw := gw_s 39 (q := (yX4_isHigh, 8)) (by decide +kernel)
theorem gs_40 : Cond.selects RX6 yX6_farFrom yX6_farFrom ∈ gw := gw_s 40 (q := (yX6_farFrom, 16)) (by decide +kernel)
theorem gs_41 : Cond.selects RX5 yX5_isFull yX5_isFull ∈ gw := gw_s 41 (q := (yX5_isFull, 4)) (by decide +kernel)
theorem gs_42 : Cond.selects RX5 yX5_append yX5_append ∈ gw := gw_s 42 (q := (yX5_append, 4)) (by decide +kernel)
theorem gs_43 : Cond.selects RX6 yX6_fittingWeights yX6_fittingWeights ∈ gw := gw_s 43 (q := (yX6_fittingWeights, 16)) (by decide +kernel)
theorem gs_44 : Cond.selects RX6 yX6_fitsSights yX6_fitsSights ∈ gw := gw_s 44 (q := (yX6_fitsSights, 16)) (by decide +kernel)
theorem gs_45 : Cond.selects RX5 yX5_value yX5_value ∈ gw := gw_s 45 (q := (yX5_value, 4)) (by decide +kernel)
theorem gs_46 : Cond.selects RX6 yX6_freshHigh yX6_freshHigh ∈ gw := gw_s 46 (q := (yX6_freshHigh, 16)) (by decide +kernel)
theorem gs_47 : Cond.selects RX6 yX6_alikeByLength yX6_alikeByLength ∈ gw := gw_s 47 (q := (yX6_alikeByLength, 16)) (by decide +kernel)
theorem gs_48 : Cond.selects RX6 yX6_fittingStrings yX6_fittingStrings ∈ gw := gw_s 48 (q := (yX6_fittingStrings, 16)) (by decide +kernel)
theorem gs_49 : Cond.selects RX6 yX6_fitsNotes yX6_fitsNotes ∈ gw := gw_s 49 (q := (yX6_fitsNotes, 16)) (by decide +kernel)
theorem gs_50 : Cond.selects RX6 yX6_alikeByDrop yX6_alikeByDrop ∈ gw := gw_s 50 (q := (yX6_alikeByDrop, 16)) (by decide +kernel)
theorem gs_51 : Cond.selects RX6 yX6_fittingKinds yX6_fittingKinds ∈ gw := gw_s 51 (q := (yX6_fittingKinds, 16)) (by decide +kernel)
theorem gs_52 : Cond.selects RX6 yX6_fitsMarks yX6_fitsMarks ∈ gw := gw_s 52 (q := (yX6_fitsMarks, 16)) (by decide +kernel)
theorem gs_53 : Cond.selects RX6 yX6_alikeByHigh yX6_alikeByHigh ∈ gw := gw_s 53 (q := (yX6_alikeByHigh, 16)) (by decide +kernel)
theorem gs_54 : Cond.selects RX0 yX0_weigh yX0_weigh ∈ gw := gw_s 54 (q := (yX0_weigh, 2)) (by decide +kernel)
theorem gs_55 : Cond.selects RX0 yX0_rests yX0_rests ∈ gw := gw_s 55 (q := (yX0_rests, 2)) (by decide +kernel)
theorem gs_56 : Cond.selects RX6 yX6_chanceOfSlack yX6_chanceOfSlack ∈ gw := gw_s 56 (q := (yX6_chanceOfSlack, 16)) (by decide +kernel)
theorem gs_57 : Cond.selects RX6 yX6_setFraction yX6_setFraction ∈ gw := gw_s 57 (q := (yX6_setFraction, 16)) (by decide +kernel)
theorem gs_58 : Cond.selects RX6 yX6_counted yX6_counted ∈ gw := gw_s 58 (q := (yX6_counted, 16)) (by decide +kernel)
theorem gs_59 : Cond.selects RX2 yX2_wornTogether yX2_wornTogether ∈ gw := gw_s 59 (q := (yX2_wornTogether, 15)) (by decide +kernel)
theorem gs_60 : Cond.selects RX5 yX5_digestOn yX5_digestOn ∈ gw := gw_s 60 (q := (yX5_digestOn, 4)) (by decide +kernel)
theorem gs_61 : Cond.selects RX7 yX7_begins yX7_begins ∈ gw := gw_s 61 (q := (yX7_begins, 21)) (by decide +kernel)
theorem gs_62 : Cond.selects RX7 yX7_bad yX7_bad ∈ gw := gw_s 62 (q := (yX7_bad, 21)) (by decide +kernel)
theorem gs_63 : Cond.selects RX7 yX7_full yX7_full ∈ gw := gw_s 63 (q := (yX7_full, 21)) (by decide +kernel)
theorem gs_64 : Cond.selects RX7 yX7_limbComes yX7_limbComes ∈ gw := gw_s 64 (q := (yX7_limbComes, 21)) (by decide +kernel)
theorem gs_65 : Cond.selects RX7 yX7_sets yX7_sets ∈ gw := gw_s 65 (q := (yX7_sets, 21)) (by decide +kernel)
theorem gs_66 : Cond.selects RX7 yX7_looksOn yX7_looksOn ∈ gw := gw_s 66 (q := (yX7_looksOn, 21)) (by decide +kernel)
theorem gs_67 : Cond.selects RX7 yX7_byteAt yX7_byteAt ∈ gw := gw_s 67 (q := (yX7_byteAt, 21)) (by decide +kernel)
theorem gs_68 : Cond.selects RX7 yX7_wordAt yX7_wordAt ∈ gw := gw_s 68 (q := (yX7_wordAt, 21)) (by decide +kernel)
theorem gs_69 : Cond.selects RX7 yX7_must yX7_must ∈ gw := gw_s 69 (q := (yX7_must, 21)) (by decide +kernel)
theorem gs_70 : Cond.selects RX7 yX7_number yX7_number ∈ gw := gw_s 70 (q := (yX7_number, 21)) (by decide +kernel)
theorem gs_71 : Cond.selects RX7 yX7_readsItem yX7_readsItem ∈ gw := gw_s 71 (q := (yX7_readsItem, 21)) (by decide +kernel)
theorem gs_72 : Cond.selects RX7 yX7_readsLimb yX7_readsLimb ∈ gw := gw_s 72 (q := (yX7_readsLimb, 21)) (by decide +kernel)
theorem gs_73 : Cond.selects RX7 yX7_readsMoves yX7_readsMoves ∈ gw := gw_s 73 (q := (yX7_readsMoves, 21)) (by decide +kernel)
theorem gs_74 : Cond.selects RX7 yX7_goes yX7_goes ∈ gw := gw_s 74 (q := (yX7_goes, 21)) (by decide +kernel)
theorem gs_75 : Cond.selects RX7 yX7_wears yX7_wears ∈ gw := gw_s 75 (q := (yX7_wears, 21)) (by decide +kernel)
theorem gs_76 : Cond.selects RX7 yX7_isSnapped yX7_isSnapped ∈ gw := gw_s 76 (q := (yX7_isSnapped, 21)) (by decide +kernel)
theorem gs_77 : Cond.selects RX7 yX7_limbOf yX7_limbOf ∈ gw := gw_s 77 (q := (yX7_limbOf, 21)) (by decide +kernel)
theorem gs_78 : Cond.selects RX7 yX7_isLimb yX7_isLimb ∈ gw := gw_s 78 (q := (yX7_isLimb, 21)) (by decide +kernel)
theorem gs_79 : Cond.selects RX7 yX7_unsnaps yX7_unsnaps ∈ gw := gw_s 79 (q := (yX7_unsnaps, 21)) (by decide +kernel)
theorem gs_80 : Cond.selects RX7 yX7_no yX7_no ∈ gw := gw_s 80 (q := (yX7_no, 21)) (by decide +kernel)
theorem gs_81 : Cond.selects RX7 yX7_notes yX7_notes ∈ gw := gw_s 81 (q := (yX7_notes, 21)) (by decide +kernel)
theorem gs_82 : Cond.selects RX7 yX7_snapped yX7_snapped ∈ gw := gw_s 82 (q := (yX7_snapped, 21)) (by decide +kernel)
theorem gs_83 : Cond.selects RX7 yX7_high yX7_high ∈ gw := gw_s 83 (q := (yX7_high, 21)) (by decide +kernel)
theorem gs_84 : Cond.selects RX7 yX7_highIn yX7_highIn ∈ gw := gw_s 84 (q := (yX7_highIn, 21)) (by decide +kernel)
theorem gs_85 : Cond.selects RX7 yX7_badTen yX7_badTen ∈ gw := gw_s 85 (q := (yX7_badTen, 21)) (by decide +kernel)
theorem gs_86 : Cond.selects RX7 yX7_found yX7_found ∈ gw := gw_s 86 (q := (yX7_found, 21)) (by decide +kernel)
theorem gs_87 : Cond.selects RX7 yX7_asides yX7_asides ∈ gw := gw_s 87 (q := (yX7_asides, 21)) (by decide +kernel)
theorem gs_88 : Cond.selects RX7 yX7_backs yX7_backs ∈ gw := gw_s 88 (q := (yX7_backs, 21)) (by decide +kernel)
theorem gs_89 : Cond.selects RX7 yX7_fewest yX7_fewest ∈ gw := gw_s 89 (q := (yX7_fewest, 21)) (by decide +kernel)
theorem gs_90 : Cond.selects RX7 yX7_goesBy yX7_goesBy ∈ gw := gw_s 90 (q := (yX7_goesBy, 21)) (by decide +kernel)
theorem gs_91 : Cond.selects RX7 yX7_tells yX7_tells ∈ gw := gw_s 91 (q := (yX7_tells, 21)) (by decide +kernel)
theorem gs_92 : Cond.selects RX7 yX7_weights yX7_weights ∈ gw := gw_s 92 (q := (yX7_weights, 21)) (by decide +kernel)
theorem gs_93 : Cond.selects RX7 yX7_heavyHigh yX7_heavyHigh ∈ gw := gw_s 93 (q := (yX7_heavyHigh, 21)) (by decide +kernel)
theorem gs_94 : Cond.selects RX7 yX7_parted yX7_parted ∈ gw := gw_s 94 (q := (yX7_parted, 21)) (by decide +kernel)
theorem gs_95 : Cond.selects RX7 yX7_stringsOf yX7_stringsOf ∈ gw := gw_s 95 (q := (yX7_stringsOf, 21)) (by decide +kernel)
theorem gs_96 : Cond.selects RX7 yX7_kindsOf yX7_kindsOf ∈ gw := gw_s 96 (q := (yX7_kindsOf, 21)) (by decide +kernel)
theorem gs_97 : Cond.selects RX7 yX7_rests yX7_rests ∈ gw := gw_s 97 (q := (yX7_rests, 21)) (by decide +kernel)
theorem gs_98 : Cond.selects RX7 yX7_fraction yX7_fraction ∈ gw := gw_s 98 (q := (yX7_fraction, 21)) (by decide +kernel)
theorem gs_99 : Cond.selects RX7 yX7_counted yX7_counted ∈ gw := gw_s 99 (q := (yX7_counted, 21)) (by decide +kernel)
theorem gs_100 : Cond.selects RX7 yX7_over yX7_over ∈ gw := gw_s 100 (q := (yX7_over, 21)) (by decide +kernel)
theorem hd_J0_charAt_5068e : yJ0_charAt_5068e.cls ≠ "java/lang/invoke/MethodHandle" ∧ yJ0_charAt_5068e.cls ≠ "java/lang/invoke/VarHandle" ∧ (parseMethodDescriptor yJ0_charAt_5068e.desc).map (fun d => d.parameters.length) = some 1 := by decide +kernel
theorem hd_J0_checkIndex_df160 : yJ0_checkIndex_df160.cls ≠ "java/lang/invoke/MethodHandle" ∧ yJ0_checkIndex_df160.cls ≠ "java/lang/invoke/VarHandle" ∧ (parseMethodDescriptor yJ0_checkIndex_df160.desc).map (fun d => d.parameters.length) = some 2 := by decide +kernel
theorem hd_J0_coder_7d493 : yJ0_coder_7d493.cls ≠ "java/lang/invoke/MethodHandle" ∧ yJ0_coder_7d493.cls ≠ "java/lang/invoke/VarHandle" ∧ (parseMethodDescriptor yJ0_coder_7d493.desc).map (fun d => d.parameters.length) = some 0 := by decide +kernel
theorem hd_J0_isLatin1_aae02 : yJ0_isLatin1_aae02.cls ≠ "java/lang/invoke/MethodHandle" ∧ yJ0_isLatin1_aae02.cls ≠ "java/lang/invoke/VarHandle" ∧ (parseMethodDescriptor yJ0_isLatin1_aae02.desc).map (fun d => d.parameters.length) = some 0 := by decide +kernel
theorem hd_J0_length_8abf5 : yJ0_length_8abf5.cls ≠ "java/lang/invoke/MethodHandle" ∧ yJ0_length_8abf5.cls ≠ "java/lang/invoke/VarHandle" ∧ (parseMethodDescriptor yJ0_length_8abf5.desc).map (fun d => d.parameters.length) = some 0 := by decide +kernel
theorem hd_J1_charAt_3b067 : yJ1_charAt_3b067.cls ≠ "java/lang/invoke/MethodHandle" ∧ yJ1_charAt_3b067.cls ≠ "java/lang/invoke/VarHandle" ∧ (parseMethodDescriptor yJ1_charAt_3b067.desc).map (fun d => d.parameters.length) = some 2 := by decide +kernel
theorem hd_J3_checkIndex_8e157 : yJ3_checkIndex_8e157.cls ≠ "java/lang/invoke/MethodHandle" ∧ yJ3_checkIndex_8e157.cls ≠ "java/lang/invoke/VarHandle" ∧ (parseMethodDescriptor yJ3_checkIndex_8e157.desc).map (fun d => d.parameters.length) = some 3 := by decide +kernel
theorem hd_J6_bitCount_0f7a4 : yJ6_bitCount_0f7a4.cls ≠ "java/lang/invoke/MethodHandle" ∧ yJ6_bitCount_0f7a4.cls ≠ "java/lang/invoke/VarHandle" ∧ (parseMethodDescriptor yJ6_bitCount_0f7a4.desc).map (fun d => d.parameters.length) = some 1 := by decide +kernel
theorem hd_X0_init : yX0_init.cls ≠ "java/lang/invoke/MethodHandle" ∧ yX0_init.cls ≠ "java/lang/invoke/VarHandle" ∧ (parseMethodDescriptor yX0_init.desc).map (fun d => d.parameters.length) = some 0 := by decide +kernel
theorem hd_X0_place : yX0_place.cls ≠ "java/lang/invoke/MethodHandle" ∧ yX0_place.cls ≠ "java/lang/invoke/VarHandle" ∧ (parseMethodDescriptor yX0_place.desc).map (fun d => d.parameters.length) = some 2 := by decide +kernel
theorem hd_X0_rests : yX0_rests.cls ≠ "java/lang/invoke/MethodHandle" ∧ yX0_rests.cls ≠ "java/lang/invoke/VarHandle" ∧ (parseMethodDescriptor yX0_rests.desc).map (fun d => d.parameters.length) = some 2 := by decide +kernel
theorem hd_X0_toll : yX0_toll.cls ≠ "java/lang/invoke/MethodHandle" ∧ yX0_toll.cls ≠ "java/lang/invoke/VarHandle" ∧ (parseMethodDescriptor yX0_toll.desc).map (fun d => d.parameters.length) = some 1 := by decide +kernel
theorem hd_X0_weigh : yX0_weigh.cls ≠ "java/lang/invoke/MethodHandle" ∧ yX0_weigh.cls ≠ "java/lang/invoke/VarHandle" ∧ (parseMethodDescriptor yX0_weigh.desc).map (fun d => d.parameters.length) = some 4 := by decide +kernel
theorem hd_X1_become : yX1_become.cls ≠ "java/lang/invoke/MethodHandle" ∧ yX1_become.cls ≠ "java/lang/invoke/VarHandle" ∧ (parseMethodDescriptor yX1_become.desc).map (fun d => d.parameters.length) = some 1 := by decide +kernel
theorem hd_X1_begin : yX1_begin.cls ≠ "java/lang/invoke/MethodHandle" ∧ yX1_begin.cls ≠ "java/lang/invoke/VarHandle" ∧ (parseMethodDescriptor yX1_begin.desc).map (fun d => d.parameters.length) = some 1 := by decide +kernel
theorem hd_X1_init : yX1_init.cls ≠ "java/lang/invoke/MethodHandle" ∧ yX1_init.cls ≠ "java/lang/invoke/VarHandle" ∧ (parseMethodDescriptor yX1_init.desc).map (fun d => d.parameters.length) = some 0 := by decide +kernel
theorem hd_X2_add : yX2_add.cls ≠ "java/lang/invoke/MethodHandle" ∧ yX2_add.cls ≠ "java/lang/invoke/VarHandle" ∧ (parseMethodDescriptor yX2_add.desc).map (fun d => d.parameters.length) = some 5 := by decide +kernel
theorem hd_X2_become : yX2_become.cls ≠ "java/lang/invoke/MethodHandle" ∧ yX2_become.cls ≠ "java/lang/invoke/VarHandle" ∧ (parseMethodDescriptor yX2_become.desc).map (fun d => d.parameters.length) = some 1 := by decide +kernel
theorem hd_X2_begin : yX2_begin.cls ≠ "java/lang/invoke/MethodHandle" ∧ yX2_begin.cls ≠ "java/lang/invoke/VarHandle" ∧ (parseMethodDescriptor yX2_begin.desc).map (fun d => d.parameters.length) = some 1 := by decide +kernel
theorem hd_X2_goBack : yX2_goBack.cls ≠ "java/lang/invoke/MethodHandle" ∧ yX2_goBack.cls ≠ "java/lang/invoke/VarHandle" ∧ (parseMethodDescriptor yX2_goBack.desc).map (fun d => d.parameters.length) = some 0 := by decide +kernel
theorem hd_X2_highFrom : yX2_highFrom.cls ≠ "java/lang/invoke/MethodHandle" ∧ yX2_highFrom.cls ≠ "java/lang/invoke/VarHandle" ∧ (parseMethodDescriptor yX2_highFrom.desc).map (fun d => d.parameters.length) = some 4 := by decide +kernel
theorem hd_X2_highIn : yX2_highIn.cls ≠ "java/lang/invoke/MethodHandle" ∧ yX2_highIn.cls ≠ "java/lang/invoke/VarHandle" ∧ (parseMethodDescriptor yX2_highIn.desc).map (fun d => d.parameters.length) = some 2 := by decide +kernel
theorem hd_X2_holeOf : yX2_holeOf.cls ≠ "java/lang/invoke/MethodHandle" ∧ yX2_holeOf.cls ≠ "java/lang/invoke/VarHandle" ∧ (parseMethodDescriptor yX2_holeOf.desc).map (fun d => d.parameters.length) = some 1 := by decide +kernel
theorem hd_X2_init : yX2_init.cls ≠ "java/lang/invoke/MethodHandle" ∧ yX2_init.cls ≠ "java/lang/invoke/VarHandle" ∧ (parseMethodDescriptor yX2_init.desc).map (fun d => d.parameters.length) = some 0 := by decide +kernel
theorem hd_X2_pastAt : yX2_pastAt.cls ≠ "java/lang/invoke/MethodHandle" ∧ yX2_pastAt.cls ≠ "java/lang/invoke/VarHandle" ∧ (parseMethodDescriptor yX2_pastAt.desc).map (fun d => d.parameters.length) = some 1 := by decide +kernel
theorem hd_X2_remember : yX2_remember.cls ≠ "java/lang/invoke/MethodHandle" ∧ yX2_remember.cls ≠ "java/lang/invoke/VarHandle" ∧ (parseMethodDescriptor yX2_remember.desc).map (fun d => d.parameters.length) = some 0 := by decide +kernel
theorem hd_X2_snappedIn : yX2_snappedIn.cls ≠ "java/lang/invoke/MethodHandle" ∧ yX2_snappedIn.cls ≠ "java/lang/invoke/VarHandle" ∧ (parseMethodDescriptor yX2_snappedIn.desc).map (fun d => d.parameters.length) = some 1 := by decide +kernel
theorem hd_X2_step : yX2_step.cls ≠ "java/lang/invoke/MethodHandle" ∧ yX2_step.cls ≠ "java/lang/invoke/VarHandle" ∧ (parseMethodDescriptor yX2_step.desc).map (fun d => d.parameters.length) = some 2 := by decide +kernel
theorem hd_X2_tellOf : yX2_tellOf.cls ≠ "java/lang/invoke/MethodHandle" ∧ yX2_tellOf.cls ≠ "java/lang/invoke/VarHandle" ∧ (parseMethodDescriptor yX2_tellOf.desc).map (fun d => d.parameters.length) = some 2 := by decide +kernel
theorem hd_X2_weightOf : yX2_weightOf.cls ≠ "java/lang/invoke/MethodHandle" ∧ yX2_weightOf.cls ≠ "java/lang/invoke/VarHandle" ∧ (parseMethodDescriptor yX2_weightOf.desc).map (fun d => d.parameters.length) = some 1 := by decide +kernel
theorem hd_X2_wornOf : yX2_wornOf.cls ≠ "java/lang/invoke/MethodHandle" ∧ yX2_wornOf.cls ≠ "java/lang/invoke/VarHandle" ∧ (parseMethodDescriptor yX2_wornOf.desc).map (fun d => d.parameters.length) = some 1 := by decide +kernel
theorem hd_X2_wornTogether : yX2_wornTogether.cls ≠ "java/lang/invoke/MethodHandle" ∧ yX2_wornTogether.cls ≠ "java/lang/invoke/VarHandle" ∧ (parseMethodDescriptor yX2_wornTogether.desc).map (fun d => d.parameters.length) = some 0 := by decide +kernel
theorem hd_X3_advance : yX3_advance.cls ≠ "java/lang/invoke/MethodHandle" ∧ yX3_advance.cls ≠ "java/lang/invoke/VarHandle" ∧ (parseMethodDescriptor yX3_advance.desc).map (fun d => d.parameters.length) = some 0 := by decide +kernel
theorem hd_X3_append : yX3_append.cls ≠ "java/lang/invoke/MethodHandle" ∧ yX3_append.cls ≠ "java/lang/invoke/VarHandle" ∧ (parseMethodDescriptor yX3_append.desc).map (fun d => d.parameters.length) = some 1 := by decide +kernel
theorem hd_X3_init : yX3_init.cls ≠ "java/lang/invoke/MethodHandle" ∧ yX3_init.cls ≠ "java/lang/invoke/VarHandle" ∧ (parseMethodDescriptor yX3_init.desc).map (fun d => d.parameters.length) = some 0 := by decide +kernel
theorem hd_X3_isNumber : yX3_isNumber.cls ≠ "java/lang/invoke/MethodHandle" ∧ yX3_isNumber.cls ≠ "java/lang/invoke/VarHandle" ∧ (parseMethodDescriptor yX3_isNumber.desc).map (fun d => d.parameters.length) = some 2 := by decide +kernel
theorem hd_X3_isWord : yX3_isWord.cls ≠ "java/lang/invoke/MethodHandle" ∧ yX3_isWord.cls ≠ "java/lang/invoke/VarHandle" ∧ (parseMethodDescriptor yX3_isWord.desc).map (fun d => d.parameters.length) = some 1 := by decide +kernel
theorem hd_X3_readInto : yX3_readInto.cls ≠ "java/lang/invoke/MethodHandle" ∧ yX3_readInto.cls ≠ "java/lang/invoke/VarHandle" ∧ (parseMethodDescriptor yX3_readInto.desc).map (fun d => d.parameters.length) = some 1 := by decide +kernel
theorem hd_X3_runEnd : yX3_runEnd.cls ≠ "java/lang/invoke/MethodHandle" ∧ yX3_runEnd.cls ≠ "java/lang/invoke/VarHandle" ∧ (parseMethodDescriptor yX3_runEnd.desc).map (fun d => d.parameters.length) = some 3 := by decide +kernel
theorem hd_X3_takeHang : yX3_takeHang.cls ≠ "java/lang/invoke/MethodHandle" ∧ yX3_takeHang.cls ≠ "java/lang/invoke/VarHandle" ∧ (parseMethodDescriptor yX3_takeHang.desc).map (fun d => d.parameters.length) = some 1 := by decide +kernel
theorem hd_X3_takeItem : yX3_takeItem.cls ≠ "java/lang/invoke/MethodHandle" ∧ yX3_takeItem.cls ≠ "java/lang/invoke/VarHandle" ∧ (parseMethodDescriptor yX3_takeItem.desc).map (fun d => d.parameters.length) = some 1 := by decide +kernel
theorem hd_X3_takeLimb : yX3_takeLimb.cls ≠ "java/lang/invoke/MethodHandle" ∧ yX3_takeLimb.cls ≠ "java/lang/invoke/VarHandle" ∧ (parseMethodDescriptor yX3_takeLimb.desc).map (fun d => d.parameters.length) = some 1 := by decide +kernel
theorem hd_X3_takeMoves : yX3_takeMoves.cls ≠ "java/lang/invoke/MethodHandle" ∧ yX3_takeMoves.cls ≠ "java/lang/invoke/VarHandle" ∧ (parseMethodDescriptor yX3_takeMoves.desc).map (fun d => d.parameters.length) = some 1 := by decide +kernel
theorem hd_X3_takeNumber : yX3_takeNumber.cls ≠ "java/lang/invoke/MethodHandle" ∧ yX3_takeNumber.cls ≠ "java/lang/invoke/VarHandle" ∧ (parseMethodDescriptor yX3_takeNumber.desc).map (fun d => d.parameters.length) = some 2 := by decide +kernel
theorem hd_X3_takeOpening : yX3_takeOpening.cls ≠ "java/lang/invoke/MethodHandle" ∧ yX3_takeOpening.cls ≠ "java/lang/invoke/VarHandle" ∧ (parseMethodDescriptor yX3_takeOpening.desc).map (fun d => d.parameters.length) = some 1 := by decide +kernel
theorem hd_X3_takeSemicolon : yX3_takeSemicolon.cls ≠ "java/lang/invoke/MethodHandle" ∧ yX3_takeSemicolon.cls ≠ "java/lang/invoke/VarHandle" ∧ (parseMethodDescriptor yX3_takeSemicolon.desc).map (fun d => d.parameters.length) = some 0 := by decide +kernel
theorem hd_X3_takeTie : yX3_takeTie.cls ≠ "java/lang/invoke/MethodHandle" ∧ yX3_takeTie.cls ≠ "java/lang/invoke/VarHandle" ∧ (parseMethodDescriptor yX3_takeTie.desc).map (fun d => d.parameters.length) = some 1 := by decide +kernel
theorem hd_X4_fewest : yX4_fewest.cls ≠ "java/lang/invoke/MethodHandle" ∧ yX4_fewest.cls ≠ "java/lang/invoke/VarHandle" ∧ (parseMethodDescriptor yX4_fewest.desc).map (fun d => d.parameters.length) = some 5 := by decide +kernel
theorem hd_X4_init : yX4_init.cls ≠ "java/lang/invoke/MethodHandle" ∧ yX4_init.cls ≠ "java/lang/invoke/VarHandle" ∧ (parseMethodDescriptor yX4_init.desc).map (fun d => d.parameters.length) = some 0 := by decide +kernel
theorem hd_X4_isHigh : yX4_isHigh.cls ≠ "java/lang/invoke/MethodHandle" ∧ yX4_isHigh.cls ≠ "java/lang/invoke/VarHandle" ∧ (parseMethodDescriptor yX4_isHigh.desc).map (fun d => d.parameters.length) = some 6 := by decide +kernel
theorem hd_X4_reaches : yX4_reaches.cls ≠ "java/lang/invoke/MethodHandle" ∧ yX4_reaches.cls ≠ "java/lang/invoke/VarHandle" ∧ (parseMethodDescriptor yX4_reaches.desc).map (fun d => d.parameters.length) = some 6 := by decide +kernel
theorem hd_X5_append : yX5_append.cls ≠ "java/lang/invoke/MethodHandle" ∧ yX5_append.cls ≠ "java/lang/invoke/VarHandle" ∧ (parseMethodDescriptor yX5_append.desc).map (fun d => d.parameters.length) = some 5 := by decide +kernel
theorem hd_X5_become : yX5_become.cls ≠ "java/lang/invoke/MethodHandle" ∧ yX5_become.cls ≠ "java/lang/invoke/VarHandle" ∧ (parseMethodDescriptor yX5_become.desc).map (fun d => d.parameters.length) = some 1 := by decide +kernel
theorem hd_X5_digestOn : yX5_digestOn.cls ≠ "java/lang/invoke/MethodHandle" ∧ yX5_digestOn.cls ≠ "java/lang/invoke/VarHandle" ∧ (parseMethodDescriptor yX5_digestOn.desc).map (fun d => d.parameters.length) = some 1 := by decide +kernel
theorem hd_X5_drain : yX5_drain.cls ≠ "java/lang/invoke/MethodHandle" ∧ yX5_drain.cls ≠ "java/lang/invoke/VarHandle" ∧ (parseMethodDescriptor yX5_drain.desc).map (fun d => d.parameters.length) = some 0 := by decide +kernel
theorem hd_X5_init : yX5_init.cls ≠ "java/lang/invoke/MethodHandle" ∧ yX5_init.cls ≠ "java/lang/invoke/VarHandle" ∧ (parseMethodDescriptor yX5_init.desc).map (fun d => d.parameters.length) = some 2 := by decide +kernel
theorem hd_X5_isFull : yX5_isFull.cls ≠ "java/lang/invoke/MethodHandle" ∧ yX5_isFull.cls ≠ "java/lang/invoke/VarHandle" ∧ (parseMethodDescriptor yX5_isFull.desc).map (fun d => d.parameters.length) = some 0 := by decide +kernel
theorem hd_X5_value : yX5_value.cls ≠ "java/lang/invoke/MethodHandle" ∧ yX5_value.cls ≠ "java/lang/invoke/VarHandle" ∧ (parseMethodDescriptor yX5_value.desc).map (fun d => d.parameters.length) = some 2 := by decide +kernel
theorem hd_X6_alikeByDrop : yX6_alikeByDrop.cls ≠ "java/lang/invoke/MethodHandle" ∧ yX6_alikeByDrop.cls ≠ "java/lang/invoke/VarHandle" ∧ (parseMethodDescriptor yX6_alikeByDrop.desc).map (fun d => d.parameters.length) = some 4 := by decide +kernel
theorem hd_X6_alikeByHigh : yX6_alikeByHigh.cls ≠ "java/lang/invoke/MethodHandle" ∧ yX6_alikeByHigh.cls ≠ "java/lang/invoke/VarHandle" ∧ (parseMethodDescriptor yX6_alikeByHigh.desc).map (fun d => d.parameters.length) = some 3 := by decide +kernel
theorem hd_X6_alikeByLength : yX6_alikeByLength.cls ≠ "java/lang/invoke/MethodHandle" ∧ yX6_alikeByLength.cls ≠ "java/lang/invoke/VarHandle" ∧ (parseMethodDescriptor yX6_alikeByLength.desc).map (fun d => d.parameters.length) = some 3 := by decide +kernel
theorem hd_X6_ask : yX6_ask.cls ≠ "java/lang/invoke/MethodHandle" ∧ yX6_ask.cls ≠ "java/lang/invoke/VarHandle" ∧ (parseMethodDescriptor yX6_ask.desc).map (fun d => d.parameters.length) = some 1 := by decide +kernel
theorem hd_X6_beat : yX6_beat.cls ≠ "java/lang/invoke/MethodHandle" ∧ yX6_beat.cls ≠ "java/lang/invoke/VarHandle" ∧ (parseMethodDescriptor yX6_beat.desc).map (fun d => d.parameters.length) = some 3 := by decide +kernel
theorem hd_X6_both : yX6_both.cls ≠ "java/lang/invoke/MethodHandle" ∧ yX6_both.cls ≠ "java/lang/invoke/VarHandle" ∧ (parseMethodDescriptor yX6_both.desc).map (fun d => d.parameters.length) = some 4 := by decide +kernel
theorem hd_X6_cell : yX6_cell.cls ≠ "java/lang/invoke/MethodHandle" ∧ yX6_cell.cls ≠ "java/lang/invoke/VarHandle" ∧ (parseMethodDescriptor yX6_cell.desc).map (fun d => d.parameters.length) = some 2 := by decide +kernel
theorem hd_X6_chanceOfSlack : yX6_chanceOfSlack.cls ≠ "java/lang/invoke/MethodHandle" ∧ yX6_chanceOfSlack.cls ≠ "java/lang/invoke/VarHandle" ∧ (parseMethodDescriptor yX6_chanceOfSlack.desc).map (fun d => d.parameters.length) = some 2 := by decide +kernel
theorem hd_X6_clear : yX6_clear.cls ≠ "java/lang/invoke/MethodHandle" ∧ yX6_clear.cls ≠ "java/lang/invoke/VarHandle" ∧ (parseMethodDescriptor yX6_clear.desc).map (fun d => d.parameters.length) = some 0 := by decide +kernel
theorem hd_X6_comesOut : yX6_comesOut.cls ≠ "java/lang/invoke/MethodHandle" ∧ yX6_comesOut.cls ≠ "java/lang/invoke/VarHandle" ∧ (parseMethodDescriptor yX6_comesOut.desc).map (fun d => d.parameters.length) = some 0 := by decide +kernel
theorem hd_X6_copyRow : yX6_copyRow.cls ≠ "java/lang/invoke/MethodHandle" ∧ yX6_copyRow.cls ≠ "java/lang/invoke/VarHandle" ∧ (parseMethodDescriptor yX6_copyRow.desc).map (fun d => d.parameters.length) = some 2 := by decide +kernel
theorem hd_X6_count : yX6_count.cls ≠ "java/lang/invoke/MethodHandle" ∧ yX6_count.cls ≠ "java/lang/invoke/VarHandle" ∧ (parseMethodDescriptor yX6_count.desc).map (fun d => d.parameters.length) = some 1 := by decide +kernel
theorem hd_X6_counted : yX6_counted.cls ≠ "java/lang/invoke/MethodHandle" ∧ yX6_counted.cls ≠ "java/lang/invoke/VarHandle" ∧ (parseMethodDescriptor yX6_counted.desc).map (fun d => d.parameters.length) = some 1 := by decide +kernel
theorem hd_X6_dance : yX6_dance.cls ≠ "java/lang/invoke/MethodHandle" ∧ yX6_dance.cls ≠ "java/lang/invoke/VarHandle" ∧ (parseMethodDescriptor yX6_dance.desc).map (fun d => d.parameters.length) = some 1 := by decide +kernel
theorem hd_X6_digest : yX6_digest.cls ≠ "java/lang/invoke/MethodHandle" ∧ yX6_digest.cls ≠ "java/lang/invoke/VarHandle" ∧ (parseMethodDescriptor yX6_digest.desc).map (fun d => d.parameters.length) = some 0 := by decide +kernel
theorem hd_X6_dropOf : yX6_dropOf.cls ≠ "java/lang/invoke/MethodHandle" ∧ yX6_dropOf.cls ≠ "java/lang/invoke/VarHandle" ∧ (parseMethodDescriptor yX6_dropOf.desc).map (fun d => d.parameters.length) = some 4 := by decide +kernel
theorem hd_X6_farFrom : yX6_farFrom.cls ≠ "java/lang/invoke/MethodHandle" ∧ yX6_farFrom.cls ≠ "java/lang/invoke/VarHandle" ∧ (parseMethodDescriptor yX6_farFrom.desc).map (fun d => d.parameters.length) = some 3 := by decide +kernel
theorem hd_X6_few : yX6_few.cls ≠ "java/lang/invoke/MethodHandle" ∧ yX6_few.cls ≠ "java/lang/invoke/VarHandle" ∧ (parseMethodDescriptor yX6_few.desc).map (fun d => d.parameters.length) = some 3 := by decide +kernel
theorem hd_X6_fitsMarks : yX6_fitsMarks.cls ≠ "java/lang/invoke/MethodHandle" ∧ yX6_fitsMarks.cls ≠ "java/lang/invoke/VarHandle" ∧ (parseMethodDescriptor yX6_fitsMarks.desc).map (fun d => d.parameters.length) = some 2 := by decide +kernel
theorem hd_X6_fitsNotes : yX6_fitsNotes.cls ≠ "java/lang/invoke/MethodHandle" ∧ yX6_fitsNotes.cls ≠ "java/lang/invoke/VarHandle" ∧ (parseMethodDescriptor yX6_fitsNotes.desc).map (fun d => d.parameters.length) = some 2 := by decide +kernel
theorem hd_X6_fitsSights : yX6_fitsSights.cls ≠ "java/lang/invoke/MethodHandle" ∧ yX6_fitsSights.cls ≠ "java/lang/invoke/VarHandle" ∧ (parseMethodDescriptor yX6_fitsSights.desc).map (fun d => d.parameters.length) = some 2 := by decide +kernel
theorem hd_X6_fittingKinds : yX6_fittingKinds.cls ≠ "java/lang/invoke/MethodHandle" ∧ yX6_fittingKinds.cls ≠ "java/lang/invoke/VarHandle" ∧ (parseMethodDescriptor yX6_fittingKinds.desc).map (fun d => d.parameters.length) = some 1 := by decide +kernel
theorem hd_X6_fittingStrings : yX6_fittingStrings.cls ≠ "java/lang/invoke/MethodHandle" ∧ yX6_fittingStrings.cls ≠ "java/lang/invoke/VarHandle" ∧ (parseMethodDescriptor yX6_fittingStrings.desc).map (fun d => d.parameters.length) = some 1 := by decide +kernel
theorem hd_X6_fittingWeights : yX6_fittingWeights.cls ≠ "java/lang/invoke/MethodHandle" ∧ yX6_fittingWeights.cls ≠ "java/lang/invoke/VarHandle" ∧ (parseMethodDescriptor yX6_fittingWeights.desc).map (fun d => d.parameters.length) = some 1 := by decide +kernel
theorem hd_X6_forget : yX6_forget.cls ≠ "java/lang/invoke/MethodHandle" ∧ yX6_forget.cls ≠ "java/lang/invoke/VarHandle" ∧ (parseMethodDescriptor yX6_forget.desc).map (fun d => d.parameters.length) = some 1 := by decide +kernel
theorem hd_X6_freshHigh : yX6_freshHigh.cls ≠ "java/lang/invoke/MethodHandle" ∧ yX6_freshHigh.cls ≠ "java/lang/invoke/VarHandle" ∧ (parseMethodDescriptor yX6_freshHigh.desc).map (fun d => d.parameters.length) = some 4 := by decide +kernel
theorem hd_X6_from : yX6_from.cls ≠ "java/lang/invoke/MethodHandle" ∧ yX6_from.cls ≠ "java/lang/invoke/VarHandle" ∧ (parseMethodDescriptor yX6_from.desc).map (fun d => d.parameters.length) = some 1 := by decide +kernel
theorem hd_X6_greatestBit : yX6_greatestBit.cls ≠ "java/lang/invoke/MethodHandle" ∧ yX6_greatestBit.cls ≠ "java/lang/invoke/VarHandle" ∧ (parseMethodDescriptor yX6_greatestBit.desc).map (fun d => d.parameters.length) = some 1 := by decide +kernel
theorem hd_X6_hands : yX6_hands.cls ≠ "java/lang/invoke/MethodHandle" ∧ yX6_hands.cls ≠ "java/lang/invoke/VarHandle" ∧ (parseMethodDescriptor yX6_hands.desc).map (fun d => d.parameters.length) = some 3 := by decide +kernel
theorem hd_X6_hangs : yX6_hangs.cls ≠ "java/lang/invoke/MethodHandle" ∧ yX6_hangs.cls ≠ "java/lang/invoke/VarHandle" ∧ (parseMethodDescriptor yX6_hangs.desc).map (fun d => d.parameters.length) = some 2 := by decide +kernel
theorem hd_X6_hasBit : yX6_hasBit.cls ≠ "java/lang/invoke/MethodHandle" ∧ yX6_hasBit.cls ≠ "java/lang/invoke/VarHandle" ∧ (parseMethodDescriptor yX6_hasBit.desc).map (fun d => d.parameters.length) = some 2 := by decide +kernel
theorem hd_X6_heavy : yX6_heavy.cls ≠ "java/lang/invoke/MethodHandle" ∧ yX6_heavy.cls ≠ "java/lang/invoke/VarHandle" ∧ (parseMethodDescriptor yX6_heavy.desc).map (fun d => d.parameters.length) = some 2 := by decide +kernel
theorem hd_X6_highOf : yX6_highOf.cls ≠ "java/lang/invoke/MethodHandle" ∧ yX6_highOf.cls ≠ "java/lang/invoke/VarHandle" ∧ (parseMethodDescriptor yX6_highOf.desc).map (fun d => d.parameters.length) = some 3 := by decide +kernel
theorem hd_X6_hole : yX6_hole.cls ≠ "java/lang/invoke/MethodHandle" ∧ yX6_hole.cls ≠ "java/lang/invoke/VarHandle" ∧ (parseMethodDescriptor yX6_hole.desc).map (fun d => d.parameters.length) = some 3 := by decide +kernel
theorem hd_X6_holeAt : yX6_holeAt.cls ≠ "java/lang/invoke/MethodHandle" ∧ yX6_holeAt.cls ≠ "java/lang/invoke/VarHandle" ∧ (parseMethodDescriptor yX6_holeAt.desc).map (fun d => d.parameters.length) = some 3 := by decide +kernel
theorem hd_X6_image : yX6_image.cls ≠ "java/lang/invoke/MethodHandle" ∧ yX6_image.cls ≠ "java/lang/invoke/VarHandle" ∧ (parseMethodDescriptor yX6_image.desc).map (fun d => d.parameters.length) = some 1 := by decide +kernel
theorem hd_X6_is : yX6_is.cls ≠ "java/lang/invoke/MethodHandle" ∧ yX6_is.cls ≠ "java/lang/invoke/VarHandle" ∧ (parseMethodDescriptor yX6_is.desc).map (fun d => d.parameters.length) = some 1 := by decide +kernel
theorem hd_X6_isSnapped : yX6_isSnapped.cls ≠ "java/lang/invoke/MethodHandle" ∧ yX6_isSnapped.cls ≠ "java/lang/invoke/VarHandle" ∧ (parseMethodDescriptor yX6_isSnapped.desc).map (fun d => d.parameters.length) = some 1 := by decide +kernel
theorem hd_X6_kinds : yX6_kinds.cls ≠ "java/lang/invoke/MethodHandle" ∧ yX6_kinds.cls ≠ "java/lang/invoke/VarHandle" ∧ (parseMethodDescriptor yX6_kinds.desc).map (fun d => d.parameters.length) = some 1 := by decide +kernel
theorem hd_X6_leastBit : yX6_leastBit.cls ≠ "java/lang/invoke/MethodHandle" ∧ yX6_leastBit.cls ≠ "java/lang/invoke/VarHandle" ∧ (parseMethodDescriptor yX6_leastBit.desc).map (fun d => d.parameters.length) = some 1 := by decide +kernel
theorem hd_X6_liftBehind : yX6_liftBehind.cls ≠ "java/lang/invoke/MethodHandle" ∧ yX6_liftBehind.cls ≠ "java/lang/invoke/VarHandle" ∧ (parseMethodDescriptor yX6_liftBehind.desc).map (fun d => d.parameters.length) = some 2 := by decide +kernel
theorem hd_X6_limb : yX6_limb.cls ≠ "java/lang/invoke/MethodHandle" ∧ yX6_limb.cls ≠ "java/lang/invoke/VarHandle" ∧ (parseMethodDescriptor yX6_limb.desc).map (fun d => d.parameters.length) = some 5 := by decide +kernel
theorem hd_X6_look : yX6_look.cls ≠ "java/lang/invoke/MethodHandle" ∧ yX6_look.cls ≠ "java/lang/invoke/VarHandle" ∧ (parseMethodDescriptor yX6_look.desc).map (fun d => d.parameters.length) = some 1 := by decide +kernel
theorem hd_X6_mark : yX6_mark.cls ≠ "java/lang/invoke/MethodHandle" ∧ yX6_mark.cls ≠ "java/lang/invoke/VarHandle" ∧ (parseMethodDescriptor yX6_mark.desc).map (fun d => d.parameters.length) = some 4 := by decide +kernel
theorem hd_X6_mostAlike : yX6_mostAlike.cls ≠ "java/lang/invoke/MethodHandle" ∧ yX6_mostAlike.cls ≠ "java/lang/invoke/VarHandle" ∧ (parseMethodDescriptor yX6_mostAlike.desc).map (fun d => d.parameters.length) = some 2 := by decide +kernel
theorem hd_X6_moves : yX6_moves.cls ≠ "java/lang/invoke/MethodHandle" ∧ yX6_moves.cls ≠ "java/lang/invoke/VarHandle" ∧ (parseMethodDescriptor yX6_moves.desc).map (fun d => d.parameters.length) = some 1 := by decide +kernel
theorem hd_X6_nights : yX6_nights.cls ≠ "java/lang/invoke/MethodHandle" ∧ yX6_nights.cls ≠ "java/lang/invoke/VarHandle" ∧ (parseMethodDescriptor yX6_nights.desc).map (fun d => d.parameters.length) = some 2 := by decide +kernel
theorem hd_X6_noLimb : yX6_noLimb.cls ≠ "java/lang/invoke/MethodHandle" ∧ yX6_noLimb.cls ≠ "java/lang/invoke/VarHandle" ∧ (parseMethodDescriptor yX6_noLimb.desc).map (fun d => d.parameters.length) = some 1 := by decide +kernel
theorem hd_X6_notHigh : yX6_notHigh.cls ≠ "java/lang/invoke/MethodHandle" ∧ yX6_notHigh.cls ≠ "java/lang/invoke/VarHandle" ∧ (parseMethodDescriptor yX6_notHigh.desc).map (fun d => d.parameters.length) = some 1 := by decide +kernel
theorem hd_X6_note : yX6_note.cls ≠ "java/lang/invoke/MethodHandle" ∧ yX6_note.cls ≠ "java/lang/invoke/VarHandle" ∧ (parseMethodDescriptor yX6_note.desc).map (fun d => d.parameters.length) = some 5 := by decide +kernel
theorem hd_X6_of : yX6_of.cls ≠ "java/lang/invoke/MethodHandle" ∧ yX6_of.cls ≠ "java/lang/invoke/VarHandle" ∧ (parseMethodDescriptor yX6_of.desc).map (fun d => d.parameters.length) = some 2 := by decide +kernel
theorem hd_X6_outside : yX6_outside.cls ≠ "java/lang/invoke/MethodHandle" ∧ yX6_outside.cls ≠ "java/lang/invoke/VarHandle" ∧ (parseMethodDescriptor yX6_outside.desc).map (fun d => d.parameters.length) = some 3 := by decide +kernel
theorem hd_X6_part : yX6_part.cls ≠ "java/lang/invoke/MethodHandle" ∧ yX6_part.cls ≠ "java/lang/invoke/VarHandle" ∧ (parseMethodDescriptor yX6_part.desc).map (fun d => d.parameters.length) = some 1 := by decide +kernel
theorem hd_X6_puppet : yX6_puppet.cls ≠ "java/lang/invoke/MethodHandle" ∧ yX6_puppet.cls ≠ "java/lang/invoke/VarHandle" ∧ (parseMethodDescriptor yX6_puppet.desc).map (fun d => d.parameters.length) = some 1 := by decide +kernel
theorem hd_X6_put : yX6_put.cls ≠ "java/lang/invoke/MethodHandle" ∧ yX6_put.cls ≠ "java/lang/invoke/VarHandle" ∧ (parseMethodDescriptor yX6_put.desc).map (fun d => d.parameters.length) = some 3 := by decide +kernel
theorem hd_X6_read : yX6_read.cls ≠ "java/lang/invoke/MethodHandle" ∧ yX6_read.cls ≠ "java/lang/invoke/VarHandle" ∧ (parseMethodDescriptor yX6_read.desc).map (fun d => d.parameters.length) = some 0 := by decide +kernel
theorem hd_X6_refuseBad : yX6_refuseBad.cls ≠ "java/lang/invoke/MethodHandle" ∧ yX6_refuseBad.cls ≠ "java/lang/invoke/VarHandle" ∧ (parseMethodDescriptor yX6_refuseBad.desc).map (fun d => d.parameters.length) = some 1 := by decide +kernel
theorem hd_X6_refuseFull : yX6_refuseFull.cls ≠ "java/lang/invoke/MethodHandle" ∧ yX6_refuseFull.cls ≠ "java/lang/invoke/VarHandle" ∧ (parseMethodDescriptor yX6_refuseFull.desc).map (fun d => d.parameters.length) = some 0 := by decide +kernel
theorem hd_X6_refuseNo : yX6_refuseNo.cls ≠ "java/lang/invoke/MethodHandle" ∧ yX6_refuseNo.cls ≠ "java/lang/invoke/VarHandle" ∧ (parseMethodDescriptor yX6_refuseNo.desc).map (fun d => d.parameters.length) = some 0 := by decide +kernel
theorem hd_X6_safe : yX6_safe.cls ≠ "java/lang/invoke/MethodHandle" ∧ yX6_safe.cls ≠ "java/lang/invoke/VarHandle" ∧ (parseMethodDescriptor yX6_safe.desc).map (fun d => d.parameters.length) = some 1 := by decide +kernel
theorem hd_X6_seen : yX6_seen.cls ≠ "java/lang/invoke/MethodHandle" ∧ yX6_seen.cls ≠ "java/lang/invoke/VarHandle" ∧ (parseMethodDescriptor yX6_seen.desc).map (fun d => d.parameters.length) = some 4 := by decide +kernel
theorem hd_X6_setFraction : yX6_setFraction.cls ≠ "java/lang/invoke/MethodHandle" ∧ yX6_setFraction.cls ≠ "java/lang/invoke/VarHandle" ∧ (parseMethodDescriptor yX6_setFraction.desc).map (fun d => d.parameters.length) = some 2 := by decide +kernel
theorem hd_X6_slack : yX6_slack.cls ≠ "java/lang/invoke/MethodHandle" ∧ yX6_slack.cls ≠ "java/lang/invoke/VarHandle" ∧ (parseMethodDescriptor yX6_slack.desc).map (fun d => d.parameters.length) = some 2 := by decide +kernel
theorem hd_X6_snaps : yX6_snaps.cls ≠ "java/lang/invoke/MethodHandle" ∧ yX6_snaps.cls ≠ "java/lang/invoke/VarHandle" ∧ (parseMethodDescriptor yX6_snaps.desc).map (fun d => d.parameters.length) = some 0 := by decide +kernel
theorem hd_X6_status : yX6_status.cls ≠ "java/lang/invoke/MethodHandle" ∧ yX6_status.cls ≠ "java/lang/invoke/VarHandle" ∧ (parseMethodDescriptor yX6_status.desc).map (fun d => d.parameters.length) = some 1 := by decide +kernel
theorem hd_X6_tell : yX6_tell.cls ≠ "java/lang/invoke/MethodHandle" ∧ yX6_tell.cls ≠ "java/lang/invoke/VarHandle" ∧ (parseMethodDescriptor yX6_tell.desc).map (fun d => d.parameters.length) = some 1 := by decide +kernel
theorem hd_X6_ties : yX6_ties.cls ≠ "java/lang/invoke/MethodHandle" ∧ yX6_ties.cls ≠ "java/lang/invoke/VarHandle" ∧ (parseMethodDescriptor yX6_ties.desc).map (fun d => d.parameters.length) = some 1 := by decide +kernel
theorem hd_X6_tiltBehind : yX6_tiltBehind.cls ≠ "java/lang/invoke/MethodHandle" ∧ yX6_tiltBehind.cls ≠ "java/lang/invoke/VarHandle" ∧ (parseMethodDescriptor yX6_tiltBehind.desc).map (fun d => d.parameters.length) = some 2 := by decide +kernel
theorem hd_X6_touch : yX6_touch.cls ≠ "java/lang/invoke/MethodHandle" ∧ yX6_touch.cls ≠ "java/lang/invoke/VarHandle" ∧ (parseMethodDescriptor yX6_touch.desc).map (fun d => d.parameters.length) = some 1 := by decide +kernel
theorem hd_X6_touching : yX6_touching.cls ≠ "java/lang/invoke/MethodHandle" ∧ yX6_touching.cls ≠ "java/lang/invoke/VarHandle" ∧ (parseMethodDescriptor yX6_touching.desc).map (fun d => d.parameters.length) = some 2 := by decide +kernel
theorem hd_X6_type : yX6_type.cls ≠ "java/lang/invoke/MethodHandle" ∧ yX6_type.cls ≠ "java/lang/invoke/VarHandle" ∧ (parseMethodDescriptor yX6_type.desc).map (fun d => d.parameters.length) = some 1 := by decide +kernel
theorem hd_X6_undo : yX6_undo.cls ≠ "java/lang/invoke/MethodHandle" ∧ yX6_undo.cls ≠ "java/lang/invoke/VarHandle" ∧ (parseMethodDescriptor yX6_undo.desc).map (fun d => d.parameters.length) = some 0 := by decide +kernel
theorem hd_X6_wornBehind : yX6_wornBehind.cls ≠ "java/lang/invoke/MethodHandle" ∧ yX6_wornBehind.cls ≠ "java/lang/invoke/VarHandle" ∧ (parseMethodDescriptor yX6_wornBehind.desc).map (fun d => d.parameters.length) = some 3 := by decide +kernel
theorem hd_X7_asides : yX7_asides.cls ≠ "java/lang/invoke/MethodHandle" ∧ yX7_asides.cls ≠ "java/lang/invoke/VarHandle" ∧ (parseMethodDescriptor yX7_asides.desc).map (fun d => d.parameters.length) = some 0 := by decide +kernel
theorem hd_X7_ask : yX7_ask.cls ≠ "java/lang/invoke/MethodHandle" ∧ yX7_ask.cls ≠ "java/lang/invoke/VarHandle" ∧ (parseMethodDescriptor yX7_ask.desc).map (fun d => d.parameters.length) = some 1 := by decide +kernel
theorem hd_X7_backs : yX7_backs.cls ≠ "java/lang/invoke/MethodHandle" ∧ yX7_backs.cls ≠ "java/lang/invoke/VarHandle" ∧ (parseMethodDescriptor yX7_backs.desc).map (fun d => d.parameters.length) = some 0 := by decide +kernel
theorem hd_X7_bad : yX7_bad.cls ≠ "java/lang/invoke/MethodHandle" ∧ yX7_bad.cls ≠ "java/lang/invoke/VarHandle" ∧ (parseMethodDescriptor yX7_bad.desc).map (fun d => d.parameters.length) = some 0 := by decide +kernel
theorem hd_X7_badTen : yX7_badTen.cls ≠ "java/lang/invoke/MethodHandle" ∧ yX7_badTen.cls ≠ "java/lang/invoke/VarHandle" ∧ (parseMethodDescriptor yX7_badTen.desc).map (fun d => d.parameters.length) = some 0 := by decide +kernel
theorem hd_X7_beat : yX7_beat.cls ≠ "java/lang/invoke/MethodHandle" ∧ yX7_beat.cls ≠ "java/lang/invoke/VarHandle" ∧ (parseMethodDescriptor yX7_beat.desc).map (fun d => d.parameters.length) = some 3 := by decide +kernel
theorem hd_X7_begins : yX7_begins.cls ≠ "java/lang/invoke/MethodHandle" ∧ yX7_begins.cls ≠ "java/lang/invoke/VarHandle" ∧ (parseMethodDescriptor yX7_begins.desc).map (fun d => d.parameters.length) = some 1 := by decide +kernel
theorem hd_X7_both : yX7_both.cls ≠ "java/lang/invoke/MethodHandle" ∧ yX7_both.cls ≠ "java/lang/invoke/VarHandle" ∧ (parseMethodDescriptor yX7_both.desc).map (fun d => d.parameters.length) = some 4 := by decide +kernel
theorem hd_X7_byteAt : yX7_byteAt.cls ≠ "java/lang/invoke/MethodHandle" ∧ yX7_byteAt.cls ≠ "java/lang/invoke/VarHandle" ∧ (parseMethodDescriptor yX7_byteAt.desc).map (fun d => d.parameters.length) = some 1 := by decide +kernel
theorem hd_X7_clear : yX7_clear.cls ≠ "java/lang/invoke/MethodHandle" ∧ yX7_clear.cls ≠ "java/lang/invoke/VarHandle" ∧ (parseMethodDescriptor yX7_clear.desc).map (fun d => d.parameters.length) = some 0 := by decide +kernel
theorem hd_X7_comesOut : yX7_comesOut.cls ≠ "java/lang/invoke/MethodHandle" ∧ yX7_comesOut.cls ≠ "java/lang/invoke/VarHandle" ∧ (parseMethodDescriptor yX7_comesOut.desc).map (fun d => d.parameters.length) = some 0 := by decide +kernel
theorem hd_X7_comesTo : yX7_comesTo.cls ≠ "java/lang/invoke/MethodHandle" ∧ yX7_comesTo.cls ≠ "java/lang/invoke/VarHandle" ∧ (parseMethodDescriptor yX7_comesTo.desc).map (fun d => d.parameters.length) = some 3 := by decide +kernel
theorem hd_X7_count : yX7_count.cls ≠ "java/lang/invoke/MethodHandle" ∧ yX7_count.cls ≠ "java/lang/invoke/VarHandle" ∧ (parseMethodDescriptor yX7_count.desc).map (fun d => d.parameters.length) = some 1 := by decide +kernel
theorem hd_X7_counted : yX7_counted.cls ≠ "java/lang/invoke/MethodHandle" ∧ yX7_counted.cls ≠ "java/lang/invoke/VarHandle" ∧ (parseMethodDescriptor yX7_counted.desc).map (fun d => d.parameters.length) = some 1 := by decide +kernel
theorem hd_X7_dance : yX7_dance.cls ≠ "java/lang/invoke/MethodHandle" ∧ yX7_dance.cls ≠ "java/lang/invoke/VarHandle" ∧ (parseMethodDescriptor yX7_dance.desc).map (fun d => d.parameters.length) = some 1 := by decide +kernel
theorem hd_X7_digest : yX7_digest.cls ≠ "java/lang/invoke/MethodHandle" ∧ yX7_digest.cls ≠ "java/lang/invoke/VarHandle" ∧ (parseMethodDescriptor yX7_digest.desc).map (fun d => d.parameters.length) = some 0 := by decide +kernel
theorem hd_X7_drops : yX7_drops.cls ≠ "java/lang/invoke/MethodHandle" ∧ yX7_drops.cls ≠ "java/lang/invoke/VarHandle" ∧ (parseMethodDescriptor yX7_drops.desc).map (fun d => d.parameters.length) = some 4 := by decide +kernel
theorem hd_X7_few : yX7_few.cls ≠ "java/lang/invoke/MethodHandle" ∧ yX7_few.cls ≠ "java/lang/invoke/VarHandle" ∧ (parseMethodDescriptor yX7_few.desc).map (fun d => d.parameters.length) = some 3 := by decide +kernel
theorem hd_X7_fewest : yX7_fewest.cls ≠ "java/lang/invoke/MethodHandle" ∧ yX7_fewest.cls ≠ "java/lang/invoke/VarHandle" ∧ (parseMethodDescriptor yX7_fewest.desc).map (fun d => d.parameters.length) = some 4 := by decide +kernel
theorem hd_X7_forget : yX7_forget.cls ≠ "java/lang/invoke/MethodHandle" ∧ yX7_forget.cls ≠ "java/lang/invoke/VarHandle" ∧ (parseMethodDescriptor yX7_forget.desc).map (fun d => d.parameters.length) = some 1 := by decide +kernel
theorem hd_X7_found : yX7_found.cls ≠ "java/lang/invoke/MethodHandle" ∧ yX7_found.cls ≠ "java/lang/invoke/VarHandle" ∧ (parseMethodDescriptor yX7_found.desc).map (fun d => d.parameters.length) = some 3 := by decide +kernel
theorem hd_X7_fraction : yX7_fraction.cls ≠ "java/lang/invoke/MethodHandle" ∧ yX7_fraction.cls ≠ "java/lang/invoke/VarHandle" ∧ (parseMethodDescriptor yX7_fraction.desc).map (fun d => d.parameters.length) = some 2 := by decide +kernel
theorem hd_X7_from : yX7_from.cls ≠ "java/lang/invoke/MethodHandle" ∧ yX7_from.cls ≠ "java/lang/invoke/VarHandle" ∧ (parseMethodDescriptor yX7_from.desc).map (fun d => d.parameters.length) = some 1 := by decide +kernel
theorem hd_X7_full : yX7_full.cls ≠ "java/lang/invoke/MethodHandle" ∧ yX7_full.cls ≠ "java/lang/invoke/VarHandle" ∧ (parseMethodDescriptor yX7_full.desc).map (fun d => d.parameters.length) = some 0 := by decide +kernel
theorem hd_X7_goes : yX7_goes.cls ≠ "java/lang/invoke/MethodHandle" ∧ yX7_goes.cls ≠ "java/lang/invoke/VarHandle" ∧ (parseMethodDescriptor yX7_goes.desc).map (fun d => d.parameters.length) = some 1 := by decide +kernel
theorem hd_X7_goesBy : yX7_goesBy.cls ≠ "java/lang/invoke/MethodHandle" ∧ yX7_goesBy.cls ≠ "java/lang/invoke/VarHandle" ∧ (parseMethodDescriptor yX7_goesBy.desc).map (fun d => d.parameters.length) = some 2 := by decide +kernel
theorem hd_X7_hands : yX7_hands.cls ≠ "java/lang/invoke/MethodHandle" ∧ yX7_hands.cls ≠ "java/lang/invoke/VarHandle" ∧ (parseMethodDescriptor yX7_hands.desc).map (fun d => d.parameters.length) = some 3 := by decide +kernel
theorem hd_X7_hangs : yX7_hangs.cls ≠ "java/lang/invoke/MethodHandle" ∧ yX7_hangs.cls ≠ "java/lang/invoke/VarHandle" ∧ (parseMethodDescriptor yX7_hangs.desc).map (fun d => d.parameters.length) = some 2 := by decide +kernel
theorem hd_X7_heavy : yX7_heavy.cls ≠ "java/lang/invoke/MethodHandle" ∧ yX7_heavy.cls ≠ "java/lang/invoke/VarHandle" ∧ (parseMethodDescriptor yX7_heavy.desc).map (fun d => d.parameters.length) = some 2 := by decide +kernel
theorem hd_X7_heavyHigh : yX7_heavyHigh.cls ≠ "java/lang/invoke/MethodHandle" ∧ yX7_heavyHigh.cls ≠ "java/lang/invoke/VarHandle" ∧ (parseMethodDescriptor yX7_heavyHigh.desc).map (fun d => d.parameters.length) = some 4 := by decide +kernel
theorem hd_X7_high : yX7_high.cls ≠ "java/lang/invoke/MethodHandle" ∧ yX7_high.cls ≠ "java/lang/invoke/VarHandle" ∧ (parseMethodDescriptor yX7_high.desc).map (fun d => d.parameters.length) = some 1 := by decide +kernel
theorem hd_X7_highIn : yX7_highIn.cls ≠ "java/lang/invoke/MethodHandle" ∧ yX7_highIn.cls ≠ "java/lang/invoke/VarHandle" ∧ (parseMethodDescriptor yX7_highIn.desc).map (fun d => d.parameters.length) = some 2 := by decide +kernel
theorem hd_X7_hole : yX7_hole.cls ≠ "java/lang/invoke/MethodHandle" ∧ yX7_hole.cls ≠ "java/lang/invoke/VarHandle" ∧ (parseMethodDescriptor yX7_hole.desc).map (fun d => d.parameters.length) = some 3 := by decide +kernel
theorem hd_X7_image : yX7_image.cls ≠ "java/lang/invoke/MethodHandle" ∧ yX7_image.cls ≠ "java/lang/invoke/VarHandle" ∧ (parseMethodDescriptor yX7_image.desc).map (fun d => d.parameters.length) = some 1 := by decide +kernel
theorem hd_X7_in : yX7_in.cls ≠ "java/lang/invoke/MethodHandle" ∧ yX7_in.cls ≠ "java/lang/invoke/VarHandle" ∧ (parseMethodDescriptor yX7_in.desc).map (fun d => d.parameters.length) = some 3 := by decide +kernel
theorem hd_X7_is : yX7_is.cls ≠ "java/lang/invoke/MethodHandle" ∧ yX7_is.cls ≠ "java/lang/invoke/VarHandle" ∧ (parseMethodDescriptor yX7_is.desc).map (fun d => d.parameters.length) = some 1 := by decide +kernel
theorem hd_X7_isLimb : yX7_isLimb.cls ≠ "java/lang/invoke/MethodHandle" ∧ yX7_isLimb.cls ≠ "java/lang/invoke/VarHandle" ∧ (parseMethodDescriptor yX7_isLimb.desc).map (fun d => d.parameters.length) = some 1 := by decide +kernel
theorem hd_X7_isLimbBy : yX7_isLimbBy.cls ≠ "java/lang/invoke/MethodHandle" ∧ yX7_isLimbBy.cls ≠ "java/lang/invoke/VarHandle" ∧ (parseMethodDescriptor yX7_isLimbBy.desc).map (fun d => d.parameters.length) = some 5 := by decide +kernel
theorem hd_X7_isSnapped : yX7_isSnapped.cls ≠ "java/lang/invoke/MethodHandle" ∧ yX7_isSnapped.cls ≠ "java/lang/invoke/VarHandle" ∧ (parseMethodDescriptor yX7_isSnapped.desc).map (fun d => d.parameters.length) = some 1 := by decide +kernel
theorem hd_X7_kinds : yX7_kinds.cls ≠ "java/lang/invoke/MethodHandle" ∧ yX7_kinds.cls ≠ "java/lang/invoke/VarHandle" ∧ (parseMethodDescriptor yX7_kinds.desc).map (fun d => d.parameters.length) = some 1 := by decide +kernel
theorem hd_X7_kindsOf : yX7_kindsOf.cls ≠ "java/lang/invoke/MethodHandle" ∧ yX7_kindsOf.cls ≠ "java/lang/invoke/VarHandle" ∧ (parseMethodDescriptor yX7_kindsOf.desc).map (fun d => d.parameters.length) = some 1 := by decide +kernel
theorem hd_X7_limb : yX7_limb.cls ≠ "java/lang/invoke/MethodHandle" ∧ yX7_limb.cls ≠ "java/lang/invoke/VarHandle" ∧ (parseMethodDescriptor yX7_limb.desc).map (fun d => d.parameters.length) = some 5 := by decide +kernel
theorem hd_X7_limbComes : yX7_limbComes.cls ≠ "java/lang/invoke/MethodHandle" ∧ yX7_limbComes.cls ≠ "java/lang/invoke/VarHandle" ∧ (parseMethodDescriptor yX7_limbComes.desc).map (fun d => d.parameters.length) = some 5 := by decide +kernel
theorem hd_X7_limbOf : yX7_limbOf.cls ≠ "java/lang/invoke/MethodHandle" ∧ yX7_limbOf.cls ≠ "java/lang/invoke/VarHandle" ∧ (parseMethodDescriptor yX7_limbOf.desc).map (fun d => d.parameters.length) = some 2 := by decide +kernel
theorem hd_X7_look : yX7_look.cls ≠ "java/lang/invoke/MethodHandle" ∧ yX7_look.cls ≠ "java/lang/invoke/VarHandle" ∧ (parseMethodDescriptor yX7_look.desc).map (fun d => d.parameters.length) = some 1 := by decide +kernel
theorem hd_X7_looksOn : yX7_looksOn.cls ≠ "java/lang/invoke/MethodHandle" ∧ yX7_looksOn.cls ≠ "java/lang/invoke/VarHandle" ∧ (parseMethodDescriptor yX7_looksOn.desc).map (fun d => d.parameters.length) = some 0 := by decide +kernel
theorem hd_X7_mark : yX7_mark.cls ≠ "java/lang/invoke/MethodHandle" ∧ yX7_mark.cls ≠ "java/lang/invoke/VarHandle" ∧ (parseMethodDescriptor yX7_mark.desc).map (fun d => d.parameters.length) = some 4 := by decide +kernel
theorem hd_X7_moves : yX7_moves.cls ≠ "java/lang/invoke/MethodHandle" ∧ yX7_moves.cls ≠ "java/lang/invoke/VarHandle" ∧ (parseMethodDescriptor yX7_moves.desc).map (fun d => d.parameters.length) = some 1 := by decide +kernel
theorem hd_X7_must : yX7_must.cls ≠ "java/lang/invoke/MethodHandle" ∧ yX7_must.cls ≠ "java/lang/invoke/VarHandle" ∧ (parseMethodDescriptor yX7_must.desc).map (fun d => d.parameters.length) = some 1 := by decide +kernel
theorem hd_X7_nights : yX7_nights.cls ≠ "java/lang/invoke/MethodHandle" ∧ yX7_nights.cls ≠ "java/lang/invoke/VarHandle" ∧ (parseMethodDescriptor yX7_nights.desc).map (fun d => d.parameters.length) = some 2 := by decide +kernel
theorem hd_X7_no : yX7_no.cls ≠ "java/lang/invoke/MethodHandle" ∧ yX7_no.cls ≠ "java/lang/invoke/VarHandle" ∧ (parseMethodDescriptor yX7_no.desc).map (fun d => d.parameters.length) = some 0 := by decide +kernel
theorem hd_X7_note : yX7_note.cls ≠ "java/lang/invoke/MethodHandle" ∧ yX7_note.cls ≠ "java/lang/invoke/VarHandle" ∧ (parseMethodDescriptor yX7_note.desc).map (fun d => d.parameters.length) = some 5 := by decide +kernel
theorem hd_X7_notes : yX7_notes.cls ≠ "java/lang/invoke/MethodHandle" ∧ yX7_notes.cls ≠ "java/lang/invoke/VarHandle" ∧ (parseMethodDescriptor yX7_notes.desc).map (fun d => d.parameters.length) = some 0 := by decide +kernel
theorem hd_X7_number : yX7_number.cls ≠ "java/lang/invoke/MethodHandle" ∧ yX7_number.cls ≠ "java/lang/invoke/VarHandle" ∧ (parseMethodDescriptor yX7_number.desc).map (fun d => d.parameters.length) = some 2 := by decide +kernel
theorem hd_X7_of : yX7_of.cls ≠ "java/lang/invoke/MethodHandle" ∧ yX7_of.cls ≠ "java/lang/invoke/VarHandle" ∧ (parseMethodDescriptor yX7_of.desc).map (fun d => d.parameters.length) = some 2 := by decide +kernel
theorem hd_X7_off : yX7_off.cls ≠ "java/lang/invoke/MethodHandle" ∧ yX7_off.cls ≠ "java/lang/invoke/VarHandle" ∧ (parseMethodDescriptor yX7_off.desc).map (fun d => d.parameters.length) = some 2 := by decide +kernel
theorem hd_X7_over : yX7_over.cls ≠ "java/lang/invoke/MethodHandle" ∧ yX7_over.cls ≠ "java/lang/invoke/VarHandle" ∧ (parseMethodDescriptor yX7_over.desc).map (fun d => d.parameters.length) = some 3 := by decide +kernel
theorem hd_X7_part : yX7_part.cls ≠ "java/lang/invoke/MethodHandle" ∧ yX7_part.cls ≠ "java/lang/invoke/VarHandle" ∧ (parseMethodDescriptor yX7_part.desc).map (fun d => d.parameters.length) = some 1 := by decide +kernel
theorem hd_X7_parted : yX7_parted.cls ≠ "java/lang/invoke/MethodHandle" ∧ yX7_parted.cls ≠ "java/lang/invoke/VarHandle" ∧ (parseMethodDescriptor yX7_parted.desc).map (fun d => d.parameters.length) = some 2 := by decide +kernel
theorem hd_X7_puppet : yX7_puppet.cls ≠ "java/lang/invoke/MethodHandle" ∧ yX7_puppet.cls ≠ "java/lang/invoke/VarHandle" ∧ (parseMethodDescriptor yX7_puppet.desc).map (fun d => d.parameters.length) = some 1 := by decide +kernel
theorem hd_X7_read : yX7_read.cls ≠ "java/lang/invoke/MethodHandle" ∧ yX7_read.cls ≠ "java/lang/invoke/VarHandle" ∧ (parseMethodDescriptor yX7_read.desc).map (fun d => d.parameters.length) = some 0 := by decide +kernel
theorem hd_X7_readsItem : yX7_readsItem.cls ≠ "java/lang/invoke/MethodHandle" ∧ yX7_readsItem.cls ≠ "java/lang/invoke/VarHandle" ∧ (parseMethodDescriptor yX7_readsItem.desc).map (fun d => d.parameters.length) = some 0 := by decide +kernel
theorem hd_X7_readsLimb : yX7_readsLimb.cls ≠ "java/lang/invoke/MethodHandle" ∧ yX7_readsLimb.cls ≠ "java/lang/invoke/VarHandle" ∧ (parseMethodDescriptor yX7_readsLimb.desc).map (fun d => d.parameters.length) = some 0 := by decide +kernel
theorem hd_X7_readsMoves : yX7_readsMoves.cls ≠ "java/lang/invoke/MethodHandle" ∧ yX7_readsMoves.cls ≠ "java/lang/invoke/VarHandle" ∧ (parseMethodDescriptor yX7_readsMoves.desc).map (fun d => d.parameters.length) = some 0 := by decide +kernel
theorem hd_X7_rests : yX7_rests.cls ≠ "java/lang/invoke/MethodHandle" ∧ yX7_rests.cls ≠ "java/lang/invoke/VarHandle" ∧ (parseMethodDescriptor yX7_rests.desc).map (fun d => d.parameters.length) = some 2 := by decide +kernel
theorem hd_X7_safe : yX7_safe.cls ≠ "java/lang/invoke/MethodHandle" ∧ yX7_safe.cls ≠ "java/lang/invoke/VarHandle" ∧ (parseMethodDescriptor yX7_safe.desc).map (fun d => d.parameters.length) = some 1 := by decide +kernel
theorem hd_X7_seen : yX7_seen.cls ≠ "java/lang/invoke/MethodHandle" ∧ yX7_seen.cls ≠ "java/lang/invoke/VarHandle" ∧ (parseMethodDescriptor yX7_seen.desc).map (fun d => d.parameters.length) = some 4 := by decide +kernel
theorem hd_X7_sets : yX7_sets.cls ≠ "java/lang/invoke/MethodHandle" ∧ yX7_sets.cls ≠ "java/lang/invoke/VarHandle" ∧ (parseMethodDescriptor yX7_sets.desc).map (fun d => d.parameters.length) = some 3 := by decide +kernel
theorem hd_X7_slack : yX7_slack.cls ≠ "java/lang/invoke/MethodHandle" ∧ yX7_slack.cls ≠ "java/lang/invoke/VarHandle" ∧ (parseMethodDescriptor yX7_slack.desc).map (fun d => d.parameters.length) = some 2 := by decide +kernel
theorem hd_X7_snapped : yX7_snapped.cls ≠ "java/lang/invoke/MethodHandle" ∧ yX7_snapped.cls ≠ "java/lang/invoke/VarHandle" ∧ (parseMethodDescriptor yX7_snapped.desc).map (fun d => d.parameters.length) = some 0 := by decide +kernel
theorem hd_X7_snaps : yX7_snaps.cls ≠ "java/lang/invoke/MethodHandle" ∧ yX7_snaps.cls ≠ "java/lang/invoke/VarHandle" ∧ (parseMethodDescriptor yX7_snaps.desc).map (fun d => d.parameters.length) = some 0 := by decide +kernel
theorem hd_X7_status : yX7_status.cls ≠ "java/lang/invoke/MethodHandle" ∧ yX7_status.cls ≠ "java/lang/invoke/VarHandle" ∧ (parseMethodDescriptor yX7_status.desc).map (fun d => d.parameters.length) = some 1 := by decide +kernel
theorem hd_X7_stringsOf : yX7_stringsOf.cls ≠ "java/lang/invoke/MethodHandle" ∧ yX7_stringsOf.cls ≠ "java/lang/invoke/VarHandle" ∧ (parseMethodDescriptor yX7_stringsOf.desc).map (fun d => d.parameters.length) = some 1 := by decide +kernel
theorem hd_X7_tell : yX7_tell.cls ≠ "java/lang/invoke/MethodHandle" ∧ yX7_tell.cls ≠ "java/lang/invoke/VarHandle" ∧ (parseMethodDescriptor yX7_tell.desc).map (fun d => d.parameters.length) = some 1 := by decide +kernel
theorem hd_X7_tells : yX7_tells.cls ≠ "java/lang/invoke/MethodHandle" ∧ yX7_tells.cls ≠ "java/lang/invoke/VarHandle" ∧ (parseMethodDescriptor yX7_tells.desc).map (fun d => d.parameters.length) = some 8 := by decide +kernel
theorem hd_X7_ties : yX7_ties.cls ≠ "java/lang/invoke/MethodHandle" ∧ yX7_ties.cls ≠ "java/lang/invoke/VarHandle" ∧ (parseMethodDescriptor yX7_ties.desc).map (fun d => d.parameters.length) = some 1 := by decide +kernel
theorem hd_X7_touch : yX7_touch.cls ≠ "java/lang/invoke/MethodHandle" ∧ yX7_touch.cls ≠ "java/lang/invoke/VarHandle" ∧ (parseMethodDescriptor yX7_touch.desc).map (fun d => d.parameters.length) = some 1 := by decide +kernel
theorem hd_X7_type : yX7_type.cls ≠ "java/lang/invoke/MethodHandle" ∧ yX7_type.cls ≠ "java/lang/invoke/VarHandle" ∧ (parseMethodDescriptor yX7_type.desc).map (fun d => d.parameters.length) = some 1 := by decide +kernel
theorem hd_X7_undo : yX7_undo.cls ≠ "java/lang/invoke/MethodHandle" ∧ yX7_undo.cls ≠ "java/lang/invoke/VarHandle" ∧ (parseMethodDescriptor yX7_undo.desc).map (fun d => d.parameters.length) = some 0 := by decide +kernel
theorem hd_X7_unsnaps : yX7_unsnaps.cls ≠ "java/lang/invoke/MethodHandle" ∧ yX7_unsnaps.cls ≠ "java/lang/invoke/VarHandle" ∧ (parseMethodDescriptor yX7_unsnaps.desc).map (fun d => d.parameters.length) = some 1 := by decide +kernel
theorem hd_X7_wears : yX7_wears.cls ≠ "java/lang/invoke/MethodHandle" ∧ yX7_wears.cls ≠ "java/lang/invoke/VarHandle" ∧ (parseMethodDescriptor yX7_wears.desc).map (fun d => d.parameters.length) = some 0 := by decide +kernel
theorem hd_X7_weights : yX7_weights.cls ≠ "java/lang/invoke/MethodHandle" ∧ yX7_weights.cls ≠ "java/lang/invoke/VarHandle" ∧ (parseMethodDescriptor yX7_weights.desc).map (fun d => d.parameters.length) = some 1 := by decide +kernel
theorem hd_X7_word : yX7_word.cls ≠ "java/lang/invoke/MethodHandle" ∧ yX7_word.cls ≠ "java/lang/invoke/VarHandle" ∧ (parseMethodDescriptor yX7_word.desc).map (fun d => d.parameters.length) = some 6 := by decide +kernel
theorem hd_X7_wordAt : yX7_wordAt.cls ≠ "java/lang/invoke/MethodHandle" ∧ yX7_wordAt.cls ≠ "java/lang/invoke/VarHandle" ∧ (parseMethodDescriptor yX7_wordAt.desc).map (fun d => d.parameters.length) = some 2 := by decide +kernel
theorem n_25 : Cond.methodLinkNest RX6 9 yX2_init RX6 ∈ nstW := nst_in 25 (by decide +kernel) rfl
theorem n_31 : Cond.methodLinkNest RX2 30 yX1_init RX6 ∈ nstW := nst_in 31 (by decide +kernel) rfl
theorem n_36 : Cond.fieldLinkNest RX4 47 "StringPuppets$Pose" "lift" "I" RX6 ∈ nstW := nst_in 36 (by decide +kernel) rfl
theorem n_37 : Cond.fieldLinkNest RX2 106 "StringPuppets$Pose" "lift" "I" RX6 ∈ nstW := nst_in 37 (by decide +kernel) rfl
theorem n_38 : Cond.fieldLinkNest RX6 319 "StringPuppets$Pose" "lift" "I" RX6 ∈ nstW := nst_in 38 (by decide +kernel) rfl
theorem n_40 : Cond.fieldLinkNest RX4 52 "StringPuppets$Pose" "tilt" "I" RX6 ∈ nstW := nst_in 40 (by decide +kernel) rfl
theorem n_41 : Cond.fieldLinkNest RX2 113 "StringPuppets$Pose" "tilt" "I" RX6 ∈ nstW := nst_in 41 (by decide +kernel) rfl
theorem n_42 : Cond.fieldLinkNest RX6 178 "StringPuppets$Pose" "tilt" "I" RX6 ∈ nstW := nst_in 42 (by decide +kernel) rfl
theorem n_44 : Cond.fieldLinkNest RX4 86 "StringPuppets$Pose" "move" "I" RX6 ∈ nstW := nst_in 44 (by decide +kernel) rfl
theorem n_45 : Cond.fieldLinkNest RX6 121 "StringPuppets$Pose" "move" "I" RX6 ∈ nstW := nst_in 45 (by decide +kernel) rfl
theorem n_46 : Cond.fieldLinkNest RX2 119 "StringPuppets$Pose" "move" "I" RX6 ∈ nstW := nst_in 46 (by decide +kernel) rfl
theorem n_48 : Cond.fieldLinkNest RX2 96 "StringPuppets$Pose" "holes" "[I" RX6 ∈ nstW := nst_in 48 (by decide +kernel) rfl
theorem n_49 : Cond.fieldLinkNest RX3 116 "StringPuppets$Pose" "holes" "[I" RX6 ∈ nstW := nst_in 49 (by decide +kernel) rfl
theorem n_50 : Cond.fieldLinkNest RX6 158 "StringPuppets$Pose" "holes" "[I" RX6 ∈ nstW := nst_in 50 (by decide +kernel) rfl
theorem n_52 : Cond.fieldLinkNest RX2 99 "StringPuppets$Pose" "worn" "[I" RX6 ∈ nstW := nst_in 52 (by decide +kernel) rfl
theorem n_53 : Cond.fieldLinkNest RX3 111 "StringPuppets$Pose" "worn" "[I" RX6 ∈ nstW := nst_in 53 (by decide +kernel) rfl
theorem n_54 : Cond.fieldLinkNest RX6 148 "StringPuppets$Pose" "worn" "[I" RX6 ∈ nstW := nst_in 54 (by decide +kernel) rfl
theorem n_70 : Cond.methodLinkNest RX2 56 yX5_init RX6 ∈ nstW := nst_in 70 (by decide +kernel) rfl
theorem n_81 : Cond.fieldLinkNest RX6 325 "StringPuppets$Table" "size" "I" RX6 ∈ nstW := nst_in 81 (by decide +kernel) rfl
theorem n_92 : Cond.fieldLinkNest RX6 359 "StringPuppets$Puppet" "kinds" "[I" RX6 ∈ nstW := nst_in 92 (by decide +kernel) rfl
theorem n_94 : Cond.fieldLinkNest RX6 362 "StringPuppets$Puppet" "strings" "[I" RX6 ∈ nstW := nst_in 94 (by decide +kernel) rfl
theorem n_98 : Cond.fieldLinkNest RX6 89 "StringPuppets$Puppet" "size" "I" RX6 ∈ nstW := nst_in 98 (by decide +kernel) rfl
theorem n_99 : Cond.fieldLinkNest RX3 67 "StringPuppets$Puppet" "size" "I" RX6 ∈ nstW := nst_in 99 (by decide +kernel) rfl
theorem n_101 : Cond.fieldLinkNest RX0 18 "StringPuppets$Puppet" "pose" "LStringPuppets$Pose;" RX6 ∈ nstW := nst_in 101 (by decide +kernel) rfl
theorem n_102 : Cond.fieldLinkNest RX4 43 "StringPuppets$Puppet" "pose" "LStringPuppets$Pose;" RX6 ∈ nstW := nst_in 102 (by decide +kernel) rfl
theorem n_103 : Cond.fieldLinkNest RX6 118 "StringPuppets$Puppet" "pose" "LStringPuppets$Pose;" RX6 ∈ nstW := nst_in 103 (by decide +kernel) rfl
theorem n_104 : Cond.fieldLinkNest RX3 95 "StringPuppets$Puppet" "pose" "LStringPuppets$Pose;" RX6 ∈ nstW := nst_in 104 (by decide +kernel) rfl
theorem n_108 : Cond.fieldLinkNest RX6 161 "StringPuppets$Puppet" "undoable" "I" RX6 ∈ nstW := nst_in 108 (by decide +kernel) rfl
theorem n_110 : Cond.fieldLinkNest RX6 202 "StringPuppets$Puppet" "danceMoves" "[I" RX6 ∈ nstW := nst_in 110 (by decide +kernel) rfl
theorem n_112 : Cond.fieldLinkNest RX6 205 "StringPuppets$Puppet" "danceHighs" "[I" RX6 ∈ nstW := nst_in 112 (by decide +kernel) rfl
theorem n_114 : Cond.fieldLinkNest RX6 208 "StringPuppets$Puppet" "dancer" "I" RX6 ∈ nstW := nst_in 114 (by decide +kernel) rfl
theorem n_116 : Cond.fieldLinkNest RX6 218 "StringPuppets$Puppet" "sights" "LStringPuppets$Table;" RX6 ∈ nstW := nst_in 116 (by decide +kernel) rfl
theorem n_118 : Cond.fieldLinkNest RX6 247 "StringPuppets$Puppet" "notes" "LStringPuppets$Table;" RX6 ∈ nstW := nst_in 118 (by decide +kernel) rfl
theorem n_120 : Cond.fieldLinkNest RX6 250 "StringPuppets$Puppet" "marks" "LStringPuppets$Table;" RX6 ∈ nstW := nst_in 120 (by decide +kernel) rfl
theorem n_154 : Cond.methodLinkNest RX6 34 yX3_init RX6 ∈ nstW := nst_in 154 (by decide +kernel) rfl
theorem n_160 : Cond.fieldLinkNest RX6 104 "StringPuppets$Reader" "length" "I" RX6 ∈ nstW := nst_in 160 (by decide +kernel) rfl
theorem n_180 : Cond.methodLinkNest RX6 41 yX4_init RX6 ∈ nstW := nst_in 180 (by decide +kernel) rfl
theorem n_185 : Cond.fieldLinkNest RX6 192 "StringPuppets$Search" "row" "[I" RX6 ∈ nstW := nst_in 185 (by decide +kernel) rfl
theorem n_212 : Cond.methodLinkNest RX6 48 yX0_init RX6 ∈ nstW := nst_in 212 (by decide +kernel) rfl
theorem n_224 : Cond.methodLinkNest RX6 55 yX1_init RX6 ∈ nstW := nst_in 224 (by decide +kernel) rfl
theorem n_285 : Cond.methodLinkNest RX6 92 yX2_begin RX6 ∈ nstW := nst_in 285 (by decide +kernel) rfl
theorem n_289 : Cond.methodLinkNest RX2 69 yX1_begin RX6 ∈ nstW := nst_in 289 (by decide +kernel) rfl
theorem n_293 : Cond.methodLinkNest RX2 73 yX6_put RX6 ∈ nstW := nst_in 293 (by decide +kernel) rfl
theorem n_296 : Cond.methodLinkNest RX2 77 yX5_drain RX6 ∈ nstW := nst_in 296 (by decide +kernel) rfl
theorem n_308 : Cond.methodLinkNest RX6 100 yX2_add RX6 ∈ nstW := nst_in 308 (by decide +kernel) rfl
theorem n_316 : Cond.methodLinkNest RX6 107 yX3_append RX6 ∈ nstW := nst_in 316 (by decide +kernel) rfl
theorem n_320 : Cond.methodLinkNest RX3 31 yX6_put RX6 ∈ nstW := nst_in 320 (by decide +kernel) rfl
theorem n_329 : Cond.methodLinkNest RX6 110 yX3_readInto RX6 ∈ nstW := nst_in 329 (by decide +kernel) rfl
theorem n_345 : Cond.methodLinkNest RX3 128 yX6_cell RX6 ∈ nstW := nst_in 345 (by decide +kernel) rfl
theorem n_348 : Cond.methodLinkNest RX3 119 yX6_outside RX6 ∈ nstW := nst_in 348 (by decide +kernel) rfl
theorem n_410 : Cond.methodLinkNest RX3 55 yX2_begin RX6 ∈ nstW := nst_in 410 (by decide +kernel) rfl
theorem n_424 : Cond.methodLinkNest RX3 88 yX2_add RX6 ∈ nstW := nst_in 424 (by decide +kernel) rfl
theorem n_430 : Cond.methodLinkNest RX3 99 yX2_step RX6 ∈ nstW := nst_in 430 (by decide +kernel) rfl
theorem n_434 : Cond.methodLinkNest RX2 109 yX6_liftBehind RX6 ∈ nstW := nst_in 434 (by decide +kernel) rfl
theorem n_441 : Cond.methodLinkNest RX2 116 yX6_tiltBehind RX6 ∈ nstW := nst_in 441 (by decide +kernel) rfl
theorem n_444 : Cond.methodLinkNest RX2 102 yX6_cell RX6 ∈ nstW := nst_in 444 (by decide +kernel) rfl
theorem n_449 : Cond.methodLinkNest RX2 126 yX6_wornBehind RX6 ∈ nstW := nst_in 449 (by decide +kernel) rfl
theorem n_457 : Cond.methodLinkNest RX3 103 yX2_wornOf RX6 ∈ nstW := nst_in 457 (by decide +kernel) rfl
theorem n_461 : Cond.methodLinkNest RX3 107 yX6_isSnapped RX6 ∈ nstW := nst_in 461 (by decide +kernel) rfl
theorem n_469 : Cond.methodLinkNest RX6 114 yX2_become RX6 ∈ nstW := nst_in 469 (by decide +kernel) rfl
theorem n_473 : Cond.methodLinkNest RX2 81 yX6_copyRow RX6 ∈ nstW := nst_in 473 (by decide +kernel) rfl
theorem n_476 : Cond.methodLinkNest RX2 85 yX1_become RX6 ∈ nstW := nst_in 476 (by decide +kernel) rfl
theorem n_480 : Cond.methodLinkNest RX1 28 yX6_copyRow RX6 ∈ nstW := nst_in 480 (by decide +kernel) rfl
theorem n_485 : Cond.methodLinkNest RX2 93 yX5_become RX6 ∈ nstW := nst_in 485 (by decide +kernel) rfl
theorem n_489 : Cond.methodLinkNest RX5 39 yX6_copyRow RX6 ∈ nstW := nst_in 489 (by decide +kernel) rfl
theorem n_499 : Cond.methodLinkNest RX6 127 yX2_remember RX6 ∈ nstW := nst_in 499 (by decide +kernel) rfl
theorem n_504 : Cond.methodLinkNest RX6 130 yX2_step RX6 ∈ nstW := nst_in 504 (by decide +kernel) rfl
theorem n_505 : Cond.methodLinkNest RX6 134 yX2_snappedIn RX6 ∈ nstW := nst_in 505 (by decide +kernel) rfl
theorem n_509 : Cond.methodLinkNest RX2 130 yX6_isSnapped RX6 ∈ nstW := nst_in 509 (by decide +kernel) rfl
theorem n_518 : Cond.methodLinkNest RX6 142 yX2_wornOf RX6 ∈ nstW := nst_in 518 (by decide +kernel) rfl
theorem n_525 : Cond.methodLinkNest RX6 155 yX2_holeOf RX6 ∈ nstW := nst_in 525 (by decide +kernel) rfl
theorem n_533 : Cond.methodLinkNest RX6 164 yX2_goBack RX6 ∈ nstW := nst_in 533 (by decide +kernel) rfl
theorem n_541 : Cond.methodLinkNest RX6 167 yX2_tellOf RX6 ∈ nstW := nst_in 541 (by decide +kernel) rfl
theorem n_551 : Cond.methodLinkNest RX2 137 yX6_holeAt RX6 ∈ nstW := nst_in 551 (by decide +kernel) rfl
theorem n_558 : Cond.methodLinkNest RX2 144 yX6_dropOf RX6 ∈ nstW := nst_in 558 (by decide +kernel) rfl
theorem n_561 : Cond.methodLinkNest RX2 147 yX6_highOf RX6 ∈ nstW := nst_in 561 (by decide +kernel) rfl
theorem n_572 : Cond.methodLinkNest RX6 214 yX2_highIn RX6 ∈ nstW := nst_in 572 (by decide +kernel) rfl
theorem n_577 : Cond.methodLinkNest RX6 175 yX2_weightOf RX6 ∈ nstW := nst_in 577 (by decide +kernel) rfl
theorem n_586 : Cond.methodLinkNest RX6 188 yX4_fewest RX6 ∈ nstW := nst_in 586 (by decide +kernel) rfl
theorem n_590 : Cond.methodLinkNest RX4 37 yX2_weightOf RX6 ∈ nstW := nst_in 590 (by decide +kernel) rfl
theorem n_591 : Cond.methodLinkNest RX4 55 yX2_wornOf RX6 ∈ nstW := nst_in 591 (by decide +kernel) rfl
theorem n_600 : Cond.methodLinkNest RX4 80 yX2_holeOf RX6 ∈ nstW := nst_in 600 (by decide +kernel) rfl
theorem n_601 : Cond.methodLinkNest RX4 83 yX6_holeAt RX6 ∈ nstW := nst_in 601 (by decide +kernel) rfl
theorem n_602 : Cond.methodLinkNest RX4 89 yX2_highFrom RX6 ∈ nstW := nst_in 602 (by decide +kernel) rfl
theorem n_603 : Cond.methodLinkNest RX4 65 yX6_liftBehind RX6 ∈ nstW := nst_in 603 (by decide +kernel) rfl
theorem n_604 : Cond.methodLinkNest RX4 69 yX6_tiltBehind RX6 ∈ nstW := nst_in 604 (by decide +kernel) rfl
theorem n_605 : Cond.methodLinkNest RX4 72 yX6_wornBehind RX6 ∈ nstW := nst_in 605 (by decide +kernel) rfl
theorem n_606 : Cond.methodLinkNest RX4 76 yX6_put RX6 ∈ nstW := nst_in 606 (by decide +kernel) rfl
theorem n_621 : Cond.methodLinkNest RX6 329 yX2_highFrom RX6 ∈ nstW := nst_in 621 (by decide +kernel) rfl
theorem n_637 : Cond.methodLinkNest RX6 211 yX1_become RX6 ∈ nstW := nst_in 637 (by decide +kernel) rfl
theorem n_646 : Cond.methodLinkNest RX6 222 yX5_isFull RX6 ∈ nstW := nst_in 646 (by decide +kernel) rfl
theorem n_650 : Cond.methodLinkNest RX6 228 yX5_append RX6 ∈ nstW := nst_in 650 (by decide +kernel) rfl
theorem n_654 : Cond.methodLinkNest RX5 29 yX6_put RX6 ∈ nstW := nst_in 654 (by decide +kernel) rfl
theorem n_667 : Cond.methodLinkNest RX6 338 yX5_value RX6 ∈ nstW := nst_in 667 (by decide +kernel) rfl
theorem n_671 : Cond.methodLinkNest RX5 35 yX6_cell RX6 ∈ nstW := nst_in 671 (by decide +kernel) rfl
theorem n_716 : Cond.methodLinkNest RX6 253 yX5_drain RX6 ∈ nstW := nst_in 716 (by decide +kernel) rfl
theorem n_761 : Cond.methodLinkNest RX6 269 yX0_weigh RX6 ∈ nstW := nst_in 761 (by decide +kernel) rfl
theorem n_765 : Cond.methodLinkNest RX0 24 yX2_highIn RX6 ∈ nstW := nst_in 765 (by decide +kernel) rfl
theorem n_766 : Cond.methodLinkNest RX0 28 yX1_become RX6 ∈ nstW := nst_in 766 (by decide +kernel) rfl
theorem n_767 : Cond.methodLinkNest RX0 34 yX2_step RX6 ∈ nstW := nst_in 767 (by decide +kernel) rfl
theorem n_774 : Cond.methodLinkNest RX0 46 yX6_put RX6 ∈ nstW := nst_in 774 (by decide +kernel) rfl
theorem n_775 : Cond.methodLinkNest RX6 273 yX0_rests RX6 ∈ nstW := nst_in 775 (by decide +kernel) rfl
theorem n_779 : Cond.methodLinkNest RX0 50 yX6_cell RX6 ∈ nstW := nst_in 779 (by decide +kernel) rfl
theorem n_827 : Cond.methodLinkNest RX6 322 yX2_wornTogether RX6 ∈ nstW := nst_in 827 (by decide +kernel) rfl
theorem n_837 : Cond.methodLinkNest RX6 304 yX5_digestOn RX6 ∈ nstW := nst_in 837 (by decide +kernel) rfl
