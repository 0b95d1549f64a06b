def lsX : List (Nat × Nat × List (Option Nat)) := [(0, 5, [some 23, some 39, none, some 1, some 4, some 13, some 22]), (0, 4, [some 2, some 3, none]), (1, 40, []), (1, 12, []), (4, 4, [some 5, some 6, some 7, some 8]), (0, 3, [some 9, none, none]), (0, 3, [some 10, none, none]), (0, 3, [some 11, none, none]), (0, 3, [some 12, none, none]), (2, 24, []), (2, 24, []), (2, 24, []), (2, 24, []), (0, 2, [some 14, some 15, some 16]), (1, 5, []), (1, 5, []), (5, 5, [some 17, some 18, some 19, some 20, some 21]), (1, 5, []), (1, 5, []), (1, 5, []), (1, 5, []), (1, 5, []), (1, 12, []), (0, 1, [some 24, none, some 31, none, none, none, none, none, some 37, some 38]), (5, 6, [some 25, some 26, some 27, some 28, some 29, some 30]), (1, 12, []), (1, 12, []), (1, 12, []), (1, 12, []), (1, 12, []), (1, 12, []), (3, 5, [some 32, some 33, some 34, some 35, some 36]), (0, 0, [none, none, none, none, none, none]), (0, 0, [none, none, none, none, none, none]), (0, 0, [none, none, none, none, none, none]), (0, 0, [none, none, none, none, none, none]), (0, 0, [none, none, none, none, none, none]), (1, 12, []), (1, 4, []), (0, 1, [some 40, none, some 47, none, none, none, none, none, some 53, some 54]), (5, 6, [some 41, some 42, some 43, some 44, some 45, some 46]), (1, 12, []), (1, 12, []), (1, 12, []), (1, 12, []), (1, 12, []), (1, 12, []), (3, 5, [some 48, some 49, some 50, some 51, some 52]), (0, 0, [none, none, none, none, none, none]), (0, 0, [none, none, none, none, none, none]), (0, 0, [none, none, none, none, none, none]), (0, 0, [none, none, none, none, none, none]), (0, 0, [none, none, none, none, none, none]), (1, 12, []), (1, 4, [])]
def dsX : gDs := fun i => lsX.getD i (0, 99, [])
theorem dX_0 : dsX 0 = (0, 5, [some 23, some 39, none, some 1, some 4, some 13, some 22]) := rfl
theorem dX_1 : dsX 1 = (0, 4, [some 2, some 3, none]) := rfl
theorem dX_2 : dsX 2 = (1, 40, []) := rfl
theorem dX_3 : dsX 3 = (1, 12, []) := rfl
theorem dX_4 : dsX 4 = (4, 4, [some 5, some 6, some 7, some 8]) := rfl
theorem dX_5 : dsX 5 = (0, 3, [some 9, none, none]) := rfl
theorem dX_6 : dsX 6 = (0, 3, [some 10, none, none]) := rfl
theorem dX_7 : dsX 7 = (0, 3, [some 11, none, none]) := rfl
theorem dX_8 : dsX 8 = (0, 3, [some 12, none, none]) := rfl
theorem dX_9 : dsX 9 = (2, 24, []) := rfl
theorem dX_10 : dsX 10 = (2, 24, []) := rfl
theorem dX_11 : dsX 11 = (2, 24, []) := rfl
theorem dX_12 : dsX 12 = (2, 24, []) := rfl
theorem dX_13 : dsX 13 = (0, 2, [some 14, some 15, some 16]) := rfl
theorem dX_14 : dsX 14 = (1, 5, []) := rfl
theorem dX_15 : dsX 15 = (1, 5, []) := rfl
theorem dX_16 : dsX 16 = (5, 5, [some 17, some 18, some 19, some 20, some 21]) := rfl
theorem dX_17 : dsX 17 = (1, 5, []) := rfl
theorem dX_18 : dsX 18 = (1, 5, []) := rfl
theorem dX_19 : dsX 19 = (1, 5, []) := rfl
theorem dX_20 : dsX 20 = (1, 5, []) := rfl
theorem dX_21 : dsX 21 = (1, 5, []) := rfl
theorem dX_22 : dsX 22 = (1, 12, []) := rfl
theorem dX_23 : dsX 23 = (0, 1, [some 24, none, some 31, none, none, none, none, none, some 37, some 38]) := rfl
theorem dX_24 : dsX 24 = (5, 6, [some 25, some 26, some 27, some 28, some 29, some 30]) := rfl
theorem dX_25 : dsX 25 = (1, 12, []) := rfl
theorem dX_26 : dsX 26 = (1, 12, []) := rfl
theorem dX_27 : dsX 27 = (1, 12, []) := rfl
theorem dX_28 : dsX 28 = (1, 12, []) := rfl
theorem dX_29 : dsX 29 = (1, 12, []) := rfl
theorem dX_30 : dsX 30 = (1, 12, []) := rfl
theorem dX_31 : dsX 31 = (3, 5, [some 32, some 33, some 34, some 35, some 36]) := rfl
theorem dX_32 : dsX 32 = (0, 0, [none, none, none, none, none, none]) := rfl
theorem dX_33 : dsX 33 = (0, 0, [none, none, none, none, none, none]) := rfl
theorem dX_34 : dsX 34 = (0, 0, [none, none, none, none, none, none]) := rfl
theorem dX_35 : dsX 35 = (0, 0, [none, none, none, none, none, none]) := rfl
theorem dX_36 : dsX 36 = (0, 0, [none, none, none, none, none, none]) := rfl
theorem dX_37 : dsX 37 = (1, 12, []) := rfl
theorem dX_38 : dsX 38 = (1, 4, []) := rfl
theorem dX_39 : dsX 39 = (0, 1, [some 40, none, some 47, none, none, none, none, none, some 53, some 54]) := rfl
theorem dX_40 : dsX 40 = (5, 6, [some 41, some 42, some 43, some 44, some 45, some 46]) := rfl
theorem dX_41 : dsX 41 = (1, 12, []) := rfl
theorem dX_42 : dsX 42 = (1, 12, []) := rfl
theorem dX_43 : dsX 43 = (1, 12, []) := rfl
theorem dX_44 : dsX 44 = (1, 12, []) := rfl
theorem dX_45 : dsX 45 = (1, 12, []) := rfl
theorem dX_46 : dsX 46 = (1, 12, []) := rfl
theorem dX_47 : dsX 47 = (3, 5, [some 48, some 49, some 50, some 51, some 52]) := rfl
theorem dX_48 : dsX 48 = (0, 0, [none, none, none, none, none, none]) := rfl
theorem dX_49 : dsX 49 = (0, 0, [none, none, none, none, none, none]) := rfl
theorem dX_50 : dsX 50 = (0, 0, [none, none, none, none, none, none]) := rfl
theorem dX_51 : dsX 51 = (0, 0, [none, none, none, none, none, none]) := rfl
theorem dX_52 : dsX 52 = (0, 0, [none, none, none, none, none, none]) := rfl
theorem dX_53 : dsX 53 = (1, 12, []) := rfl
theorem dX_54 : dsX 54 = (1, 4, []) := rfl
theorem dX_hair : ∀ c, c < 6 → dsX (25 + c) = (1, 12, []) := by decide
theorem oX_hair : ∀ c, c < 6 → ([some 25, some 26, some 27, some 28, some 29, some 30] : List (Option Nat))[c]? = some (some (25 + c)) := by decide
theorem dX_fig : ∀ c, c < 5 → dsX (32 + c) = (0, 0, [none, none, none, none, none, none]) := by decide
theorem oX_fig : ∀ c, c < 5 → ([some 32, some 33, some 34, some 35, some 36] : List (Option Nat))[c]? = some (some (32 + c)) := by decide
theorem dX_sheet : ∀ c, c < 4 → dsX (5 + c) = (0, 3, [some (9 + c), none, none]) := by decide
theorem oX_sheet : ∀ c, c < 4 → ([some 5, some 6, some 7, some 8] : List (Option Nat))[c]? = some (some (5 + c)) := by decide
theorem dX_items : ∀ c, c < 4 → dsX (9 + c) = (2, 24, []) := by decide
theorem dX_ltr : ∀ c, c < 5 → dsX (17 + c) = (1, 5, []) := by decide
theorem oX_ltr : ∀ c, c < 5 → ([some 17, some 18, some 19, some 20, some 21] : List (Option Nat))[c]? = some (some (17 + c)) := by decide
theorem dX_hai2 : ∀ c, c < 6 → dsX (41 + c) = (1, 12, []) := by decide
theorem oX_hai2 : ∀ c, c < 6 → ([some 41, some 42, some 43, some 44, some 45, some 46] : List (Option Nat))[c]? = some (some (41 + c)) := by decide
theorem dX_fig2 : ∀ c, c < 5 → dsX (48 + c) = (0, 0, [none, none, none, none, none, none]) := by decide
theorem oX_fig2 : ∀ c, c < 5 → ([some 48, some 49, some 50, some 51, some 52] : List (Option Nat))[c]? = some (some (48 + c)) := by decide
def lsR : List (Nat × Nat × List (Option Nat)) := [(0, 6, [some 1, none, some 2, none, some 3, some 4, some 5, some 6, some 7, some 8, some 9, some 10, some 11, some 12, some 13]), (1, 248, []), (1, 40, []), (1, 12, []), (1, 72, []), (1, 72, []), (1, 6, []), (1, 6, []), (1, 36, []), (1, 36, []), (1, 4, []), (1, 4, []), (2, 96, []), (2, 24, [])]
def dsR : gDs := fun i => lsR.getD i (0, 99, [])
theorem dR_0 : dsR 0 = (0, 6, [some 1, none, some 2, none, some 3, some 4, some 5, some 6, some 7, some 8, some 9, some 10, some 11, some 12, some 13]) := rfl
theorem dR_1 : dsR 1 = (1, 248, []) := rfl
theorem dR_2 : dsR 2 = (1, 40, []) := rfl
theorem dR_3 : dsR 3 = (1, 12, []) := rfl
theorem dR_4 : dsR 4 = (1, 72, []) := rfl
theorem dR_5 : dsR 5 = (1, 72, []) := rfl
theorem dR_6 : dsR 6 = (1, 6, []) := rfl
theorem dR_7 : dsR 7 = (1, 6, []) := rfl
theorem dR_8 : dsR 8 = (1, 36, []) := rfl
theorem dR_9 : dsR 9 = (1, 36, []) := rfl
theorem dR_10 : dsR 10 = (1, 4, []) := rfl
theorem dR_11 : dsR 11 = (1, 4, []) := rfl
theorem dR_12 : dsR 12 = (2, 96, []) := rfl
theorem dR_13 : dsR 13 = (2, 24, []) := rfl
theorem uX0 : ∀ w ∈ u_ws RX0 TX0 6, w ∈ Al := List.forall_mem_cons.mpr ⟨wd1_50, List.forall_mem_cons.mpr ⟨wd1_52, List.forall_mem_cons.mpr ⟨wd1_54, List.forall_mem_cons.mpr ⟨wd1_56, List.forall_mem_cons.mpr ⟨wd1_58, List.forall_mem_cons.mpr ⟨wd1_60, fun _ h => absurd h List.not_mem_nil⟩⟩⟩⟩⟩⟩
theorem uX1 : ∀ w ∈ u_ws RX1 TX1 10, w ∈ Al := List.forall_mem_cons.mpr ⟨wd1_87, List.forall_mem_cons.mpr ⟨wd1_89, List.forall_mem_cons.mpr ⟨wd1_91, List.forall_mem_cons.mpr ⟨wd1_93, List.forall_mem_cons.mpr ⟨wd1_95, List.forall_mem_cons.mpr ⟨wd1_97, List.forall_mem_cons.mpr ⟨wd1_99, List.forall_mem_cons.mpr ⟨wd1_101, List.forall_mem_cons.mpr ⟨wd1_103, List.forall_mem_cons.mpr ⟨wd1_105, fun _ h => absurd h List.not_mem_nil⟩⟩⟩⟩⟩⟩⟩⟩⟩⟩
theorem uX2 : ∀ w ∈ u_ws RX2 TX2 3, w ∈ Al := List.forall_mem_cons.mpr ⟨wd1_157, List.forall_mem_cons.mpr ⟨wd1_159, List.forall_mem_cons.mpr ⟨wd1_161, fun _ h => absurd h List.not_mem_nil⟩⟩⟩
theorem uX3 : ∀ w ∈ u_ws RX3 TX3 3, w ∈ Al := List.forall_mem_cons.mpr ⟨wd1_137, List.forall_mem_cons.mpr ⟨wd1_139, List.forall_mem_cons.mpr ⟨wd1_141, fun _ h => absurd h List.not_mem_nil⟩⟩⟩
theorem uX4 : ∀ w ∈ u_ws RX4 TX4 3, w ∈ Al := List.forall_mem_cons.mpr ⟨wd1_118, List.forall_mem_cons.mpr ⟨wd1_120, List.forall_mem_cons.mpr ⟨wd1_122, fun _ h => absurd h List.not_mem_nil⟩⟩⟩
theorem uX5 : ∀ w ∈ u_ws RX5 TX5 7, w ∈ Al := List.forall_mem_cons.mpr ⟨wd1_171, List.forall_mem_cons.mpr ⟨wd1_173, List.forall_mem_cons.mpr ⟨wd1_175, List.forall_mem_cons.mpr ⟨wd1_177, List.forall_mem_cons.mpr ⟨wd1_179, List.forall_mem_cons.mpr ⟨wd1_181, List.forall_mem_cons.mpr ⟨wd1_183, fun _ h => absurd h List.not_mem_nil⟩⟩⟩⟩⟩⟩⟩
theorem uX6 : ∀ w ∈ u_ws RX6 TX6 15, w ∈ Al := List.forall_mem_cons.mpr ⟨wd3_111, List.forall_mem_cons.mpr ⟨wd3_113, List.forall_mem_cons.mpr ⟨wd3_115, List.forall_mem_cons.mpr ⟨wd3_117, List.forall_mem_cons.mpr ⟨wd3_119, List.forall_mem_cons.mpr ⟨wd3_121, List.forall_mem_cons.mpr ⟨wd3_123, List.forall_mem_cons.mpr ⟨wd3_125, List.forall_mem_cons.mpr ⟨wd3_127, List.forall_mem_cons.mpr ⟨wd3_129, List.forall_mem_cons.mpr ⟨wd3_131, List.forall_mem_cons.mpr ⟨wd3_133, List.forall_mem_cons.mpr ⟨wd3_135, List.forall_mem_cons.mpr ⟨wd3_137, List.forall_mem_cons.mpr ⟨wd3_139, fun _ h => absurd h List.not_mem_nil⟩⟩⟩⟩⟩⟩⟩⟩⟩⟩⟩⟩⟩⟩⟩
theorem kw_X0_changeKind : kwV yX0_changeKind RX0 cX0_changeKind 3 (some .int) 1 := ⟨⟨wd2_34, wd2_32, wd2_33, wd1_3⟩, by decide +kernel⟩
theorem kw_X0_changeCam : kwV yX0_changeCam RX0 cX0_changeCam 3 (some .int) 1 := ⟨⟨wd2_38, wd2_36, wd2_37, wd1_3⟩, by decide +kernel⟩
theorem kw_X0_changeLag : kwV yX0_changeLag RX0 cX0_changeLag 3 (some .int) 1 := ⟨⟨wd2_42, wd2_40, wd2_41, wd1_3⟩, by decide +kernel⟩
theorem kw_X0_changePlace : kwV yX0_changePlace RX0 cX0_changePlace 3 (some .int) 1 := ⟨⟨wd2_46, wd2_44, wd2_45, wd1_3⟩, by decide +kernel⟩
theorem kw_X0_wishFor : kwV yX0_wishFor RX0 cX0_wishFor 3 (some .int) 1 := ⟨⟨wd2_54, wd2_52, wd2_53, wd1_3⟩, by decide +kernel⟩
theorem kw_X0_missedWith : kwV yX0_missedWith RX0 cX0_missedWith 2 (some .int) 1 := ⟨⟨wd2_175, wd2_173, wd2_174, wd1_3⟩, by decide +kernel⟩
theorem kw_X0_becomeLike : kwV yX0_becomeLike RX0 cX0_becomeLike 2 none 1 := ⟨⟨wd3_19, wd3_17, wd3_18, wd1_3⟩, by decide +kernel⟩
theorem kw_X1_becomeLike : kwV yX1_becomeLike RX1 cX1_becomeLike 3 none 1 := ⟨⟨wd3_15, wd3_13, wd3_14, wd1_2⟩, by decide +kernel⟩
theorem kw_X1_addCam : kwV yX1_addCam RX1 cX1_addCam 2 (some .int) 1 := ⟨⟨wd1_230, wd1_228, wd1_229, wd1_2⟩, by decide +kernel⟩
theorem kw_X1_addFigure : kwV yX1_addFigure RX1 cX1_addFigure 6 (some .int) 4 := ⟨⟨wd2_22, wd2_20, wd2_21, wd1_2⟩, by decide +kernel⟩
theorem kw_X1_oneBehind : kwV yX1_oneBehind RX1 cX1_oneBehind 2 (some .int) 1 := ⟨⟨wd2_130, wd2_128, wd2_129, wd1_2⟩, by decide +kernel⟩
theorem kw_X1_someAhead : kwV yX1_someAhead RX1 cX1_someAhead 3 (some .int) 2 := ⟨⟨wd2_94, wd2_92, wd2_93, wd1_2⟩, by decide +kernel⟩
theorem kw_X1_hairOf : kwS yX1_hairOf cX1_hairOf 3 (some .int) 3 := ⟨⟨wd2_83, wd2_82, wd1_2⟩, by decide +kernel⟩
theorem kw_X1_heightOn : kwV yX1_heightOn RX1 cX1_heightOn 5 (some .int) 3 := ⟨⟨wd2_80, wd2_78, wd2_79, wd1_2⟩, by decide +kernel⟩
theorem kw_X1_slowHeight : kwV yX1_slowHeight RX1 cX1_slowHeight 6 (some .int) 3 := ⟨⟨wd2_90, wd2_88, wd2_89, wd1_2⟩, by decide +kernel⟩
theorem kw_X1_upsOn : kwV yX1_upsOn RX1 cX1_upsOn 5 (some .int) 2 := ⟨⟨wd2_114, wd2_112, wd2_113, wd1_2⟩, by decide +kernel⟩
theorem kw_X1_upsOf : kwV yX1_upsOf RX1 cX1_upsOf 2 (some .int) 1 := ⟨⟨wd2_110, wd2_108, wd2_109, wd1_2⟩, by decide +kernel⟩
theorem kw_X1_figuresUpNow : kwV yX1_figuresUpNow RX1 cX1_figuresUpNow 4 (some .int) 0 := ⟨⟨wd2_76, wd2_74, wd2_75, wd1_2⟩, by decide +kernel⟩
theorem kw_X1_strikesOf : kwV yX1_strikesOf RX1 cX1_strikesOf 5 (some .int) 2 := ⟨⟨wd2_138, wd2_136, wd2_137, wd1_2⟩, by decide +kernel⟩
theorem kw_X1_strikesInTurning : kwV yX1_strikesInTurning RX1 cX1_strikesInTurning 8 (some .int) 1 := ⟨⟨wd2_122, wd2_120, wd2_121, wd1_2⟩, by decide +kernel⟩
theorem kw_X1_anglesToCome : kwV yX1_anglesToCome RX1 cX1_anglesToCome 5 (some .int) 1 := ⟨⟨wd2_126, wd2_124, wd2_125, wd1_2⟩, by decide +kernel⟩
theorem kw_X1_goOn : kwV yX1_goOn RX1 cX1_goOn 2 none 1 := ⟨⟨wd2_147, wd2_145, wd2_146, wd1_2⟩, by decide +kernel⟩
theorem kw_X1_pegsBy : kwV yX1_pegsBy RX1 cX1_pegsBy 5 (some .int) 2 := ⟨⟨wd2_211, wd2_209, wd2_210, wd1_2⟩, by decide +kernel⟩
theorem kw_X1_beatsTill : kwV yX1_beatsTill RX1 cX1_beatsTill 5 (some .int) 1 := ⟨⟨wd2_224, wd2_222, wd2_223, wd1_2⟩, by decide +kernel⟩
theorem kw_X1_angleAfter : kwV yX1_angleAfter RX1 cX1_angleAfter 6 (some .int) 1 := ⟨⟨wd2_233, wd2_231, wd2_232, wd1_2⟩, by decide +kernel⟩
theorem kw_X2_compare : kwV yX2_compare RX2 cX2_compare 5 none 2 := ⟨⟨wd2_187, wd2_185, wd2_186, wd1_7⟩, by decide +kernel⟩
theorem kw_X2_lagsOf : kwS yX2_lagsOf cX2_lagsOf 6 (some .int) 2 := ⟨⟨wd2_190, wd2_189, wd1_7⟩, by decide +kernel⟩
theorem kw_X2_lagsOn : kwV yX2_lagsOn RX2 cX2_lagsOn 5 (some .int) 2 := ⟨⟨wd2_198, wd2_196, wd2_197, wd1_7⟩, by decide +kernel⟩
theorem kw_X3_isNothing : kwV yX3_isNothing RX3 cX3_isNothing 1 (some .boolean) 0 := ⟨⟨wd3_41, wd3_39, wd3_40, wd1_6⟩, by decide +kernel⟩
theorem kw_X3_begin : kwV yX3_begin RX3 cX3_begin 3 none 2 := ⟨⟨wd3_69, wd3_67, wd3_68, wd1_6⟩, by decide +kernel⟩
theorem kw_X3_end : kwV yX3_end RX3 cX3_end 1 (some .int) 0 := ⟨⟨wd3_80, wd3_78, wd3_79, wd1_6⟩, by decide +kernel⟩
theorem kw_X3_hasItems : kwV yX3_hasItems RX3 cX3_hasItems 3 (some .boolean) 2 := ⟨⟨wd3_45, wd3_43, wd3_44, wd1_6⟩, by decide +kernel⟩
theorem kw_X3_put : kwV yX3_put RX3 cX3_put 4 none 2 := ⟨⟨wd3_61, wd3_59, wd3_60, wd1_6⟩, by decide +kernel⟩
theorem kw_X4_append : kwV yX4_append RX4 cX4_append 5 (some .int) 2 := ⟨⟨wd1_202, wd1_200, wd1_201, wd1_5⟩, by decide +kernel⟩
theorem kw_X4_clear : kwV yX4_clear RX4 cX4_clear 1 none 0 := ⟨⟨wd1_226, wd1_224, wd1_225, wd1_5⟩, by decide +kernel⟩
theorem kw_X4_read : kwV yX4_read RX4 cX4_read 5 (some .int) 1 := ⟨⟨wd1_215, wd1_213, wd1_214, wd1_5⟩, by decide +kernel⟩
theorem kw_X4_digitOf : kwS yX4_digitOf cX4_digitOf 1 (some .int) 1 := ⟨⟨wd1_221, wd1_220, wd1_5⟩, by decide +kernel⟩
theorem kw_X4_wishSignOf : kwS yX4_wishSignOf cX4_wishSignOf 1 (some .int) 1 := ⟨⟨wd1_218, wd1_217, wd1_5⟩, by decide +kernel⟩
theorem kw_X5_type : kwV yX5_type RX5 cX5_type 4 (some .int) 2 := ⟨⟨wd1_189, wd1_187, wd1_188, wd1_1⟩, by decide +kernel⟩
theorem kw_X5_cam : kwV yX5_cam RX5 cX5_cam 2 (some .int) 0 := ⟨⟨wd1_207, wd1_205, wd1_206, wd1_1⟩, by decide +kernel⟩
theorem kw_X5_cut : kwV yX5_cut RX5 cX5_cut 5 (some .int) 3 := ⟨⟨wd1_237, wd1_235, wd1_236, wd1_1⟩, by decide +kernel⟩
theorem kw_X5_told : kwV yX5_told RX5 cX5_told 3 (some .int) 2 := ⟨⟨wd2_8, wd2_6, wd2_7, wd1_1⟩, by decide +kernel⟩
theorem kw_X5_figure : kwV yX5_figure RX5 cX5_figure 5 (some .int) 4 := ⟨⟨wd2_12, wd2_10, wd2_11, wd1_1⟩, by decide +kernel⟩
theorem kw_X5_set : kwV yX5_set RX5 cX5_set 4 (some .int) 3 := ⟨⟨wd2_26, wd2_24, wd2_25, wd1_1⟩, by decide +kernel⟩
theorem kw_X5_wish : kwV yX5_wish RX5 cX5_wish 3 (some .int) 1 := ⟨⟨wd2_50, wd2_48, wd2_49, wd1_1⟩, by decide +kernel⟩
theorem kw_X5_line : kwV yX5_line RX5 cX5_line 3 (some .int) 1 := ⟨⟨wd2_64, wd2_62, wd2_63, wd1_1⟩, by decide +kernel⟩
theorem kw_X5_way : kwV yX5_way RX5 cX5_way 3 (some .int) 1 := ⟨⟨wd2_68, wd2_66, wd2_67, wd1_1⟩, by decide +kernel⟩
theorem kw_X5_count : kwV yX5_count RX5 cX5_count 2 (some .int) 1 := ⟨⟨wd2_72, wd2_70, wd2_71, wd1_1⟩, by decide +kernel⟩
theorem kw_X5_height : kwV yX5_height RX5 cX5_height 4 (some .int) 2 := ⟨⟨wd2_101, wd2_99, wd2_100, wd1_1⟩, by decide +kernel⟩
theorem kw_X5_ups : kwV yX5_ups RX5 cX5_ups 2 (some .int) 1 := ⟨⟨wd2_106, wd2_104, wd2_105, wd1_1⟩, by decide +kernel⟩
theorem kw_X5_turn : kwV yX5_turn RX5 cX5_turn 3 (some .int) 1 := ⟨⟨wd2_118, wd2_116, wd2_117, wd1_1⟩, by decide +kernel⟩
theorem kw_X5_strikes : kwV yX5_strikes RX5 cX5_strikes 3 (some .int) 2 := ⟨⟨wd2_155, wd2_153, wd2_154, wd1_1⟩, by decide +kernel⟩
theorem kw_X5_wear : kwV yX5_wear RX5 cX5_wear 4 (some .int) 1 := ⟨⟨wd2_160, wd2_158, wd2_159, wd1_1⟩, by decide +kernel⟩
theorem kw_X5_missed : kwV yX5_missed RX5 cX5_missed 5 (some .int) 1 := ⟨⟨wd2_171, wd2_169, wd2_170, wd1_1⟩, by decide +kernel⟩
theorem kw_X5_fewest : kwV yX5_fewest RX5 cX5_fewest 1 (some .int) 0 := ⟨⟨wd2_179, wd2_177, wd2_178, wd1_1⟩, by decide +kernel⟩
theorem kw_X5_share : kwV yX5_share RX5 cX5_share 3 (some .int) 2 := ⟨⟨wd2_203, wd2_201, wd2_202, wd1_1⟩, by decide +kernel⟩
theorem kw_X5_pegs : kwV yX5_pegs RX5 cX5_pegs 7 (some .int) 2 := ⟨⟨wd2_207, wd2_205, wd2_206, wd1_1⟩, by decide +kernel⟩
theorem kw_X5_beats : kwV yX5_beats RX5 cX5_beats 4 (some .int) 2 := ⟨⟨wd2_216, wd2_214, wd2_215, wd1_1⟩, by decide +kernel⟩
theorem kw_X5_when : kwV yX5_when RX5 cX5_when 2 (some .int) 1 := ⟨⟨wd2_220, wd2_218, wd2_219, wd1_1⟩, by decide +kernel⟩
theorem kw_X5_at : kwV yX5_at RX5 cX5_at 2 (some .int) 1 := ⟨⟨wd2_228, wd2_226, wd2_227, wd1_1⟩, by decide +kernel⟩
theorem kw_X5_hand : kwV yX5_hand RX5 cX5_hand 4 (some .int) 2 := ⟨⟨wd2_237, wd2_235, wd2_236, wd1_1⟩, by decide +kernel⟩
theorem kw_X5_whose : kwV yX5_whose RX5 cX5_whose 5 (some .int) 1 := ⟨⟨wd3_1, wd2_239, wd3_0, wd1_1⟩, by decide +kernel⟩
theorem kw_X5_image : kwV yX5_image RX5 cX5_image 1 (some .int) 0 := ⟨⟨wd3_11, wd3_9, wd3_10, wd1_1⟩, by decide +kernel⟩
theorem kw_X5_restore : kwV yX5_restore RX5 cX5_restore 1 (some .int) 0 := ⟨⟨wd3_23, wd3_21, wd3_22, wd1_1⟩, by decide +kernel⟩
theorem kw_X5_worn : kwV yX5_worn RX5 cX5_worn 9 (some .int) 4 := ⟨⟨wd3_27, wd3_25, wd3_26, wd1_1⟩, by decide +kernel⟩
theorem kw_X5_film : kwV yX5_film RX5 cX5_film 8 (some .int) 4 := ⟨⟨wd3_57, wd3_55, wd3_56, wd1_1⟩, by decide +kernel⟩
theorem kw_X5_sheet : kwV yX5_sheet RX5 cX5_sheet 4 (some .int) 3 := ⟨⟨wd3_65, wd3_63, wd3_64, wd1_1⟩, by decide +kernel⟩
theorem kw_X5_drop : kwV yX5_drop RX5 cX5_drop 2 (some .int) 1 := ⟨⟨wd3_76, wd3_74, wd3_75, wd1_1⟩, by decide +kernel⟩
theorem kw_X5_item : kwV yX5_item RX5 cX5_item 7 (some .int) 4 := ⟨⟨wd3_84, wd3_82, wd3_83, wd1_1⟩, by decide +kernel⟩
theorem kw_X5_copy : kwV yX5_copy RX5 cX5_copy 8 (some .int) 5 := ⟨⟨wd3_88, wd3_86, wd3_87, wd1_1⟩, by decide +kernel⟩
theorem kw_X5_isWithin : kwS yX5_isWithin cX5_isWithin 3 (some .boolean) 3 := ⟨⟨wd1_192, wd1_191, wd1_1⟩, by decide +kernel⟩
theorem kw_X5_isAngle : kwS yX5_isAngle cX5_isAngle 1 (some .boolean) 1 := ⟨⟨wd2_4, wd2_3, wd1_1⟩, by decide +kernel⟩
theorem kw_X5_isKind : kwS yX5_isKind cX5_isKind 1 (some .boolean) 1 := ⟨⟨wd2_15, wd2_14, wd1_1⟩, by decide +kernel⟩
theorem kw_X5_isPlace : kwS yX5_isPlace cX5_isPlace 1 (some .boolean) 1 := ⟨⟨wd2_18, wd2_17, wd1_1⟩, by decide +kernel⟩
theorem kw_X5_isSheet : kwS yX5_isSheet cX5_isSheet 1 (some .boolean) 1 := ⟨⟨wd3_34, wd3_33, wd1_1⟩, by decide +kernel⟩
theorem kw_X5_isLane : kwS yX5_isLane cX5_isLane 1 (some .boolean) 1 := ⟨⟨wd3_37, wd3_36, wd1_1⟩, by decide +kernel⟩
theorem kw_X5_isCam : kwV yX5_isCam RX5 cX5_isCam 2 (some .boolean) 1 := ⟨⟨wd2_1, wd2_0, wdp_1, wd1_1⟩, by decide +kernel⟩
theorem kw_X5_isFigure : kwV yX5_isFigure RX5 cX5_isFigure 2 (some .boolean) 1 := ⟨⟨wd2_30, wd2_29, wdp_2, wd1_1⟩, by decide +kernel⟩
theorem kw_X5_areBytesOfTape : kwS yX5_areBytesOfTape cX5_areBytesOfTape 4 (some .boolean) 2 := ⟨⟨wd1_195, wd1_194, wd1_1⟩, by decide +kernel⟩
theorem kw_X5_refusalOf : kwV yX5_refusalOf RX5 cX5_refusalOf 5 (some .int) 4 := ⟨⟨wd3_31, wd3_30, wdp_4, wd1_1⟩, by decide +kernel⟩
theorem kw_X5_byteOf : kwS yX5_byteOf cX5_byteOf 3 (some .int) 2 := ⟨⟨wd1_198, wd1_197, wd1_1⟩, by decide +kernel⟩
theorem kw_X5_angleOf : kwS yX5_angleOf cX5_angleOf 1 (some .int) 1 := ⟨⟨wd2_133, wd2_132, wd1_1⟩, by decide +kernel⟩
theorem kw_X5_movedOn : kwS yX5_movedOn cX5_movedOn 3 (some .int) 2 := ⟨⟨wd2_141, wd2_140, wd1_1⟩, by decide +kernel⟩
theorem kw_X5_takeTape : kwV yX5_takeTape RX5 cX5_takeTape 3 (some .int) 1 := ⟨⟨wd1_211, wd1_210, wdp_0, wd1_1⟩, by decide +kernel⟩
theorem kw_X5_stepsIn : kwS yX5_stepsIn cX5_stepsIn 3 (some .int) 1 := ⟨⟨wd3_4, wd3_3, wd1_1⟩, by decide +kernel⟩
theorem kw_X5_lessenInto : kwS yX5_lessenInto cX5_lessenInto 4 none 3 := ⟨⟨wd3_53, wd3_52, wd1_1⟩, by decide +kernel⟩
theorem kw_X5_wornBy : kwS yX5_wornBy cX5_wornBy 4 (some .int) 2 := ⟨⟨wd2_163, wd2_162, wd1_1⟩, by decide +kernel⟩
theorem kw_X5_wornByOneTurn : kwS yX5_wornByOneTurn cX5_wornByOneTurn 3 (some .int) 1 := ⟨⟨wd2_166, wd2_165, wd1_1⟩, by decide +kernel⟩
theorem kw_X5_isSo : kwV yX5_isSo RX5 cX5_isSo 7 (some .boolean) 3 := ⟨⟨wd3_49, wd3_48, wdp_5, wd1_1⟩, by decide +kernel⟩
theorem kw_X5_shareCams : kwV yX5_shareCams RX5 cX5_shareCams 2 (some .int) 0 := ⟨⟨wd2_183, wd2_182, wdp_3, wd1_1⟩, by decide +kernel⟩
theorem kw_X5_isSeated : kwS yX5_isSeated cX5_isSeated 8 (some .boolean) 5 := ⟨⟨wd2_194, wd2_193, wd1_1⟩, by decide +kernel⟩
theorem kw_X6_in : kwS yX6_in cX6_in 6 (some .boolean) 3 := ⟨⟨wd3_149, wd3_148, wd1_8⟩, by decide +kernel⟩
theorem kw_X6_has : kwS yX6_has cX6_has 2 (some .boolean) 2 := ⟨⟨wd4_9, wd4_8, wd1_8⟩, by decide +kernel⟩
theorem kw_X6_ones : kwS yX6_ones cX6_ones 3 (some .int) 1 := ⟨⟨wd3_206, wd3_205, wd1_8⟩, by decide +kernel⟩
theorem kw_X6_isAngle : kwS yX6_isAngle cX6_isAngle 1 (some .boolean) 1 := ⟨⟨wd3_176, wd3_175, wd1_8⟩, by decide +kernel⟩
theorem kw_X6_isCam : kwV yX6_isCam RX6 cX6_isCam 2 (some .boolean) 1 := ⟨⟨wd3_173, wd3_172, wdp_7, wd1_8⟩, by decide +kernel⟩
theorem kw_X6_isFigure : kwV yX6_isFigure RX6 cX6_isFigure 2 (some .boolean) 1 := ⟨⟨wd3_199, wd3_198, wdp_9, wd1_8⟩, by decide +kernel⟩
theorem kw_X6_type : kwV yX6_type RX6 cX6_type 5 (some .int) 2 := ⟨⟨wd3_145, wd3_143, wd3_144, wd1_8⟩, by decide +kernel⟩
theorem kw_X6_isSign : kwS yX6_isSign cX6_isSign 2 (some .boolean) 2 := ⟨⟨wd3_163, wd3_162, wd1_8⟩, by decide +kernel⟩
theorem kw_X6_takeSigns : kwV yX6_takeSigns RX6 cX6_takeSigns 5 (some .int) 1 := ⟨⟨wd3_160, wd3_159, wdp_6, wd1_8⟩, by decide +kernel⟩
theorem kw_X6_cam : kwV yX6_cam RX6 cX6_cam 4 (some .int) 0 := ⟨⟨wd3_156, wd3_154, wd3_155, wd1_8⟩, by decide +kernel⟩
theorem kw_X6_cut : kwV yX6_cut RX6 cX6_cut 6 (some .int) 3 := ⟨⟨wd3_169, wd3_167, wd3_168, wd1_8⟩, by decide +kernel⟩
theorem kw_X6_told : kwV yX6_told RX6 cX6_told 3 (some .int) 2 := ⟨⟨wd3_182, wd3_180, wd3_181, wd1_8⟩, by decide +kernel⟩
theorem kw_X6_isGood : kwV yX6_isGood RX6 cX6_isGood 3 (some .boolean) 2 := ⟨⟨wd3_190, wd3_189, wdp_8, wd1_8⟩, by decide +kernel⟩
theorem kw_X6_figure : kwV yX6_figure RX6 cX6_figure 6 (some .int) 4 := ⟨⟨wd3_186, wd3_184, wd3_185, wd1_8⟩, by decide +kernel⟩
theorem kw_X6_set : kwV yX6_set RX6 cX6_set 6 (some .int) 3 := ⟨⟨wd3_195, wd3_193, wd3_194, wd1_8⟩, by decide +kernel⟩
theorem kw_X6_wish : kwV yX6_wish RX6 cX6_wish 6 (some .int) 1 := ⟨⟨wd3_203, wd3_201, wd3_202, wd1_8⟩, by decide +kernel⟩
theorem kw_X6_line : kwV yX6_line RX6 cX6_line 3 (some .int) 1 := ⟨⟨wd3_210, wd3_208, wd3_209, wd1_8⟩, by decide +kernel⟩
theorem kw_X6_way : kwV yX6_way RX6 cX6_way 3 (some .int) 1 := ⟨⟨wd3_214, wd3_212, wd3_213, wd1_8⟩, by decide +kernel⟩
theorem kw_X6_aheadOf : kwV yX6_aheadOf RX6 cX6_aheadOf 2 (some .int) 1 := ⟨⟨wd3_230, wd3_229, wdp_12, wd1_8⟩, by decide +kernel⟩
theorem kw_X6_behind : kwV yX6_behind RX6 cX6_behind 2 (some .int) 1 := ⟨⟨wd4_18, wd4_17, wdp_15, wd1_8⟩, by decide +kernel⟩
theorem kw_X6_hairOf : kwV yX6_hairOf RX6 cX6_hairOf 3 (some .int) 2 := ⟨⟨wd3_226, wd3_225, wdp_11, wd1_8⟩, by decide +kernel⟩
theorem kw_X6_heightOf : kwV yX6_heightOf RX6 cX6_heightOf 7 (some .int) 2 := ⟨⟨wd3_222, wd3_221, wdp_10, wd1_8⟩, by decide +kernel⟩
theorem kw_X6_upsOf : kwV yX6_upsOf RX6 cX6_upsOf 4 (some .int) 1 := ⟨⟨wd3_238, wd3_237, wdp_13, wd1_8⟩, by decide +kernel⟩
theorem kw_X6_height : kwV yX6_height RX6 cX6_height 3 (some .int) 2 := ⟨⟨wd3_218, wd3_216, wd3_217, wd1_8⟩, by decide +kernel⟩
theorem kw_X6_ups : kwV yX6_ups RX6 cX6_ups 2 (some .int) 1 := ⟨⟨wd3_234, wd3_232, wd3_233, wd1_8⟩, by decide +kernel⟩
theorem kw_X6_strikesOf : kwV yX6_strikesOf RX6 cX6_strikesOf 6 (some .int) 2 := ⟨⟨wd4_6, wd4_5, wdp_14, wd1_8⟩, by decide +kernel⟩
theorem kw_X6_strikes : kwV yX6_strikes RX6 cX6_strikes 3 (some .int) 2 := ⟨⟨wd4_2, wd4_0, wd4_1, wd1_8⟩, by decide +kernel⟩
theorem kw_X6_turn : kwV yX6_turn RX6 cX6_turn 8 (some .int) 1 := ⟨⟨wd4_13, wd4_11, wd4_12, wd1_8⟩, by decide +kernel⟩
theorem kw_X6_wear : kwV yX6_wear RX6 cX6_wear 6 (some .int) 1 := ⟨⟨wd4_23, wd4_21, wd4_22, wd1_8⟩, by decide +kernel⟩
theorem kw_X6_missed : kwV yX6_missed RX6 cX6_missed 5 (some .int) 1 := ⟨⟨wd4_27, wd4_25, wd4_26, wd1_8⟩, by decide +kernel⟩
theorem kw_X6_turned : kwS yX6_turned cX6_turned 2 (some .int) 2 := ⟨⟨wd4_46, wd4_45, wd1_8⟩, by decide +kernel⟩
theorem kw_X6_puts : kwV yX6_puts RX6 cX6_puts 3 (some .boolean) 1 := ⟨⟨wd4_43, wd4_42, wdp_18, wd1_8⟩, by decide +kernel⟩
theorem kw_X6_camsUsed : kwV yX6_camsUsed RX6 cX6_camsUsed 4 (some .int) 1 := ⟨⟨wd4_39, wd4_38, wdp_17, wd1_8⟩, by decide +kernel⟩
theorem kw_X6_sharesBy : kwV yX6_sharesBy RX6 cX6_sharesBy 5 (some .boolean) 1 := ⟨⟨wd4_35, wd4_34, wdp_16, wd1_8⟩, by decide +kernel⟩
theorem kw_X6_fewest : kwV yX6_fewest RX6 cX6_fewest 2 (some .int) 0 := ⟨⟨wd4_31, wd4_29, wd4_30, wd1_8⟩, by decide +kernel⟩
theorem kw_X6_share : kwV yX6_share RX6 cX6_share 4 (some .int) 2 := ⟨⟨wd4_50, wd4_48, wd4_49, wd1_8⟩, by decide +kernel⟩
theorem kw_X6_pegs : kwV yX6_pegs RX6 cX6_pegs 8 (some .int) 2 := ⟨⟨wd4_54, wd4_52, wd4_53, wd1_8⟩, by decide +kernel⟩
theorem kw_X6_beats : kwV yX6_beats RX6 cX6_beats 4 (some .int) 2 := ⟨⟨wd4_58, wd4_56, wd4_57, wd1_8⟩, by decide +kernel⟩
theorem kw_X6_when : kwV yX6_when RX6 cX6_when 4 (some .int) 1 := ⟨⟨wd4_63, wd4_61, wd4_62, wd1_8⟩, by decide +kernel⟩
theorem kw_X6_at : kwV yX6_at RX6 cX6_at 5 (some .int) 1 := ⟨⟨wd4_67, wd4_65, wd4_66, wd1_8⟩, by decide +kernel⟩
theorem kw_X6_hand : kwV yX6_hand RX6 cX6_hand 4 (some .int) 2 := ⟨⟨wd4_72, wd4_70, wd4_71, wd1_8⟩, by decide +kernel⟩
theorem kw_X6_whose : kwV yX6_whose RX6 cX6_whose 5 (some .int) 1 := ⟨⟨wd4_77, wd4_75, wd4_76, wd1_8⟩, by decide +kernel⟩
theorem kw_X6_image : kwV yX6_image RX6 cX6_image 2 (some .int) 0 := ⟨⟨wd4_81, wd4_79, wd4_80, wd1_8⟩, by decide +kernel⟩
theorem kw_X6_restore : kwV yX6_restore RX6 cX6_restore 2 (some .int) 0 := ⟨⟨wd4_85, wd4_83, wd4_84, wd1_8⟩, by decide +kernel⟩
theorem kw_X6_count : kwV yX6_count RX6 cX6_count 4 (some .int) 1 := ⟨⟨wd4_89, wd4_87, wd4_88, wd1_8⟩, by decide +kernel⟩
theorem kw_X6_isSheet : kwS yX6_isSheet cX6_isSheet 1 (some .boolean) 1 := ⟨⟨wd4_96, wd4_95, wd1_8⟩, by decide +kernel⟩
theorem kw_X6_bars : kwV yX6_bars RX6 cX6_bars 5 (some .int) 4 := ⟨⟨wd4_101, wd4_100, wdp_19, wd1_8⟩, by decide +kernel⟩
theorem kw_X6_cutTo : kwS yX6_cutTo cX6_cutTo 3 (some .long) 2 := ⟨⟨wd4_124, wd4_123, wd1_8⟩, by decide +kernel⟩
theorem kw_X6_isSo : kwV yX6_isSo RX6 cX6_isSo 4 (some .boolean) 1 := ⟨⟨wd4_105, wd4_104, wdp_20, wd1_8⟩, by decide +kernel⟩
theorem kw_X6_worn : kwV yX6_worn RX6 cX6_worn 10 (some .int) 4 := ⟨⟨wd4_93, wd4_91, wd4_92, wd1_8⟩, by decide +kernel⟩
theorem kw_X6_film : kwV yX6_film RX6 cX6_film 7 (some .int) 4 := ⟨⟨wd4_109, wd4_107, wd4_108, wd1_8⟩, by decide +kernel⟩
theorem kw_X6_sheet : kwV yX6_sheet RX6 cX6_sheet 5 (some .int) 3 := ⟨⟨wd4_113, wd4_111, wd4_112, wd1_8⟩, by decide +kernel⟩
theorem kw_X6_drop : kwV yX6_drop RX6 cX6_drop 2 (some .int) 1 := ⟨⟨wd4_117, wd4_115, wd4_116, wd1_8⟩, by decide +kernel⟩
theorem kw_X6_item : kwV yX6_item RX6 cX6_item 7 (some .int) 4 := ⟨⟨wd4_121, wd4_119, wd4_120, wd1_8⟩, by decide +kernel⟩
theorem kw_X6_copy : kwV yX6_copy RX6 cX6_copy 8 (some .int) 5 := ⟨⟨wd4_128, wd4_126, wd4_127, wd1_8⟩, by decide +kernel⟩
theorem kw_J6_bitCount_0f7a4 : kwS yJ6_bitCount_0f7a4 cJ6_bitCount_0f7a4 1 (some .int) 1 := ⟨⟨wd2_57, wd2_56, wd1_10⟩, by decide +kernel⟩
theorem kw_J9_floorMod_7cf53 : kwS yJ9_floorMod_7cf53 cJ9_floorMod_7cf53 3 (some .int) 2 := ⟨⟨wd2_86, wd2_85, wd1_11⟩, by decide +kernel⟩
theorem kw_J9_abs_0f7a4 : kwS yJ9_abs_0f7a4 cJ9_abs_0f7a4 1 (some .int) 1 := ⟨⟨wd3_7, wd3_6, wd1_11⟩, by decide +kernel⟩
theorem kw_J9_max_7cf53 : kwS yJ9_max_7cf53 cJ9_max_7cf53 2 (some .int) 2 := ⟨⟨wd2_97, wd2_96, wd1_11⟩, by decide +kernel⟩
theorem kw_J9_min_7cf53 : kwS yJ9_min_7cf53 cJ9_min_7cf53 2 (some .int) 2 := ⟨⟨wd2_151, wd2_150, wd1_11⟩, by decide +kernel⟩
theorem kw_J7_fill_d0a16 : kwS yJ7_fill_d0a16 cJ7_fill_d0a16 5 none 2 := ⟨⟨wd3_72, wd3_71, wd1_4⟩, by decide +kernel⟩
theorem kw_J7_fill_53178 : kwS yJ7_fill_53178 cJ7_fill_53178 4 none 2 := ⟨⟨wd1_66, wd1_65, wd1_4⟩, by decide +kernel⟩
