theorem fiX0_in : ∀ w ∈ u_ws RX0 TX0 7, w ∈ wsG := by
  show ∀ w ∈ [u_lay RX0 TX0 0, u_lay RX0 TX0 1, u_lay RX0 TX0 2, u_lay RX0 TX0 3, u_lay RX0 TX0 4, u_lay RX0 TX0 5, u_lay RX0 TX0 6], w ∈ wsG
  exact List.forall_mem_cons.mpr ⟨q1_155, List.forall_mem_cons.mpr ⟨q1_157, List.forall_mem_cons.mpr ⟨q1_159, List.forall_mem_cons.mpr ⟨q1_161, List.forall_mem_cons.mpr ⟨q1_163, List.forall_mem_cons.mpr ⟨q1_165, List.forall_mem_cons.mpr ⟨q1_167, fun _ h => absurd h List.not_mem_nil⟩⟩⟩⟩⟩⟩⟩
theorem fiX0 : FI RX0 TX0 7 tyX0 := ⟨fiX0_in, tyX0_ok, nmX0⟩
theorem fiX1_in : ∀ w ∈ u_ws RX1 TX1 13, w ∈ wsG := by
  show ∀ w ∈ [u_lay RX1 TX1 0, u_lay RX1 TX1 1, u_lay RX1 TX1 2, u_lay RX1 TX1 3, u_lay RX1 TX1 4, u_lay RX1 TX1 5, u_lay RX1 TX1 6, u_lay RX1 TX1 7, u_lay RX1 TX1 8, u_lay RX1 TX1 9, u_lay RX1 TX1 10, u_lay RX1 TX1 11, u_lay RX1 TX1 12], w ∈ wsG
  exact List.forall_mem_cons.mpr ⟨q1_113, List.forall_mem_cons.mpr ⟨q1_115, List.forall_mem_cons.mpr ⟨q1_117, List.forall_mem_cons.mpr ⟨q1_119, List.forall_mem_cons.mpr ⟨q1_121, List.forall_mem_cons.mpr ⟨q1_123, List.forall_mem_cons.mpr ⟨q1_125, List.forall_mem_cons.mpr ⟨q1_127, List.forall_mem_cons.mpr ⟨q1_129, List.forall_mem_cons.mpr ⟨q1_131, List.forall_mem_cons.mpr ⟨q1_133, List.forall_mem_cons.mpr ⟨q1_135, List.forall_mem_cons.mpr ⟨q1_137, fun _ h => absurd h List.not_mem_nil⟩⟩⟩⟩⟩⟩⟩⟩⟩⟩⟩⟩⟩
theorem fiX1 : FI RX1 TX1 13 tyX1 := ⟨fiX1_in, tyX1_ok, nmX1⟩
theorem fiX2_in : ∀ w ∈ u_ws RX2 TX2 4, w ∈ wsG := by
  show ∀ w ∈ [u_lay RX2 TX2 0, u_lay RX2 TX2 1, u_lay RX2 TX2 2, u_lay RX2 TX2 3], w ∈ wsG
  exact List.forall_mem_cons.mpr ⟨q1_182, List.forall_mem_cons.mpr ⟨q1_184, List.forall_mem_cons.mpr ⟨q1_186, List.forall_mem_cons.mpr ⟨q1_188, fun _ h => absurd h List.not_mem_nil⟩⟩⟩⟩
theorem fiX2 : FI RX2 TX2 4 tyX2 := ⟨fiX2_in, tyX2_ok, nmX2⟩
theorem fiX3_in : ∀ w ∈ u_ws RX3 TX3 4, w ∈ wsG := by
  show ∀ w ∈ [u_lay RX3 TX3 0, u_lay RX3 TX3 1, u_lay RX3 TX3 2, u_lay RX3 TX3 3], w ∈ wsG
  exact List.forall_mem_cons.mpr ⟨q1_45, List.forall_mem_cons.mpr ⟨q1_47, List.forall_mem_cons.mpr ⟨q1_49, List.forall_mem_cons.mpr ⟨q1_51, fun _ h => absurd h List.not_mem_nil⟩⟩⟩⟩
theorem fiX3 : FI RX3 TX3 4 tyX3 := ⟨fiX3_in, tyX3_ok, nmX3⟩
theorem fiX4_in : ∀ w ∈ u_ws RX4 TX4 4, w ∈ wsG := by
  show ∀ w ∈ [u_lay RX4 TX4 0, u_lay RX4 TX4 1, u_lay RX4 TX4 2, u_lay RX4 TX4 3], w ∈ wsG
  exact List.forall_mem_cons.mpr ⟨q1_209, List.forall_mem_cons.mpr ⟨q1_211, List.forall_mem_cons.mpr ⟨q1_213, List.forall_mem_cons.mpr ⟨q1_215, fun _ h => absurd h List.not_mem_nil⟩⟩⟩⟩
theorem fiX4 : FI RX4 TX4 4 tyX4 := ⟨fiX4_in, tyX4_ok, nmX4⟩
theorem fiX5_in : ∀ w ∈ u_ws RX5 TX5 4, w ∈ wsG := by
  show ∀ w ∈ [u_lay RX5 TX5 0, u_lay RX5 TX5 1, u_lay RX5 TX5 2, u_lay RX5 TX5 3], w ∈ wsG
  exact List.forall_mem_cons.mpr ⟨q1_73, List.forall_mem_cons.mpr ⟨q1_75, List.forall_mem_cons.mpr ⟨q1_77, List.forall_mem_cons.mpr ⟨q1_79, fun _ h => absurd h List.not_mem_nil⟩⟩⟩⟩
theorem fiX5 : FI RX5 TX5 4 tyX5 := ⟨fiX5_in, tyX5_ok, nmX5⟩
theorem fiX6_in : ∀ w ∈ u_ws RX6 TX6 9, w ∈ wsG := by
  show ∀ w ∈ [u_lay RX6 TX6 0, u_lay RX6 TX6 1, u_lay RX6 TX6 2, u_lay RX6 TX6 3, u_lay RX6 TX6 4, u_lay RX6 TX6 5, u_lay RX6 TX6 6, u_lay RX6 TX6 7, u_lay RX6 TX6 8], w ∈ wsG
  exact List.forall_mem_cons.mpr ⟨q1_228, List.forall_mem_cons.mpr ⟨q1_230, List.forall_mem_cons.mpr ⟨q1_232, List.forall_mem_cons.mpr ⟨q1_234, List.forall_mem_cons.mpr ⟨q1_236, List.forall_mem_cons.mpr ⟨q1_238, List.forall_mem_cons.mpr ⟨q2_0, List.forall_mem_cons.mpr ⟨q2_2, List.forall_mem_cons.mpr ⟨q2_4, fun _ h => absurd h List.not_mem_nil⟩⟩⟩⟩⟩⟩⟩⟩⟩
theorem fiX6 : FI RX6 TX6 9 tyX6 := ⟨fiX6_in, tyX6_ok, nmX6⟩
theorem fiX7_in : ∀ w ∈ u_ws RX7 TX7 37, w ∈ wsG := by
  show ∀ w ∈ [u_lay RX7 TX7 0, u_lay RX7 TX7 1, u_lay RX7 TX7 2, u_lay RX7 TX7 3, u_lay RX7 TX7 4, u_lay RX7 TX7 5, u_lay RX7 TX7 6, u_lay RX7 TX7 7, u_lay RX7 TX7 8, u_lay RX7 TX7 9, u_lay RX7 TX7 10, u_lay RX7 TX7 11, u_lay RX7 TX7 12, u_lay RX7 TX7 13, u_lay RX7 TX7 14, u_lay RX7 TX7 15, u_lay RX7 TX7 16, u_lay RX7 TX7 17, u_lay RX7 TX7 18, u_lay RX7 TX7 19, u_lay RX7 TX7 20, u_lay RX7 TX7 21, u_lay RX7 TX7 22, u_lay RX7 TX7 23, u_lay RX7 TX7 24, u_lay RX7 TX7 25, u_lay RX7 TX7 26, u_lay RX7 TX7 27, u_lay RX7 TX7 28, u_lay RX7 TX7 29, u_lay RX7 TX7 30, u_lay RX7 TX7 31, u_lay RX7 TX7 32, u_lay RX7 TX7 33, u_lay RX7 TX7 34, u_lay RX7 TX7 35, u_lay RX7 TX7 36], w ∈ wsG
  exact List.forall_mem_cons.mpr ⟨q4_197, List.forall_mem_cons.mpr ⟨q4_199, List.forall_mem_cons.mpr ⟨q4_201, List.forall_mem_cons.mpr ⟨q4_203, List.forall_mem_cons.mpr ⟨q4_205, List.forall_mem_cons.mpr ⟨q4_207, List.forall_mem_cons.mpr ⟨q4_209, List.forall_mem_cons.mpr ⟨q4_211, List.forall_mem_cons.mpr ⟨q4_213, List.forall_mem_cons.mpr ⟨q4_215, List.forall_mem_cons.mpr ⟨q4_217, List.forall_mem_cons.mpr ⟨q4_219, List.forall_mem_cons.mpr ⟨q4_221, List.forall_mem_cons.mpr ⟨q4_223, List.forall_mem_cons.mpr ⟨q4_225, List.forall_mem_cons.mpr ⟨q4_227, List.forall_mem_cons.mpr ⟨q4_229, List.forall_mem_cons.mpr ⟨q4_231, List.forall_mem_cons.mpr ⟨q4_233, List.forall_mem_cons.mpr ⟨q4_235, List.forall_mem_cons.mpr ⟨q4_237, List.forall_mem_cons.mpr ⟨q4_239, List.forall_mem_cons.mpr ⟨q5_1, List.forall_mem_cons.mpr ⟨q5_3, List.forall_mem_cons.mpr ⟨q5_5, List.forall_mem_cons.mpr ⟨q5_7, List.forall_mem_cons.mpr ⟨q5_9, List.forall_mem_cons.mpr ⟨q5_11, List.forall_mem_cons.mpr ⟨q5_13, List.forall_mem_cons.mpr ⟨q5_15, List.forall_mem_cons.mpr ⟨q5_17, List.forall_mem_cons.mpr ⟨q5_19, List.forall_mem_cons.mpr ⟨q5_21, List.forall_mem_cons.mpr ⟨q5_23, List.forall_mem_cons.mpr ⟨q5_25, List.forall_mem_cons.mpr ⟨q5_27, List.forall_mem_cons.mpr ⟨q5_29, fun _ h => absurd h List.not_mem_nil⟩⟩⟩⟩⟩⟩⟩⟩⟩⟩⟩⟩⟩⟩⟩⟩⟩⟩⟩⟩⟩⟩⟩⟩⟩⟩⟩⟩⟩⟩⟩⟩⟩⟩⟩⟩⟩
theorem fiX7 : FI RX7 TX7 37 tyX7 := ⟨fiX7_in, tyX7_ok, nmX7⟩
theorem okX6_letter : OkV yX6_letter cX6_letter 2 (some .int) 1 := ⟨q2_8, q2_9, q1_1, q2_10, ⟨by decide +kernel, by decide +kernel, by decide +kernel⟩⟩
theorem okX0_add : OkV yX0_add cX0_add 2 (some .int) 1 := ⟨q2_12, q2_13, q1_5, q2_14, ⟨by decide +kernel, by decide +kernel, by decide +kernel⟩⟩
theorem okX6_counted : OkV yX6_counted cX6_counted 2 (some .int) 1 := ⟨q2_17, wg_sel (List.mem_of_getElem? (i := 0) rfl) rfl, q1_1, q2_18, ⟨by decide +kernel, by decide +kernel, by decide +kernel⟩⟩
theorem okX6_refused : OkV yX6_refused cX6_refused 2 (some .int) 1 := ⟨q2_21, wg_sel (List.mem_of_getElem? (i := 1) rfl) rfl, q1_1, q2_22, ⟨by decide +kernel, by decide +kernel, by decide +kernel⟩⟩
theorem okX6_tells : OkV yX6_tells cX6_tells 2 (some .int) 0 := ⟨q2_24, q2_25, q1_1, q2_26, ⟨by decide +kernel, by decide +kernel, by decide +kernel⟩⟩
theorem okX6_hearStatements : OkV yX6_hearStatements cX6_hearStatements 5 (some .int) 0 := ⟨q2_29, wg_sel (List.mem_of_getElem? (i := 2) rfl) rfl, q1_1, q2_30, ⟨by decide +kernel, by decide +kernel, by decide +kernel⟩⟩
theorem okX0_faultOfForm : OkV yX0_faultOfForm cX0_faultOfForm 2 (some .int) 0 := ⟨q2_32, q2_33, q1_5, q2_34, ⟨by decide +kernel, by decide +kernel, by decide +kernel⟩⟩
theorem okX0_hasMore : OkV yX0_hasMore cX0_hasMore 1 (some .boolean) 0 := ⟨q2_36, q2_37, q1_5, q2_38, ⟨by decide +kernel, by decide +kernel, by decide +kernel⟩⟩
theorem okX0_readStatement : OkV yX0_readStatement cX0_readStatement 2 (some .boolean) 0 := ⟨q2_40, q2_41, q1_5, q2_42, ⟨by decide +kernel, by decide +kernel, by decide +kernel⟩⟩
theorem okX0_readWord : OkV yX0_readWord cX0_readWord 5 (some .boolean) 0 := ⟨q2_45, wg_sel (List.mem_of_getElem? (i := 3) rfl) rfl, q1_5, q2_46, ⟨by decide +kernel, by decide +kernel, by decide +kernel⟩⟩
theorem okX0_beginsWord : OkV yX0_beginsWord cX0_beginsWord 6 (some .boolean) 3 := ⟨q2_49, wg_sel (List.mem_of_getElem? (i := 4) rfl) rfl, q1_5, q2_50, ⟨by decide +kernel, by decide +kernel, by decide +kernel⟩⟩
theorem okX0_textOf : OkS yX0_textOf cX0_textOf 1 (some (.object "java/lang/String")) 1 := ⟨q2_52, q1_5, q2_53, ⟨by decide +kernel, by decide +kernel, by decide +kernel⟩⟩
theorem okJ0_length_8abf5 : OkV yJ0_length_8abf5 cJ0_length_8abf5 1 (some .int) 0 := ⟨q2_62, q2_63, q1_9, q2_64, ⟨by decide +kernel, by decide +kernel, by decide +kernel⟩⟩
theorem okJ0_coder_7d493 : OkV yJ0_coder_7d493 cJ0_coder_7d493 1 (some .byte) 0 := ⟨q2_66, q2_67, q1_9, q2_68, ⟨by decide +kernel, by decide +kernel, by decide +kernel⟩⟩
theorem okJ0_charAt_5068e : OkV yJ0_charAt_5068e cJ0_charAt_5068e 2 (some .char) 1 := ⟨q2_72, q2_73, q1_9, q2_74, ⟨by decide +kernel, by decide +kernel, by decide +kernel⟩⟩
theorem okJ0_isLatin1_aae02 : OkV yJ0_isLatin1_aae02 cJ0_isLatin1_aae02 1 (some .boolean) 0 := ⟨q2_76, q2_77, q1_9, q2_78, ⟨by decide +kernel, by decide +kernel, by decide +kernel⟩⟩
theorem okJ1_charAt_3b067 : OkS yJ1_charAt_3b067 cJ1_charAt_3b067 2 (some .char) 2 := ⟨q2_80, q1_10, q2_81, ⟨by decide +kernel, by decide +kernel, by decide +kernel⟩⟩
theorem okJ0_checkIndex_df160 : OkS yJ0_checkIndex_df160 cJ0_checkIndex_df160 2 none 2 := ⟨q2_83, q1_9, q2_84, ⟨by decide +kernel, by decide +kernel, by decide +kernel⟩⟩
theorem okJ3_checkIndex_8e157 : OkS yJ3_checkIndex_8e157 cJ3_checkIndex_8e157 3 (some .int) 3 := ⟨q2_88, q1_11, q2_89, ⟨by decide +kernel, by decide +kernel, by decide +kernel⟩⟩
theorem okJ2_charAt_3b067 : OkS yJ2_charAt_3b067 cJ2_charAt_3b067 2 (some .char) 2 := ⟨q2_91, q1_12, q2_92, ⟨by decide +kernel, by decide +kernel, by decide +kernel⟩⟩
theorem okJ2_checkIndex_2214a : OkS yJ2_checkIndex_2214a cJ2_checkIndex_2214a 2 none 2 := ⟨q2_94, q1_12, q2_95, ⟨by decide +kernel, by decide +kernel, by decide +kernel⟩⟩
theorem okJ2_length_9d52b : OkS yJ2_length_9d52b cJ2_length_9d52b 1 (some .int) 1 := ⟨q2_97, q1_12, q2_98, ⟨by decide +kernel, by decide +kernel, by decide +kernel⟩⟩
theorem okJ2_getChar_3b067 : OkS yJ2_getChar_3b067 cJ2_getChar_3b067 2 (some .char) 2 := ⟨q2_101, q1_12, q2_102, ⟨by decide +kernel, by decide +kernel, by decide +kernel⟩⟩
theorem okX0_readName : OkV yX0_readName cX0_readName 2 (some .boolean) 0 := ⟨q2_111, wg_sel (List.mem_of_getElem? (i := 5) rfl) rfl, q1_5, q2_112, ⟨by decide +kernel, by decide +kernel, by decide +kernel⟩⟩
theorem okX0_readSign : OkV yX0_readSign cX0_readSign 2 (some .boolean) 1 := ⟨q2_115, wg_sel (List.mem_of_getElem? (i := 6) rfl) rfl, q1_5, q2_116, ⟨by decide +kernel, by decide +kernel, by decide +kernel⟩⟩
theorem okX0_isBetween : OkV yX0_isBetween cX0_isBetween 3 (some .boolean) 2 := ⟨q2_119, wg_sel (List.mem_of_getElem? (i := 7) rfl) rfl, q1_5, q2_120, ⟨by decide +kernel, by decide +kernel, by decide +kernel⟩⟩
theorem okX0_readNumber : OkV yX0_readNumber cX0_readNumber 3 (some .boolean) 1 := ⟨q2_125, wg_sel (List.mem_of_getElem? (i := 8) rfl) rfl, q1_5, q2_126, ⟨by decide +kernel, by decide +kernel, by decide +kernel⟩⟩
theorem okX1_copyFrom : OkV yX1_copyFrom cX1_copyFrom 3 none 1 := ⟨q2_128, q2_129, q1_2, q2_130, ⟨by decide +kernel, by decide +kernel, by decide +kernel⟩⟩
theorem okX5_copyFrom : OkV yX5_copyFrom cX5_copyFrom 2 none 1 := ⟨q2_135, q2_136, q1_4, q2_137, ⟨by decide +kernel, by decide +kernel, by decide +kernel⟩⟩
theorem okX3_copyFrom : OkV yX3_copyFrom cX3_copyFrom 2 none 1 := ⟨q2_139, q2_140, q1_3, q2_141, ⟨by decide +kernel, by decide +kernel, by decide +kernel⟩⟩
theorem okX0_rewind : OkV yX0_rewind cX0_rewind 1 none 0 := ⟨q2_144, q2_145, q1_5, q2_146, ⟨by decide +kernel, by decide +kernel, by decide +kernel⟩⟩
theorem okX0_sayTo : OkV yX0_sayTo cX0_sayTo 2 (some .int) 1 := ⟨q2_150, q2_151, q1_5, q2_152, ⟨by decide +kernel, by decide +kernel, by decide +kernel⟩⟩
theorem okX1_setGround : OkV yX1_setGround cX1_setGround 4 (some .int) 2 := ⟨q2_154, q2_155, q1_2, q2_156, ⟨by decide +kernel, by decide +kernel, by decide +kernel⟩⟩
theorem okX1_hasCell : OkV yX1_hasCell cX1_hasCell 2 (some .boolean) 1 := ⟨q2_158, q2_159, q1_2, q2_160, ⟨by decide +kernel, by decide +kernel, by decide +kernel⟩⟩
theorem okX1_addBridge : OkV yX1_addBridge cX1_addBridge 4 (some .int) 3 := ⟨q2_162, q2_163, q1_2, q2_164, ⟨by decide +kernel, by decide +kernel, by decide +kernel⟩⟩
theorem okX1_addPost : OkV yX1_addPost cX1_addPost 3 (some .int) 2 := ⟨q2_166, q2_167, q1_2, q2_168, ⟨by decide +kernel, by decide +kernel, by decide +kernel⟩⟩
theorem okX1_postAt : OkV yX1_postAt cX1_postAt 3 (some .int) 1 := ⟨q2_171, wg_sel (List.mem_of_getElem? (i := 9) rfl) rfl, q1_2, q2_172, ⟨by decide +kernel, by decide +kernel, by decide +kernel⟩⟩
theorem okX1_addTrain : OkV yX1_addTrain cX1_addTrain 6 (some .int) 4 := ⟨q2_174, q2_175, q1_2, q2_176, ⟨by decide +kernel, by decide +kernel, by decide +kernel⟩⟩
theorem okX1_setNeed : OkV yX1_setNeed cX1_setNeed 3 (some .int) 1 := ⟨q2_178, q2_179, q1_2, q2_180, ⟨by decide +kernel, by decide +kernel, by decide +kernel⟩⟩
theorem okX1_resize : OkV yX1_resize cX1_resize 4 (some .int) 1 := ⟨q2_182, q2_183, q1_2, q2_184, ⟨by decide +kernel, by decide +kernel, by decide +kernel⟩⟩
theorem okX1_removeBridge : OkV yX1_removeBridge cX1_removeBridge 3 none 1 := ⟨q2_186, q2_187, q1_2, q2_188, ⟨by decide +kernel, by decide +kernel, by decide +kernel⟩⟩
theorem okX1_removePost : OkV yX1_removePost cX1_removePost 3 none 1 := ⟨q2_191, wg_sel (List.mem_of_getElem? (i := 10) rfl) rfl, q1_2, q2_192, ⟨by decide +kernel, by decide +kernel, by decide +kernel⟩⟩
theorem okX3_dropFrom : OkV yX3_dropFrom cX3_dropFrom 4 none 1 := ⟨q2_194, q2_195, q1_3, q2_196, ⟨by decide +kernel, by decide +kernel, by decide +kernel⟩⟩
theorem okX0_sayPlace : OkV yX0_sayPlace cX0_sayPlace 2 (some .int) 1 := ⟨q2_199, wg_sel (List.mem_of_getElem? (i := 11) rfl) rfl, q1_5, q2_200, ⟨by decide +kernel, by decide +kernel, by decide +kernel⟩⟩
theorem okX3_tell : OkV yX3_tell cX3_tell 6 (some .int) 4 := ⟨q2_203, q2_204, q1_3, q2_205, ⟨by decide +kernel, by decide +kernel, by decide +kernel⟩⟩
theorem okX3_find : OkV yX3_find cX3_find 5 (some .int) 3 := ⟨q2_208, wg_sel (List.mem_of_getElem? (i := 12) rfl) rfl, q1_3, q2_209, ⟨by decide +kernel, by decide +kernel, by decide +kernel⟩⟩
theorem okX3_isNamed : OkV yX3_isNamed cX3_isNamed 6 (some .boolean) 4 := ⟨q2_212, wg_sel (List.mem_of_getElem? (i := 13) rfl) rfl, q1_3, q2_213, ⟨by decide +kernel, by decide +kernel, by decide +kernel⟩⟩
theorem okX0_clear : OkV yX0_clear cX0_clear 1 none 0 := ⟨q2_215, q2_216, q1_5, q2_217, ⟨by decide +kernel, by decide +kernel, by decide +kernel⟩⟩
theorem okX6_cells : OkV yX6_cells cX6_cells 2 (some .int) 1 := ⟨q2_220, q2_221, q1_1, q2_222, ⟨by decide +kernel, by decide +kernel, by decide +kernel⟩⟩
theorem okX6_ground : OkV yX6_ground cX6_ground 3 (some .int) 2 := ⟨q2_225, q2_226, q1_1, q2_227, ⟨by decide +kernel, by decide +kernel, by decide +kernel⟩⟩
theorem okX6_bridge : OkV yX6_bridge cX6_bridge 4 (some .int) 3 := ⟨q2_230, q2_231, q1_1, q2_232, ⟨by decide +kernel, by decide +kernel, by decide +kernel⟩⟩
theorem okX6_fells : OkV yX6_fells cX6_fells 2 (some .int) 1 := ⟨q2_235, q2_236, q1_1, q2_237, ⟨by decide +kernel, by decide +kernel, by decide +kernel⟩⟩
theorem okX1_hasBridge : OkV yX1_hasBridge cX1_hasBridge 2 (some .boolean) 1 := ⟨q2_239, q3_0, q1_2, q3_1, ⟨by decide +kernel, by decide +kernel, by decide +kernel⟩⟩
theorem okX6_post : OkV yX6_post cX6_post 3 (some .int) 2 := ⟨q3_4, q3_5, q1_1, q3_6, ⟨by decide +kernel, by decide +kernel, by decide +kernel⟩⟩
theorem okX6_sets : OkV yX6_sets cX6_sets 4 (some .int) 3 := ⟨q3_9, q3_10, q1_1, q3_11, ⟨by decide +kernel, by decide +kernel, by decide +kernel⟩⟩
theorem okX1_setPost : OkV yX1_setPost cX1_setPost 6 (some .int) 3 := ⟨q3_13, q3_14, q1_2, q3_15, ⟨by decide +kernel, by decide +kernel, by decide +kernel⟩⟩
theorem okX1_hasPost : OkV yX1_hasPost cX1_hasPost 2 (some .boolean) 1 := ⟨q3_17, q3_18, q1_2, q3_19, ⟨by decide +kernel, by decide +kernel, by decide +kernel⟩⟩
theorem okX6_train : OkV yX6_train cX6_train 5 (some .int) 4 := ⟨q3_21, q3_22, q1_1, q3_23, ⟨by decide +kernel, by decide +kernel, by decide +kernel⟩⟩
theorem okX6_need : OkV yX6_need cX6_need 2 (some .int) 1 := ⟨q3_26, q3_27, q1_1, q3_28, ⟨by decide +kernel, by decide +kernel, by decide +kernel⟩⟩
theorem okX6_ofBridge : OkV yX6_ofBridge cX6_ofBridge 3 (some .int) 2 := ⟨q3_31, q3_32, q1_1, q3_33, ⟨by decide +kernel, by decide +kernel, by decide +kernel⟩⟩
theorem okX6_ofPost : OkV yX6_ofPost cX6_ofPost 3 (some .int) 2 := ⟨q3_35, q3_36, q1_1, q3_37, ⟨by decide +kernel, by decide +kernel, by decide +kernel⟩⟩
theorem okX6_ofTrain : OkV yX6_ofTrain cX6_ofTrain 4 (some .int) 2 := ⟨q3_40, q3_41, q1_1, q3_42, ⟨by decide +kernel, by decide +kernel, by decide +kernel⟩⟩
theorem okX1_hasTrain : OkV yX1_hasTrain cX1_hasTrain 2 (some .boolean) 1 := ⟨q3_44, q3_45, q1_2, q3_46, ⟨by decide +kernel, by decide +kernel, by decide +kernel⟩⟩
theorem okX5_eye : OkV yX5_eye cX5_eye 1 (some .int) 0 := ⟨q3_48, q3_49, q1_4, q3_50, ⟨by decide +kernel, by decide +kernel, by decide +kernel⟩⟩
theorem okX6_height : OkV yX6_height cX6_height 2 (some .int) 1 := ⟨q3_52, q3_53, q1_1, q3_54, ⟨by decide +kernel, by decide +kernel, by decide +kernel⟩⟩
theorem okX6_time : OkV yX6_time cX6_time 3 (some .int) 2 := ⟨q3_57, q3_58, q1_1, q3_59, ⟨by decide +kernel, by decide +kernel, by decide +kernel⟩⟩
theorem okX1_allBridges : OkV yX1_allBridges cX1_allBridges 1 (some .int) 0 := ⟨q3_61, q3_62, q1_2, q3_63, ⟨by decide +kernel, by decide +kernel, by decide +kernel⟩⟩
theorem okX1_timeIn : OkV yX1_timeIn cX1_timeIn 6 (some .int) 3 := ⟨q3_65, q3_66, q1_2, q3_67, ⟨by decide +kernel, by decide +kernel, by decide +kernel⟩⟩
theorem okX5_step : OkV yX5_step cX5_step 1 (some .int) 0 := ⟨q3_69, q3_70, q1_4, q3_71, ⟨by decide +kernel, by decide +kernel, by decide +kernel⟩⟩
theorem okJ9_max_7cf53 : OkS yJ9_max_7cf53 cJ9_max_7cf53 2 (some .int) 2 := ⟨q3_73, q1_14, q3_74, ⟨by decide +kernel, by decide +kernel, by decide +kernel⟩⟩
theorem okX1_isBridged : OkV yX1_isBridged cX1_isBridged 4 (some .boolean) 2 := ⟨q3_77, wg_sel (List.mem_of_getElem? (i := 14) rfl) rfl, q1_2, q3_78, ⟨by decide +kernel, by decide +kernel, by decide +kernel⟩⟩
theorem okX5_timeFor : OkV yX5_timeFor cX5_timeFor 4 (some .int) 2 := ⟨q3_80, q3_81, q1_4, q3_82, ⟨by decide +kernel, by decide +kernel, by decide +kernel⟩⟩
theorem okX6_sight : OkV yX6_sight cX6_sight 5 (some .int) 4 := ⟨q3_85, q3_86, q1_1, q3_87, ⟨by decide +kernel, by decide +kernel, by decide +kernel⟩⟩
theorem okX1_isClear : OkV yX1_isClear cX1_isClear 14 (some .boolean) 5 := ⟨q3_89, q3_90, q1_2, q3_91, ⟨by decide +kernel, by decide +kernel, by decide +kernel⟩⟩
theorem okJ9_min_7cf53 : OkS yJ9_min_7cf53 cJ9_min_7cf53 2 (some .int) 2 := ⟨q3_93, q1_14, q3_94, ⟨by decide +kernel, by decide +kernel, by decide +kernel⟩⟩
theorem okX6_oneIf : OkS yX6_oneIf cX6_oneIf 1 (some .int) 1 := ⟨q3_96, q1_1, q3_97, ⟨by decide +kernel, by decide +kernel, by decide +kernel⟩⟩
theorem okX6_sees : OkV yX6_sees cX6_sees 4 (some .int) 3 := ⟨q3_99, q3_100, q1_1, q3_101, ⟨by decide +kernel, by decide +kernel, by decide +kernel⟩⟩
theorem okX1_seesPost : OkV yX1_seesPost cX1_seesPost 7 (some .boolean) 4 := ⟨q3_103, q3_104, q1_2, q3_105, ⟨by decide +kernel, by decide +kernel, by decide +kernel⟩⟩
theorem okX6_first : OkV yX6_first cX6_first 3 (some .int) 2 := ⟨q3_109, q3_110, q1_1, q3_111, ⟨by decide +kernel, by decide +kernel, by decide +kernel⟩⟩
theorem okX1_firstCell : OkV yX1_firstCell cX1_firstCell 8 (some .int) 4 := ⟨q3_113, q3_114, q1_2, q3_115, ⟨by decide +kernel, by decide +kernel, by decide +kernel⟩⟩
theorem okX6_warned : OkV yX6_warned cX6_warned 3 (some .int) 2 := ⟨q3_117, q3_118, q1_1, q3_119, ⟨by decide +kernel, by decide +kernel, by decide +kernel⟩⟩
theorem okX1_warningOf : OkV yX1_warningOf cX1_warningOf 4 (some .int) 3 := ⟨q3_121, q3_122, q1_2, q3_123, ⟨by decide +kernel, by decide +kernel, by decide +kernel⟩⟩
theorem okX1_warningFor : OkV yX1_warningFor cX1_warningFor 8 (some .int) 4 := ⟨q3_126, wg_sel (List.mem_of_getElem? (i := 15) rfl) rfl, q1_2, q3_127, ⟨by decide +kernel, by decide +kernel, by decide +kernel⟩⟩
theorem okX6_safe : OkV yX6_safe cX6_safe 1 (some .int) 0 := ⟨q3_130, q3_131, q1_1, q3_132, ⟨by decide +kernel, by decide +kernel, by decide +kernel⟩⟩
theorem okX1_isSafe : OkV yX1_isSafe cX1_isSafe 4 (some .boolean) 1 := ⟨q3_134, q3_135, q1_2, q3_136, ⟨by decide +kernel, by decide +kernel, by decide +kernel⟩⟩
theorem okX6_moved : OkV yX6_moved cX6_moved 2 (some .int) 1 := ⟨q3_139, q3_140, q1_1, q3_141, ⟨by decide +kernel, by decide +kernel, by decide +kernel⟩⟩
theorem okX2_answer : OkV yX2_answer cX2_answer 5 (some .int) 2 := ⟨q3_143, q3_144, q1_6, q3_145, ⟨by decide +kernel, by decide +kernel, by decide +kernel⟩⟩
theorem okX2_prepare : OkV yX2_prepare cX2_prepare 5 none 1 := ⟨q3_148, wg_sel (List.mem_of_getElem? (i := 16) rfl) rfl, q1_6, q3_149, ⟨by decide +kernel, by decide +kernel, by decide +kernel⟩⟩
theorem okX1_keepsAll : OkV yX1_keepsAll cX1_keepsAll 4 (some .boolean) 2 := ⟨q3_151, q3_152, q1_2, q3_153, ⟨by decide +kernel, by decide +kernel, by decide +kernel⟩⟩
theorem okX2_leastSum : OkV yX2_leastSum cX2_leastSum 7 (some .int) 1 := ⟨q3_157, wg_sel (List.mem_of_getElem? (i := 17) rfl) rfl, q1_6, q3_158, ⟨by decide +kernel, by decide +kernel, by decide +kernel⟩⟩
theorem okX2_mayStand : OkV yX2_mayStand cX2_mayStand 3 (some .boolean) 2 := ⟨q3_162, wg_sel (List.mem_of_getElem? (i := 18) rfl) rfl, q1_6, q3_163, ⟨by decide +kernel, by decide +kernel, by decide +kernel⟩⟩
theorem okJ9_abs_0f7a4 : OkS yJ9_abs_0f7a4 cJ9_abs_0f7a4 1 (some .int) 1 := ⟨q3_165, q1_14, q3_166, ⟨by decide +kernel, by decide +kernel, by decide +kernel⟩⟩
theorem okX2_firstCellBy : OkV yX2_firstCellBy cX2_firstCellBy 5 (some .int) 3 := ⟨q3_170, wg_sel (List.mem_of_getElem? (i := 19) rfl) rfl, q1_6, q3_171, ⟨by decide +kernel, by decide +kernel, by decide +kernel⟩⟩
theorem okX6_raised : OkV yX6_raised cX6_raised 3 (some .int) 1 := ⟨q3_173, q3_174, q1_1, q3_175, ⟨by decide +kernel, by decide +kernel, by decide +kernel⟩⟩
theorem okX6_freed : OkV yX6_freed cX6_freed 3 (some .long) 1 := ⟨q3_178, q3_179, q1_1, q3_180, ⟨by decide +kernel, by decide +kernel, by decide +kernel⟩⟩
theorem okX6_refusedLong : OkV yX6_refusedLong cX6_refusedLong 2 (some .long) 1 := ⟨q3_183, wg_sel (List.mem_of_getElem? (i := 20) rfl) rfl, q1_1, q3_184, ⟨by decide +kernel, by decide +kernel, by decide +kernel⟩⟩
theorem okX1_keptPairs : OkV yX1_keptPairs cX1_keptPairs 5 (some .int) 1 := ⟨q3_187, q3_188, q1_2, q3_189, ⟨by decide +kernel, by decide +kernel, by decide +kernel⟩⟩
theorem okX6_worst : OkV yX6_worst cX6_worst 6 (some .int) 0 := ⟨q3_191, q3_192, q1_1, q3_193, ⟨by decide +kernel, by decide +kernel, by decide +kernel⟩⟩
theorem okX6_slowest : OkV yX6_slowest cX6_slowest 4 (some .int) 2 := ⟨q3_195, q3_196, q1_1, q3_197, ⟨by decide +kernel, by decide +kernel, by decide +kernel⟩⟩
theorem okX6_atOnce : OkV yX6_atOnce cX6_atOnce 3 (some .int) 2 := ⟨q3_200, q3_201, q1_1, q3_202, ⟨by decide +kernel, by decide +kernel, by decide +kernel⟩⟩
theorem okX1_postsSeen : OkV yX1_postsSeen cX1_postsSeen 5 (some .int) 2 := ⟨q3_204, q3_205, q1_2, q3_206, ⟨by decide +kernel, by decide +kernel, by decide +kernel⟩⟩
theorem okX6_most : OkV yX6_most cX6_most 3 (some .int) 2 := ⟨q3_209, q3_210, q1_1, q3_211, ⟨by decide +kernel, by decide +kernel, by decide +kernel⟩⟩
theorem okX1_cellOfMost : OkV yX1_cellOfMost cX1_cellOfMost 6 (some .int) 1 := ⟨q3_213, q3_214, q1_2, q3_215, ⟨by decide +kernel, by decide +kernel, by decide +kernel⟩⟩
theorem okX1_blindCells : OkV yX1_blindCells cX1_blindCells 4 (some .int) 1 := ⟨q3_218, q3_219, q1_2, q3_220, ⟨by decide +kernel, by decide +kernel, by decide +kernel⟩⟩
theorem okX6_nearest : OkV yX6_nearest cX6_nearest 7 (some .int) 2 := ⟨q3_222, q3_223, q1_1, q3_224, ⟨by decide +kernel, by decide +kernel, by decide +kernel⟩⟩
theorem okX6_shadow : OkV yX6_shadow cX6_shadow 8 (some .int) 3 := ⟨q3_227, q3_228, q1_1, q3_229, ⟨by decide +kernel, by decide +kernel, by decide +kernel⟩⟩
theorem okX6_alike : OkV yX6_alike cX6_alike 3 (some .int) 2 := ⟨q3_231, q3_232, q1_1, q3_233, ⟨by decide +kernel, by decide +kernel, by decide +kernel⟩⟩
theorem okX1_unlikeStretches : OkV yX1_unlikeStretches cX1_unlikeStretches 4 (some .int) 1 := ⟨q3_235, q3_236, q1_2, q3_237, ⟨by decide +kernel, by decide +kernel, by decide +kernel⟩⟩
theorem okX1_isRepeated : OkV yX1_isRepeated cX1_isRepeated 6 (some .boolean) 4 := ⟨q4_0, wg_sel (List.mem_of_getElem? (i := 21) rfl) rfl, q1_2, q4_1, ⟨by decide +kernel, by decide +kernel, by decide +kernel⟩⟩
theorem okX1_areAlike : OkV yX1_areAlike cX1_areAlike 7 (some .boolean) 3 := ⟨q4_4, wg_sel (List.mem_of_getElem? (i := 22) rfl) rfl, q1_2, q4_5, ⟨by decide +kernel, by decide +kernel, by decide +kernel⟩⟩
theorem okX1_firstRepeated : OkV yX1_firstRepeated cX1_firstRepeated 3 (some .int) 1 := ⟨q4_7, q4_8, q1_2, q4_9, ⟨by decide +kernel, by decide +kernel, by decide +kernel⟩⟩
theorem okX6_steepest : OkV yX6_steepest cX6_steepest 6 (some .int) 1 := ⟨q4_11, q4_12, q1_1, q4_13, ⟨by decide +kernel, by decide +kernel, by decide +kernel⟩⟩
theorem okX6_down : OkV yX6_down cX6_down 3 (some .long) 2 := ⟨q4_15, q4_16, q1_1, q4_17, ⟨by decide +kernel, by decide +kernel, by decide +kernel⟩⟩
theorem okX6_safeWays : OkV yX6_safeWays cX6_safeWays 5 (some .int) 1 := ⟨q4_20, wg_sel (List.mem_of_getElem? (i := 23) rfl) rfl, q1_1, q4_21, ⟨by decide +kernel, by decide +kernel, by decide +kernel⟩⟩
theorem okJ6_bitCount_0f7a4 : OkS yJ6_bitCount_0f7a4 cJ6_bitCount_0f7a4 1 (some .int) 1 := ⟨q4_23, q1_15, q4_24, ⟨by decide +kernel, by decide +kernel, by decide +kernel⟩⟩
theorem okX6_power : OkS yX6_power cX6_power 4 (some .int) 2 := ⟨q4_29, q1_1, q4_30, ⟨by decide +kernel, by decide +kernel, by decide +kernel⟩⟩
theorem okX6_partOf : OkS yX6_partOf cX6_partOf 4 (some .long) 3 := ⟨q4_32, q1_1, q4_33, ⟨by decide +kernel, by decide +kernel, by decide +kernel⟩⟩
theorem okX6_commonDivisor : OkS yX6_commonDivisor cX6_commonDivisor 6 (some .int) 2 := ⟨q4_35, q1_1, q4_36, ⟨by decide +kernel, by decide +kernel, by decide +kernel⟩⟩
theorem okX6_mean : OkV yX6_mean cX6_mean 2 (some .long) 1 := ⟨q4_38, q4_39, q1_1, q4_40, ⟨by decide +kernel, by decide +kernel, by decide +kernel⟩⟩
theorem okX1_allWarnings : OkV yX1_allWarnings cX1_allWarnings 4 (some .int) 0 := ⟨q4_42, q4_43, q1_2, q4_44, ⟨by decide +kernel, by decide +kernel, by decide +kernel⟩⟩
theorem okX6_name : OkV yX6_name cX6_name 3 (some .int) 2 := ⟨q4_46, q4_47, q1_1, q4_48, ⟨by decide +kernel, by decide +kernel, by decide +kernel⟩⟩
theorem okX3_has : OkV yX3_has cX3_has 2 (some .boolean) 1 := ⟨q4_50, q4_51, q1_3, q4_52, ⟨by decide +kernel, by decide +kernel, by decide +kernel⟩⟩
theorem okX3_letterOf : OkV yX3_letterOf cX3_letterOf 3 (some .int) 2 := ⟨q4_54, q4_55, q1_3, q4_56, ⟨by decide +kernel, by decide +kernel, by decide +kernel⟩⟩
theorem okX6_placeAt : OkV yX6_placeAt cX6_placeAt 2 (some .int) 1 := ⟨q4_58, q4_59, q1_1, q4_60, ⟨by decide +kernel, by decide +kernel, by decide +kernel⟩⟩
theorem okX6_shelf : OkV yX6_shelf cX6_shelf 4 (some .int) 3 := ⟨q4_62, q4_63, q1_1, q4_64, ⟨by decide +kernel, by decide +kernel, by decide +kernel⟩⟩
theorem okX6_hasShelf : OkS yX6_hasShelf cX6_hasShelf 1 (some .boolean) 1 := ⟨q4_66, q1_1, q4_67, ⟨by decide +kernel, by decide +kernel, by decide +kernel⟩⟩
theorem okX4_becomeRow : OkV yX4_becomeRow cX4_becomeRow 4 none 2 := ⟨q4_69, q4_70, q1_7, q4_71, ⟨by decide +kernel, by decide +kernel, by decide +kernel⟩⟩
theorem okX6_lay : OkV yX6_lay cX6_lay 3 (some .int) 2 := ⟨q4_73, q4_74, q1_1, q4_75, ⟨by decide +kernel, by decide +kernel, by decide +kernel⟩⟩
theorem okX4_takeTrain : OkV yX4_takeTrain cX4_takeTrain 2 none 1 := ⟨q4_77, q4_78, q1_7, q4_79, ⟨by decide +kernel, by decide +kernel, by decide +kernel⟩⟩
theorem okX6_put : OkV yX6_put cX6_put 6 (some .int) 3 := ⟨q4_82, q4_83, q1_1, q4_84, ⟨by decide +kernel, by decide +kernel, by decide +kernel⟩⟩
theorem okX4_faultOfPlace : OkV yX4_faultOfPlace cX4_faultOfPlace 2 (some .int) 1 := ⟨q4_86, q4_87, q1_7, q4_88, ⟨by decide +kernel, by decide +kernel, by decide +kernel⟩⟩
theorem okX4_write : OkV yX4_write cX4_write 4 none 2 := ⟨q4_90, q4_91, q1_7, q4_92, ⟨by decide +kernel, by decide +kernel, by decide +kernel⟩⟩
theorem okX6_look : OkV yX6_look cX6_look 4 (some .long) 2 := ⟨q4_94, q4_95, q1_1, q4_96, ⟨by decide +kernel, by decide +kernel, by decide +kernel⟩⟩
theorem okX6_taken : OkV yX6_taken cX6_taken 4 (some .int) 2 := ⟨q4_98, q4_99, q1_1, q4_100, ⟨by decide +kernel, by decide +kernel, by decide +kernel⟩⟩
theorem okX5_isOf : OkV yX5_isOf cX5_isOf 4 (some .boolean) 1 := ⟨q4_102, q4_103, q1_4, q4_104, ⟨by decide +kernel, by decide +kernel, by decide +kernel⟩⟩
theorem okX6_whatIs : OkV yX6_whatIs cX6_whatIs 5 (some .int) 3 := ⟨q4_108, q4_109, q1_1, q4_110, ⟨by decide +kernel, by decide +kernel, by decide +kernel⟩⟩
theorem okX4_faultOfSort : OkV yX4_faultOfSort cX4_faultOfSort 2 (some .int) 1 := ⟨q4_112, q4_113, q1_7, q4_114, ⟨by decide +kernel, by decide +kernel, by decide +kernel⟩⟩
theorem okX6_kindsThatFit : OkV yX6_kindsThatFit cX6_kindsThatFit 4 (some .int) 1 := ⟨q4_117, wg_sel (List.mem_of_getElem? (i := 24) rfl) rfl, q1_1, q4_118, ⟨by decide +kernel, by decide +kernel, by decide +kernel⟩⟩
theorem okX6_timesFit : OkV yX6_timesFit cX6_timesFit 3 (some .boolean) 1 := ⟨q4_121, wg_sel (List.mem_of_getElem? (i := 25) rfl) rfl, q1_1, q4_122, ⟨by decide +kernel, by decide +kernel, by decide +kernel⟩⟩
theorem okX6_figuresThatFit : OkV yX6_figuresThatFit cX6_figuresThatFit 4 (some .int) 1 := ⟨q4_125, wg_sel (List.mem_of_getElem? (i := 26) rfl) rfl, q1_1, q4_126, ⟨by decide +kernel, by decide +kernel, by decide +kernel⟩⟩
theorem okX6_judge : OkV yX6_judge cX6_judge 6 (some .int) 2 := ⟨q4_128, q4_129, q1_1, q4_130, ⟨by decide +kernel, by decide +kernel, by decide +kernel⟩⟩
theorem okX6_lots : OkV yX6_lots cX6_lots 7 (some .int) 3 := ⟨q4_132, q4_133, q1_1, q4_134, ⟨by decide +kernel, by decide +kernel, by decide +kernel⟩⟩
theorem okX1_drawGround : OkV yX1_drawGround cX1_drawGround 4 (some .int) 1 := ⟨q4_136, q4_137, q1_2, q4_138, ⟨by decide +kernel, by decide +kernel, by decide +kernel⟩⟩
theorem okX6_image : OkV yX6_image cX6_image 1 (some .int) 0 := ⟨q4_143, q4_144, q1_1, q4_145, ⟨by decide +kernel, by decide +kernel, by decide +kernel⟩⟩
theorem okX6_on : OkV yX6_on cX6_on 1 (some .int) 0 := ⟨q4_147, q4_148, q1_1, q4_149, ⟨by decide +kernel, by decide +kernel, by decide +kernel⟩⟩
theorem okX6_count : OkV yX6_count cX6_count 2 (some .int) 1 := ⟨q4_151, q4_152, q1_1, q4_153, ⟨by decide +kernel, by decide +kernel, by decide +kernel⟩⟩
theorem okX7_cells : OkV yX7_cells cX7_cells 4 (some .int) 1 := ⟨q5_33, q5_34, q1_8, q5_35, ⟨by decide +kernel, by decide +kernel, by decide +kernel⟩⟩
theorem okX7_no : OkV yX7_no cX7_no 2 (some .int) 1 := ⟨q5_38, wg_sel (List.mem_of_getElem? (i := 27) rfl) rfl, q1_8, q5_39, ⟨by decide +kernel, by decide +kernel, by decide +kernel⟩⟩
theorem okX7_cuts : OkV yX7_cuts cX7_cuts 4 none 0 := ⟨q5_42, wg_sel (List.mem_of_getElem? (i := 28) rfl) rfl, q1_8, q5_43, ⟨by decide +kernel, by decide +kernel, by decide +kernel⟩⟩
theorem okX7_ground : OkV yX7_ground cX7_ground 4 (some .int) 2 := ⟨q5_45, q5_46, q1_8, q5_47, ⟨by decide +kernel, by decide +kernel, by decide +kernel⟩⟩
theorem okX7_isCell : OkV yX7_isCell cX7_isCell 2 (some .boolean) 1 := ⟨q5_50, wg_sel (List.mem_of_getElem? (i := 29) rfl) rfl, q1_8, q5_51, ⟨by decide +kernel, by decide +kernel, by decide +kernel⟩⟩
theorem okX7_in : OkS yX7_in cX7_in 3 (some .boolean) 3 := ⟨q5_53, q1_8, q5_54, ⟨by decide +kernel, by decide +kernel, by decide +kernel⟩⟩
theorem okX7_bridge : OkV yX7_bridge cX7_bridge 4 (some .int) 3 := ⟨q5_56, q5_57, q1_8, q5_58, ⟨by decide +kernel, by decide +kernel, by decide +kernel⟩⟩
theorem okX7_fells : OkV yX7_fells cX7_fells 3 (some .int) 1 := ⟨q5_60, q5_61, q1_8, q5_62, ⟨by decide +kernel, by decide +kernel, by decide +kernel⟩⟩
theorem okX7_isBridge : OkV yX7_isBridge cX7_isBridge 2 (some .boolean) 1 := ⟨q5_65, wg_sel (List.mem_of_getElem? (i := 30) rfl) rfl, q1_8, q5_66, ⟨by decide +kernel, by decide +kernel, by decide +kernel⟩⟩
theorem okX7_post : OkV yX7_post cX7_post 3 (some .int) 2 := ⟨q5_68, q5_69, q1_8, q5_70, ⟨by decide +kernel, by decide +kernel, by decide +kernel⟩⟩
theorem okX7_postOn : OkV yX7_postOn cX7_postOn 4 (some .int) 1 := ⟨q5_73, wg_sel (List.mem_of_getElem? (i := 31) rfl) rfl, q1_8, q5_74, ⟨by decide +kernel, by decide +kernel, by decide +kernel⟩⟩
theorem okX7_sets : OkV yX7_sets cX7_sets 5 (some .int) 3 := ⟨q5_76, q5_77, q1_8, q5_78, ⟨by decide +kernel, by decide +kernel, by decide +kernel⟩⟩
theorem okX7_isPost : OkV yX7_isPost cX7_isPost 2 (some .boolean) 1 := ⟨q5_81, wg_sel (List.mem_of_getElem? (i := 32) rfl) rfl, q1_8, q5_82, ⟨by decide +kernel, by decide +kernel, by decide +kernel⟩⟩
theorem okX7_train : OkV yX7_train cX7_train 5 (some .int) 4 := ⟨q5_84, q5_85, q1_8, q5_86, ⟨by decide +kernel, by decide +kernel, by decide +kernel⟩⟩
theorem okX7_need : OkV yX7_need cX7_need 3 (some .int) 1 := ⟨q5_88, q5_89, q1_8, q5_90, ⟨by decide +kernel, by decide +kernel, by decide +kernel⟩⟩
theorem okX7_ofBridge : OkV yX7_ofBridge cX7_ofBridge 3 (some .int) 2 := ⟨q5_92, q5_93, q1_8, q5_94, ⟨by decide +kernel, by decide +kernel, by decide +kernel⟩⟩
theorem okX7_ofPost : OkV yX7_ofPost cX7_ofPost 3 (some .int) 2 := ⟨q5_96, q5_97, q1_8, q5_98, ⟨by decide +kernel, by decide +kernel, by decide +kernel⟩⟩
theorem okX7_ofTrain : OkV yX7_ofTrain cX7_ofTrain 3 (some .int) 2 := ⟨q5_100, q5_101, q1_8, q5_102, ⟨by decide +kernel, by decide +kernel, by decide +kernel⟩⟩
theorem okX7_isTrain : OkV yX7_isTrain cX7_isTrain 2 (some .boolean) 1 := ⟨q5_105, wg_sel (List.mem_of_getElem? (i := 33) rfl) rfl, q1_8, q5_106, ⟨by decide +kernel, by decide +kernel, by decide +kernel⟩⟩
theorem okX7_eye : OkV yX7_eye cX7_eye 2 (some .int) 1 := ⟨q5_109, wg_sel (List.mem_of_getElem? (i := 34) rfl) rfl, q1_8, q5_110, ⟨by decide +kernel, by decide +kernel, by decide +kernel⟩⟩
theorem okX7_eyeBy : OkS yX7_eyeBy cX7_eyeBy 2 (some .int) 2 := ⟨q5_112, q1_8, q5_113, ⟨by decide +kernel, by decide +kernel, by decide +kernel⟩⟩
theorem okX7_height : OkV yX7_height cX7_height 2 (some .int) 1 := ⟨q5_115, q5_116, q1_8, q5_117, ⟨by decide +kernel, by decide +kernel, by decide +kernel⟩⟩
theorem okX7_time : OkV yX7_time cX7_time 3 (some .int) 2 := ⟨q5_119, q5_120, q1_8, q5_121, ⟨by decide +kernel, by decide +kernel, by decide +kernel⟩⟩
theorem okX7_timeOf : OkV yX7_timeOf cX7_timeOf 3 (some .int) 2 := ⟨q5_124, wg_sel (List.mem_of_getElem? (i := 35) rfl) rfl, q1_8, q5_125, ⟨by decide +kernel, by decide +kernel, by decide +kernel⟩⟩
theorem okX7_timeBy : OkV yX7_timeBy cX7_timeBy 9 (some .int) 5 := ⟨q5_128, wg_sel (List.mem_of_getElem? (i := 36) rfl) rfl, q1_8, q5_129, ⟨by decide +kernel, by decide +kernel, by decide +kernel⟩⟩
theorem okX7_isBridged : OkV yX7_isBridged cX7_isBridged 4 (some .boolean) 1 := ⟨q5_133, wg_sel (List.mem_of_getElem? (i := 37) rfl) rfl, q1_8, q5_134, ⟨by decide +kernel, by decide +kernel, by decide +kernel⟩⟩
theorem okX7_sight : OkV yX7_sight cX7_sight 5 (some .int) 4 := ⟨q5_136, q5_137, q1_8, q5_138, ⟨by decide +kernel, by decide +kernel, by decide +kernel⟩⟩
theorem okX7_isClear : OkV yX7_isClear cX7_isClear 12 (some .boolean) 4 := ⟨q5_141, wg_sel (List.mem_of_getElem? (i := 38) rfl) rfl, q1_8, q5_142, ⟨by decide +kernel, by decide +kernel, by decide +kernel⟩⟩
theorem okX7_isBarred : OkV yX7_isBarred cX7_isBarred 5 (some .boolean) 3 := ⟨q5_146, wg_sel (List.mem_of_getElem? (i := 39) rfl) rfl, q1_8, q5_147, ⟨by decide +kernel, by decide +kernel, by decide +kernel⟩⟩
theorem okX7_has : OkS yX7_has cX7_has 2 (some .boolean) 2 := ⟨q5_149, q1_8, q5_150, ⟨by decide +kernel, by decide +kernel, by decide +kernel⟩⟩
theorem okX7_sees : OkV yX7_sees cX7_sees 4 (some .int) 3 := ⟨q5_152, q5_153, q1_8, q5_154, ⟨by decide +kernel, by decide +kernel, by decide +kernel⟩⟩
theorem okX7_isSeen : OkV yX7_isSeen cX7_isSeen 5 (some .boolean) 3 := ⟨q5_157, wg_sel (List.mem_of_getElem? (i := 40) rfl) rfl, q1_8, q5_158, ⟨by decide +kernel, by decide +kernel, by decide +kernel⟩⟩
theorem okX7_first : OkV yX7_first cX7_first 3 (some .int) 2 := ⟨q5_160, q5_161, q1_8, q5_162, ⟨by decide +kernel, by decide +kernel, by decide +kernel⟩⟩
theorem okX7_firstOf : OkV yX7_firstOf cX7_firstOf 6 (some .int) 2 := ⟨q5_165, wg_sel (List.mem_of_getElem? (i := 41) rfl) rfl, q1_8, q5_166, ⟨by decide +kernel, by decide +kernel, by decide +kernel⟩⟩
theorem okX7_warned : OkV yX7_warned cX7_warned 3 (some .int) 2 := ⟨q5_168, q5_169, q1_8, q5_170, ⟨by decide +kernel, by decide +kernel, by decide +kernel⟩⟩
theorem okX7_warnedOf : OkV yX7_warnedOf cX7_warnedOf 6 (some .int) 2 := ⟨q5_173, wg_sel (List.mem_of_getElem? (i := 42) rfl) rfl, q1_8, q5_174, ⟨by decide +kernel, by decide +kernel, by decide +kernel⟩⟩
theorem okX7_safe : OkV yX7_safe cX7_safe 1 (some .int) 0 := ⟨q5_176, q5_177, q1_8, q5_178, ⟨by decide +kernel, by decide +kernel, by decide +kernel⟩⟩
theorem okX7_isSafe : OkV yX7_isSafe cX7_isSafe 2 (some .boolean) 0 := ⟨q5_181, wg_sel (List.mem_of_getElem? (i := 43) rfl) rfl, q1_8, q5_182, ⟨by decide +kernel, by decide +kernel, by decide +kernel⟩⟩
theorem okX7_isKeptByAll : OkV yX7_isKeptByAll cX7_isKeptByAll 3 (some .boolean) 1 := ⟨q5_185, wg_sel (List.mem_of_getElem? (i := 44) rfl) rfl, q1_8, q5_186, ⟨by decide +kernel, by decide +kernel, by decide +kernel⟩⟩
theorem okX7_isKept : OkV yX7_isKept cX7_isKept 3 (some .boolean) 2 := ⟨q5_189, wg_sel (List.mem_of_getElem? (i := 45) rfl) rfl, q1_8, q5_190, ⟨by decide +kernel, by decide +kernel, by decide +kernel⟩⟩
theorem okX7_moved : OkV yX7_moved cX7_moved 3 (some .int) 1 := ⟨q5_192, q5_193, q1_8, q5_194, ⟨by decide +kernel, by decide +kernel, by decide +kernel⟩⟩
theorem okX7_moves : OkV yX7_moves cX7_moves 7 (some .int) 0 := ⟨q5_197, wg_sel (List.mem_of_getElem? (i := 46) rfl) rfl, q1_8, q5_198, ⟨by decide +kernel, by decide +kernel, by decide +kernel⟩⟩
theorem okX7_looksWhere : OkV yX7_looksWhere cX7_looksWhere 4 none 0 := ⟨q5_201, wg_sel (List.mem_of_getElem? (i := 47) rfl) rfl, q1_8, q5_202, ⟨by decide +kernel, by decide +kernel, by decide +kernel⟩⟩
theorem okX7_lines : OkV yX7_lines cX7_lines 4 none 0 := ⟨q5_205, wg_sel (List.mem_of_getElem? (i := 48) rfl) rfl, q1_8, q5_206, ⟨by decide +kernel, by decide +kernel, by decide +kernel⟩⟩
theorem okX7_nextFor : OkV yX7_nextFor cX7_nextFor 4 (some .int) 2 := ⟨q5_209, wg_sel (List.mem_of_getElem? (i := 49) rfl) rfl, q1_8, q5_210, ⟨by decide +kernel, by decide +kernel, by decide +kernel⟩⟩
theorem okX7_movedBy : OkV yX7_movedBy cX7_movedBy 3 (some .int) 0 := ⟨q5_213, wg_sel (List.mem_of_getElem? (i := 50) rfl) rfl, q1_8, q5_214, ⟨by decide +kernel, by decide +kernel, by decide +kernel⟩⟩
theorem okX7_isEarlier : OkV yX7_isEarlier cX7_isEarlier 2 (some .boolean) 0 := ⟨q5_217, wg_sel (List.mem_of_getElem? (i := 51) rfl) rfl, q1_8, q5_218, ⟨by decide +kernel, by decide +kernel, by decide +kernel⟩⟩
theorem okX7_raised : OkV yX7_raised cX7_raised 5 (some .int) 1 := ⟨q5_220, q5_221, q1_8, q5_222, ⟨by decide +kernel, by decide +kernel, by decide +kernel⟩⟩
theorem okX7_freed : OkV yX7_freed cX7_freed 4 (some .long) 1 := ⟨q5_224, q5_225, q1_8, q5_226, ⟨by decide +kernel, by decide +kernel, by decide +kernel⟩⟩
theorem okX7_far : OkV yX7_far cX7_far 2 (some .long) 1 := ⟨q5_229, wg_sel (List.mem_of_getElem? (i := 52) rfl) rfl, q1_8, q5_230, ⟨by decide +kernel, by decide +kernel, by decide +kernel⟩⟩
theorem okX7_keptMany : OkV yX7_keptMany cX7_keptMany 4 (some .int) 0 := ⟨q5_234, wg_sel (List.mem_of_getElem? (i := 53) rfl) rfl, q1_8, q5_235, ⟨by decide +kernel, by decide +kernel, by decide +kernel⟩⟩
theorem okX7_keeps : OkV yX7_keeps cX7_keeps 3 none 1 := ⟨q5_238, wg_sel (List.mem_of_getElem? (i := 54) rfl) rfl, q1_8, q5_239, ⟨by decide +kernel, by decide +kernel, by decide +kernel⟩⟩
theorem okX7_again : OkV yX7_again cX7_again 3 none 1 := ⟨q6_3, wg_sel (List.mem_of_getElem? (i := 55) rfl) rfl, q1_8, q6_4, ⟨by decide +kernel, by decide +kernel, by decide +kernel⟩⟩
theorem okX7_worst : OkV yX7_worst cX7_worst 6 (some .int) 0 := ⟨q6_6, q6_7, q1_8, q6_8, ⟨by decide +kernel, by decide +kernel, by decide +kernel⟩⟩
theorem okX7_slowest : OkV yX7_slowest cX7_slowest 6 (some .int) 2 := ⟨q6_10, q6_11, q1_8, q6_12, ⟨by decide +kernel, by decide +kernel, by decide +kernel⟩⟩
theorem okX7_atOnce : OkV yX7_atOnce cX7_atOnce 3 (some .int) 2 := ⟨q6_14, q6_15, q1_8, q6_16, ⟨by decide +kernel, by decide +kernel, by decide +kernel⟩⟩
theorem okX7_seenFrom : OkV yX7_seenFrom cX7_seenFrom 5 (some .int) 2 := ⟨q6_19, wg_sel (List.mem_of_getElem? (i := 56) rfl) rfl, q1_8, q6_20, ⟨by decide +kernel, by decide +kernel, by decide +kernel⟩⟩
theorem okX7_most : OkV yX7_most cX7_most 6 (some .int) 2 := ⟨q6_22, q6_23, q1_8, q6_24, ⟨by decide +kernel, by decide +kernel, by decide +kernel⟩⟩
theorem okX7_nearest : OkV yX7_nearest cX7_nearest 5 (some .int) 2 := ⟨q6_26, q6_27, q1_8, q6_28, ⟨by decide +kernel, by decide +kernel, by decide +kernel⟩⟩
theorem okX7_shadow : OkV yX7_shadow cX7_shadow 7 (some .int) 3 := ⟨q6_30, q6_31, q1_8, q6_32, ⟨by decide +kernel, by decide +kernel, by decide +kernel⟩⟩
theorem okX7_alike : OkV yX7_alike cX7_alike 10 (some .int) 2 := ⟨q6_34, q6_35, q1_8, q6_36, ⟨by decide +kernel, by decide +kernel, by decide +kernel⟩⟩
theorem okX7_areAlike : OkV yX7_areAlike cX7_areAlike 5 (some .boolean) 3 := ⟨q6_39, wg_sel (List.mem_of_getElem? (i := 57) rfl) rfl, q1_8, q6_40, ⟨by decide +kernel, by decide +kernel, by decide +kernel⟩⟩
theorem okX7_steepest : OkV yX7_steepest cX7_steepest 6 (some .int) 1 := ⟨q6_42, q6_43, q1_8, q6_44, ⟨by decide +kernel, by decide +kernel, by decide +kernel⟩⟩
theorem okX7_down : OkV yX7_down cX7_down 12 (some .long) 2 := ⟨q6_46, q6_47, q1_8, q6_48, ⟨by decide +kernel, by decide +kernel, by decide +kernel⟩⟩
theorem okX7_part : OkS yX7_part cX7_part 5 (some .long) 3 := ⟨q6_50, q1_8, q6_51, ⟨by decide +kernel, by decide +kernel, by decide +kernel⟩⟩
theorem okX7_divisor : OkS yX7_divisor cX7_divisor 10 (some .long) 2 := ⟨q6_53, q1_8, q6_54, ⟨by decide +kernel, by decide +kernel, by decide +kernel⟩⟩
theorem okX7_mean : OkV yX7_mean cX7_mean 3 (some .long) 1 := ⟨q6_56, q6_57, q1_8, q6_58, ⟨by decide +kernel, by decide +kernel, by decide +kernel⟩⟩
theorem okX7_warnedAll : OkV yX7_warnedAll cX7_warnedAll 4 (some .int) 0 := ⟨q6_61, wg_sel (List.mem_of_getElem? (i := 58) rfl) rfl, q1_8, q6_62, ⟨by decide +kernel, by decide +kernel, by decide +kernel⟩⟩
theorem okX7_lots : OkV yX7_lots cX7_lots 8 (some .int) 3 := ⟨q6_64, q6_65, q1_8, q6_66, ⟨by decide +kernel, by decide +kernel, by decide +kernel⟩⟩
theorem okX7_name : OkV yX7_name cX7_name 3 (some .int) 2 := ⟨q6_71, q6_72, q1_8, q6_73, ⟨by decide +kernel, by decide +kernel, by decide +kernel⟩⟩
theorem okX7_placeAt : OkV yX7_placeAt cX7_placeAt 2 (some .int) 1 := ⟨q6_75, q6_76, q1_8, q6_77, ⟨by decide +kernel, by decide +kernel, by decide +kernel⟩⟩
theorem okX7_shelf : OkV yX7_shelf cX7_shelf 4 (some .int) 3 := ⟨q6_79, q6_80, q1_8, q6_81, ⟨by decide +kernel, by decide +kernel, by decide +kernel⟩⟩
theorem okX7_isShelf : OkS yX7_isShelf cX7_isShelf 1 (some .boolean) 1 := ⟨q6_83, q1_8, q6_84, ⟨by decide +kernel, by decide +kernel, by decide +kernel⟩⟩
theorem okX7_empties : OkV yX7_empties cX7_empties 5 none 3 := ⟨q6_87, wg_sel (List.mem_of_getElem? (i := 59) rfl) rfl, q1_8, q6_88, ⟨by decide +kernel, by decide +kernel, by decide +kernel⟩⟩
theorem okX7_lay : OkV yX7_lay cX7_lay 3 (some .int) 2 := ⟨q6_90, q6_91, q1_8, q6_92, ⟨by decide +kernel, by decide +kernel, by decide +kernel⟩⟩
theorem okX7_put : OkV yX7_put cX7_put 5 (some .int) 3 := ⟨q6_94, q6_95, q1_8, q6_96, ⟨by decide +kernel, by decide +kernel, by decide +kernel⟩⟩
theorem okX7_barred : OkV yX7_barred cX7_barred 3 (some .int) 2 := ⟨q6_99, wg_sel (List.mem_of_getElem? (i := 60) rfl) rfl, q1_8, q6_100, ⟨by decide +kernel, by decide +kernel, by decide +kernel⟩⟩
theorem okX7_look : OkV yX7_look cX7_look 3 (some .long) 2 := ⟨q6_102, q6_103, q1_8, q6_104, ⟨by decide +kernel, by decide +kernel, by decide +kernel⟩⟩
theorem okX7_taken : OkV yX7_taken cX7_taken 4 (some .int) 2 := ⟨q6_106, q6_107, q1_8, q6_108, ⟨by decide +kernel, by decide +kernel, by decide +kernel⟩⟩
theorem okX7_isUnder : OkS yX7_isUnder cX7_isUnder 2 (some .boolean) 2 := ⟨q6_110, q1_8, q6_111, ⟨by decide +kernel, by decide +kernel, by decide +kernel⟩⟩
theorem okX7_whatIs : OkV yX7_whatIs cX7_whatIs 6 (some .int) 3 := ⟨q6_113, q6_114, q1_8, q6_115, ⟨by decide +kernel, by decide +kernel, by decide +kernel⟩⟩
theorem okX7_areTimes : OkV yX7_areTimes cX7_areTimes 6 (some .boolean) 4 := ⟨q6_118, wg_sel (List.mem_of_getElem? (i := 61) rfl) rfl, q1_8, q6_119, ⟨by decide +kernel, by decide +kernel, by decide +kernel⟩⟩
theorem okX7_judge : OkV yX7_judge cX7_judge 4 (some .int) 2 := ⟨q6_121, q6_122, q1_8, q6_123, ⟨by decide +kernel, by decide +kernel, by decide +kernel⟩⟩
theorem okX7_letter : OkV yX7_letter cX7_letter 2 (some .int) 1 := ⟨q6_125, q6_126, q1_8, q6_127, ⟨by decide +kernel, by decide +kernel, by decide +kernel⟩⟩
theorem okX7_tells : OkV yX7_tells cX7_tells 2 (some .int) 0 := ⟨q6_129, q6_130, q1_8, q6_131, ⟨by decide +kernel, by decide +kernel, by decide +kernel⟩⟩
theorem okX7_tellsAll : OkV yX7_tellsAll cX7_tellsAll 4 (some .int) 0 := ⟨q6_134, wg_sel (List.mem_of_getElem? (i := 62) rfl) rfl, q1_8, q6_135, ⟨by decide +kernel, by decide +kernel, by decide +kernel⟩⟩
theorem okX7_statement : OkV yX7_statement cX7_statement 3 (some .int) 0 := ⟨q6_138, wg_sel (List.mem_of_getElem? (i := 63) rfl) rfl, q1_8, q6_139, ⟨by decide +kernel, by decide +kernel, by decide +kernel⟩⟩
theorem okX7_readWord : OkV yX7_readWord cX7_readWord 5 (some .int) 0 := ⟨q6_142, wg_sel (List.mem_of_getElem? (i := 64) rfl) rfl, q1_8, q6_143, ⟨by decide +kernel, by decide +kernel, by decide +kernel⟩⟩
theorem okX7_word : OkS yX7_word cX7_word 1 (some (.object "java/lang/String")) 1 := ⟨q6_145, q1_8, q6_146, ⟨by decide +kernel, by decide +kernel, by decide +kernel⟩⟩
theorem okX7_here : OkV yX7_here cX7_here 1 (some .int) 0 := ⟨q6_158, wg_sel (List.mem_of_getElem? (i := 65) rfl) rfl, q1_8, q6_159, ⟨by decide +kernel, by decide +kernel, by decide +kernel⟩⟩
theorem okX7_reads : OkV yX7_reads cX7_reads 1 (some .boolean) 0 := ⟨q6_162, wg_sel (List.mem_of_getElem? (i := 66) rfl) rfl, q1_8, q6_163, ⟨by decide +kernel, by decide +kernel, by decide +kernel⟩⟩
theorem okX7_takes : OkV yX7_takes cX7_takes 2 (some .boolean) 1 := ⟨q6_166, wg_sel (List.mem_of_getElem? (i := 67) rfl) rfl, q1_8, q6_167, ⟨by decide +kernel, by decide +kernel, by decide +kernel⟩⟩
theorem okX7_numbersOf : OkS yX7_numbersOf cX7_numbersOf 1 (some .int) 1 := ⟨q6_169, q1_8, q6_170, ⟨by decide +kernel, by decide +kernel, by decide +kernel⟩⟩
theorem okX7_readNumber : OkV yX7_readNumber cX7_readNumber 2 (some .boolean) 1 := ⟨q6_173, wg_sel (List.mem_of_getElem? (i := 68) rfl) rfl, q1_8, q6_174, ⟨by decide +kernel, by decide +kernel, by decide +kernel⟩⟩
theorem okX7_does : OkV yX7_does cX7_does 2 (some .int) 1 := ⟨q6_177, wg_sel (List.mem_of_getElem? (i := 69) rfl) rfl, q1_8, q6_178, ⟨by decide +kernel, by decide +kernel, by decide +kernel⟩⟩
theorem okX7_places : OkV yX7_places cX7_places 4 (some .int) 1 := ⟨q6_187, wg_sel (List.mem_of_getElem? (i := 70) rfl) rfl, q1_8, q6_188, ⟨by decide +kernel, by decide +kernel, by decide +kernel⟩⟩
theorem okX7_named : OkV yX7_named cX7_named 4 (some .int) 0 := ⟨q6_191, wg_sel (List.mem_of_getElem? (i := 71) rfl) rfl, q1_8, q6_192, ⟨by decide +kernel, by decide +kernel, by decide +kernel⟩⟩
theorem okX7_image : OkV yX7_image cX7_image 1 (some .int) 0 := ⟨q6_194, q6_195, q1_8, q6_196, ⟨by decide +kernel, by decide +kernel, by decide +kernel⟩⟩
theorem okX7_on : OkV yX7_on cX7_on 1 (some .int) 0 := ⟨q6_198, q6_199, q1_8, q6_200, ⟨by decide +kernel, by decide +kernel, by decide +kernel⟩⟩
theorem okX7_count : OkV yX7_count cX7_count 2 (some .int) 1 := ⟨q6_202, q6_203, q1_8, q6_204, ⟨by decide +kernel, by decide +kernel, by decide +kernel⟩⟩
