theorem cy_X10_act : Cond.instanceMethod yX10_act ∈ BG ∧ Cond.selects RX10 yX10_act yX10_act ∈ BG ∧ Cond.initialized RX10 ∈ BG ∧ Cond.code yX10_act cX10_act 5 (some .int) ∈ BG := ⟨tw5_123, tw5_124, tw1_1, tw5_125⟩
theorem cy_X10_again : Cond.instanceMethod yX10_again ∈ BG ∧ Cond.selects RX10 yX10_again yX10_again ∈ BG ∧ Cond.initialized RX10 ∈ BG ∧ Cond.code yX10_again cX10_again 3 (some .int) ∈ BG := ⟨tw5_94, tw5_95, tw1_1, tw5_96⟩
theorem cy_X10_against : Cond.instanceMethod yX10_against ∈ BG ∧ Cond.selects RX10 yX10_against yX10_against ∈ BG ∧ Cond.initialized RX10 ∈ BG ∧ Cond.code yX10_against cX10_against 2 (some .int) ∈ BG := ⟨tw5_229, tw5_230, tw1_1, tw5_231⟩
theorem cy_X10_apart : Cond.instanceMethod yX10_apart ∈ BG ∧ Cond.selects RX10 yX10_apart yX10_apart ∈ BG ∧ Cond.initialized RX10 ∈ BG ∧ Cond.code yX10_apart cX10_apart 2 (some .int) ∈ BG := ⟨tw5_215, tw5_216, tw1_1, tw5_217⟩
theorem cy_X10_ball : Cond.instanceMethod yX10_ball ∈ BG ∧ Cond.selects RX10 yX10_ball yX10_ball ∈ BG ∧ Cond.initialized RX10 ∈ BG ∧ Cond.code yX10_ball cX10_ball 2 (some .int) ∈ BG := ⟨tw3_37, tw3_38, tw1_1, tw3_39⟩
theorem cy_X10_bound : Cond.instanceMethod yX10_bound ∈ BG ∧ Cond.selects RX10 yX10_bound yX10_bound ∈ BG ∧ Cond.initialized RX10 ∈ BG ∧ Cond.code yX10_bound cX10_bound 3 (some .int) ∈ BG := ⟨tw5_63, tw5_64, tw1_1, tw5_65⟩
theorem cy_X10_breaks : Cond.instanceMethod yX10_breaks ∈ BG ∧ Cond.selects RX10 yX10_breaks yX10_breaks ∈ BG ∧ Cond.initialized RX10 ∈ BG ∧ Cond.code yX10_breaks cX10_breaks 2 (some .boolean) ∈ BG := ⟨tw5_105, tw5_106, tw1_1, tw5_107⟩
theorem cy_X10_century : Cond.instanceMethod yX10_century ∈ BG ∧ Cond.selects RX10 yX10_century yX10_century ∈ BG ∧ Cond.initialized RX10 ∈ BG ∧ Cond.code yX10_century cX10_century 4 (some .int) ∈ BG := ⟨tw6_122, tw6_123, tw1_1, tw6_124⟩
theorem cy_X10_clauses : Cond.instanceMethod yX10_clauses ∈ BG ∧ Cond.selects RX10 yX10_clauses yX10_clauses ∈ BG ∧ Cond.initialized RX10 ∈ BG ∧ Cond.code yX10_clauses cX10_clauses 3 (some .int) ∈ BG := ⟨tw5_71, tw5_72, tw1_1, tw5_73⟩
theorem cy_X10_costly : Cond.instanceMethod yX10_costly ∈ BG ∧ Cond.selects RX10 yX10_costly yX10_costly ∈ BG ∧ Cond.initialized RX10 ∈ BG ∧ Cond.code yX10_costly cX10_costly 2 (some .int) ∈ BG := ⟨tw5_170, tw5_171, tw1_1, tw5_172⟩
theorem cy_X10_count : Cond.instanceMethod yX10_count ∈ BG ∧ Cond.selects RX10 yX10_count yX10_count ∈ BG ∧ Cond.initialized RX10 ∈ BG ∧ Cond.code yX10_count cX10_count 2 (some .int) ∈ BG := ⟨tw4_85, tw4_86, tw1_1, tw4_87⟩
theorem cy_X10_dance : Cond.instanceMethod yX10_dance ∈ BG ∧ Cond.selects RX10 yX10_dance yX10_dance ∈ BG ∧ Cond.initialized RX10 ∈ BG ∧ Cond.code yX10_dance cX10_dance 3 (some .int) ∈ BG := ⟨tw5_9, tw5_10, tw1_1, tw5_11⟩
theorem cy_X10_done : Cond.instanceMethod yX10_done ∈ BG ∧ Cond.selects RX10 yX10_done yX10_done ∈ BG ∧ Cond.initialized RX10 ∈ BG ∧ Cond.code yX10_done cX10_done 4 (some .int) ∈ BG := ⟨tw5_86, tw5_87, tw1_1, tw5_88⟩
theorem cy_X10_evenings : Cond.instanceMethod yX10_evenings ∈ BG ∧ Cond.selects RX10 yX10_evenings yX10_evenings ∈ BG ∧ Cond.initialized RX10 ∈ BG ∧ Cond.code yX10_evenings cX10_evenings 3 (some .int) ∈ BG := ⟨tw6_38, tw6_39, tw1_1, tw6_40⟩
theorem cy_X10_fault : Cond.instanceMethod yX10_fault ∈ BG ∧ Cond.selects RX10 yX10_fault yX10_fault ∈ BG ∧ Cond.initialized RX10 ∈ BG ∧ Cond.code yX10_fault cX10_fault 1 (some .int) ∈ BG := ⟨tw2_227, tw2_228, tw1_1, tw2_229⟩
theorem cy_X10_feed : Cond.instanceMethod yX10_feed ∈ BG ∧ Cond.selects RX10 yX10_feed yX10_feed ∈ BG ∧ Cond.initialized RX10 ∈ BG ∧ Cond.code yX10_feed cX10_feed 6 (some .int) ∈ BG := ⟨tw2_219, tw2_220, tw1_1, tw2_221⟩
theorem cy_X10_forget : Cond.instanceMethod yX10_forget ∈ BG ∧ Cond.selects RX10 yX10_forget yX10_forget ∈ BG ∧ Cond.initialized RX10 ∈ BG ∧ Cond.code yX10_forget cX10_forget 1 none ∈ BG := ⟨tw3_17, tw3_18, tw1_1, tw3_19⟩
theorem cy_X10_game : Cond.instanceMethod yX10_game ∈ BG ∧ Cond.selects RX10 yX10_game yX10_game ∈ BG ∧ Cond.initialized RX10 ∈ BG ∧ Cond.code yX10_game cX10_game 5 (some .int) ∈ BG := ⟨tw6_102, tw6_103, tw1_1, tw6_104⟩
theorem cy_X10_help : Cond.instanceMethod yX10_help ∈ BG ∧ Cond.selects RX10 yX10_help yX10_help ∈ BG ∧ Cond.initialized RX10 ∈ BG ∧ Cond.code yX10_help cX10_help 2 (some .int) ∈ BG := ⟨tw6_23, tw6_24, tw1_1, tw6_25⟩
theorem cy_X10_image : Cond.instanceMethod yX10_image ∈ BG ∧ Cond.selects RX10 yX10_image yX10_image ∈ BG ∧ Cond.initialized RX10 ∈ BG ∧ Cond.code yX10_image cX10_image 1 none ∈ BG := ⟨tw3_21, tw3_22, tw1_1, tw3_23⟩
theorem cy_X10_inTime : Cond.instanceMethod yX10_inTime ∈ BG ∧ Cond.selects RX10 yX10_inTime yX10_inTime ∈ BG ∧ Cond.initialized RX10 ∈ BG ∧ Cond.code yX10_inTime cX10_inTime 3 (some .int) ∈ BG := ⟨tw5_199, tw5_200, tw1_1, tw5_201⟩
theorem cy_X10_knees : Cond.instanceMethod yX10_knees ∈ BG ∧ Cond.selects RX10 yX10_knees yX10_knees ∈ BG ∧ Cond.initialized RX10 ∈ BG ∧ Cond.code yX10_knees cX10_knees 2 (some .int) ∈ BG := ⟨tw4_237, tw4_238, tw1_1, tw4_239⟩
theorem cy_X10_later : Cond.instanceMethod yX10_later ∈ BG ∧ Cond.selects RX10 yX10_later yX10_later ∈ BG ∧ Cond.initialized RX10 ∈ BG ∧ Cond.code yX10_later cX10_later 2 (some .int) ∈ BG := ⟨tw5_185, tw5_186, tw1_1, tw5_187⟩
theorem cy_X10_limp : Cond.instanceMethod yX10_limp ∈ BG ∧ Cond.selects RX10 yX10_limp yX10_limp ∈ BG ∧ Cond.initialized RX10 ∈ BG ∧ Cond.code yX10_limp cX10_limp 3 (some .int) ∈ BG := ⟨tw6_77, tw6_78, tw1_1, tw6_79⟩
theorem cy_X10_mend : Cond.instanceMethod yX10_mend ∈ BG ∧ Cond.selects RX10 yX10_mend yX10_mend ∈ BG ∧ Cond.initialized RX10 ∈ BG ∧ Cond.code yX10_mend cX10_mend 5 (some .int) ∈ BG := ⟨tw5_130, tw5_131, tw1_1, tw5_132⟩
theorem cy_X10_restore : Cond.instanceMethod yX10_restore ∈ BG ∧ Cond.selects RX10 yX10_restore yX10_restore ∈ BG ∧ Cond.initialized RX10 ∈ BG ∧ Cond.code yX10_restore cX10_restore 1 (some .boolean) ∈ BG := ⟨tw3_29, tw3_30, tw1_1, tw3_31⟩
theorem cy_X10_see : Cond.instanceMethod yX10_see ∈ BG ∧ Cond.selects RX10 yX10_see yX10_see ∈ BG ∧ Cond.initialized RX10 ∈ BG ∧ Cond.code yX10_see cX10_see 7 (some .int) ∈ BG := ⟨tw6_62, tw6_63, tw1_1, tw6_64⟩
theorem cy_X10_step : Cond.instanceMethod yX10_step ∈ BG ∧ Cond.selects RX10 yX10_step yX10_step ∈ BG ∧ Cond.initialized RX10 ∈ BG ∧ Cond.code yX10_step cX10_step 5 (some .int) ∈ BG := ⟨tw5_34, tw5_35, tw1_1, tw5_36⟩
theorem cy_X10_stumble : Cond.instanceMethod yX10_stumble ∈ BG ∧ Cond.selects RX10 yX10_stumble yX10_stumble ∈ BG ∧ Cond.initialized RX10 ∈ BG ∧ Cond.code yX10_stumble cX10_stumble 6 (some .int) ∈ BG := ⟨tw5_112, tw5_113, tw1_1, tw5_114⟩
theorem cy_X10_undo : Cond.instanceMethod yX10_undo ∈ BG ∧ Cond.selects RX10 yX10_undo yX10_undo ∈ BG ∧ Cond.initialized RX10 ∈ BG ∧ Cond.code yX10_undo cX10_undo 1 (some .int) ∈ BG := ⟨tw3_6, tw3_7, tw1_1, tw3_8⟩
theorem cy_X10_where : Cond.instanceMethod yX10_where ∈ BG ∧ Cond.selects RX10 yX10_where yX10_where ∈ BG ∧ Cond.initialized RX10 ∈ BG ∧ Cond.code yX10_where cX10_where 5 (some .int) ∈ BG := ⟨tw5_48, tw5_49, tw1_1, tw5_50⟩
theorem cy_X10_years : Cond.instanceMethod yX10_years ∈ BG ∧ Cond.selects RX10 yX10_years yX10_years ∈ BG ∧ Cond.initialized RX10 ∈ BG ∧ Cond.code yX10_years cX10_years 2 (some .int) ∈ BG := ⟨tw2_231, tw2_232, tw1_1, tw2_233⟩
theorem cy_X11_act : Cond.instanceMethod yX11_act ∈ BG ∧ Cond.selects RX11 yX11_act yX11_act ∈ BG ∧ Cond.initialized RX11 ∈ BG ∧ Cond.code yX11_act cX11_act 4 (some .int) ∈ BG := ⟨tw8_184, tw8_185, tw1_12, tw8_186⟩
theorem cy_X11_again : Cond.instanceMethod yX11_again ∈ BG ∧ Cond.selects RX11 yX11_again yX11_again ∈ BG ∧ Cond.initialized RX11 ∈ BG ∧ Cond.code yX11_again cX11_again 3 (some .int) ∈ BG := ⟨tw8_163, tw8_164, tw1_12, tw8_165⟩
theorem cy_X11_against : Cond.instanceMethod yX11_against ∈ BG ∧ Cond.selects RX11 yX11_against yX11_against ∈ BG ∧ Cond.initialized RX11 ∈ BG ∧ Cond.code yX11_against cX11_against 8 (some .int) ∈ BG := ⟨tw8_238, tw8_239, tw1_12, tw9_0⟩
theorem cy_X11_apart : Cond.instanceMethod yX11_apart ∈ BG ∧ Cond.selects RX11 yX11_apart yX11_apart ∈ BG ∧ Cond.initialized RX11 ∈ BG ∧ Cond.code yX11_apart cX11_apart 2 (some .int) ∈ BG := ⟨tw8_233, tw8_234, tw1_12, tw8_235⟩
theorem cy_X11_ball : Cond.instanceMethod yX11_ball ∈ BG ∧ Cond.selects RX11 yX11_ball yX11_ball ∈ BG ∧ Cond.initialized RX11 ∈ BG ∧ Cond.code yX11_ball cX11_ball 3 (some .int) ∈ BG := ⟨tw7_114, tw7_115, tw1_12, tw7_116⟩
theorem cy_X11_bound : Cond.instanceMethod yX11_bound ∈ BG ∧ Cond.selects RX11 yX11_bound yX11_bound ∈ BG ∧ Cond.initialized RX11 ∈ BG ∧ Cond.code yX11_bound cX11_bound 3 (some .int) ∈ BG := ⟨tw8_126, tw8_127, tw1_12, tw8_128⟩
theorem cy_X11_breaks : Cond.instanceMethod yX11_breaks ∈ BG ∧ Cond.selects RX11 yX11_breaks yX11_breaks ∈ BG ∧ Cond.initialized RX11 ∈ BG ∧ Cond.code yX11_breaks cX11_breaks 2 (some .boolean) ∈ BG := ⟨tw8_171, tw8_172, tw1_12, tw8_173⟩
theorem cy_X11_century : Cond.instanceMethod yX11_century ∈ BG ∧ Cond.selects RX11 yX11_century yX11_century ∈ BG ∧ Cond.initialized RX11 ∈ BG ∧ Cond.code yX11_century cX11_century 10 (some .int) ∈ BG := ⟨tw9_46, tw9_47, tw1_12, tw9_48⟩
theorem cy_X11_clauses : Cond.instanceMethod yX11_clauses ∈ BG ∧ Cond.selects RX11 yX11_clauses yX11_clauses ∈ BG ∧ Cond.initialized RX11 ∈ BG ∧ Cond.code yX11_clauses cX11_clauses 5 (some .int) ∈ BG := ⟨tw8_134, tw8_135, tw1_12, tw8_136⟩
theorem cy_X11_costly : Cond.instanceMethod yX11_costly ∈ BG ∧ Cond.selects RX11 yX11_costly yX11_costly ∈ BG ∧ Cond.initialized RX11 ∈ BG ∧ Cond.code yX11_costly cX11_costly 4 (some .int) ∈ BG := ⟨tw8_217, tw8_218, tw1_12, tw8_219⟩
theorem cy_X11_count : Cond.instanceMethod yX11_count ∈ BG ∧ Cond.selects RX11 yX11_count yX11_count ∈ BG ∧ Cond.initialized RX11 ∈ BG ∧ Cond.code yX11_count cX11_count 2 (some .int) ∈ BG := ⟨tw7_238, tw7_239, tw1_12, tw8_0⟩
theorem cy_X11_dance : Cond.instanceMethod yX11_dance ∈ BG ∧ Cond.selects RX11 yX11_dance yX11_dance ∈ BG ∧ Cond.initialized RX11 ∈ BG ∧ Cond.code yX11_dance cX11_dance 4 (some .int) ∈ BG := ⟨tw8_103, tw8_104, tw1_12, tw8_105⟩
theorem cy_X11_done : Cond.instanceMethod yX11_done ∈ BG ∧ Cond.selects RX11 yX11_done yX11_done ∈ BG ∧ Cond.initialized RX11 ∈ BG ∧ Cond.code yX11_done cX11_done 5 (some .int) ∈ BG := ⟨tw8_142, tw8_143, tw1_12, tw8_144⟩
theorem cy_X11_evenings : Cond.instanceMethod yX11_evenings ∈ BG ∧ Cond.selects RX11 yX11_evenings yX11_evenings ∈ BG ∧ Cond.initialized RX11 ∈ BG ∧ Cond.code yX11_evenings cX11_evenings 4 (some .int) ∈ BG := ⟨tw9_10, tw9_11, tw1_12, tw9_12⟩
theorem cy_X11_fault : Cond.instanceMethod yX11_fault ∈ BG ∧ Cond.selects RX11 yX11_fault yX11_fault ∈ BG ∧ Cond.initialized RX11 ∈ BG ∧ Cond.code yX11_fault cX11_fault 1 (some .int) ∈ BG := ⟨tw7_234, tw7_235, tw1_12, tw7_236⟩
theorem cy_X11_feed : Cond.instanceMethod yX11_feed ∈ BG ∧ Cond.selects RX11 yX11_feed yX11_feed ∈ BG ∧ Cond.initialized RX11 ∈ BG ∧ Cond.code yX11_feed cX11_feed 8 (some .int) ∈ BG := ⟨tw7_110, tw7_111, tw1_12, tw7_112⟩
theorem cy_X11_forget : Cond.instanceMethod yX11_forget ∈ BG ∧ Cond.selects RX11 yX11_forget yX11_forget ∈ BG ∧ Cond.initialized RX11 ∈ BG ∧ Cond.code yX11_forget cX11_forget 1 none ∈ BG := ⟨tw9_34, tw9_35, tw1_12, tw9_36⟩
theorem cy_X11_game : Cond.instanceMethod yX11_game ∈ BG ∧ Cond.selects RX11 yX11_game yX11_game ∈ BG ∧ Cond.initialized RX11 ∈ BG ∧ Cond.code yX11_game cX11_game 12 (some .int) ∈ BG := ⟨tw9_38, tw9_39, tw1_12, tw9_40⟩
theorem cy_X11_help : Cond.instanceMethod yX11_help ∈ BG ∧ Cond.selects RX11 yX11_help yX11_help ∈ BG ∧ Cond.initialized RX11 ∈ BG ∧ Cond.code yX11_help cX11_help 7 (some .int) ∈ BG := ⟨tw9_6, tw9_7, tw1_12, tw9_8⟩
theorem cy_X11_image : Cond.instanceMethod yX11_image ∈ BG ∧ Cond.selects RX11 yX11_image yX11_image ∈ BG ∧ Cond.initialized RX11 ∈ BG ∧ Cond.code yX11_image cX11_image 1 none ∈ BG := ⟨tw9_56, tw9_57, tw1_12, tw9_58⟩
theorem cy_X11_inTime : Cond.instanceMethod yX11_inTime ∈ BG ∧ Cond.selects RX11 yX11_inTime yX11_inTime ∈ BG ∧ Cond.initialized RX11 ∈ BG ∧ Cond.code yX11_inTime cX11_inTime 7 (some .int) ∈ BG := ⟨tw8_228, tw8_229, tw1_12, tw8_230⟩
theorem cy_X11_knees : Cond.instanceMethod yX11_knees ∈ BG ∧ Cond.selects RX11 yX11_knees yX11_knees ∈ BG ∧ Cond.initialized RX11 ∈ BG ∧ Cond.code yX11_knees cX11_knees 2 (some .int) ∈ BG := ⟨tw8_92, tw8_93, tw1_12, tw8_94⟩
theorem cy_X11_later : Cond.instanceMethod yX11_later ∈ BG ∧ Cond.selects RX11 yX11_later yX11_later ∈ BG ∧ Cond.initialized RX11 ∈ BG ∧ Cond.code yX11_later cX11_later 3 (some .int) ∈ BG := ⟨tw8_221, tw8_222, tw1_12, tw8_223⟩
theorem cy_X11_limp : Cond.instanceMethod yX11_limp ∈ BG ∧ Cond.selects RX11 yX11_limp yX11_limp ∈ BG ∧ Cond.initialized RX11 ∈ BG ∧ Cond.code yX11_limp cX11_limp 9 (some .int) ∈ BG := ⟨tw9_26, tw9_27, tw1_12, tw9_28⟩
theorem cy_X11_mend : Cond.instanceMethod yX11_mend ∈ BG ∧ Cond.selects RX11 yX11_mend yX11_mend ∈ BG ∧ Cond.initialized RX11 ∈ BG ∧ Cond.code yX11_mend cX11_mend 5 (some .int) ∈ BG := ⟨tw8_197, tw8_198, tw1_12, tw8_199⟩
theorem cy_X11_restore : Cond.instanceMethod yX11_restore ∈ BG ∧ Cond.selects RX11 yX11_restore yX11_restore ∈ BG ∧ Cond.initialized RX11 ∈ BG ∧ Cond.code yX11_restore cX11_restore 1 (some .boolean) ∈ BG := ⟨tw9_63, tw9_64, tw1_12, tw9_65⟩
theorem cy_X11_see : Cond.instanceMethod yX11_see ∈ BG ∧ Cond.selects RX11 yX11_see yX11_see ∈ BG ∧ Cond.initialized RX11 ∈ BG ∧ Cond.code yX11_see cX11_see 6 (some .int) ∈ BG := ⟨tw9_22, tw9_23, tw1_12, tw9_24⟩
theorem cy_X11_step : Cond.instanceMethod yX11_step ∈ BG ∧ Cond.selects RX11 yX11_step yX11_step ∈ BG ∧ Cond.initialized RX11 ∈ BG ∧ Cond.code yX11_step cX11_step 5 (some .int) ∈ BG := ⟨tw8_111, tw8_112, tw1_12, tw8_113⟩
theorem cy_X11_stumble : Cond.instanceMethod yX11_stumble ∈ BG ∧ Cond.selects RX11 yX11_stumble yX11_stumble ∈ BG ∧ Cond.initialized RX11 ∈ BG ∧ Cond.code yX11_stumble cX11_stumble 5 (some .int) ∈ BG := ⟨tw8_175, tw8_176, tw1_12, tw8_177⟩
theorem cy_X11_thrown : Cond.instanceMethod yX11_thrown ∈ BG ∧ Cond.selects RX11 yX11_thrown yX11_thrown ∈ BG ∧ Cond.initialized RX11 ∈ BG ∧ Cond.code yX11_thrown cX11_thrown 1 (some .int) ∈ BG := ⟨tw7_106, tw7_107, tw1_12, tw7_108⟩
theorem cy_X11_undo : Cond.instanceMethod yX11_undo ∈ BG ∧ Cond.selects RX11 yX11_undo yX11_undo ∈ BG ∧ Cond.initialized RX11 ∈ BG ∧ Cond.code yX11_undo cX11_undo 1 (some .int) ∈ BG := ⟨tw8_189, tw8_190, tw1_12, tw8_191⟩
theorem cy_X11_where : Cond.instanceMethod yX11_where ∈ BG ∧ Cond.selects RX11 yX11_where yX11_where ∈ BG ∧ Cond.initialized RX11 ∈ BG ∧ Cond.code yX11_where cX11_where 5 (some .int) ∈ BG := ⟨tw8_120, tw8_121, tw1_12, tw8_122⟩
theorem cy_X11_years : Cond.instanceMethod yX11_years ∈ BG ∧ Cond.selects RX11 yX11_years yX11_years ∈ BG ∧ Cond.initialized RX11 ∈ BG ∧ Cond.code yX11_years cX11_years 2 (some .int) ∈ BG := ⟨tw8_146, tw8_147, tw1_12, tw8_148⟩
set_option maxRecDepth 20000 in
theorem mw_L_ball {l : Launch} (D : va_G) (cI cL : ClassId) (ad : Nat → Nat) (ao : Nat) (had : gAp (gC D cI ad)) (hst : l.stackTraces = false) (hao : ∀ k, k < 88 → ad k ≠ ao) {F : Nat} {σ : St} {f : Nat → Int64} {a0 : Int32} {res : Nat × Int32 × St} (h : fX10_ball F σ a0 = some res) (hres : res.1 = 0 ∨ res.1 = 2) : MW l yL_ball (wH yL_ball cL_ball 4 (some .int) [(0, 9, 12, 13)]) 125 2726 1 D cI cL ad ao [.ref (ad 0), .int a0, .ref ao] σ f (if res.1 = 0 then 0 else 1) res.2.2 (if res.1 = 0 then vp_updL f 0 res.2.1.toInt64 else f) := by
  refine mk_MW (by decide +kernel) (Nat.le_of_ble_eq_true rfl) ?_
  intro p e s m below meth c ls C1 htab hK hE hX hret hlocks hl hP hO
  obtain ⟨hx, hb, hml, hown, hts⟩ := id C1
  have hS : va_S (AW (gC D cI ad) ao) s.heap s.heap [] := va_S.rf
  have hl : lv_has ls 4 [(0, .ref (ad 0)), (1, .int a0), (2, .ref ao)] := hl
  refine lv_aload_n hx hb dL_ball_0 rfl (lv_at hl 2 rfl) ?_
  refine lv_iconst (v := 0) hx hb dL_ball_1 (by decide) ?_
  refine lv_aload_n hx hb dL_ball_2 rfl (lv_at hl 0 rfl) ?_
  refine lv_iload_n hx hb dL_ball_3 rfl (lv_at hl 1 rfl) ?_
  refine lw_call C1 hK hE hao hl.1 hP hO hS (n := 1) (As := [.int a0]) (rest := [.int 0, .ref ao]) (cfX10_ball D cI ad had hst h) tw3_36 cy_X10_ball (by decide +kernel) ⟨by decide, by decide⟩ ⟨by decide, by decide⟩ rfl rfl (Nat.le_of_ble_eq_true rfl) dL_ball_4 ?_ ?_
  · intro E cd u H1 locs1 ce q9 hE9 hr9 hP1 hO1 hS1 hce hcv hcl
    subst hr9
    rcases hE9 with ⟨rfl, rfl⟩ | ⟨rfl, rfl⟩
    · exact absurd hres (by simp)
    · refine vx_catch (own := RL) (name := cIAE) hown [] ⟨0, 9, 12, 13⟩ [] htab (fun z hz => nomatch hz) (by decide) (by decide) (hts _ tw3_35) (va_Nw.use rfl (hE.2.2.2.2.2.2.2.2 (cIAE, cIAE) (by decide))) hce hcv hcl ?_
      refine lv_astore_n (lv' := [(3, .ref q9), (0, .ref (ad 0)), (1, .int a0), (2, .ref ao)]) hx hb dL_ball_12 rfl hl (by decide) rfl (fun ls hl => ?_)
      refine lv_iconst (v := 1) hx hb dL_ball_13 (by decide) ?_
      exact lw_ret hx hb hret hlocks hP1 hO1 hS1 (by simp) rfl (by simp) ⟨by decide, by decide⟩ dL_ball_14
  · intro r u H1 locs1 hr9 hP1 hO1 hS1
    subst hr9
    refine lv_i2l (v := Int32.toInt64 r) hx hb dL_ball_7 rfl ?_
    refine lw_last hx hb hK had hao hP1 hO1 hS1 dL_ball_8 (fun H2 locs2 hP2 hO2 hS2 => ?_)
    refine lv_goto (tgt := 15) hx hb dL_ball_9 (by decide) ?_
    refine lv_iconst (v := 0) hx hb dL_ball_15 (by decide) ?_
    exact lw_ret hx hb hret hlocks hP2 hO2 hS2 (by simp) rfl (by simp) ⟨by decide, by decide⟩ dL_ball_16
set_option maxRecDepth 20000 in
theorem mw_L_count {l : Launch} (D : va_G) (cI cL : ClassId) (ad : Nat → Nat) (ao : Nat) (had : gAp (gC D cI ad)) (hst : l.stackTraces = false) (hao : ∀ k, k < 88 → ad k ≠ ao) {F : Nat} {σ : St} {f : Nat → Int64} {a0 : Int32} {res : Nat × Int32 × St} (h : fX10_count F σ a0 = some res) (hres : res.1 = 0 ∨ res.1 = 1) : MW l yL_count (wH yL_count cL_count 4 (some .int) [(0, 9, 12, 18)]) 8 161 1 D cI cL ad ao [.ref (ad 0), .int a0, .ref ao] σ f (if res.1 = 0 then 0 else 1) res.2.2 (if res.1 = 0 then vp_updL f 0 res.2.1.toInt64 else f) := by
  refine mk_MW (by decide +kernel) (Nat.le_of_ble_eq_true rfl) ?_
  intro p e s m below meth c ls C1 htab hK hE hX hret hlocks hl hP hO
  obtain ⟨hx, hb, hml, hown, hts⟩ := id C1
  have hS : va_S (AW (gC D cI ad) ao) s.heap s.heap [] := va_S.rf
  have hl : lv_has ls 4 [(0, .ref (ad 0)), (1, .int a0), (2, .ref ao)] := hl
  refine lv_aload_n hx hb dL_count_0 rfl (lv_at hl 2 rfl) ?_
  refine lv_iconst (v := 0) hx hb dL_count_1 (by decide) ?_
  refine lv_aload_n hx hb dL_count_2 rfl (lv_at hl 0 rfl) ?_
  refine lv_iload_n hx hb dL_count_3 rfl (lv_at hl 1 rfl) ?_
  refine lw_call C1 hK hE hao hl.1 hP hO hS (n := 1) (As := [.int a0]) (rest := [.int 0, .ref ao]) (cfX10_count D cI ad had hst h) tw4_84 cy_X10_count (by decide +kernel) ⟨by decide, by decide⟩ ⟨by decide, by decide⟩ rfl rfl (Nat.le_of_ble_eq_true rfl) dL_count_4 ?_ ?_
  · intro E cd u H1 locs1 ce q9 hE9 hr9 hP1 hO1 hS1 hce hcv hcl
    subst hr9
    rcases hE9 with ⟨rfl, rfl⟩ | ⟨rfl, rfl⟩
    · refine vx_catch (own := RL) (name := cNSE) hown [] ⟨0, 9, 12, 18⟩ [] htab (fun z hz => nomatch hz) (by decide) (by decide) (hts _ tw4_83) (va_Nw.use rfl (hE.2.2.2.2.2.2.2.2 (cNSE, cNSE) (by decide))) hce hcv hcl ?_
      refine lv_astore_n (lv' := [(3, .ref q9), (0, .ref (ad 0)), (1, .int a0), (2, .ref ao)]) hx hb dL_count_12 rfl hl (by decide) rfl (fun ls hl => ?_)
      refine lv_iconst (v := 1) hx hb dL_count_13 (by decide) ?_
      exact lw_ret hx hb hret hlocks hP1 hO1 hS1 (by simp) rfl (by simp) ⟨by decide, by decide⟩ dL_count_14
    · exact absurd hres (by simp)
  · intro r u H1 locs1 hr9 hP1 hO1 hS1
    subst hr9
    refine lv_i2l (v := Int32.toInt64 r) hx hb dL_count_7 rfl ?_
    refine lw_last hx hb hK had hao hP1 hO1 hS1 dL_count_8 (fun H2 locs2 hP2 hO2 hS2 => ?_)
    refine lv_goto (tgt := 15) hx hb dL_count_9 (by decide) ?_
    refine lv_iconst (v := 0) hx hb dL_count_15 (by decide) ?_
    exact lw_ret hx hb hret hlocks hP2 hO2 hS2 (by simp) rfl (by simp) ⟨by decide, by decide⟩ dL_count_16
set_option maxRecDepth 20000 in
theorem mw_L_knees {l : Launch} (D : va_G) (cI cL : ClassId) (ad : Nat → Nat) (ao : Nat) (had : gAp (gC D cI ad)) (hst : l.stackTraces = false) (hao : ∀ k, k < 88 → ad k ≠ ao) {F : Nat} {σ : St} {f : Nat → Int64} {a0 : Int32} {res : Nat × Int32 × St} (h : fX10_knees F σ a0 = some res) (hres : res.1 = 0 ∨ res.1 = 1) : MW l yL_knees (wH yL_knees cL_knees 4 (some .int) [(0, 9, 12, 18)]) 9 152 1 D cI cL ad ao [.ref (ad 0), .int a0, .ref ao] σ f (if res.1 = 0 then 0 else 1) res.2.2 (if res.1 = 0 then vp_updL f 0 res.2.1.toInt64 else f) := by
  refine mk_MW (by decide +kernel) (Nat.le_of_ble_eq_true rfl) ?_
  intro p e s m below meth c ls C1 htab hK hE hX hret hlocks hl hP hO
  obtain ⟨hx, hb, hml, hown, hts⟩ := id C1
  have hS : va_S (AW (gC D cI ad) ao) s.heap s.heap [] := va_S.rf
  have hl : lv_has ls 4 [(0, .ref (ad 0)), (1, .int a0), (2, .ref ao)] := hl
  refine lv_aload_n hx hb dL_knees_0 rfl (lv_at hl 2 rfl) ?_
  refine lv_iconst (v := 0) hx hb dL_knees_1 (by decide) ?_
  refine lv_aload_n hx hb dL_knees_2 rfl (lv_at hl 0 rfl) ?_
  refine lv_iload_n hx hb dL_knees_3 rfl (lv_at hl 1 rfl) ?_
  refine lw_call C1 hK hE hao hl.1 hP hO hS (n := 1) (As := [.int a0]) (rest := [.int 0, .ref ao]) (cfX10_knees D cI ad had hst h) tw4_236 cy_X10_knees (by decide +kernel) ⟨by decide, by decide⟩ ⟨by decide, by decide⟩ rfl rfl (Nat.le_of_ble_eq_true rfl) dL_knees_4 ?_ ?_
  · intro E cd u H1 locs1 ce q9 hE9 hr9 hP1 hO1 hS1 hce hcv hcl
    subst hr9
    rcases hE9 with ⟨rfl, rfl⟩ | ⟨rfl, rfl⟩
    · refine vx_catch (own := RL) (name := cNSE) hown [] ⟨0, 9, 12, 18⟩ [] htab (fun z hz => nomatch hz) (by decide) (by decide) (hts _ tw4_83) (va_Nw.use rfl (hE.2.2.2.2.2.2.2.2 (cNSE, cNSE) (by decide))) hce hcv hcl ?_
      refine lv_astore_n (lv' := [(3, .ref q9), (0, .ref (ad 0)), (1, .int a0), (2, .ref ao)]) hx hb dL_knees_12 rfl hl (by decide) rfl (fun ls hl => ?_)
      refine lv_iconst (v := 1) hx hb dL_knees_13 (by decide) ?_
      exact lw_ret hx hb hret hlocks hP1 hO1 hS1 (by simp) rfl (by simp) ⟨by decide, by decide⟩ dL_knees_14
    · exact absurd hres (by simp)
  · intro r u H1 locs1 hr9 hP1 hO1 hS1
    subst hr9
    refine lv_i2l (v := Int32.toInt64 r) hx hb dL_knees_7 rfl ?_
    refine lw_last hx hb hK had hao hP1 hO1 hS1 dL_knees_8 (fun H2 locs2 hP2 hO2 hS2 => ?_)
    refine lv_goto (tgt := 15) hx hb dL_knees_9 (by decide) ?_
    refine lv_iconst (v := 0) hx hb dL_knees_15 (by decide) ?_
    exact lw_ret hx hb hret hlocks hP2 hO2 hS2 (by simp) rfl (by simp) ⟨by decide, by decide⟩ dL_knees_16
set_option maxRecDepth 20000 in
theorem mw_L_dance {l : Launch} (D : va_G) (cI cL : ClassId) (ad : Nat → Nat) (ao : Nat) (had : gAp (gC D cI ad)) (hst : l.stackTraces = false) (hao : ∀ k, k < 88 → ad k ≠ ao) {F : Nat} {σ : St} {f : Nat → Int64} {a0 a1 : Int32} {res : Nat × Int32 × St} (h : fX10_dance F σ a0 a1 = some res) (hres : res.1 = 0 ∨ res.1 = 1) : MW l yL_dance (wH yL_dance cL_dance 5 (some .int) [(0, 10, 13, 18)]) 9 153 2 D cI cL ad ao [.ref (ad 0), .int a0, .int a1, .ref ao] σ f (if res.1 = 0 then 0 else 1) res.2.2 (if res.1 = 0 then vp_updL f 0 res.2.1.toInt64 else f) := by
  refine mk_MW (by decide +kernel) (Nat.le_of_ble_eq_true rfl) ?_
  intro p e s m below meth c ls C1 htab hK hE hX hret hlocks hl hP hO
  obtain ⟨hx, hb, hml, hown, hts⟩ := id C1
  have hS : va_S (AW (gC D cI ad) ao) s.heap s.heap [] := va_S.rf
  have hl : lv_has ls 5 [(0, .ref (ad 0)), (1, .int a0), (2, .int a1), (3, .ref ao)] := hl
  refine lv_aload_n hx hb dL_dance_0 rfl (lv_at hl 3 rfl) ?_
  refine lv_iconst (v := 0) hx hb dL_dance_1 (by decide) ?_
  refine lv_aload_n hx hb dL_dance_2 rfl (lv_at hl 0 rfl) ?_
  refine lv_iload_n hx hb dL_dance_3 rfl (lv_at hl 1 rfl) ?_
  refine lv_iload_n hx hb dL_dance_4 rfl (lv_at hl 2 rfl) ?_
  refine lw_call C1 hK hE hao hl.1 hP hO hS (n := 2) (As := [.int a0, .int a1]) (rest := [.int 0, .ref ao]) (cfX10_dance D cI ad had hst h) tw5_8 cy_X10_dance (by decide +kernel) ⟨by decide, by decide⟩ ⟨by decide, by decide⟩ rfl rfl (Nat.le_of_ble_eq_true rfl) dL_dance_5 ?_ ?_
  · intro E cd u H1 locs1 ce q9 hE9 hr9 hP1 hO1 hS1 hce hcv hcl
    subst hr9
    rcases hE9 with ⟨rfl, rfl⟩ | ⟨rfl, rfl⟩
    · refine vx_catch (own := RL) (name := cNSE) hown [] ⟨0, 10, 13, 18⟩ [] htab (fun z hz => nomatch hz) (by decide) (by decide) (hts _ tw4_83) (va_Nw.use rfl (hE.2.2.2.2.2.2.2.2 (cNSE, cNSE) (by decide))) hce hcv hcl ?_
      refine lv_astore (lv' := [(4, .ref q9), (0, .ref (ad 0)), (1, .int a0), (2, .int a1), (3, .ref ao)]) hx hb dL_dance_13 hl (by decide) rfl (fun ls hl => ?_)
      refine lv_iconst (v := 1) hx hb dL_dance_15 (by decide) ?_
      exact lw_ret hx hb hret hlocks hP1 hO1 hS1 (by simp) rfl (by simp) ⟨by decide, by decide⟩ dL_dance_16
    · exact absurd hres (by simp)
  · intro r u H1 locs1 hr9 hP1 hO1 hS1
    subst hr9
    refine lv_i2l (v := Int32.toInt64 r) hx hb dL_dance_8 rfl ?_
    refine lw_last hx hb hK had hao hP1 hO1 hS1 dL_dance_9 (fun H2 locs2 hP2 hO2 hS2 => ?_)
    refine lv_goto (tgt := 17) hx hb dL_dance_10 (by decide) ?_
    refine lv_iconst (v := 0) hx hb dL_dance_17 (by decide) ?_
    exact lw_ret hx hb hret hlocks hP2 hO2 hS2 (by simp) rfl (by simp) ⟨by decide, by decide⟩ dL_dance_18
set_option maxRecDepth 20000 in
theorem mw_L_step {l : Launch} (D : va_G) (cI cL : ClassId) (ad : Nat → Nat) (ao : Nat) (had : gAp (gC D cI ad)) (hst : l.stackTraces = false) (hao : ∀ k, k < 88 → ad k ≠ ao) {F : Nat} {σ : St} {f : Nat → Int64} {a0 a1 a2 : Int32} {res : Nat × Int32 × St} (h : fX10_step F σ a0 a1 a2 = some res) (hres : res.1 = 0 ∨ res.1 = 1) : MW l yL_step (wH yL_step cL_step 6 (some .int) [(0, 12, 15, 18)]) 10 177 3 D cI cL ad ao [.ref (ad 0), .int a0, .int a1, .int a2, .ref ao] σ f (if res.1 = 0 then 0 else 1) res.2.2 (if res.1 = 0 then vp_updL f 0 res.2.1.toInt64 else f) := by
  refine mk_MW (by decide +kernel) (Nat.le_of_ble_eq_true rfl) ?_
  intro p e s m below meth c ls C1 htab hK hE hX hret hlocks hl hP hO
  obtain ⟨hx, hb, hml, hown, hts⟩ := id C1
  have hS : va_S (AW (gC D cI ad) ao) s.heap s.heap [] := va_S.rf
  have hl : lv_has ls 6 [(0, .ref (ad 0)), (1, .int a0), (2, .int a1), (3, .int a2), (4, .ref ao)] := hl
  refine lv_aload hx hb dL_step_0 (lv_at hl 4 rfl) ?_
  refine lv_iconst (v := 0) hx hb dL_step_2 (by decide) ?_
  refine lv_aload_n hx hb dL_step_3 rfl (lv_at hl 0 rfl) ?_
  refine lv_iload_n hx hb dL_step_4 rfl (lv_at hl 1 rfl) ?_
  refine lv_iload_n hx hb dL_step_5 rfl (lv_at hl 2 rfl) ?_
  refine lv_iload_n hx hb dL_step_6 rfl (lv_at hl 3 rfl) ?_
  refine lw_call C1 hK hE hao hl.1 hP hO hS (n := 3) (As := [.int a0, .int a1, .int a2]) (rest := [.int 0, .ref ao]) (cfX10_step D cI ad had hst h) tw5_33 cy_X10_step (by decide +kernel) ⟨by decide, by decide⟩ ⟨by decide, by decide⟩ rfl rfl (Nat.le_of_ble_eq_true rfl) dL_step_7 ?_ ?_
  · intro E cd u H1 locs1 ce q9 hE9 hr9 hP1 hO1 hS1 hce hcv hcl
    subst hr9
    rcases hE9 with ⟨rfl, rfl⟩ | ⟨rfl, rfl⟩
    · refine vx_catch (own := RL) (name := cNSE) hown [] ⟨0, 12, 15, 18⟩ [] htab (fun z hz => nomatch hz) (by decide) (by decide) (hts _ tw4_83) (va_Nw.use rfl (hE.2.2.2.2.2.2.2.2 (cNSE, cNSE) (by decide))) hce hcv hcl ?_
      refine lv_astore (lv' := [(5, .ref q9), (0, .ref (ad 0)), (1, .int a0), (2, .int a1), (3, .int a2), (4, .ref ao)]) hx hb dL_step_15 hl (by decide) rfl (fun ls hl => ?_)
      refine lv_iconst (v := 1) hx hb dL_step_17 (by decide) ?_
      exact lw_ret hx hb hret hlocks hP1 hO1 hS1 (by simp) rfl (by simp) ⟨by decide, by decide⟩ dL_step_18
    · exact absurd hres (by simp)
  · intro r u H1 locs1 hr9 hP1 hO1 hS1
    subst hr9
    refine lv_i2l (v := Int32.toInt64 r) hx hb dL_step_10 rfl ?_
    refine lw_last hx hb hK had hao hP1 hO1 hS1 dL_step_11 (fun H2 locs2 hP2 hO2 hS2 => ?_)
    refine lv_goto (tgt := 19) hx hb dL_step_12 (by decide) ?_
    refine lv_iconst (v := 0) hx hb dL_step_19 (by decide) ?_
    exact lw_ret hx hb hret hlocks hP2 hO2 hS2 (by simp) rfl (by simp) ⟨by decide, by decide⟩ dL_step_20
set_option maxRecDepth 20000 in
theorem mw_L_where {l : Launch} (D : va_G) (cI cL : ClassId) (ad : Nat → Nat) (ao : Nat) (had : gAp (gC D cI ad)) (hst : l.stackTraces = false) (hao : ∀ k, k < 88 → ad k ≠ ao) {F : Nat} {σ : St} {f : Nat → Int64} {a0 a1 a2 a3 : Int32} {res : Nat × Int32 × St} (h : fX10_where F σ a0 a1 a2 a3 = some res) (hres : res.1 = 0 ∨ res.1 = 1) : MW l yL_where (wH yL_where cL_where 7 (some .int) [(0, 14, 17, 18)]) 10 177 6 D cI cL ad ao [.ref (ad 0), .int a0, .int a1, .int a2, .int a3, .ref ao] σ f (if res.1 = 0 then 0 else 1) res.2.2 (if res.1 = 0 then vp_updL f 0 res.2.1.toInt64 else f) := by
  refine mk_MW (by decide +kernel) (Nat.le_of_ble_eq_true rfl) ?_
  intro p e s m below meth c ls C1 htab hK hE hX hret hlocks hl hP hO
  obtain ⟨hx, hb, hml, hown, hts⟩ := id C1
  have hS : va_S (AW (gC D cI ad) ao) s.heap s.heap [] := va_S.rf
  have hl : lv_has ls 7 [(0, .ref (ad 0)), (1, .int a0), (2, .int a1), (3, .int a2), (4, .int a3), (5, .ref ao)] := hl
  refine lv_aload hx hb dL_where_0 (lv_at hl 5 rfl) ?_
  refine lv_iconst (v := 0) hx hb dL_where_2 (by decide) ?_
  refine lv_aload_n hx hb dL_where_3 rfl (lv_at hl 0 rfl) ?_
  refine lv_iload_n hx hb dL_where_4 rfl (lv_at hl 1 rfl) ?_
  refine lv_iload_n hx hb dL_where_5 rfl (lv_at hl 2 rfl) ?_
  refine lv_iload_n hx hb dL_where_6 rfl (lv_at hl 3 rfl) ?_
  refine lv_iload hx hb dL_where_7 (lv_at hl 4 rfl) ?_
  refine lw_call C1 hK hE hao hl.1 hP hO hS (n := 4) (As := [.int a0, .int a1, .int a2, .int a3]) (rest := [.int 0, .ref ao]) (cfX10_where D cI ad had hst h) tw5_47 cy_X10_where (by decide +kernel) ⟨by decide, by decide⟩ ⟨by decide, by decide⟩ rfl rfl (Nat.le_of_ble_eq_true rfl) dL_where_9 ?_ ?_
  · intro E cd u H1 locs1 ce q9 hE9 hr9 hP1 hO1 hS1 hce hcv hcl
    subst hr9
    rcases hE9 with ⟨rfl, rfl⟩ | ⟨rfl, rfl⟩
    · refine vx_catch (own := RL) (name := cNSE) hown [] ⟨0, 14, 17, 18⟩ [] htab (fun z hz => nomatch hz) (by decide) (by decide) (hts _ tw4_83) (va_Nw.use rfl (hE.2.2.2.2.2.2.2.2 (cNSE, cNSE) (by decide))) hce hcv hcl ?_
      refine lv_astore (lv' := [(6, .ref q9), (0, .ref (ad 0)), (1, .int a0), (2, .int a1), (3, .int a2), (4, .int a3), (5, .ref ao)]) hx hb dL_where_17 hl (by decide) rfl (fun ls hl => ?_)
      refine lv_iconst (v := 1) hx hb dL_where_19 (by decide) ?_
      exact lw_ret hx hb hret hlocks hP1 hO1 hS1 (by simp) rfl (by simp) ⟨by decide, by decide⟩ dL_where_20
    · exact absurd hres (by simp)
  · intro r u H1 locs1 hr9 hP1 hO1 hS1
    subst hr9
    refine lv_i2l (v := Int32.toInt64 r) hx hb dL_where_12 rfl ?_
    refine lw_last hx hb hK had hao hP1 hO1 hS1 dL_where_13 (fun H2 locs2 hP2 hO2 hS2 => ?_)
    refine lv_goto (tgt := 21) hx hb dL_where_14 (by decide) ?_
    refine lv_iconst (v := 0) hx hb dL_where_21 (by decide) ?_
    exact lw_ret hx hb hret hlocks hP2 hO2 hS2 (by simp) rfl (by simp) ⟨by decide, by decide⟩ dL_where_22
set_option maxRecDepth 20000 in
theorem mw_L_bound {l : Launch} (D : va_G) (cI cL : ClassId) (ad : Nat → Nat) (ao : Nat) (had : gAp (gC D cI ad)) (hst : l.stackTraces = false) (hao : ∀ k, k < 88 → ad k ≠ ao) {F : Nat} {σ : St} {f : Nat → Int64} {a0 a1 : Int32} {res : Nat × Int32 × St} (h : fX10_bound F σ a0 a1 = some res) (hres : res.1 = 0 ∨ res.1 = 1) : MW l yL_bound (wH yL_bound cL_bound 5 (some .int) [(0, 10, 13, 18)]) 9 162 2 D cI cL ad ao [.ref (ad 0), .int a0, .int a1, .ref ao] σ f (if res.1 = 0 then 0 else 1) res.2.2 (if res.1 = 0 then vp_updL f 0 res.2.1.toInt64 else f) := by
  refine mk_MW (by decide +kernel) (Nat.le_of_ble_eq_true rfl) ?_
  intro p e s m below meth c ls C1 htab hK hE hX hret hlocks hl hP hO
  obtain ⟨hx, hb, hml, hown, hts⟩ := id C1
  have hS : va_S (AW (gC D cI ad) ao) s.heap s.heap [] := va_S.rf
  have hl : lv_has ls 5 [(0, .ref (ad 0)), (1, .int a0), (2, .int a1), (3, .ref ao)] := hl
  refine lv_aload_n hx hb dL_bound_0 rfl (lv_at hl 3 rfl) ?_
  refine lv_iconst (v := 0) hx hb dL_bound_1 (by decide) ?_
  refine lv_aload_n hx hb dL_bound_2 rfl (lv_at hl 0 rfl) ?_
  refine lv_iload_n hx hb dL_bound_3 rfl (lv_at hl 1 rfl) ?_
  refine lv_iload_n hx hb dL_bound_4 rfl (lv_at hl 2 rfl) ?_
  refine lw_call C1 hK hE hao hl.1 hP hO hS (n := 2) (As := [.int a0, .int a1]) (rest := [.int 0, .ref ao]) (cfX10_bound D cI ad had hst h) tw5_62 cy_X10_bound (by decide +kernel) ⟨by decide, by decide⟩ ⟨by decide, by decide⟩ rfl rfl (Nat.le_of_ble_eq_true rfl) dL_bound_5 ?_ ?_
  · intro E cd u H1 locs1 ce q9 hE9 hr9 hP1 hO1 hS1 hce hcv hcl
    subst hr9
    rcases hE9 with ⟨rfl, rfl⟩ | ⟨rfl, rfl⟩
    · refine vx_catch (own := RL) (name := cNSE) hown [] ⟨0, 10, 13, 18⟩ [] htab (fun z hz => nomatch hz) (by decide) (by decide) (hts _ tw4_83) (va_Nw.use rfl (hE.2.2.2.2.2.2.2.2 (cNSE, cNSE) (by decide))) hce hcv hcl ?_
      refine lv_astore (lv' := [(4, .ref q9), (0, .ref (ad 0)), (1, .int a0), (2, .int a1), (3, .ref ao)]) hx hb dL_bound_13 hl (by decide) rfl (fun ls hl => ?_)
      refine lv_iconst (v := 1) hx hb dL_bound_15 (by decide) ?_
      exact lw_ret hx hb hret hlocks hP1 hO1 hS1 (by simp) rfl (by simp) ⟨by decide, by decide⟩ dL_bound_16
    · exact absurd hres (by simp)
  · intro r u H1 locs1 hr9 hP1 hO1 hS1
    subst hr9
    refine lv_i2l (v := Int32.toInt64 r) hx hb dL_bound_8 rfl ?_
    refine lw_last hx hb hK had hao hP1 hO1 hS1 dL_bound_9 (fun H2 locs2 hP2 hO2 hS2 => ?_)
    refine lv_goto (tgt := 17) hx hb dL_bound_10 (by decide) ?_
    refine lv_iconst (v := 0) hx hb dL_bound_17 (by decide) ?_
    exact lw_ret hx hb hret hlocks hP2 hO2 hS2 (by simp) rfl (by simp) ⟨by decide, by decide⟩ dL_bound_18
set_option maxRecDepth 20000 in
theorem mw_L_clauses {l : Launch} (D : va_G) (cI cL : ClassId) (ad : Nat → Nat) (ao : Nat) (had : gAp (gC D cI ad)) (hst : l.stackTraces = false) (hao : ∀ k, k < 88 → ad k ≠ ao) {F : Nat} {σ : St} {f : Nat → Int64} {a0 a1 : Int32} {res : Nat × Int32 × St} (h : fX10_clauses F σ a0 a1 = some res) (hres : res.1 = 0 ∨ res.1 = 1) : MW l yL_clauses (wH yL_clauses cL_clauses 5 (some .int) [(0, 10, 13, 18)]) 9 168 2 D cI cL ad ao [.ref (ad 0), .int a0, .int a1, .ref ao] σ f (if res.1 = 0 then 0 else 1) res.2.2 (if res.1 = 0 then vp_updL f 0 res.2.1.toInt64 else f) := by
  refine mk_MW (by decide +kernel) (Nat.le_of_ble_eq_true rfl) ?_
  intro p e s m below meth c ls C1 htab hK hE hX hret hlocks hl hP hO
  obtain ⟨hx, hb, hml, hown, hts⟩ := id C1
  have hS : va_S (AW (gC D cI ad) ao) s.heap s.heap [] := va_S.rf
  have hl : lv_has ls 5 [(0, .ref (ad 0)), (1, .int a0), (2, .int a1), (3, .ref ao)] := hl
  refine lv_aload_n hx hb dL_clauses_0 rfl (lv_at hl 3 rfl) ?_
  refine lv_iconst (v := 0) hx hb dL_clauses_1 (by decide) ?_
  refine lv_aload_n hx hb dL_clauses_2 rfl (lv_at hl 0 rfl) ?_
  refine lv_iload_n hx hb dL_clauses_3 rfl (lv_at hl 1 rfl) ?_
  refine lv_iload_n hx hb dL_clauses_4 rfl (lv_at hl 2 rfl) ?_
  refine lw_call C1 hK hE hao hl.1 hP hO hS (n := 2) (As := [.int a0, .int a1]) (rest := [.int 0, .ref ao]) (cfX10_clauses D cI ad had hst h) tw5_70 cy_X10_clauses (by decide +kernel) ⟨by decide, by decide⟩ ⟨by decide, by decide⟩ rfl rfl (Nat.le_of_ble_eq_true rfl) dL_clauses_5 ?_ ?_
  · intro E cd u H1 locs1 ce q9 hE9 hr9 hP1 hO1 hS1 hce hcv hcl
    subst hr9
    rcases hE9 with ⟨rfl, rfl⟩ | ⟨rfl, rfl⟩
    · refine vx_catch (own := RL) (name := cNSE) hown [] ⟨0, 10, 13, 18⟩ [] htab (fun z hz => nomatch hz) (by decide) (by decide) (hts _ tw4_83) (va_Nw.use rfl (hE.2.2.2.2.2.2.2.2 (cNSE, cNSE) (by decide))) hce hcv hcl ?_
      refine lv_astore (lv' := [(4, .ref q9), (0, .ref (ad 0)), (1, .int a0), (2, .int a1), (3, .ref ao)]) hx hb dL_clauses_13 hl (by decide) rfl (fun ls hl => ?_)
      refine lv_iconst (v := 1) hx hb dL_clauses_15 (by decide) ?_
      exact lw_ret hx hb hret hlocks hP1 hO1 hS1 (by simp) rfl (by simp) ⟨by decide, by decide⟩ dL_clauses_16
    · exact absurd hres (by simp)
  · intro r u H1 locs1 hr9 hP1 hO1 hS1
    subst hr9
    refine lv_i2l (v := Int32.toInt64 r) hx hb dL_clauses_8 rfl ?_
    refine lw_last hx hb hK had hao hP1 hO1 hS1 dL_clauses_9 (fun H2 locs2 hP2 hO2 hS2 => ?_)
    refine lv_goto (tgt := 17) hx hb dL_clauses_10 (by decide) ?_
    refine lv_iconst (v := 0) hx hb dL_clauses_17 (by decide) ?_
    exact lw_ret hx hb hret hlocks hP2 hO2 hS2 (by simp) rfl (by simp) ⟨by decide, by decide⟩ dL_clauses_18
set_option maxRecDepth 20000 in
theorem mw_L_done {l : Launch} (D : va_G) (cI cL : ClassId) (ad : Nat → Nat) (ao : Nat) (had : gAp (gC D cI ad)) (hst : l.stackTraces = false) (hao : ∀ k, k < 88 → ad k ≠ ao) {F : Nat} {σ : St} {f : Nat → Int64} {a0 a1 a2 : Int32} {res : Nat × Int32 × St} (h : fX10_done F σ a0 a1 a2 = some res) (hres : res.1 = 0 ∨ res.1 = 1) : MW l yL_done (wH yL_done cL_done 6 (some .int) [(0, 12, 15, 18)]) 9 163 3 D cI cL ad ao [.ref (ad 0), .int a0, .int a1, .int a2, .ref ao] σ f (if res.1 = 0 then 0 else 1) res.2.2 (if res.1 = 0 then vp_updL f 0 res.2.1.toInt64 else f) := by
  refine mk_MW (by decide +kernel) (Nat.le_of_ble_eq_true rfl) ?_
  intro p e s m below meth c ls C1 htab hK hE hX hret hlocks hl hP hO
  obtain ⟨hx, hb, hml, hown, hts⟩ := id C1
  have hS : va_S (AW (gC D cI ad) ao) s.heap s.heap [] := va_S.rf
  have hl : lv_has ls 6 [(0, .ref (ad 0)), (1, .int a0), (2, .int a1), (3, .int a2), (4, .ref ao)] := hl
  refine lv_aload hx hb dL_done_0 (lv_at hl 4 rfl) ?_
  refine lv_iconst (v := 0) hx hb dL_done_2 (by decide) ?_
  refine lv_aload_n hx hb dL_done_3 rfl (lv_at hl 0 rfl) ?_
  refine lv_iload_n hx hb dL_done_4 rfl (lv_at hl 1 rfl) ?_
  refine lv_iload_n hx hb dL_done_5 rfl (lv_at hl 2 rfl) ?_
  refine lv_iload_n hx hb dL_done_6 rfl (lv_at hl 3 rfl) ?_
  refine lw_call C1 hK hE hao hl.1 hP hO hS (n := 3) (As := [.int a0, .int a1, .int a2]) (rest := [.int 0, .ref ao]) (cfX10_done D cI ad had hst h) tw5_85 cy_X10_done (by decide +kernel) ⟨by decide, by decide⟩ ⟨by decide, by decide⟩ rfl rfl (Nat.le_of_ble_eq_true rfl) dL_done_7 ?_ ?_
  · intro E cd u H1 locs1 ce q9 hE9 hr9 hP1 hO1 hS1 hce hcv hcl
    subst hr9
    rcases hE9 with ⟨rfl, rfl⟩ | ⟨rfl, rfl⟩
    · refine vx_catch (own := RL) (name := cNSE) hown [] ⟨0, 12, 15, 18⟩ [] htab (fun z hz => nomatch hz) (by decide) (by decide) (hts _ tw4_83) (va_Nw.use rfl (hE.2.2.2.2.2.2.2.2 (cNSE, cNSE) (by decide))) hce hcv hcl ?_
      refine lv_astore (lv' := [(5, .ref q9), (0, .ref (ad 0)), (1, .int a0), (2, .int a1), (3, .int a2), (4, .ref ao)]) hx hb dL_done_15 hl (by decide) rfl (fun ls hl => ?_)
      refine lv_iconst (v := 1) hx hb dL_done_17 (by decide) ?_
      exact lw_ret hx hb hret hlocks hP1 hO1 hS1 (by simp) rfl (by simp) ⟨by decide, by decide⟩ dL_done_18
    · exact absurd hres (by simp)
  · intro r u H1 locs1 hr9 hP1 hO1 hS1
    subst hr9
    refine lv_i2l (v := Int32.toInt64 r) hx hb dL_done_10 rfl ?_
    refine lw_last hx hb hK had hao hP1 hO1 hS1 dL_done_11 (fun H2 locs2 hP2 hO2 hS2 => ?_)
    refine lv_goto (tgt := 19) hx hb dL_done_12 (by decide) ?_
    refine lv_iconst (v := 0) hx hb dL_done_19 (by decide) ?_
    exact lw_ret hx hb hret hlocks hP2 hO2 hS2 (by simp) rfl (by simp) ⟨by decide, by decide⟩ dL_done_20
set_option maxRecDepth 20000 in
theorem mw_L_again {l : Launch} (D : va_G) (cI cL : ClassId) (ad : Nat → Nat) (ao : Nat) (had : gAp (gC D cI ad)) (hst : l.stackTraces = false) (hao : ∀ k, k < 88 → ad k ≠ ao) {F : Nat} {σ : St} {f : Nat → Int64} {a0 : Int32} {res : Nat × Int32 × St} (h : fX10_again F σ a0 = some res) (hres : res.1 = 0 ∨ res.1 = 1) : MW l yL_again (wH yL_again cL_again 4 (some .int) [(0, 9, 12, 18)]) 9 153 1 D cI cL ad ao [.ref (ad 0), .int a0, .ref ao] σ f (if res.1 = 0 then 0 else 1) res.2.2 (if res.1 = 0 then vp_updL f 0 res.2.1.toInt64 else f) := by
  refine mk_MW (by decide +kernel) (Nat.le_of_ble_eq_true rfl) ?_
  intro p e s m below meth c ls C1 htab hK hE hX hret hlocks hl hP hO
  obtain ⟨hx, hb, hml, hown, hts⟩ := id C1
  have hS : va_S (AW (gC D cI ad) ao) s.heap s.heap [] := va_S.rf
  have hl : lv_has ls 4 [(0, .ref (ad 0)), (1, .int a0), (2, .ref ao)] := hl
  refine lv_aload_n hx hb dL_again_0 rfl (lv_at hl 2 rfl) ?_
  refine lv_iconst (v := 0) hx hb dL_again_1 (by decide) ?_
  refine lv_aload_n hx hb dL_again_2 rfl (lv_at hl 0 rfl) ?_
  refine lv_iload_n hx hb dL_again_3 rfl (lv_at hl 1 rfl) ?_
  refine lw_call C1 hK hE hao hl.1 hP hO hS (n := 1) (As := [.int a0]) (rest := [.int 0, .ref ao]) (cfX10_again D cI ad had hst h) tw5_93 cy_X10_again (by decide +kernel) ⟨by decide, by decide⟩ ⟨by decide, by decide⟩ rfl rfl (Nat.le_of_ble_eq_true rfl) dL_again_4 ?_ ?_
  · intro E cd u H1 locs1 ce q9 hE9 hr9 hP1 hO1 hS1 hce hcv hcl
    subst hr9
    rcases hE9 with ⟨rfl, rfl⟩ | ⟨rfl, rfl⟩
    · refine vx_catch (own := RL) (name := cNSE) hown [] ⟨0, 9, 12, 18⟩ [] htab (fun z hz => nomatch hz) (by decide) (by decide) (hts _ tw4_83) (va_Nw.use rfl (hE.2.2.2.2.2.2.2.2 (cNSE, cNSE) (by decide))) hce hcv hcl ?_
      refine lv_astore_n (lv' := [(3, .ref q9), (0, .ref (ad 0)), (1, .int a0), (2, .ref ao)]) hx hb dL_again_12 rfl hl (by decide) rfl (fun ls hl => ?_)
      refine lv_iconst (v := 1) hx hb dL_again_13 (by decide) ?_
      exact lw_ret hx hb hret hlocks hP1 hO1 hS1 (by simp) rfl (by simp) ⟨by decide, by decide⟩ dL_again_14
    · exact absurd hres (by simp)
  · intro r u H1 locs1 hr9 hP1 hO1 hS1
    subst hr9
    refine lv_i2l (v := Int32.toInt64 r) hx hb dL_again_7 rfl ?_
    refine lw_last hx hb hK had hao hP1 hO1 hS1 dL_again_8 (fun H2 locs2 hP2 hO2 hS2 => ?_)
    refine lv_goto (tgt := 15) hx hb dL_again_9 (by decide) ?_
    refine lv_iconst (v := 0) hx hb dL_again_15 (by decide) ?_
    exact lw_ret hx hb hret hlocks hP2 hO2 hS2 (by simp) rfl (by simp) ⟨by decide, by decide⟩ dL_again_16
set_option maxRecDepth 20000 in
theorem mw_L_breaks {l : Launch} (D : va_G) (cI cL : ClassId) (ad : Nat → Nat) (ao : Nat) (had : gAp (gC D cI ad)) (hst : l.stackTraces = false) (hao : ∀ k, k < 88 → ad k ≠ ao) {F : Nat} {σ : St} {f : Nat → Int64} {a0 : Int32} {res : Nat × Int32 × St} (h : fX10_breaks F σ a0 = some res) (hres : res.1 = 0 ∨ res.1 = 1) : MW l yL_breaks (wH yL_breaks cL_breaks 4 (some .int) [(0, 16, 19, 18)]) 9 152 1 D cI cL ad ao [.ref (ad 0), .int a0, .ref ao] σ f (if res.1 = 0 then 0 else 1) res.2.2 (if res.1 = 0 then vp_updL f 0 (if res.2.1 = 0 then (0 : Int64) else 1) else f) := by
  refine mk_MW (by decide +kernel) (Nat.le_of_ble_eq_true rfl) ?_
  intro p e s m below meth c ls C1 htab hK hE hX hret hlocks hl hP hO
  obtain ⟨hx, hb, hml, hown, hts⟩ := id C1
  have hS : va_S (AW (gC D cI ad) ao) s.heap s.heap [] := va_S.rf
  have hl : lv_has ls 4 [(0, .ref (ad 0)), (1, .int a0), (2, .ref ao)] := hl
  refine lv_aload_n hx hb dL_breaks_0 rfl (lv_at hl 2 rfl) ?_
  refine lv_iconst (v := 0) hx hb dL_breaks_1 (by decide) ?_
  refine lv_aload_n hx hb dL_breaks_2 rfl (lv_at hl 0 rfl) ?_
  refine lv_iload_n hx hb dL_breaks_3 rfl (lv_at hl 1 rfl) ?_
  refine lw_call C1 hK hE hao hl.1 hP hO hS (n := 1) (As := [.int a0]) (rest := [.int 0, .ref ao]) (cfX10_breaks D cI ad had hst h) tw5_104 cy_X10_breaks (by decide +kernel) ⟨by decide, by decide⟩ ⟨by decide, by decide⟩ rfl rfl (Nat.le_of_ble_eq_true rfl) dL_breaks_4 ?_ ?_
  · intro E cd u H1 locs1 ce q9 hE9 hr9 hP1 hO1 hS1 hce hcv hcl
    subst hr9
    rcases hE9 with ⟨rfl, rfl⟩ | ⟨rfl, rfl⟩
    · refine vx_catch (own := RL) (name := cNSE) hown [] ⟨0, 16, 19, 18⟩ [] htab (fun z hz => nomatch hz) (by decide) (by decide) (hts _ tw4_83) (va_Nw.use rfl (hE.2.2.2.2.2.2.2.2 (cNSE, cNSE) (by decide))) hce hcv hcl ?_
      refine lv_astore_n (lv' := [(3, .ref q9), (0, .ref (ad 0)), (1, .int a0), (2, .ref ao)]) hx hb dL_breaks_19 rfl hl (by decide) rfl (fun ls hl => ?_)
      refine lv_iconst (v := 1) hx hb dL_breaks_20 (by decide) ?_
      exact lw_ret hx hb hret hlocks hP1 hO1 hS1 (by simp) rfl (by simp) ⟨by decide, by decide⟩ dL_breaks_21
    · exact absurd hres (by simp)
  · intro r u H1 locs1 hr9 hP1 hO1 hS1
    subst hr9
    refine lv_if_eq (tgt := 14) hx hb dL_breaks_7 (by decide) (fun hz => ?_) (fun hz => ?_)
    · refine lv_lconst (v := 0) hx hb dL_breaks_14 (by decide) ?_
      refine lw_last hx hb hK had hao hP1 hO1 hS1 dL_breaks_15 (fun H2 locs2 hP2 hO2 hS2 => ?_)
      refine lv_goto (tgt := 22) hx hb dL_breaks_16 (by decide) ?_
      refine lv_iconst (v := 0) hx hb dL_breaks_22 (by decide) ?_
      exact lw_ret hx hb hret hlocks hP2 hO2 hS2 (by simp) rfl (by simp [*]) ⟨by decide, by decide⟩ dL_breaks_23
    · refine lv_lconst (v := 1) hx hb dL_breaks_10 (by decide) ?_
      refine lv_goto (tgt := 15) hx hb dL_breaks_11 (by decide) ?_
      refine lw_last hx hb hK had hao hP1 hO1 hS1 dL_breaks_15 (fun H2 locs2 hP2 hO2 hS2 => ?_)
      refine lv_goto (tgt := 22) hx hb dL_breaks_16 (by decide) ?_
      refine lv_iconst (v := 0) hx hb dL_breaks_22 (by decide) ?_
      exact lw_ret hx hb hret hlocks hP2 hO2 hS2 (by simp) rfl (by simp [*]) ⟨by decide, by decide⟩ dL_breaks_23
set_option maxRecDepth 20000 in
theorem mw_L_stumble {l : Launch} (D : va_G) (cI cL : ClassId) (ad : Nat → Nat) (ao : Nat) (had : gAp (gC D cI ad)) (hst : l.stackTraces = false) (hao : ∀ k, k < 88 → ad k ≠ ao) {F : Nat} {σ : St} {f : Nat → Int64} {a0 a1 a2 : Int32} {res : Nat × Int32 × St} (h : fX10_stumble F σ a0 a1 a2 = some res) (hres : res.1 = 0 ∨ res.1 = 1) : MW l yL_stumble (wH yL_stumble cL_stumble 6 (some .int) [(0, 12, 15, 18)]) 10 178 2 D cI cL ad ao [.ref (ad 0), .int a0, .int a1, .int a2, .ref ao] σ f (if res.1 = 0 then 0 else 1) res.2.2 (if res.1 = 0 then vp_updL f 0 res.2.1.toInt64 else f) := by
  refine mk_MW (by decide +kernel) (Nat.le_of_ble_eq_true rfl) ?_
  intro p e s m below meth c ls C1 htab hK hE hX hret hlocks hl hP hO
  obtain ⟨hx, hb, hml, hown, hts⟩ := id C1
  have hS : va_S (AW (gC D cI ad) ao) s.heap s.heap [] := va_S.rf
  have hl : lv_has ls 6 [(0, .ref (ad 0)), (1, .int a0), (2, .int a1), (3, .int a2), (4, .ref ao)] := hl
  refine lv_aload hx hb dL_stumble_0 (lv_at hl 4 rfl) ?_
  refine lv_iconst (v := 0) hx hb dL_stumble_2 (by decide) ?_
  refine lv_aload_n hx hb dL_stumble_3 rfl (lv_at hl 0 rfl) ?_
  refine lv_iload_n hx hb dL_stumble_4 rfl (lv_at hl 1 rfl) ?_
  refine lv_iload_n hx hb dL_stumble_5 rfl (lv_at hl 2 rfl) ?_
  refine lv_iload_n hx hb dL_stumble_6 rfl (lv_at hl 3 rfl) ?_
  refine lw_call C1 hK hE hao hl.1 hP hO hS (n := 3) (As := [.int a0, .int a1, .int a2]) (rest := [.int 0, .ref ao]) (cfX10_stumble D cI ad had hst h) tw5_111 cy_X10_stumble (by decide +kernel) ⟨by decide, by decide⟩ ⟨by decide, by decide⟩ rfl rfl (Nat.le_of_ble_eq_true rfl) dL_stumble_7 ?_ ?_
  · intro E cd u H1 locs1 ce q9 hE9 hr9 hP1 hO1 hS1 hce hcv hcl
    subst hr9
    rcases hE9 with ⟨rfl, rfl⟩ | ⟨rfl, rfl⟩
    · refine vx_catch (own := RL) (name := cNSE) hown [] ⟨0, 12, 15, 18⟩ [] htab (fun z hz => nomatch hz) (by decide) (by decide) (hts _ tw4_83) (va_Nw.use rfl (hE.2.2.2.2.2.2.2.2 (cNSE, cNSE) (by decide))) hce hcv hcl ?_
      refine lv_astore (lv' := [(5, .ref q9), (0, .ref (ad 0)), (1, .int a0), (2, .int a1), (3, .int a2), (4, .ref ao)]) hx hb dL_stumble_15 hl (by decide) rfl (fun ls hl => ?_)
      refine lv_iconst (v := 1) hx hb dL_stumble_17 (by decide) ?_
      exact lw_ret hx hb hret hlocks hP1 hO1 hS1 (by simp) rfl (by simp) ⟨by decide, by decide⟩ dL_stumble_18
    · exact absurd hres (by simp)
  · intro r u H1 locs1 hr9 hP1 hO1 hS1
    subst hr9
    refine lv_i2l (v := Int32.toInt64 r) hx hb dL_stumble_10 rfl ?_
    refine lw_last hx hb hK had hao hP1 hO1 hS1 dL_stumble_11 (fun H2 locs2 hP2 hO2 hS2 => ?_)
    refine lv_goto (tgt := 19) hx hb dL_stumble_12 (by decide) ?_
    refine lv_iconst (v := 0) hx hb dL_stumble_19 (by decide) ?_
    exact lw_ret hx hb hret hlocks hP2 hO2 hS2 (by simp) rfl (by simp) ⟨by decide, by decide⟩ dL_stumble_20
set_option maxRecDepth 20000 in
theorem mw_L_act {l : Launch} (D : va_G) (cI cL : ClassId) (ad : Nat → Nat) (ao : Nat) (had : gAp (gC D cI ad)) (hst : l.stackTraces = false) (hao : ∀ k, k < 88 → ad k ≠ ao) {F : Nat} {σ : St} {f : Nat → Int64} {a0 a1 a2 : Int32} {res : Nat × Int32 × St} (h : fX10_act F σ a0 a1 a2 = some res) (hres : res.1 = 0 ∨ res.1 = 1) : MW l yL_act (wH yL_act cL_act 6 (some .int) [(0, 12, 15, 18)]) 9 156 2 D cI cL ad ao [.ref (ad 0), .int a0, .int a1, .int a2, .ref ao] σ f (if res.1 = 0 then 0 else 1) res.2.2 (if res.1 = 0 then vp_updL f 0 res.2.1.toInt64 else f) := by
  refine mk_MW (by decide +kernel) (Nat.le_of_ble_eq_true rfl) ?_
  intro p e s m below meth c ls C1 htab hK hE hX hret hlocks hl hP hO
  obtain ⟨hx, hb, hml, hown, hts⟩ := id C1
  have hS : va_S (AW (gC D cI ad) ao) s.heap s.heap [] := va_S.rf
  have hl : lv_has ls 6 [(0, .ref (ad 0)), (1, .int a0), (2, .int a1), (3, .int a2), (4, .ref ao)] := hl
  refine lv_aload hx hb dL_act_0 (lv_at hl 4 rfl) ?_
  refine lv_iconst (v := 0) hx hb dL_act_2 (by decide) ?_
  refine lv_aload_n hx hb dL_act_3 rfl (lv_at hl 0 rfl) ?_
  refine lv_iload_n hx hb dL_act_4 rfl (lv_at hl 1 rfl) ?_
  refine lv_iload_n hx hb dL_act_5 rfl (lv_at hl 2 rfl) ?_
  refine lv_iload_n hx hb dL_act_6 rfl (lv_at hl 3 rfl) ?_
  refine lw_call C1 hK hE hao hl.1 hP hO hS (n := 3) (As := [.int a0, .int a1, .int a2]) (rest := [.int 0, .ref ao]) (cfX10_act D cI ad had hst h) tw5_122 cy_X10_act (by decide +kernel) ⟨by decide, by decide⟩ ⟨by decide, by decide⟩ rfl rfl (Nat.le_of_ble_eq_true rfl) dL_act_7 ?_ ?_
  · intro E cd u H1 locs1 ce q9 hE9 hr9 hP1 hO1 hS1 hce hcv hcl
    subst hr9
    rcases hE9 with ⟨rfl, rfl⟩ | ⟨rfl, rfl⟩
    · refine vx_catch (own := RL) (name := cNSE) hown [] ⟨0, 12, 15, 18⟩ [] htab (fun z hz => nomatch hz) (by decide) (by decide) (hts _ tw4_83) (va_Nw.use rfl (hE.2.2.2.2.2.2.2.2 (cNSE, cNSE) (by decide))) hce hcv hcl ?_
      refine lv_astore (lv' := [(5, .ref q9), (0, .ref (ad 0)), (1, .int a0), (2, .int a1), (3, .int a2), (4, .ref ao)]) hx hb dL_act_15 hl (by decide) rfl (fun ls hl => ?_)
      refine lv_iconst (v := 1) hx hb dL_act_17 (by decide) ?_
      exact lw_ret hx hb hret hlocks hP1 hO1 hS1 (by simp) rfl (by simp) ⟨by decide, by decide⟩ dL_act_18
    · exact absurd hres (by simp)
  · intro r u H1 locs1 hr9 hP1 hO1 hS1
    subst hr9
    refine lv_i2l (v := Int32.toInt64 r) hx hb dL_act_10 rfl ?_
    refine lw_last hx hb hK had hao hP1 hO1 hS1 dL_act_11 (fun H2 locs2 hP2 hO2 hS2 => ?_)
    refine lv_goto (tgt := 19) hx hb dL_act_12 (by decide) ?_
    refine lv_iconst (v := 0) hx hb dL_act_19 (by decide) ?_
    exact lw_ret hx hb hret hlocks hP2 hO2 hS2 (by simp) rfl (by simp) ⟨by decide, by decide⟩ dL_act_20
set_option maxRecDepth 20000 in
theorem mw_L_mend {l : Launch} (D : va_G) (cI cL : ClassId) (ad : Nat → Nat) (ao : Nat) (had : gAp (gC D cI ad)) (hst : l.stackTraces = false) (hao : ∀ k, k < 88 → ad k ≠ ao) {F : Nat} {σ : St} {f : Nat → Int64} {a0 a1 : Int32} {res : Nat × Int32 × St} (h : fX10_mend F σ a0 a1 = some res) (hres : res.1 = 0 ∨ res.1 = 1) : MW l yL_mend (wH yL_mend cL_mend 5 (some .int) [(0, 10, 13, 18)]) 9 175 2 D cI cL ad ao [.ref (ad 0), .int a0, .int a1, .ref ao] σ f (if res.1 = 0 then 0 else 1) res.2.2 (if res.1 = 0 then vp_updL f 0 res.2.1.toInt64 else f) := by
  refine mk_MW (by decide +kernel) (Nat.le_of_ble_eq_true rfl) ?_
  intro p e s m below meth c ls C1 htab hK hE hX hret hlocks hl hP hO
  obtain ⟨hx, hb, hml, hown, hts⟩ := id C1
  have hS : va_S (AW (gC D cI ad) ao) s.heap s.heap [] := va_S.rf
  have hl : lv_has ls 5 [(0, .ref (ad 0)), (1, .int a0), (2, .int a1), (3, .ref ao)] := hl
  refine lv_aload_n hx hb dL_mend_0 rfl (lv_at hl 3 rfl) ?_
  refine lv_iconst (v := 0) hx hb dL_mend_1 (by decide) ?_
  refine lv_aload_n hx hb dL_mend_2 rfl (lv_at hl 0 rfl) ?_
  refine lv_iload_n hx hb dL_mend_3 rfl (lv_at hl 1 rfl) ?_
  refine lv_iload_n hx hb dL_mend_4 rfl (lv_at hl 2 rfl) ?_
  refine lw_call C1 hK hE hao hl.1 hP hO hS (n := 2) (As := [.int a0, .int a1]) (rest := [.int 0, .ref ao]) (cfX10_mend D cI ad had hst h) tw5_129 cy_X10_mend (by decide +kernel) ⟨by decide, by decide⟩ ⟨by decide, by decide⟩ rfl rfl (Nat.le_of_ble_eq_true rfl) dL_mend_5 ?_ ?_
  · intro E cd u H1 locs1 ce q9 hE9 hr9 hP1 hO1 hS1 hce hcv hcl
    subst hr9
    rcases hE9 with ⟨rfl, rfl⟩ | ⟨rfl, rfl⟩
    · refine vx_catch (own := RL) (name := cNSE) hown [] ⟨0, 10, 13, 18⟩ [] htab (fun z hz => nomatch hz) (by decide) (by decide) (hts _ tw4_83) (va_Nw.use rfl (hE.2.2.2.2.2.2.2.2 (cNSE, cNSE) (by decide))) hce hcv hcl ?_
      refine lv_astore (lv' := [(4, .ref q9), (0, .ref (ad 0)), (1, .int a0), (2, .int a1), (3, .ref ao)]) hx hb dL_mend_13 hl (by decide) rfl (fun ls hl => ?_)
      refine lv_iconst (v := 1) hx hb dL_mend_15 (by decide) ?_
      exact lw_ret hx hb hret hlocks hP1 hO1 hS1 (by simp) rfl (by simp) ⟨by decide, by decide⟩ dL_mend_16
    · exact absurd hres (by simp)
  · intro r u H1 locs1 hr9 hP1 hO1 hS1
    subst hr9
    refine lv_i2l (v := Int32.toInt64 r) hx hb dL_mend_8 rfl ?_
    refine lw_last hx hb hK had hao hP1 hO1 hS1 dL_mend_9 (fun H2 locs2 hP2 hO2 hS2 => ?_)
    refine lv_goto (tgt := 17) hx hb dL_mend_10 (by decide) ?_
    refine lv_iconst (v := 0) hx hb dL_mend_17 (by decide) ?_
    exact lw_ret hx hb hret hlocks hP2 hO2 hS2 (by simp) rfl (by simp) ⟨by decide, by decide⟩ dL_mend_18
set_option maxRecDepth 20000 in
theorem mw_L_costly {l : Launch} (D : va_G) (cI cL : ClassId) (ad : Nat → Nat) (ao : Nat) (had : gAp (gC D cI ad)) (hst : l.stackTraces = false) (hao : ∀ k, k < 88 → ad k ≠ ao) {F : Nat} {σ : St} {f : Nat → Int64} {a0 : Int32} {res : Nat × Int32 × St} (h : fX10_costly F σ a0 = some res) (hres : res.1 = 0 ∨ res.1 = 1) : MW l yL_costly (wH yL_costly cL_costly 4 (some .int) [(0, 9, 12, 18)]) 9 165 1 D cI cL ad ao [.ref (ad 0), .int a0, .ref ao] σ f (if res.1 = 0 then 0 else 1) res.2.2 (if res.1 = 0 then vp_updL f 0 res.2.1.toInt64 else f) := by
  refine mk_MW (by decide +kernel) (Nat.le_of_ble_eq_true rfl) ?_
  intro p e s m below meth c ls C1 htab hK hE hX hret hlocks hl hP hO
  obtain ⟨hx, hb, hml, hown, hts⟩ := id C1
  have hS : va_S (AW (gC D cI ad) ao) s.heap s.heap [] := va_S.rf
  have hl : lv_has ls 4 [(0, .ref (ad 0)), (1, .int a0), (2, .ref ao)] := hl
  refine lv_aload_n hx hb dL_costly_0 rfl (lv_at hl 2 rfl) ?_
  refine lv_iconst (v := 0) hx hb dL_costly_1 (by decide) ?_
  refine lv_aload_n hx hb dL_costly_2 rfl (lv_at hl 0 rfl) ?_
  refine lv_iload_n hx hb dL_costly_3 rfl (lv_at hl 1 rfl) ?_
  refine lw_call C1 hK hE hao hl.1 hP hO hS (n := 1) (As := [.int a0]) (rest := [.int 0, .ref ao]) (cfX10_costly D cI ad had hst h) tw5_169 cy_X10_costly (by decide +kernel) ⟨by decide, by decide⟩ ⟨by decide, by decide⟩ rfl rfl (Nat.le_of_ble_eq_true rfl) dL_costly_4 ?_ ?_
  · intro E cd u H1 locs1 ce q9 hE9 hr9 hP1 hO1 hS1 hce hcv hcl
    subst hr9
    rcases hE9 with ⟨rfl, rfl⟩ | ⟨rfl, rfl⟩
    · refine vx_catch (own := RL) (name := cNSE) hown [] ⟨0, 9, 12, 18⟩ [] htab (fun z hz => nomatch hz) (by decide) (by decide) (hts _ tw4_83) (va_Nw.use rfl (hE.2.2.2.2.2.2.2.2 (cNSE, cNSE) (by decide))) hce hcv hcl ?_
      refine lv_astore_n (lv' := [(3, .ref q9), (0, .ref (ad 0)), (1, .int a0), (2, .ref ao)]) hx hb dL_costly_12 rfl hl (by decide) rfl (fun ls hl => ?_)
      refine lv_iconst (v := 1) hx hb dL_costly_13 (by decide) ?_
      exact lw_ret hx hb hret hlocks hP1 hO1 hS1 (by simp) rfl (by simp) ⟨by decide, by decide⟩ dL_costly_14
    · exact absurd hres (by simp)
  · intro r u H1 locs1 hr9 hP1 hO1 hS1
    subst hr9
    refine lv_i2l (v := Int32.toInt64 r) hx hb dL_costly_7 rfl ?_
    refine lw_last hx hb hK had hao hP1 hO1 hS1 dL_costly_8 (fun H2 locs2 hP2 hO2 hS2 => ?_)
    refine lv_goto (tgt := 15) hx hb dL_costly_9 (by decide) ?_
    refine lv_iconst (v := 0) hx hb dL_costly_15 (by decide) ?_
    exact lw_ret hx hb hret hlocks hP2 hO2 hS2 (by simp) rfl (by simp) ⟨by decide, by decide⟩ dL_costly_16
set_option maxRecDepth 20000 in
theorem mw_L_later {l : Launch} (D : va_G) (cI cL : ClassId) (ad : Nat → Nat) (ao : Nat) (had : gAp (gC D cI ad)) (hst : l.stackTraces = false) (hao : ∀ k, k < 88 → ad k ≠ ao) {F : Nat} {σ : St} {f : Nat → Int64} {a0 : Int32} {res : Nat × Int32 × St} (h : fX10_later F σ a0 = some res) (hres : res.1 = 0 ∨ res.1 = 2) : MW l yL_later (wH yL_later cL_later 4 (some .int) [(0, 9, 12, 13)]) 8 143 1 D cI cL ad ao [.ref (ad 0), .int a0, .ref ao] σ f (if res.1 = 0 then 0 else 1) res.2.2 (if res.1 = 0 then vp_updL f 0 res.2.1.toInt64 else f) := by
  refine mk_MW (by decide +kernel) (Nat.le_of_ble_eq_true rfl) ?_
  intro p e s m below meth c ls C1 htab hK hE hX hret hlocks hl hP hO
  obtain ⟨hx, hb, hml, hown, hts⟩ := id C1
  have hS : va_S (AW (gC D cI ad) ao) s.heap s.heap [] := va_S.rf
  have hl : lv_has ls 4 [(0, .ref (ad 0)), (1, .int a0), (2, .ref ao)] := hl
  refine lv_aload_n hx hb dL_later_0 rfl (lv_at hl 2 rfl) ?_
  refine lv_iconst (v := 0) hx hb dL_later_1 (by decide) ?_
  refine lv_aload_n hx hb dL_later_2 rfl (lv_at hl 0 rfl) ?_
  refine lv_iload_n hx hb dL_later_3 rfl (lv_at hl 1 rfl) ?_
  refine lw_call C1 hK hE hao hl.1 hP hO hS (n := 1) (As := [.int a0]) (rest := [.int 0, .ref ao]) (cfX10_later D cI ad had hst h) tw5_184 cy_X10_later (by decide +kernel) ⟨by decide, by decide⟩ ⟨by decide, by decide⟩ rfl rfl (Nat.le_of_ble_eq_true rfl) dL_later_4 ?_ ?_
  · intro E cd u H1 locs1 ce q9 hE9 hr9 hP1 hO1 hS1 hce hcv hcl
    subst hr9
    rcases hE9 with ⟨rfl, rfl⟩ | ⟨rfl, rfl⟩
    · exact absurd hres (by simp)
    · refine vx_catch (own := RL) (name := cIAE) hown [] ⟨0, 9, 12, 13⟩ [] htab (fun z hz => nomatch hz) (by decide) (by decide) (hts _ tw3_35) (va_Nw.use rfl (hE.2.2.2.2.2.2.2.2 (cIAE, cIAE) (by decide))) hce hcv hcl ?_
      refine lv_astore_n (lv' := [(3, .ref q9), (0, .ref (ad 0)), (1, .int a0), (2, .ref ao)]) hx hb dL_later_12 rfl hl (by decide) rfl (fun ls hl => ?_)
      refine lv_iconst (v := 1) hx hb dL_later_13 (by decide) ?_
      exact lw_ret hx hb hret hlocks hP1 hO1 hS1 (by simp) rfl (by simp) ⟨by decide, by decide⟩ dL_later_14
  · intro r u H1 locs1 hr9 hP1 hO1 hS1
    subst hr9
    refine lv_i2l (v := Int32.toInt64 r) hx hb dL_later_7 rfl ?_
    refine lw_last hx hb hK had hao hP1 hO1 hS1 dL_later_8 (fun H2 locs2 hP2 hO2 hS2 => ?_)
    refine lv_goto (tgt := 15) hx hb dL_later_9 (by decide) ?_
    refine lv_iconst (v := 0) hx hb dL_later_15 (by decide) ?_
    exact lw_ret hx hb hret hlocks hP2 hO2 hS2 (by simp) rfl (by simp) ⟨by decide, by decide⟩ dL_later_16
set_option maxRecDepth 20000 in
theorem mw_L_inTime {l : Launch} (D : va_G) (cI cL : ClassId) (ad : Nat → Nat) (ao : Nat) (had : gAp (gC D cI ad)) (hst : l.stackTraces = false) (hao : ∀ k, k < 88 → ad k ≠ ao) {F : Nat} {σ : St} {f : Nat → Int64} {a0 a1 : Int32} {res : Nat × Int32 × St} (h : fX10_inTime F σ a0 a1 = some res) (hres : res.1 = 0 ∨ res.1 = 1 ∨ res.1 = 2) : MW l yL_inTime (wH yL_inTime cL_inTime 5 (some .int) [(0, 10, 13, 18), (0, 10, 17, 13)]) 9 163 2 D cI cL ad ao [.ref (ad 0), .int a0, .int a1, .ref ao] σ f (if res.1 = 0 then 0 else if res.1 = 1 then 1 else 2) res.2.2 (if res.1 = 0 then vp_updL f 0 res.2.1.toInt64 else f) := by
  refine mk_MW (by decide +kernel) (Nat.le_of_ble_eq_true rfl) ?_
  intro p e s m below meth c ls C1 htab hK hE hX hret hlocks hl hP hO
  obtain ⟨hx, hb, hml, hown, hts⟩ := id C1
  have hS : va_S (AW (gC D cI ad) ao) s.heap s.heap [] := va_S.rf
  have hl : lv_has ls 5 [(0, .ref (ad 0)), (1, .int a0), (2, .int a1), (3, .ref ao)] := hl
  refine lv_aload_n hx hb dL_inTime_0 rfl (lv_at hl 3 rfl) ?_
  refine lv_iconst (v := 0) hx hb dL_inTime_1 (by decide) ?_
  refine lv_aload_n hx hb dL_inTime_2 rfl (lv_at hl 0 rfl) ?_
  refine lv_iload_n hx hb dL_inTime_3 rfl (lv_at hl 1 rfl) ?_
  refine lv_iload_n hx hb dL_inTime_4 rfl (lv_at hl 2 rfl) ?_
  refine lw_call C1 hK hE hao hl.1 hP hO hS (n := 2) (As := [.int a0, .int a1]) (rest := [.int 0, .ref ao]) (cfX10_inTime D cI ad had hst h) tw5_198 cy_X10_inTime (by decide +kernel) ⟨by decide, by decide⟩ ⟨by decide, by decide⟩ rfl rfl (Nat.le_of_ble_eq_true rfl) dL_inTime_5 ?_ ?_
  · intro E cd u H1 locs1 ce q9 hE9 hr9 hP1 hO1 hS1 hce hcv hcl
    subst hr9
    rcases hE9 with ⟨rfl, rfl⟩ | ⟨rfl, rfl⟩
    · refine vx_catch (own := RL) (name := cNSE) hown [] ⟨0, 10, 13, 18⟩ [⟨0, 10, 17, 13⟩] htab (fun z hz => nomatch hz) (by decide) (by decide) (hts _ tw4_83) (va_Nw.use rfl (hE.2.2.2.2.2.2.2.2 (cNSE, cNSE) (by decide))) hce hcv hcl ?_
      refine lv_astore (lv' := [(4, .ref q9), (0, .ref (ad 0)), (1, .int a0), (2, .int a1), (3, .ref ao)]) hx hb dL_inTime_13 hl (by decide) rfl (fun ls hl => ?_)
      refine lv_iconst (v := 1) hx hb dL_inTime_15 (by decide) ?_
      exact lw_ret hx hb hret hlocks hP1 hO1 hS1 (by simp) rfl (by simp) ⟨by decide, by decide⟩ dL_inTime_16
    · refine vx_catch (own := RL) (name := cIAE) hown [⟨0, 10, 13, 18⟩] ⟨0, 10, 17, 13⟩ [] htab (fun z hz => by cases List.mem_singleton.mp hz; exact Or.inr ⟨by decide, cNSE, hts _ tw4_83, hX⟩) (by decide) (by decide) (hts _ tw3_35) (va_Nw.use rfl (hE.2.2.2.2.2.2.2.2 (cIAE, cIAE) (by decide))) hce hcv hcl ?_
      refine lv_astore (lv' := [(4, .ref q9), (0, .ref (ad 0)), (1, .int a0), (2, .int a1), (3, .ref ao)]) hx hb dL_inTime_17 hl (by decide) rfl (fun ls hl => ?_)
      refine lv_iconst (v := 2) hx hb dL_inTime_19 (by decide) ?_
      exact lw_ret hx hb hret hlocks hP1 hO1 hS1 (by simp) rfl (by simp) ⟨by decide, by decide⟩ dL_inTime_20
  · intro r u H1 locs1 hr9 hP1 hO1 hS1
    subst hr9
    refine lv_i2l (v := Int32.toInt64 r) hx hb dL_inTime_8 rfl ?_
    refine lw_last hx hb hK had hao hP1 hO1 hS1 dL_inTime_9 (fun H2 locs2 hP2 hO2 hS2 => ?_)
    refine lv_goto (tgt := 21) hx hb dL_inTime_10 (by decide) ?_
    refine lv_iconst (v := 0) hx hb dL_inTime_21 (by decide) ?_
    exact lw_ret hx hb hret hlocks hP2 hO2 hS2 (by simp) rfl (by simp) ⟨by decide, by decide⟩ dL_inTime_22
set_option maxRecDepth 20000 in
theorem mw_L_apart {l : Launch} (D : va_G) (cI cL : ClassId) (ad : Nat → Nat) (ao : Nat) (had : gAp (gC D cI ad)) (hst : l.stackTraces = false) (hao : ∀ k, k < 88 → ad k ≠ ao) {F : Nat} {σ : St} {f : Nat → Int64} {a0 : Int32} {res : Nat × Int32 × St} (h : fX10_apart F σ a0 = some res) (hres : res.1 = 0 ∨ res.1 = 1) : MW l yL_apart (wH yL_apart cL_apart 4 (some .int) [(0, 9, 12, 18)]) 9 152 1 D cI cL ad ao [.ref (ad 0), .int a0, .ref ao] σ f (if res.1 = 0 then 0 else 1) res.2.2 (if res.1 = 0 then vp_updL f 0 res.2.1.toInt64 else f) := by
  refine mk_MW (by decide +kernel) (Nat.le_of_ble_eq_true rfl) ?_
  intro p e s m below meth c ls C1 htab hK hE hX hret hlocks hl hP hO
  obtain ⟨hx, hb, hml, hown, hts⟩ := id C1
  have hS : va_S (AW (gC D cI ad) ao) s.heap s.heap [] := va_S.rf
  have hl : lv_has ls 4 [(0, .ref (ad 0)), (1, .int a0), (2, .ref ao)] := hl
  refine lv_aload_n hx hb dL_apart_0 rfl (lv_at hl 2 rfl) ?_
  refine lv_iconst (v := 0) hx hb dL_apart_1 (by decide) ?_
  refine lv_aload_n hx hb dL_apart_2 rfl (lv_at hl 0 rfl) ?_
  refine lv_iload_n hx hb dL_apart_3 rfl (lv_at hl 1 rfl) ?_
  refine lw_call C1 hK hE hao hl.1 hP hO hS (n := 1) (As := [.int a0]) (rest := [.int 0, .ref ao]) (cfX10_apart D cI ad had hst h) tw5_214 cy_X10_apart (by decide +kernel) ⟨by decide, by decide⟩ ⟨by decide, by decide⟩ rfl rfl (Nat.le_of_ble_eq_true rfl) dL_apart_4 ?_ ?_
  · intro E cd u H1 locs1 ce q9 hE9 hr9 hP1 hO1 hS1 hce hcv hcl
    subst hr9
    rcases hE9 with ⟨rfl, rfl⟩ | ⟨rfl, rfl⟩
    · refine vx_catch (own := RL) (name := cNSE) hown [] ⟨0, 9, 12, 18⟩ [] htab (fun z hz => nomatch hz) (by decide) (by decide) (hts _ tw4_83) (va_Nw.use rfl (hE.2.2.2.2.2.2.2.2 (cNSE, cNSE) (by decide))) hce hcv hcl ?_
      refine lv_astore_n (lv' := [(3, .ref q9), (0, .ref (ad 0)), (1, .int a0), (2, .ref ao)]) hx hb dL_apart_12 rfl hl (by decide) rfl (fun ls hl => ?_)
      refine lv_iconst (v := 1) hx hb dL_apart_13 (by decide) ?_
      exact lw_ret hx hb hret hlocks hP1 hO1 hS1 (by simp) rfl (by simp) ⟨by decide, by decide⟩ dL_apart_14
    · exact absurd hres (by simp)
  · intro r u H1 locs1 hr9 hP1 hO1 hS1
    subst hr9
    refine lv_i2l (v := Int32.toInt64 r) hx hb dL_apart_7 rfl ?_
    refine lw_last hx hb hK had hao hP1 hO1 hS1 dL_apart_8 (fun H2 locs2 hP2 hO2 hS2 => ?_)
    refine lv_goto (tgt := 15) hx hb dL_apart_9 (by decide) ?_
    refine lv_iconst (v := 0) hx hb dL_apart_15 (by decide) ?_
    exact lw_ret hx hb hret hlocks hP2 hO2 hS2 (by simp) rfl (by simp) ⟨by decide, by decide⟩ dL_apart_16
set_option maxRecDepth 20000 in
theorem mw_L_against {l : Launch} (D : va_G) (cI cL : ClassId) (ad : Nat → Nat) (ao : Nat) (had : gAp (gC D cI ad)) (hst : l.stackTraces = false) (hao : ∀ k, k < 88 → ad k ≠ ao) {F : Nat} {σ : St} {f : Nat → Int64} {a0 : Int32} {res : Nat × Int32 × St} (h : fX10_against F σ a0 = some res) (hres : res.1 = 0 ∨ res.1 = 1) : MW l yL_against (wH yL_against cL_against 4 (some .int) [(0, 9, 12, 18)]) 9 161 1 D cI cL ad ao [.ref (ad 0), .int a0, .ref ao] σ f (if res.1 = 0 then 0 else 1) res.2.2 (if res.1 = 0 then vp_updL f 0 res.2.1.toInt64 else f) := by
  refine mk_MW (by decide +kernel) (Nat.le_of_ble_eq_true rfl) ?_
  intro p e s m below meth c ls C1 htab hK hE hX hret hlocks hl hP hO
  obtain ⟨hx, hb, hml, hown, hts⟩ := id C1
  have hS : va_S (AW (gC D cI ad) ao) s.heap s.heap [] := va_S.rf
  have hl : lv_has ls 4 [(0, .ref (ad 0)), (1, .int a0), (2, .ref ao)] := hl
  refine lv_aload_n hx hb dL_against_0 rfl (lv_at hl 2 rfl) ?_
  refine lv_iconst (v := 0) hx hb dL_against_1 (by decide) ?_
  refine lv_aload_n hx hb dL_against_2 rfl (lv_at hl 0 rfl) ?_
  refine lv_iload_n hx hb dL_against_3 rfl (lv_at hl 1 rfl) ?_
  refine lw_call C1 hK hE hao hl.1 hP hO hS (n := 1) (As := [.int a0]) (rest := [.int 0, .ref ao]) (cfX10_against D cI ad had hst h) tw5_228 cy_X10_against (by decide +kernel) ⟨by decide, by decide⟩ ⟨by decide, by decide⟩ rfl rfl (Nat.le_of_ble_eq_true rfl) dL_against_4 ?_ ?_
  · intro E cd u H1 locs1 ce q9 hE9 hr9 hP1 hO1 hS1 hce hcv hcl
    subst hr9
    rcases hE9 with ⟨rfl, rfl⟩ | ⟨rfl, rfl⟩
    · refine vx_catch (own := RL) (name := cNSE) hown [] ⟨0, 9, 12, 18⟩ [] htab (fun z hz => nomatch hz) (by decide) (by decide) (hts _ tw4_83) (va_Nw.use rfl (hE.2.2.2.2.2.2.2.2 (cNSE, cNSE) (by decide))) hce hcv hcl ?_
      refine lv_astore_n (lv' := [(3, .ref q9), (0, .ref (ad 0)), (1, .int a0), (2, .ref ao)]) hx hb dL_against_12 rfl hl (by decide) rfl (fun ls hl => ?_)
      refine lv_iconst (v := 1) hx hb dL_against_13 (by decide) ?_
      exact lw_ret hx hb hret hlocks hP1 hO1 hS1 (by simp) rfl (by simp) ⟨by decide, by decide⟩ dL_against_14
    · exact absurd hres (by simp)
  · intro r u H1 locs1 hr9 hP1 hO1 hS1
    subst hr9
    refine lv_i2l (v := Int32.toInt64 r) hx hb dL_against_7 rfl ?_
    refine lw_last hx hb hK had hao hP1 hO1 hS1 dL_against_8 (fun H2 locs2 hP2 hO2 hS2 => ?_)
    refine lv_goto (tgt := 15) hx hb dL_against_9 (by decide) ?_
    refine lv_iconst (v := 0) hx hb dL_against_15 (by decide) ?_
    exact lw_ret hx hb hret hlocks hP2 hO2 hS2 (by simp) rfl (by simp) ⟨by decide, by decide⟩ dL_against_16
set_option maxRecDepth 20000 in
theorem mw_L_help {l : Launch} (D : va_G) (cI cL : ClassId) (ad : Nat → Nat) (ao : Nat) (had : gAp (gC D cI ad)) (hst : l.stackTraces = false) (hao : ∀ k, k < 88 → ad k ≠ ao) {F : Nat} {σ : St} {f : Nat → Int64} {a0 : Int32} {res : Nat × Int32 × St} (h : fX10_help F σ a0 = some res) (hres : res.1 = 0 ∨ res.1 = 1) : MW l yL_help (wH yL_help cL_help 4 (some .int) [(0, 9, 12, 18)]) 9 152 1 D cI cL ad ao [.ref (ad 0), .int a0, .ref ao] σ f (if res.1 = 0 then 0 else 1) res.2.2 (if res.1 = 0 then vp_updL f 0 res.2.1.toInt64 else f) := by
  refine mk_MW (by decide +kernel) (Nat.le_of_ble_eq_true rfl) ?_
  intro p e s m below meth c ls C1 htab hK hE hX hret hlocks hl hP hO
  obtain ⟨hx, hb, hml, hown, hts⟩ := id C1
  have hS : va_S (AW (gC D cI ad) ao) s.heap s.heap [] := va_S.rf
  have hl : lv_has ls 4 [(0, .ref (ad 0)), (1, .int a0), (2, .ref ao)] := hl
  refine lv_aload_n hx hb dL_help_0 rfl (lv_at hl 2 rfl) ?_
  refine lv_iconst (v := 0) hx hb dL_help_1 (by decide) ?_
  refine lv_aload_n hx hb dL_help_2 rfl (lv_at hl 0 rfl) ?_
  refine lv_iload_n hx hb dL_help_3 rfl (lv_at hl 1 rfl) ?_
  refine lw_call C1 hK hE hao hl.1 hP hO hS (n := 1) (As := [.int a0]) (rest := [.int 0, .ref ao]) (cfX10_help D cI ad had hst h) tw6_22 cy_X10_help (by decide +kernel) ⟨by decide, by decide⟩ ⟨by decide, by decide⟩ rfl rfl (Nat.le_of_ble_eq_true rfl) dL_help_4 ?_ ?_
  · intro E cd u H1 locs1 ce q9 hE9 hr9 hP1 hO1 hS1 hce hcv hcl
    subst hr9
    rcases hE9 with ⟨rfl, rfl⟩ | ⟨rfl, rfl⟩
    · refine vx_catch (own := RL) (name := cNSE) hown [] ⟨0, 9, 12, 18⟩ [] htab (fun z hz => nomatch hz) (by decide) (by decide) (hts _ tw4_83) (va_Nw.use rfl (hE.2.2.2.2.2.2.2.2 (cNSE, cNSE) (by decide))) hce hcv hcl ?_
      refine lv_astore_n (lv' := [(3, .ref q9), (0, .ref (ad 0)), (1, .int a0), (2, .ref ao)]) hx hb dL_help_12 rfl hl (by decide) rfl (fun ls hl => ?_)
      refine lv_iconst (v := 1) hx hb dL_help_13 (by decide) ?_
      exact lw_ret hx hb hret hlocks hP1 hO1 hS1 (by simp) rfl (by simp) ⟨by decide, by decide⟩ dL_help_14
    · exact absurd hres (by simp)
  · intro r u H1 locs1 hr9 hP1 hO1 hS1
    subst hr9
    refine lv_i2l (v := Int32.toInt64 r) hx hb dL_help_7 rfl ?_
    refine lw_last hx hb hK had hao hP1 hO1 hS1 dL_help_8 (fun H2 locs2 hP2 hO2 hS2 => ?_)
    refine lv_goto (tgt := 15) hx hb dL_help_9 (by decide) ?_
    refine lv_iconst (v := 0) hx hb dL_help_15 (by decide) ?_
    exact lw_ret hx hb hret hlocks hP2 hO2 hS2 (by simp) rfl (by simp) ⟨by decide, by decide⟩ dL_help_16
set_option maxRecDepth 20000 in
theorem mw_L_evenings {l : Launch} (D : va_G) (cI cL : ClassId) (ad : Nat → Nat) (ao : Nat) (had : gAp (gC D cI ad)) (hst : l.stackTraces = false) (hao : ∀ k, k < 88 → ad k ≠ ao) {F : Nat} {σ : St} {f : Nat → Int64} {a0 : Int32} {res : Nat × Int32 × St} (h : fX10_evenings F σ a0 = some res) (hres : res.1 = 0 ∨ res.1 = 1) : MW l yL_evenings (wH yL_evenings cL_evenings 4 (some .int) [(0, 9, 12, 18)]) 9 154 1 D cI cL ad ao [.ref (ad 0), .int a0, .ref ao] σ f (if res.1 = 0 then 0 else 1) res.2.2 (if res.1 = 0 then vp_updL f 0 res.2.1.toInt64 else f) := by
  refine mk_MW (by decide +kernel) (Nat.le_of_ble_eq_true rfl) ?_
  intro p e s m below meth c ls C1 htab hK hE hX hret hlocks hl hP hO
  obtain ⟨hx, hb, hml, hown, hts⟩ := id C1
  have hS : va_S (AW (gC D cI ad) ao) s.heap s.heap [] := va_S.rf
  have hl : lv_has ls 4 [(0, .ref (ad 0)), (1, .int a0), (2, .ref ao)] := hl
  refine lv_aload_n hx hb dL_evenings_0 rfl (lv_at hl 2 rfl) ?_
  refine lv_iconst (v := 0) hx hb dL_evenings_1 (by decide) ?_
  refine lv_aload_n hx hb dL_evenings_2 rfl (lv_at hl 0 rfl) ?_
  refine lv_iload_n hx hb dL_evenings_3 rfl (lv_at hl 1 rfl) ?_
  refine lw_call C1 hK hE hao hl.1 hP hO hS (n := 1) (As := [.int a0]) (rest := [.int 0, .ref ao]) (cfX10_evenings D cI ad had hst h) tw6_37 cy_X10_evenings (by decide +kernel) ⟨by decide, by decide⟩ ⟨by decide, by decide⟩ rfl rfl (Nat.le_of_ble_eq_true rfl) dL_evenings_4 ?_ ?_
  · intro E cd u H1 locs1 ce q9 hE9 hr9 hP1 hO1 hS1 hce hcv hcl
    subst hr9
    rcases hE9 with ⟨rfl, rfl⟩ | ⟨rfl, rfl⟩
    · refine vx_catch (own := RL) (name := cNSE) hown [] ⟨0, 9, 12, 18⟩ [] htab (fun z hz => nomatch hz) (by decide) (by decide) (hts _ tw4_83) (va_Nw.use rfl (hE.2.2.2.2.2.2.2.2 (cNSE, cNSE) (by decide))) hce hcv hcl ?_
      refine lv_astore_n (lv' := [(3, .ref q9), (0, .ref (ad 0)), (1, .int a0), (2, .ref ao)]) hx hb dL_evenings_12 rfl hl (by decide) rfl (fun ls hl => ?_)
      refine lv_iconst (v := 1) hx hb dL_evenings_13 (by decide) ?_
      exact lw_ret hx hb hret hlocks hP1 hO1 hS1 (by simp) rfl (by simp) ⟨by decide, by decide⟩ dL_evenings_14
    · exact absurd hres (by simp)
  · intro r u H1 locs1 hr9 hP1 hO1 hS1
    subst hr9
    refine lv_i2l (v := Int32.toInt64 r) hx hb dL_evenings_7 rfl ?_
    refine lw_last hx hb hK had hao hP1 hO1 hS1 dL_evenings_8 (fun H2 locs2 hP2 hO2 hS2 => ?_)
    refine lv_goto (tgt := 15) hx hb dL_evenings_9 (by decide) ?_
    refine lv_iconst (v := 0) hx hb dL_evenings_15 (by decide) ?_
    exact lw_ret hx hb hret hlocks hP2 hO2 hS2 (by simp) rfl (by simp) ⟨by decide, by decide⟩ dL_evenings_16
set_option maxRecDepth 20000 in
theorem mw_L_see {l : Launch} (D : va_G) (cI cL : ClassId) (ad : Nat → Nat) (ao : Nat) (had : gAp (gC D cI ad)) (hst : l.stackTraces = false) (hao : ∀ k, k < 88 → ad k ≠ ao) {F : Nat} {σ : St} {f : Nat → Int64} {a0 a1 a2 a3 a4 : Int32} {res : Nat × Int32 × St} (h : fX10_see F σ a0 a1 a2 a3 a4 = some res) (hres : res.1 = 0 ∨ res.1 = 1) : MW l yL_see (wH yL_see cL_see 8 (some .int) [(0, 16, 19, 18)]) 10 179 2 D cI cL ad ao [.ref (ad 0), .int a0, .int a1, .int a2, .int a3, .int a4, .ref ao] σ f (if res.1 = 0 then 0 else 1) res.2.2 (if res.1 = 0 then vp_updL f 0 res.2.1.toInt64 else f) := by
  refine mk_MW (by decide +kernel) (Nat.le_of_ble_eq_true rfl) ?_
  intro p e s m below meth c ls C1 htab hK hE hX hret hlocks hl hP hO
  obtain ⟨hx, hb, hml, hown, hts⟩ := id C1
  have hS : va_S (AW (gC D cI ad) ao) s.heap s.heap [] := va_S.rf
  have hl : lv_has ls 8 [(0, .ref (ad 0)), (1, .int a0), (2, .int a1), (3, .int a2), (4, .int a3), (5, .int a4), (6, .ref ao)] := hl
  refine lv_aload hx hb dL_see_0 (lv_at hl 6 rfl) ?_
  refine lv_iconst (v := 0) hx hb dL_see_2 (by decide) ?_
  refine lv_aload_n hx hb dL_see_3 rfl (lv_at hl 0 rfl) ?_
  refine lv_iload_n hx hb dL_see_4 rfl (lv_at hl 1 rfl) ?_
  refine lv_iload_n hx hb dL_see_5 rfl (lv_at hl 2 rfl) ?_
  refine lv_iload_n hx hb dL_see_6 rfl (lv_at hl 3 rfl) ?_
  refine lv_iload hx hb dL_see_7 (lv_at hl 4 rfl) ?_
  refine lv_iload hx hb dL_see_9 (lv_at hl 5 rfl) ?_
  refine lw_call C1 hK hE hao hl.1 hP hO hS (n := 5) (As := [.int a0, .int a1, .int a2, .int a3, .int a4]) (rest := [.int 0, .ref ao]) (cfX10_see D cI ad had hst h) tw6_61 cy_X10_see (by decide +kernel) ⟨by decide, by decide⟩ ⟨by decide, by decide⟩ rfl rfl (Nat.le_of_ble_eq_true rfl) dL_see_11 ?_ ?_
  · intro E cd u H1 locs1 ce q9 hE9 hr9 hP1 hO1 hS1 hce hcv hcl
    subst hr9
    rcases hE9 with ⟨rfl, rfl⟩ | ⟨rfl, rfl⟩
    · refine vx_catch (own := RL) (name := cNSE) hown [] ⟨0, 16, 19, 18⟩ [] htab (fun z hz => nomatch hz) (by decide) (by decide) (hts _ tw4_83) (va_Nw.use rfl (hE.2.2.2.2.2.2.2.2 (cNSE, cNSE) (by decide))) hce hcv hcl ?_
      refine lv_astore (lv' := [(7, .ref q9), (0, .ref (ad 0)), (1, .int a0), (2, .int a1), (3, .int a2), (4, .int a3), (5, .int a4), (6, .ref ao)]) hx hb dL_see_19 hl (by decide) rfl (fun ls hl => ?_)
      refine lv_iconst (v := 1) hx hb dL_see_21 (by decide) ?_
      exact lw_ret hx hb hret hlocks hP1 hO1 hS1 (by simp) rfl (by simp) ⟨by decide, by decide⟩ dL_see_22
    · exact absurd hres (by simp)
  · intro r u H1 locs1 hr9 hP1 hO1 hS1
    subst hr9
    refine lv_i2l (v := Int32.toInt64 r) hx hb dL_see_14 rfl ?_
    refine lw_last hx hb hK had hao hP1 hO1 hS1 dL_see_15 (fun H2 locs2 hP2 hO2 hS2 => ?_)
    refine lv_goto (tgt := 23) hx hb dL_see_16 (by decide) ?_
    refine lv_iconst (v := 0) hx hb dL_see_23 (by decide) ?_
    exact lw_ret hx hb hret hlocks hP2 hO2 hS2 (by simp) rfl (by simp) ⟨by decide, by decide⟩ dL_see_24
set_option maxRecDepth 20000 in
theorem mw_L_limp {l : Launch} (D : va_G) (cI cL : ClassId) (ad : Nat → Nat) (ao : Nat) (had : gAp (gC D cI ad)) (hst : l.stackTraces = false) (hao : ∀ k, k < 88 → ad k ≠ ao) {F : Nat} {σ : St} {f : Nat → Int64} {a0 a1 : Int32} {res : Nat × Int32 × St} (h : fX10_limp F σ a0 a1 = some res) (hres : res.1 = 0 ∨ res.1 = 1) : MW l yL_limp (wH yL_limp cL_limp 5 (some .int) [(0, 10, 13, 18)]) 9 154 2 D cI cL ad ao [.ref (ad 0), .int a0, .int a1, .ref ao] σ f (if res.1 = 0 then 0 else 1) res.2.2 (if res.1 = 0 then vp_updL f 0 res.2.1.toInt64 else f) := by
  refine mk_MW (by decide +kernel) (Nat.le_of_ble_eq_true rfl) ?_
  intro p e s m below meth c ls C1 htab hK hE hX hret hlocks hl hP hO
  obtain ⟨hx, hb, hml, hown, hts⟩ := id C1
  have hS : va_S (AW (gC D cI ad) ao) s.heap s.heap [] := va_S.rf
  have hl : lv_has ls 5 [(0, .ref (ad 0)), (1, .int a0), (2, .int a1), (3, .ref ao)] := hl
  refine lv_aload_n hx hb dL_limp_0 rfl (lv_at hl 3 rfl) ?_
  refine lv_iconst (v := 0) hx hb dL_limp_1 (by decide) ?_
  refine lv_aload_n hx hb dL_limp_2 rfl (lv_at hl 0 rfl) ?_
  refine lv_iload_n hx hb dL_limp_3 rfl (lv_at hl 1 rfl) ?_
  refine lv_iload_n hx hb dL_limp_4 rfl (lv_at hl 2 rfl) ?_
  refine lw_call C1 hK hE hao hl.1 hP hO hS (n := 2) (As := [.int a0, .int a1]) (rest := [.int 0, .ref ao]) (cfX10_limp D cI ad had hst h) tw6_76 cy_X10_limp (by decide +kernel) ⟨by decide, by decide⟩ ⟨by decide, by decide⟩ rfl rfl (Nat.le_of_ble_eq_true rfl) dL_limp_5 ?_ ?_
  · intro E cd u H1 locs1 ce q9 hE9 hr9 hP1 hO1 hS1 hce hcv hcl
    subst hr9
    rcases hE9 with ⟨rfl, rfl⟩ | ⟨rfl, rfl⟩
    · refine vx_catch (own := RL) (name := cNSE) hown [] ⟨0, 10, 13, 18⟩ [] htab (fun z hz => nomatch hz) (by decide) (by decide) (hts _ tw4_83) (va_Nw.use rfl (hE.2.2.2.2.2.2.2.2 (cNSE, cNSE) (by decide))) hce hcv hcl ?_
      refine lv_astore (lv' := [(4, .ref q9), (0, .ref (ad 0)), (1, .int a0), (2, .int a1), (3, .ref ao)]) hx hb dL_limp_13 hl (by decide) rfl (fun ls hl => ?_)
      refine lv_iconst (v := 1) hx hb dL_limp_15 (by decide) ?_
      exact lw_ret hx hb hret hlocks hP1 hO1 hS1 (by simp) rfl (by simp) ⟨by decide, by decide⟩ dL_limp_16
    · exact absurd hres (by simp)
  · intro r u H1 locs1 hr9 hP1 hO1 hS1
    subst hr9
    refine lv_i2l (v := Int32.toInt64 r) hx hb dL_limp_8 rfl ?_
    refine lw_last hx hb hK had hao hP1 hO1 hS1 dL_limp_9 (fun H2 locs2 hP2 hO2 hS2 => ?_)
    refine lv_goto (tgt := 17) hx hb dL_limp_10 (by decide) ?_
    refine lv_iconst (v := 0) hx hb dL_limp_17 (by decide) ?_
    exact lw_ret hx hb hret hlocks hP2 hO2 hS2 (by simp) rfl (by simp) ⟨by decide, by decide⟩ dL_limp_18
set_option maxRecDepth 20000 in
theorem mw_L_game {l : Launch} (D : va_G) (cI cL : ClassId) (ad : Nat → Nat) (ao : Nat) (had : gAp (gC D cI ad)) (hst : l.stackTraces = false) (hao : ∀ k, k < 88 → ad k ≠ ao) {F : Nat} {σ : St} {f : Nat → Int64} {a0 a1 a2 a3 : Int32} {res : Nat × Int32 × St} (h : fX10_game F σ a0 a1 a2 a3 = some res) (hres : res.1 = 0 ∨ res.1 = 1 ∨ res.1 = 2) : MW l yL_game (wH yL_game cL_game 7 (some .int) [(0, 14, 17, 18), (0, 14, 21, 13)]) 9 169 5 D cI cL ad ao [.ref (ad 0), .int a0, .int a1, .int a2, .int a3, .ref ao] σ f (if res.1 = 0 then 0 else if res.1 = 1 then 1 else 2) res.2.2 (if res.1 = 0 then vp_updL f 0 res.2.1.toInt64 else f) := by
  refine mk_MW (by decide +kernel) (Nat.le_of_ble_eq_true rfl) ?_
  intro p e s m below meth c ls C1 htab hK hE hX hret hlocks hl hP hO
  obtain ⟨hx, hb, hml, hown, hts⟩ := id C1
  have hS : va_S (AW (gC D cI ad) ao) s.heap s.heap [] := va_S.rf
  have hl : lv_has ls 7 [(0, .ref (ad 0)), (1, .int a0), (2, .int a1), (3, .int a2), (4, .int a3), (5, .ref ao)] := hl
  refine lv_aload hx hb dL_game_0 (lv_at hl 5 rfl) ?_
  refine lv_iconst (v := 0) hx hb dL_game_2 (by decide) ?_
  refine lv_aload_n hx hb dL_game_3 rfl (lv_at hl 0 rfl) ?_
  refine lv_iload_n hx hb dL_game_4 rfl (lv_at hl 1 rfl) ?_
  refine lv_iload_n hx hb dL_game_5 rfl (lv_at hl 2 rfl) ?_
  refine lv_iload_n hx hb dL_game_6 rfl (lv_at hl 3 rfl) ?_
  refine lv_iload hx hb dL_game_7 (lv_at hl 4 rfl) ?_
  refine lw_call C1 hK hE hao hl.1 hP hO hS (n := 4) (As := [.int a0, .int a1, .int a2, .int a3]) (rest := [.int 0, .ref ao]) (cfX10_game D cI ad had hst h) tw6_101 cy_X10_game (by decide +kernel) ⟨by decide, by decide⟩ ⟨by decide, by decide⟩ rfl rfl (Nat.le_of_ble_eq_true rfl) dL_game_9 ?_ ?_
  · intro E cd u H1 locs1 ce q9 hE9 hr9 hP1 hO1 hS1 hce hcv hcl
    subst hr9
    rcases hE9 with ⟨rfl, rfl⟩ | ⟨rfl, rfl⟩
    · refine vx_catch (own := RL) (name := cNSE) hown [] ⟨0, 14, 17, 18⟩ [⟨0, 14, 21, 13⟩] htab (fun z hz => nomatch hz) (by decide) (by decide) (hts _ tw4_83) (va_Nw.use rfl (hE.2.2.2.2.2.2.2.2 (cNSE, cNSE) (by decide))) hce hcv hcl ?_
      refine lv_astore (lv' := [(6, .ref q9), (0, .ref (ad 0)), (1, .int a0), (2, .int a1), (3, .int a2), (4, .int a3), (5, .ref ao)]) hx hb dL_game_17 hl (by decide) rfl (fun ls hl => ?_)
      refine lv_iconst (v := 1) hx hb dL_game_19 (by decide) ?_
      exact lw_ret hx hb hret hlocks hP1 hO1 hS1 (by simp) rfl (by simp) ⟨by decide, by decide⟩ dL_game_20
    · refine vx_catch (own := RL) (name := cIAE) hown [⟨0, 14, 17, 18⟩] ⟨0, 14, 21, 13⟩ [] htab (fun z hz => by cases List.mem_singleton.mp hz; exact Or.inr ⟨by decide, cNSE, hts _ tw4_83, hX⟩) (by decide) (by decide) (hts _ tw3_35) (va_Nw.use rfl (hE.2.2.2.2.2.2.2.2 (cIAE, cIAE) (by decide))) hce hcv hcl ?_
      refine lv_astore (lv' := [(6, .ref q9), (0, .ref (ad 0)), (1, .int a0), (2, .int a1), (3, .int a2), (4, .int a3), (5, .ref ao)]) hx hb dL_game_21 hl (by decide) rfl (fun ls hl => ?_)
      refine lv_iconst (v := 2) hx hb dL_game_23 (by decide) ?_
      exact lw_ret hx hb hret hlocks hP1 hO1 hS1 (by simp) rfl (by simp) ⟨by decide, by decide⟩ dL_game_24
  · intro r u H1 locs1 hr9 hP1 hO1 hS1
    subst hr9
    refine lv_i2l (v := Int32.toInt64 r) hx hb dL_game_12 rfl ?_
    refine lw_last hx hb hK had hao hP1 hO1 hS1 dL_game_13 (fun H2 locs2 hP2 hO2 hS2 => ?_)
    refine lv_goto (tgt := 25) hx hb dL_game_14 (by decide) ?_
    refine lv_iconst (v := 0) hx hb dL_game_25 (by decide) ?_
    exact lw_ret hx hb hret hlocks hP2 hO2 hS2 (by simp) rfl (by simp) ⟨by decide, by decide⟩ dL_game_26
set_option maxRecDepth 20000 in
theorem mw_L_century {l : Launch} (D : va_G) (cI cL : ClassId) (ad : Nat → Nat) (ao : Nat) (had : gAp (gC D cI ad)) (hst : l.stackTraces = false) (hao : ∀ k, k < 88 → ad k ≠ ao) {F : Nat} {σ : St} {f : Nat → Int64} {a0 a1 a2 : Int32} {res : Nat × Int32 × St} (h : fX10_century F σ a0 a1 a2 = some res) (hres : res.1 = 0 ∨ res.1 = 1 ∨ res.1 = 2) : MW l yL_century (wH yL_century cL_century 6 (some .int) [(0, 12, 15, 18), (0, 12, 19, 13)]) 9 168 2 D cI cL ad ao [.ref (ad 0), .int a0, .int a1, .int a2, .ref ao] σ f (if res.1 = 0 then 0 else if res.1 = 1 then 1 else 2) res.2.2 (if res.1 = 0 then vp_updL f 0 res.2.1.toInt64 else f) := by
  refine mk_MW (by decide +kernel) (Nat.le_of_ble_eq_true rfl) ?_
  intro p e s m below meth c ls C1 htab hK hE hX hret hlocks hl hP hO
  obtain ⟨hx, hb, hml, hown, hts⟩ := id C1
  have hS : va_S (AW (gC D cI ad) ao) s.heap s.heap [] := va_S.rf
  have hl : lv_has ls 6 [(0, .ref (ad 0)), (1, .int a0), (2, .int a1), (3, .int a2), (4, .ref ao)] := hl
  refine lv_aload hx hb dL_century_0 (lv_at hl 4 rfl) ?_
  refine lv_iconst (v := 0) hx hb dL_century_2 (by decide) ?_
  refine lv_aload_n hx hb dL_century_3 rfl (lv_at hl 0 rfl) ?_
  refine lv_iload_n hx hb dL_century_4 rfl (lv_at hl 1 rfl) ?_
  refine lv_iload_n hx hb dL_century_5 rfl (lv_at hl 2 rfl) ?_
  refine lv_iload_n hx hb dL_century_6 rfl (lv_at hl 3 rfl) ?_
  refine lw_call C1 hK hE hao hl.1 hP hO hS (n := 3) (As := [.int a0, .int a1, .int a2]) (rest := [.int 0, .ref ao]) (cfX10_century D cI ad had hst h) tw6_121 cy_X10_century (by decide +kernel) ⟨by decide, by decide⟩ ⟨by decide, by decide⟩ rfl rfl (Nat.le_of_ble_eq_true rfl) dL_century_7 ?_ ?_
  · intro E cd u H1 locs1 ce q9 hE9 hr9 hP1 hO1 hS1 hce hcv hcl
    subst hr9
    rcases hE9 with ⟨rfl, rfl⟩ | ⟨rfl, rfl⟩
    · refine vx_catch (own := RL) (name := cNSE) hown [] ⟨0, 12, 15, 18⟩ [⟨0, 12, 19, 13⟩] htab (fun z hz => nomatch hz) (by decide) (by decide) (hts _ tw4_83) (va_Nw.use rfl (hE.2.2.2.2.2.2.2.2 (cNSE, cNSE) (by decide))) hce hcv hcl ?_
      refine lv_astore (lv' := [(5, .ref q9), (0, .ref (ad 0)), (1, .int a0), (2, .int a1), (3, .int a2), (4, .ref ao)]) hx hb dL_century_15 hl (by decide) rfl (fun ls hl => ?_)
      refine lv_iconst (v := 1) hx hb dL_century_17 (by decide) ?_
      exact lw_ret hx hb hret hlocks hP1 hO1 hS1 (by simp) rfl (by simp) ⟨by decide, by decide⟩ dL_century_18
    · refine vx_catch (own := RL) (name := cIAE) hown [⟨0, 12, 15, 18⟩] ⟨0, 12, 19, 13⟩ [] htab (fun z hz => by cases List.mem_singleton.mp hz; exact Or.inr ⟨by decide, cNSE, hts _ tw4_83, hX⟩) (by decide) (by decide) (hts _ tw3_35) (va_Nw.use rfl (hE.2.2.2.2.2.2.2.2 (cIAE, cIAE) (by decide))) hce hcv hcl ?_
      refine lv_astore (lv' := [(5, .ref q9), (0, .ref (ad 0)), (1, .int a0), (2, .int a1), (3, .int a2), (4, .ref ao)]) hx hb dL_century_19 hl (by decide) rfl (fun ls hl => ?_)
      refine lv_iconst (v := 2) hx hb dL_century_21 (by decide) ?_
      exact lw_ret hx hb hret hlocks hP1 hO1 hS1 (by simp) rfl (by simp) ⟨by decide, by decide⟩ dL_century_22
  · intro r u H1 locs1 hr9 hP1 hO1 hS1
    subst hr9
    refine lv_i2l (v := Int32.toInt64 r) hx hb dL_century_10 rfl ?_
    refine lw_last hx hb hK had hao hP1 hO1 hS1 dL_century_11 (fun H2 locs2 hP2 hO2 hS2 => ?_)
    refine lv_goto (tgt := 23) hx hb dL_century_12 (by decide) ?_
    refine lv_iconst (v := 0) hx hb dL_century_23 (by decide) ?_
    exact lw_ret hx hb hret hlocks hP2 hO2 hS2 (by simp) rfl (by simp) ⟨by decide, by decide⟩ dL_century_24
